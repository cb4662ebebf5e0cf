/-! rows that give the new heap a name -/
def xd_h (h : xa_H) (sz : Nat) : Prop := ∀ (a : Nat) (e : xa_E), h a = some e → a < sz
section XN
variable {G : xa_G} {M : xa_M} {dp kc ks pc : Nat} {L : List (Option Value)} {st : List Value} {h : xa_H} {sz : Nat} {Q : Outcome → xa_H → Nat → Prop}
theorem xw_dom (k : xd_h h sz → G.2.2.1 ≤ sz → xa_W G M dp kc ks pc L st h sz Q) : xa_W G M dp kc ks pc L st h sz Q := by
  intro p e R s m args below meth c H locs cells slots ls kT nT C h1 h2 h3 h4 hl hP hz hS
  exact k (fun a e ha => by rw [← hz]; exact hP.lt ha) (by have := hS.1; have := C.2.2.2.2.2.2.2.2.2.2.2.2.1; omega) p e R s m args below meth c H locs cells slots ls kT nT C h1 h2 h3 h4 hl hP hz hS
theorem xw_putA {index ci k a : Nat} {fs : List Value} {v : Value} {ty : FieldType} {fin : Bool} (hF : xa_F M.1.cls index ci k) (hZ : xa_Z ci k ty fin M.1.cls) (hfin : fin = false ∨ M.1.name = "<init>") (hd : decode M.2.1 pc = .ok (.putfield index, 3)) (ha : h a = some (.inr (ci, fs))) (hl0 : Nat.ble (k + 1) fs.length = true) (hB : G.2.2.1 ≤ a) (hn : narrow ty v = v) (hfit : fits ty v = true)
    (kk : ∀ h1 : xa_H, h1 a = some (.inr (ci, fs.set k v)) → (∀ b, b ≠ a → h1 b = h b) → xa_W G M dp kc ks (pc + 3) L st h1 sz Q) : xa_W G M dp kc ks pc L (v :: .ref a :: st) h sz Q :=
  xw_put hF hZ hfin hd ha (Nat.le_of_ble_eq_true hl0) hB hn hfit (kk _ (xa_up_eq _ _ _) (fun _ hb => xa_up_ne _ _ hb))
theorem xw_newA {index ci : Nat} {fs : List Value} (hN : xa_N M.1.cls index ci fs) (hd : decode M.2.1 pc = .ok (.new index, 3)) (kk : ∀ h1 : xa_H, h1 sz = some (.inr (ci, fs)) → (∀ b, b ≠ sz → h1 b = h b) → xa_W G M dp kc ks (pc + 3) L (.ref sz :: st) h1 (sz + 1) Q) : xa_W G M dp (kc + 1) (ks + fs.length) pc L st h sz Q :=
  xw_new hN hd (kk _ (xa_up_eq _ _ _) (fun _ hb => xa_up_ne _ _ hb))
theorem xw_iastA {a n : Nat} {f : Nat → Int32} {i x : Int32} (hd : decode M.2.1 pc = .ok (.iastore, 1)) (ha : h a = some (.inl (0, (n, .inl f)))) (hin : vp_in i n) (hB : G.2.2.1 ≤ a) (kk : ∀ h1 : xa_H, h1 a = some (.inl (0, (n, .inl (upd f i.toNatClampNeg x)))) → (∀ b, b ≠ a → h1 b = h b) → xa_W G M dp kc ks (pc + 1) L st h1 sz Q) : xa_W G M dp kc ks pc L (.int x :: .int i :: .ref a :: st) h sz Q :=
  xw_iast hd ha hin hB (kk _ (xa_up_eq _ _ _) (fun _ hb => xa_up_ne _ _ hb))
theorem xw_aastA {a n t v ci : Nat} {vs : List Value} {E : String} {f : Nat → Option Nat} {i : Int32} (ht : xv_y[t]? = some (.object E)) (hA : xa_A ci E) (hd : decode M.2.1 pc = .ok (.aastore, 1)) (ha : h a = some (xr_q t n f)) (hv : h v = some (.inr (ci, vs))) (hin : vp_in i n) (hB : G.2.2.1 ≤ a)
    (kk : ∀ h1 : xa_H, h1 a = some (xr_q t n (va_up f i.toNatClampNeg (some v))) → (∀ b, b ≠ a → h1 b = h b) → xa_W G M dp kc ks (pc + 1) L st h1 sz Q) : xa_W G M dp kc ks pc L (.ref v :: .int i :: .ref a :: st) h sz Q :=
  xw_aast ht hA hd ha hv hin hB (kk _ (xa_up_eq _ _ _) (fun _ hb => xa_up_ne _ _ hb))
theorem xw_aastNA {a n t : Nat} {E : String} {f : Nat → Option Nat} {i : Int32} (ht : xv_y[t]? = some (.object E)) (hd : decode M.2.1 pc = .ok (.aastore, 1)) (ha : h a = some (xr_q t n f)) (hin : vp_in i n) (hB : G.2.2.1 ≤ a)
    (kk : ∀ h1 : xa_H, h1 a = some (xr_q t n (va_up f i.toNatClampNeg none)) → (∀ b, b ≠ a → h1 b = h b) → xa_W G M dp kc ks (pc + 1) L st h1 sz Q) : xa_W G M dp kc ks pc L (.null :: .int i :: .ref a :: st) h sz Q :=
  xw_aastN ht hd ha hin hB (kk _ (xa_up_eq _ _ _) (fun _ hb => xa_up_ne _ _ hb))
theorem xw_anewA {t index N : Nat} {E : String} {n : Int32} (ht : xv_y[t]? = some (.object E)) (hw : Cond.classLink M.1.cls index E ∈ xv_T) (hov : Cond.arrayOver (.object E) ∈ xv_U) (hd : decode M.2.1 pc = .ok (.anewarray index, 3)) (hn : ¬ n < 0) (hN : n.toNatClampNeg = N) (hby : N * 4 ≤ 536870912)
    (kk : ∀ h1 : xa_H, h1 sz = some (xr_q t N (fun _ => none)) → (∀ b, b ≠ sz → h1 b = h b) → xa_W G M dp kc ks (pc + 3) L (.ref sz :: st) h1 (sz + 1) Q) : xa_W G M dp (kc + 1) (ks + N) pc L (.int n :: st) h sz Q :=
  xw_anew ht hw hov hd hn hN hby (kk _ (xa_up_eq _ _ _) (fun _ hb => xa_up_ne _ _ hb))
theorem xw_alenQ {a t n : Nat} {E : String} {f : Nat → Option Nat} (ht : xv_y[t]? = some (.object E)) (hd : decode M.2.1 pc = .ok (.arraylength, 1)) (ha : h a = some (xr_q t n f)) (kk : xa_W G M dp kc ks (pc + 1) L (.int (nI n) :: st) h sz Q) : xa_W G M dp kc ks pc L (.ref a :: st) h sz Q := xw_alen ht hd ha kk
theorem xw_copyA {index a0 a n0 n1 : Nat} {f g : Nat → Option Nat} {sp tp n : Int32} (hw : Cond.methodLink M.1.cls index arraycopyName ∈ xv_T) (hd : decode M.2.1 pc = .ok (.invokestatic index, 3)) (ha0 : h a0 = some (xr_q 3 n0 f)) (ha1 : h a = some (xr_q 3 n1 g)) (i j k : Nat) (hi : i < 2 ^ 31) (hj : j < 2 ^ 31) (hk : k < 2 ^ 31) (h1 : sp = nI i) (h2 : tp = nI j) (h3 : n = nI k) (h4 : i + k ≤ n0) (h5 : j + k ≤ n1)
    (hel : ∀ x : Nat, x < k → ∀ y : Nat, f (i + x) = some y → ∃ ci fs, h y = some (.inr (ci, fs)) ∧ xa_A ci "java/lang/Object") (hB : G.2.2.1 ≤ a) (hdp : Nat.ble 1 dp = true) (hst : Nat.ble ((st.map fun v => v.category).sum) 8 = true)
    (kk : ∀ h1 : xa_H, h1 a = some (xr_q 3 n1 (va_cpy f g i j k)) → (∀ b, b ≠ a → h1 b = h b) → xa_W G M dp kc ks (pc + 3) L st h1 sz Q) : xa_W G M dp kc ks pc L (.int n :: .int tp :: .ref a :: .int sp :: .ref a0 :: st) h sz Q := by
  subst h1 h2 h3
  have k9 := kk _ (xa_up_eq h a (xr_q 3 n1 (va_cpy f g i j k))) (fun _ hb => xa_up_ne _ _ hb)
  refine xw_copy (n0 := n0) (n1 := n1) (f := f) (g := g) hw iw_262 iw_261 iw_21 hd ha0 ha1 (nI_pos hi) (nI_pos hj) (nI_pos hk) (by rw [nI_clamp hi, nI_clamp hk]; exact h4) (by rw [nI_clamp hj, nI_clamp hk]; exact h5) ?_ hB (Nat.le_of_ble_eq_true hdp) (Nat.le_of_ble_eq_true hst) ?_
  · intro x hx y hy
    rw [nI_clamp hk] at hx
    rw [nI_clamp hi] at hy
    exact hel x hx y hy
  · rw [nI_clamp hi, nI_clamp hj, nI_clamp hk]
    exact k9
end XN
/-- the objects that a list holds may lie in an array of objects -/
def xo_all (h : xa_H) (f : Nat → Option Nat) (n : Nat) : Prop := ∀ x : Nat, x < n → ∀ y : Nat, f x = some y → ∃ ci fs, h y = some (.inr (ci, fs)) ∧ xa_A ci "java/lang/Object"
def al_cap (c : Nat) : Nat := if c = 0 then 10 else c + max 1 (c / 2)
section GR
variable {G : xa_G} {h : xa_H} {sz : Nat}
theorem ct_Q_newLength {c m p : Nat} (hc : c < 1000000) (hm : m < 1000000) (h0 : 0 < m) (hp : p < 1000000) : xa_T G mm_Q_newLength 1 0 0 [.int (nI c), .int (nI m), .int (nI p)] h sz (xq_same h sz (some (.int (nI (c + max m p))))) := by
  refine xt_o ok_Q_newLength rfl rfl ?_
  refine xw_iload_n dd_Q_newLength_0 rfl ?_
  refine xw_iload_n dd_Q_newLength_1 rfl ?_
  refine xw_iload_n dd_Q_newLength_2 rfl ?_
  refine xw_max iw_305 iw_306 iw_24 iw_307 dd_Q_newLength_3 (by decide) (Nat.le_of_ble_eq_true rfl) ?_
  refine xw_iadd dd_Q_newLength_6 ?_
  have e1 : nI c + (if nI m < nI p then nI p else nI m) = nI (c + max m p) := by
    by_cases hmp : m < p
    · rw [if_pos (nI_lt hmp (by omega)), nI_add, Nat.max_eq_right (by omega)]
    · rw [if_neg (nI_nlt (by omega) (by omega)), nI_add, Nat.max_eq_left (by omega)]
  rw [e1]
  have hb : c + max m p < 2000000 := by
    have : max m p < 1000000 := by omega
    omega
  refine xw_istore_n dd_Q_newLength_7 (by decide) ?_
  refine xw_iconst 0 dd_Q_newLength_8 (by decide) ?_
  refine xw_iload_n dd_Q_newLength_9 rfl ?_
  refine xw_icmp_ge 21 dd_Q_newLength_10 (by decide) (fun hc => absurd hc (nI_nle (by omega) (by omega))) (fun hc => ?_)
  refine xw_iload_n dd_Q_newLength_13 rfl ?_
  refine xw_ldcI iw_308 dd_Q_newLength_14 ?_
  refine xw_icmp_gt 21 dd_Q_newLength_16 (by decide) (fun hc => absurd hc (by
    have := nI_nlt (a := 2147483639) (b := c + max m p) (by omega) (by omega)
    exact this)) (fun hc => ?_)
  refine xw_iload_n dd_Q_newLength_19 rfl ?_
  exact xw_iret dd_Q_newLength_20 rfl ⟨rfl, rfl, rfl⟩
/-- a longer copy of an array, at the next address -/
def xq_copy (h : xa_H) (sz n cap : Nat) (f : Nat → Option Nat) : Outcome → xa_H → Nat → Prop := fun o h' z => o = .returned (some (.ref sz)) ∧ z = sz + 1 ∧ h' sz = some (xr_q 3 n (va_cpy f (fun _ => none) 0 0 cap)) ∧ ∀ b, b ≠ sz → h' b = h b
theorem ct_J_copyOf2 {ea n cap : Nat} {f : Nat → Option Nat} (ha : h ea = some (xr_q 3 cap f)) (hn : cap ≤ n) (hb : n < 2000000) (hel : xo_all h f cap) : xa_T G mm_J_copyOf2 1 1 n [.ref ea, .int (nI n), .ref G.2.2.2.2] h sz (xq_copy h sz n cap f) := by
  refine xt_o ok_J_copyOf2 rfl rfl ?_
  refine xw_dom (fun hd hB => ?_)
  have hlt := hd _ _ ha
  refine xw_aloadR_n dd_J_copyOf2_0 rfl ?_
  refine xw_mirror iw_339 dd_J_copyOf2_1 ?_
  refine xw_acmp_ne (rx := some G.2.2.2.2) (ry := some G.2.2.2.2) 13 dd_J_copyOf2_3 (by decide) (fun hc => absurd rfl hc) (fun hc => ?_)
  refine xw_iload_n dd_J_copyOf2_6 rfl ?_
  refine xw_less (kc' := 0 + 1) (ks' := 0 + n) (by omega) (by omega) ?_
  refine xw_anewA (t := 3) rfl iw_341 (by decide) dd_J_copyOf2_7 (nI_pos (by omega)) (nI_clamp (by omega)) (by omega) (fun h1 hn1 hf1 => ?_)
  refine xw_goto 24 dd_J_copyOf2_10 (by decide) ?_
  refine xw_astoreR_n dd_J_copyOf2_24 (by decide) ?_
  refine xw_aloadR_n dd_J_copyOf2_25 rfl ?_
  refine xw_iconst 0 dd_J_copyOf2_26 (by decide) ?_
  refine xw_aloadR_n dd_J_copyOf2_27 rfl ?_
  refine xw_iconst 0 dd_J_copyOf2_28 (by decide) ?_
  refine xw_aloadR_n dd_J_copyOf2_29 rfl ?_
  have ha1 : h1 ea = some (xr_q 3 cap f) := (hf1 ea (by omega)).trans ha
  refine xw_alenQ (t := 3) rfl dd_J_copyOf2_30 ha1 ?_
  refine xw_iload_n dd_J_copyOf2_31 rfl ?_
  refine xw_min iw_342 iw_343 iw_24 iw_344 dd_J_copyOf2_32 (by decide) (Nat.le_of_ble_eq_true rfl) ?_
  have e1 : (if nI n < nI cap then nI n else nI cap) = nI cap := by rw [if_neg (nI_nlt hn (by omega))]
  rw [e1]
  refine xw_copyA iw_345 dd_J_copyOf2_35 ha1 hn1 0 0 cap (by omega) (by omega) (by omega) rfl rfl rfl (by omega) (by omega) ?_ (by omega) rfl rfl (fun h2 hn2 hf2 => ?_)
  · intro x hx y hy
    rw [Nat.zero_add] at hy
    obtain ⟨ci, fs, g1, g2⟩ := hel x hx y hy
    have := hd _ _ g1
    exact ⟨ci, fs, (hf1 y (by omega)).trans g1, g2⟩
  refine xw_aloadR_n dd_J_copyOf2_38 rfl ?_
  exact xw_aretR dd_J_copyOf2_39 rfl (Or.inr ⟨_, rfl⟩) ⟨rfl, rfl, hn2, fun b hb => (hf2 b hb).trans (hf1 b hb)⟩
theorem ct_J_copyOf1 {ea n cap : Nat} {f : Nat → Option Nat} (ha : h ea = some (xr_q 3 cap f)) (hn : cap ≤ n) (hb : n < 2000000) (hel : xo_all h f cap) : xa_T G mm_J_copyOf1 2 1 n [.ref ea, .int (nI n)] h sz (xq_copy h sz n cap f) := by
  refine xt_o ok_J_copyOf1 rfl rfl ?_
  refine xw_aloadR_n dd_J_copyOf1_0 rfl ?_
  refine xw_iload_n dd_J_copyOf1_1 rfl ?_
  refine xw_aloadR_n dd_J_copyOf1_2 rfl ?_
  refine xw_getC iw_315 iw_1400 iw_316 iw_335 dd_J_copyOf1_3 ha (by decide) (Nat.le_of_ble_eq_true rfl) ?_
  refine xw_less (kc' := 0 + 1) (ks' := 0 + n) (by omega) (by omega) ?_
  refine xw_cl (ct_J_copyOf2 ha hn hb hel) iv_J_copyOf1_6 ok_J_copyOf2 rfl rfl rfl ?_ (fun _ _ _ q => by cases q.1)
  rintro v h1 z1 ⟨hv, hr⟩
  cases hv
  exact xw_aretR dd_J_copyOf1_9 rfl (Or.inr ⟨_, rfl⟩) ⟨rfl, hr⟩
/-- the list's array is replaced by a longer one, at the next address -/
def xq_grow (h : xa_H) (sz a n cap : Nat) (f : Nat → Option Nat) : Outcome → xa_H → Nat → Prop := fun o h' z => o = .returned (some (.ref sz)) ∧ z = sz + 1 ∧ (∃ f', al_at h' a sz n (al_cap cap) f' ∧ ∀ j, j < cap → f' j = f j) ∧ ∀ b, b ≠ sz → b ≠ a → h' b = h b
theorem ct_A_grow1 {a ea cap : Nat} {f : Nat → Option Nat} (hA : al_at h a ea cap cap f) (hc : cap < 500000) (h0 : cap = 0 → ea = G.2.2.2.1) (hBa : G.2.2.1 ≤ a) (hel : xo_all h f cap) : xa_T G mm_A_grow1 3 1 (al_cap cap) [.ref a, .int (nI (cap + 1))] h sz (xq_grow h sz a cap cap f) := by
  obtain ⟨⟨mc, h1⟩, h2, h3, h4⟩ := hA
  refine xt_o ok_A_grow1 rfl rfl ?_
  refine xw_dom (fun hd hB => ?_)
  have hla := hd _ _ h1
  refine xw_aloadR_n dd_A_grow1_0 rfl ?_
  refine xw_get fl_A_9 dd_A_grow1_1 h1 rfl ?_
  refine xw_alenQ (t := 3) rfl dd_A_grow1_4 h2 ?_
  refine xw_istore_n dd_A_grow1_5 (by decide) ?_
  refine xw_iload_n dd_A_grow1_6 rfl ?_
  refine xw_if_gt 20 dd_A_grow1_7 (by decide) (fun hc0 => ?_) (fun hc0 => ?_)
  · have hpos : 0 < cap := by
      by_cases e : cap = 0
      · subst e
        exact absurd hc0 (by decide)
      · omega
    have hcap : al_cap cap = cap + max 1 (cap / 2) := by unfold al_cap; rw [if_neg (by omega)]
    have hm : max 1 (cap / 2) ≤ cap := by omega
    refine xw_iload_n dd_A_grow1_20 rfl ?_
    refine xw_iload_n dd_A_grow1_21 rfl ?_
    refine xw_iload_n dd_A_grow1_22 rfl ?_
    refine xw_isub dd_A_grow1_23 ?_
    refine xw_iload_n dd_A_grow1_24 rfl ?_
    refine xw_iconst 1 dd_A_grow1_25 (by decide) ?_
    refine xw_ishr dd_A_grow1_26 ?_
    have e1 : nI (cap + 1) - nI cap = nI 1 := by rw [pk_sub (by omega)]; congr 1; omega
    have e2 : nI cap >>> ((1 : Int32) &&& 31) = nI (cap / 2) := by
      have := pk_shrN (n := cap) (by omega) ((1 : Int32) &&& 31) 1 (by decide)
      rw [this]
    rw [e1, e2]
    refine xw_cl0 (ct_Q_newLength (by omega) (by omega) (by omega) (by omega)) iv_A_grow1_27 ok_Q_newLength rfl rfl rfl ?_ (fun _ _ _ q => by cases q.1)
    rintro v h' z1 ⟨hv, rfl, rfl⟩
    cases hv
    refine xw_istore_n dd_A_grow1_30 (by decide) ?_
    refine xw_aloadR_n dd_A_grow1_31 rfl ?_
    refine xw_aloadR_n dd_A_grow1_32 rfl ?_
    refine xw_get fl_A_9 dd_A_grow1_33 h1 rfl ?_
    refine xw_iload_n dd_A_grow1_36 rfl ?_
    refine xw_less (kc' := 0 + 1) (ks' := 0 + (cap + max 1 (cap / 2))) (by omega) (by rw [hcap]; omega) ?_
    refine xw_cl (ct_J_copyOf1 (n := cap + max 1 (cap / 2)) h2 (by omega) (by omega) hel) iv_A_grow1_37 ok_J_copyOf1 rfl rfl rfl ?_ (fun _ _ _ q => by cases q.1)
    rintro v h' z1 ⟨hv, rfl, hn', hf'⟩
    cases hv
    refine xw_dup_x1 dd_A_grow1_40 rfl rfl ?_
    refine xw_putA fl_A_9 fz_A_9 (by decide) dd_A_grow1_41 ((hf' a (by omega)).trans h1) rfl hBa rfl rfl (fun h5 hn5 hf5 => ?_)
    refine xw_aretR dd_A_grow1_44 rfl (Or.inr ⟨_, rfl⟩) ⟨rfl, rfl, ⟨_, ⟨⟨mc, hn5⟩, (hf5 _ (by omega)).trans (by rw [hcap]; exact hn'), by omega, by omega⟩, fun j hj => ?_⟩, fun b hb1 hb2 => (hf5 b hb2).trans (hf' b hb1)⟩
    rw [pk_cpy_in (by omega) (by omega)]
    congr 1
    omega
  · have hz : cap = 0 := by
      by_cases e : cap = 0
      · exact e
      · exact absurd (nI_lt (a := 0) (b := cap) (by omega) (by omega)) hc0
    subst hz
    have hu := h0 rfl
    refine xw_aloadR_n dd_A_grow1_10 rfl ?_
    refine xw_get fl_A_9 dd_A_grow1_11 h1 rfl ?_
    refine xw_empty iw_59 dd_A_grow1_14 ?_
    refine xw_acmp_eq (rx := some ea) (ry := some G.2.2.2.1) 45 dd_A_grow1_17 (by decide) (fun hc => ?_) (fun hc => absurd (by rw [hu]) hc)
    refine xw_aloadR_n dd_A_grow1_45 rfl ?_
    refine xw_bipush 10 dd_A_grow1_46 (by decide) ?_
    refine xw_iload_n dd_A_grow1_48 rfl ?_
    refine xw_max iw_346 iw_306 iw_24 iw_307 dd_A_grow1_49 (by decide) (Nat.le_of_ble_eq_true rfl) ?_
    refine xw_less (kc' := 0 + 1) (ks' := 0 + 10) (by omega) (by decide) ?_
    refine xw_anewA (t := 3) (N := 10) rfl iw_347 (by decide) dd_A_grow1_52 (by decide) (by decide) (by decide) (fun h5 hn5 hf5 => ?_)
    refine xw_dup_x1 dd_A_grow1_55 rfl rfl ?_
    refine xw_putA fl_A_9 fz_A_9 (by decide) dd_A_grow1_56 ((hf5 a (by omega)).trans h1) rfl hBa rfl rfl (fun h6 hn6 hf6 => ?_)
    exact xw_aretR dd_A_grow1_59 rfl (Or.inr ⟨_, rfl⟩) ⟨rfl, rfl, ⟨_, ⟨⟨mc, hn6⟩, (hf6 _ (by omega)).trans hn5, by omega, by decide⟩, fun j hj => by omega⟩, fun b hb1 hb2 => (hf6 b hb2).trans (hf5 b hb1)⟩
theorem ct_A_grow0 {a ea cap : Nat} {f : Nat → Option Nat} (hA : al_at h a ea cap cap f) (hc : cap < 500000) (h0 : cap = 0 → ea = G.2.2.2.1) (hBa : G.2.2.1 ≤ a) (hel : xo_all h f cap) : xa_T G mm_A_grow0 4 1 (al_cap cap) [.ref a] h sz (xq_grow h sz a cap cap f) := by
  have hA0 := hA
  obtain ⟨⟨mc, h1⟩, h2, h3, h4⟩ := hA
  refine xt_o ok_A_grow0 rfl rfl ?_
  refine xw_aloadR_n dd_A_grow0_0 rfl ?_
  refine xw_aloadR_n dd_A_grow0_1 rfl ?_
  refine xw_get fl_A_48 dd_A_grow0_2 h1 rfl ?_
  refine xw_iconst 1 dd_A_grow0_5 (by decide) ?_
  refine xw_iadd dd_A_grow0_6 ?_
  rw [nI_1]
  refine xw_less (kc' := 0 + 1) (ks' := 0 + al_cap cap) (by omega) (by omega) ?_
  refine xw_cl (ct_A_grow1 hA0 hc h0 hBa hel) (iv_A_grow0_7 h1) ok_A_grow1 rfl rfl rfl ?_ (fun _ _ _ q => by cases q.1)
  rintro v h' z1 ⟨hv, hr⟩
  cases hv
  exact xw_aretR dd_A_grow0_10 rfl (Or.inr ⟨_, rfl⟩) ⟨rfl, hr⟩
end GR
