/-! Entry, Note, Ring, Gathering -/
abbrev en_c (e : sv_E) : xa_E := .inr (1, [.int e.1, .int e.2.1, .int e.2.2.1, .int e.2.2.2.1, .int e.2.2.2.2])
abbrev nt_c (e : Nat) (r : Int32) : xa_E := .inr (3, [.ref e, .int r])
abbrev gt_c (f r : Int32) : xa_E := .inr (5, [.int f, .int r])
/-- a cell alone is written -/
def xq_put (h : xa_H) (sz a : Nat) (e : xa_E) : Outcome → xa_H → Nat → Prop := fun o h' z => o = .returned none ∧ z = sz ∧ h' a = some e ∧ ∀ b, b ≠ a → h' b = h b
section LF
variable {G : xa_G} {h : xa_H} {sz : Nat}
theorem ct_E_init {a : Nat} {n s p nm mk : Int32} (ha : h a = some (.inr (1, [.int 0, .int 0, .int 0, .int 0, .int 0]))) (hB : G.2.2.1 ≤ a) : xa_T G mm_E_init 1 0 0 [.ref a, .int n, .int s, .int p, .int nm, .int mk] h sz (xq_put h sz a (en_c (n, s, p, nm, mk))) := by
  refine xt_o ok_E_init rfl rfl ?_
  refine xw_aloadR_n dd_E_init_0 rfl ?_
  refine xw_objInit ol_E_1 wo_in wo_co (by decide) (by decide) dd_E_init_1 ?_
  refine xw_aloadR_n dd_E_init_4 rfl ?_
  refine xw_iload_n dd_E_init_5 rfl ?_
  refine xw_putA fl_E_7 fz_E_7 (by decide) dd_E_init_6 ha rfl hB rfl rfl (fun h1 n1 f1 => ?_)
  refine xw_aloadR_n dd_E_init_9 rfl ?_
  refine xw_iload_n dd_E_init_10 rfl ?_
  refine xw_putA fl_E_13 fz_E_13 (by decide) dd_E_init_11 n1 rfl hB rfl rfl (fun h2 n2 f2 => ?_)
  refine xw_aloadR_n dd_E_init_14 rfl ?_
  refine xw_iload_n dd_E_init_15 rfl ?_
  refine xw_putA fl_E_16 fz_E_16 (by decide) dd_E_init_16 n2 rfl hB rfl rfl (fun h3 n3 f3 => ?_)
  refine xw_aloadR_n dd_E_init_19 rfl ?_
  refine xw_iload dd_E_init_20 rfl ?_
  refine xw_putA fl_E_19 fz_E_19 (by decide) dd_E_init_22 n3 rfl hB rfl rfl (fun h4 n4 f4 => ?_)
  refine xw_aloadR_n dd_E_init_25 rfl ?_
  refine xw_iload dd_E_init_26 rfl ?_
  refine xw_putA fl_E_22 fz_E_22 (by decide) dd_E_init_28 n4 rfl hB rfl rfl (fun h5 n5 f5 => ?_)
  exact xw_vret dd_E_init_31 rfl ⟨rfl, rfl, n5, fun b hb => (f5 b hb).trans ((f4 b hb).trans ((f3 b hb).trans ((f2 b hb).trans (f1 b hb))))⟩
/-- what an entry tells: its items by number -/
def sv_it (e : sv_E) (k : Nat) : Int32 := if k = 0 then e.2.1 else if k = 1 then e.2.2.1 else if k = 2 then e.2.2.2.1 else e.2.2.2.2
theorem ct_E_item {a k : Nat} {e : sv_E} (ha : h a = some (en_c e)) (hk : k < 4) : xa_T G mm_E_item 0 0 0 [.ref a, .int (nI k)] h sz (xq_same h sz (some (.int (sv_it e k)))) := by
  refine xt_o ok_E_item rfl rfl ?_
  refine xw_iload_n dd_E_item_0 rfl ?_
  rcases (show k = 0 ∨ k = 1 ∨ k = 2 ∨ k = 3 by omega) with rfl | rfl | rfl | rfl
  · refine xw_tableIn 28 dd_E_item_1 (by decide) (by decide) rfl (by decide) ?_
    refine xw_aloadR_n dd_E_item_28 rfl ?_
    refine xw_get fl_E_13 dd_E_item_29 ha rfl ?_
    exact xw_iret dd_E_item_32 rfl ⟨rfl, rfl, rfl⟩
  · refine xw_tableIn 33 dd_E_item_1 (by decide) (by decide) rfl (by decide) ?_
    refine xw_aloadR_n dd_E_item_33 rfl ?_
    refine xw_get fl_E_16 dd_E_item_34 ha rfl ?_
    exact xw_iret dd_E_item_37 rfl ⟨rfl, rfl, rfl⟩
  · refine xw_tableIn 38 dd_E_item_1 (by decide) (by decide) rfl (by decide) ?_
    refine xw_aloadR_n dd_E_item_38 rfl ?_
    refine xw_get fl_E_19 dd_E_item_39 ha rfl ?_
    exact xw_iret dd_E_item_42 rfl ⟨rfl, rfl, rfl⟩
  · refine xw_tableOut 43 dd_E_item_1 (by decide) (by decide) ?_
    refine xw_aloadR_n dd_E_item_43 rfl ?_
    refine xw_get fl_E_22 dd_E_item_44 ha rfl ?_
    exact xw_iret dd_E_item_47 rfl ⟨rfl, rfl, rfl⟩
theorem ct_E_isLike {a b : Nat} {e e2 : sv_E} (ha : h a = some (en_c e)) (hb : h b = some (en_c e2)) : xa_T G mm_E_isLike 0 0 0 [.ref a, .ref b] h sz (xq_same h sz (some (.int (if e = e2 then 1 else 0)))) := by
  obtain ⟨n1, s1, p1, m1, k1⟩ := e
  obtain ⟨n2, s2, p2, m2, k2⟩ := e2
  refine xt_o ok_E_isLike rfl rfl ?_
  have no : ¬ ((n1, s1, p1, m1, k1) = (n2, s2, p2, m2, k2)) → xa_W G mm_E_isLike 0 0 0 59 [some (.ref a), some (.ref b)] [] h sz (xq_same h sz (some (.int (if (n1, s1, p1, m1, k1) = (n2, s2, p2, m2, k2) then 1 else 0)))) := by
    intro hne
    refine xw_iconst 0 dd_E_isLike_59 (by decide) ?_
    exact xw_zret dd_E_isLike_60 rfl rfl ⟨by rw [if_neg hne], rfl, rfl⟩
  refine xw_aloadR_n dd_E_isLike_0 rfl ?_
  refine xw_get fl_E_7 dd_E_isLike_1 ha rfl ?_
  refine xw_aloadR_n dd_E_isLike_4 rfl ?_
  refine xw_get fl_E_7 dd_E_isLike_5 hb rfl ?_
  refine xw_icmp_ne 59 dd_E_isLike_8 (by decide) (fun hc => no (fun q => hc (by injection q))) (fun c1 => ?_)
  refine xw_aloadR_n dd_E_isLike_11 rfl ?_
  refine xw_get fl_E_13 dd_E_isLike_12 ha rfl ?_
  refine xw_aloadR_n dd_E_isLike_15 rfl ?_
  refine xw_get fl_E_13 dd_E_isLike_16 hb rfl ?_
  refine xw_icmp_ne 59 dd_E_isLike_19 (by decide) (fun hc => no (fun q => hc (by simp at q; exact q.2.1))) (fun c2 => ?_)
  refine xw_aloadR_n dd_E_isLike_22 rfl ?_
  refine xw_get fl_E_16 dd_E_isLike_23 ha rfl ?_
  refine xw_aloadR_n dd_E_isLike_26 rfl ?_
  refine xw_get fl_E_16 dd_E_isLike_27 hb rfl ?_
  refine xw_icmp_ne 59 dd_E_isLike_30 (by decide) (fun hc => no (fun q => hc (by simp at q; exact q.2.2.1))) (fun c3 => ?_)
  refine xw_aloadR_n dd_E_isLike_33 rfl ?_
  refine xw_get fl_E_19 dd_E_isLike_34 ha rfl ?_
  refine xw_aloadR_n dd_E_isLike_37 rfl ?_
  refine xw_get fl_E_19 dd_E_isLike_38 hb rfl ?_
  refine xw_icmp_ne 59 dd_E_isLike_41 (by decide) (fun hc => no (fun q => hc (by simp at q; exact q.2.2.2.1))) (fun c4 => ?_)
  refine xw_aloadR_n dd_E_isLike_44 rfl ?_
  refine xw_get fl_E_22 dd_E_isLike_45 ha rfl ?_
  refine xw_aloadR_n dd_E_isLike_48 rfl ?_
  refine xw_get fl_E_22 dd_E_isLike_49 hb rfl ?_
  refine xw_icmp_ne 59 dd_E_isLike_52 (by decide) (fun hc => no (fun q => hc (by simp at q; exact q.2.2.2.2))) (fun c5 => ?_)
  refine xw_iconst 1 dd_E_isLike_55 (by decide) ?_
  refine xw_goto 60 dd_E_isLike_56 (by decide) ?_
  refine xw_zret dd_E_isLike_60 rfl rfl ⟨?_, rfl, rfl⟩
  have c1 : n1 = n2 := c1
  have c2 : s1 = s2 := c2
  have c3 : p1 = p2 := c3
  have c4 : m1 = m2 := c4
  have c5 : k1 = k2 := c5
  subst c1 c2 c3 c4 c5
  rw [if_pos rfl]
theorem ct_N_init {a e : Nat} {r : Int32} (ha : h a = some (.inr (3, [.null, .int 0]))) (hB : G.2.2.1 ≤ a) : xa_T G mm_N_init 1 0 0 [.ref a, .ref e, .int r] h sz (xq_put h sz a (nt_c e r)) := by
  refine xt_o ok_N_init rfl rfl ?_
  refine xw_aloadR_n dd_N_init_0 rfl ?_
  refine xw_objInit ol_N_1 wo_in wo_co (by decide) (by decide) dd_N_init_1 ?_
  refine xw_aloadR_n dd_N_init_4 rfl ?_
  refine xw_aloadR_n dd_N_init_5 rfl ?_
  refine xw_putA fl_N_7 fz_N_7 (by decide) dd_N_init_6 ha rfl hB rfl rfl (fun h1 n1 f1 => ?_)
  refine xw_aloadR_n dd_N_init_9 rfl ?_
  refine xw_iload_n dd_N_init_10 rfl ?_
  refine xw_putA fl_N_13 fz_N_13 (by decide) dd_N_init_11 n1 rfl hB rfl rfl (fun h2 n2 f2 => ?_)
  exact xw_vret dd_N_init_14 rfl ⟨rfl, rfl, n2, fun b hb => (f2 b hb).trans (f1 b hb)⟩
theorem ct_N_hasAny {a e : Nat} {r k : Int32} (ha : h a = some (nt_c e r)) : xa_T G mm_N_hasAny 0 0 0 [.ref a, .int k] h sz (xq_same h sz (some (.int (if r &&& k = 0 then 0 else 1)))) := by
  refine xt_o ok_N_hasAny rfl rfl ?_
  refine xw_aloadR_n dd_N_hasAny_0 rfl ?_
  refine xw_get fl_N_13 dd_N_hasAny_1 ha rfl ?_
  refine xw_iload_n dd_N_hasAny_4 rfl ?_
  refine xw_iand dd_N_hasAny_5 ?_
  refine xw_if_eq 13 dd_N_hasAny_6 (by decide) (fun hc => ?_) (fun hc => ?_)
  · refine xw_iconst 0 dd_N_hasAny_13 (by decide) ?_
    exact xw_zret dd_N_hasAny_14 rfl rfl ⟨by rw [if_pos hc], rfl, rfl⟩
  · refine xw_iconst 1 dd_N_hasAny_9 (by decide) ?_
    refine xw_goto 14 dd_N_hasAny_10 (by decide) ?_
    exact xw_zret dd_N_hasAny_14 rfl rfl ⟨by rw [if_neg hc], rfl, rfl⟩
theorem ct_N_item {a b k : Nat} {e : sv_E} {r : Int32} (ha : h a = some (nt_c b r)) (hb : h b = some (en_c e)) (hk : k < 6) : xa_T G mm_N_item 1 0 0 [.ref a, .int (nI k)] h sz (xq_same h sz (some (.int (sv_item e r k)))) := by
  have mid : ∀ j, j < 4 → k = j + 1 → xa_W G mm_N_item 1 0 0 41 [some (.ref a), some (.int (nI k))] [] h sz (xq_same h sz (some (.int (sv_item e r k)))) := by
    intro j hj hkj
    refine xw_aloadR_n dd_N_item_41 rfl ?_
    refine xw_get fl_N_7 dd_N_item_42 ha rfl ?_
    refine xw_iload_n dd_N_item_45 rfl ?_
    refine xw_iconst 1 dd_N_item_46 (by decide) ?_
    refine xw_isub dd_N_item_47 ?_
    rw [hkj, nI_pred]
    refine xw_cl0 (ct_E_item hb hj) (iv_N_item_48 hb) ok_E_item rfl rfl rfl ?_ (fun _ _ _ q => by cases q.1)
    rintro v h1 z1 ⟨hv, rfl, rfl⟩
    cases hv
    refine xw_iret dd_N_item_51 rfl ⟨?_, rfl, rfl⟩
    rcases (show j = 0 ∨ j = 1 ∨ j = 2 ∨ j = 3 by omega) with rfl | rfl | rfl | rfl <;> rfl
  refine xt_o ok_N_item rfl rfl ?_
  refine xw_iload_n dd_N_item_0 rfl ?_
  rcases (show k = 0 ∨ k = 5 ∨ k = 1 ∨ k = 2 ∨ k = 3 ∨ k = 4 by omega) with rfl | rfl | rfl | rfl | rfl | rfl
  · refine xw_lookup (off := 27) 28 dd_N_item_1 rfl (by decide) (by decide) ?_
    refine xw_aloadR_n dd_N_item_28 rfl ?_
    refine xw_get fl_N_7 dd_N_item_29 ha rfl ?_
    refine xw_get fl_N_17 dd_N_item_32 hb rfl ?_
    exact xw_iret dd_N_item_35 rfl ⟨rfl, rfl, rfl⟩
  · refine xw_lookup (off := 35) 36 dd_N_item_1 rfl (by decide) (by decide) ?_
    refine xw_aloadR_n dd_N_item_36 rfl ?_
    refine xw_get fl_N_13 dd_N_item_37 ha rfl ?_
    exact xw_iret dd_N_item_40 rfl ⟨rfl, rfl, rfl⟩
  · exact xw_lookup (off := 40) 41 dd_N_item_1 rfl (by decide) (by decide) (mid 0 (by omega) rfl)
  · exact xw_lookup (off := 40) 41 dd_N_item_1 rfl (by decide) (by decide) (mid 1 (by omega) rfl)
  · exact xw_lookup (off := 40) 41 dd_N_item_1 rfl (by decide) (by decide) (mid 2 (by omega) rfl)
  · exact xw_lookup (off := 40) 41 dd_N_item_1 rfl (by decide) (by decide) (mid 3 (by omega) rfl)
theorem ct_G_init {a : Nat} {f : Int32} (ha : h a = some (.inr (5, [.int 0, .int 0]))) (hB : G.2.2.1 ≤ a) : xa_T G mm_G_init 1 0 0 [.ref a, .int f] h sz (xq_put h sz a (gt_c f 0)) := by
  refine xt_o ok_G_init rfl rfl ?_
  refine xw_aloadR_n dd_G_init_0 rfl ?_
  refine xw_objInit ol_G_1 wo_in wo_co (by decide) (by decide) dd_G_init_1 ?_
  refine xw_aloadR_n dd_G_init_4 rfl ?_
  refine xw_iload_n dd_G_init_5 rfl ?_
  refine xw_putA fl_G_7 fz_G_7 (by decide) dd_G_init_6 ha rfl hB rfl rfl (fun h1 n1 f1 => ?_)
  exact xw_vret dd_G_init_9 rfl ⟨rfl, rfl, n1, f1⟩
/-- the ring at r, its cells at c: what its places hold, the next serial -/
def rg_at (h : xa_H) (r c hd : Nat) (f : Nat → Option Nat) : Prop := h r = some (.inr (4, [.ref c, .int (nI hd)])) ∧ h c = some (xr_q 4 16 f) ∧ 1 ≤ hd ∧ hd < 1000000
def rg_tl (hd : Nat) : Nat := if 16 < hd then hd - 16 else 1
theorem ct_R_init {a : Nat} (ha : h a = some (.inr (4, [.null, .int 0]))) (hB : G.2.2.1 ≤ a) : xa_T G mm_R_init 1 1 16 [.ref a] h sz (fun o h' z => o = .returned none ∧ z = sz + 1 ∧ rg_at h' a sz 1 (fun _ => none) ∧ ∀ b, b ≠ a → b ≠ sz → h' b = h b) := by
  refine xt_o ok_R_init rfl rfl ?_
  refine xw_dom (fun hd _ => ?_)
  have hla := hd _ _ ha
  refine xw_aloadR_n dd_R_init_0 rfl ?_
  refine xw_objInit ol_R_3 wo_in wo_co (by decide) (by decide) dd_R_init_1 ?_
  refine xw_aloadR_n dd_R_init_4 rfl ?_
  refine xw_bipush 16 dd_R_init_5 (by decide) ?_
  refine xw_less (kc' := 0 + 1) (ks' := 0 + 16) (by decide) (by decide) ?_
  refine xw_anewA (t := 4) (N := 16) rfl an_R_9 (by decide) dd_R_init_7 (by decide) (by decide) (by decide) (fun h1 n1 f1 => ?_)
  refine xw_putA fl_R_11 fz_R_11 (by decide) dd_R_init_10 ((f1 a (by omega)).trans ha) rfl hB rfl rfl (fun h2 n2 f2 => ?_)
  refine xw_aloadR_n dd_R_init_13 rfl ?_
  refine xw_iconst 1 dd_R_init_14 (by decide) ?_
  refine xw_putA fl_R_17 fz_R_17 (by decide) dd_R_init_15 n2 rfl hB rfl rfl (fun h3 n3 f3 => ?_)
  exact xw_vret dd_R_init_18 rfl ⟨rfl, rfl, ⟨n3, (f3 sz (by omega)).trans ((f2 sz (by omega)).trans n1), by decide, by decide⟩, fun b b1 b2 => (f3 b b1).trans ((f2 b b1).trans (f1 b b2))⟩
theorem ct_R_nextSerial {a c hd : Nat} {f : Nat → Option Nat} (hR : rg_at h a c hd f) : xa_T G mm_R_nextSerial 0 0 0 [.ref a] h sz (xq_same h sz (some (.int (nI hd)))) := by
  refine xt_o ok_R_nextSerial rfl rfl ?_
  refine xw_aloadR_n dd_R_nextSerial_0 rfl ?_
  refine xw_get fl_R_17 dd_R_nextSerial_1 hR.1 rfl ?_
  exact xw_iret dd_R_nextSerial_4 rfl ⟨rfl, rfl, rfl⟩
theorem ct_R_leastKept {a c hd : Nat} {f : Nat → Option Nat} (hR : rg_at h a c hd f) : xa_T G mm_R_leastKept 0 0 0 [.ref a] h sz (xq_same h sz (some (.int (nI (rg_tl hd))))) := by
  obtain ⟨h1, h2, h3, h4⟩ := hR
  refine xt_o ok_R_leastKept rfl rfl ?_
  refine xw_aloadR_n dd_R_leastKept_0 rfl ?_
  refine xw_get fl_R_17 dd_R_leastKept_1 h1 rfl ?_
  refine xw_bipush 16 dd_R_leastKept_4 (by decide) ?_
  refine xw_icmp_le 19 dd_R_leastKept_6 (by decide) (fun hc => ?_) (fun hc => ?_)
  · refine xw_iconst 1 dd_R_leastKept_19 (by decide) ?_
    have hl : hd ≤ 16 := (nI_leI (a := hd) (b := 16) (by omega) (by decide)).mp hc
    exact xw_iret dd_R_leastKept_20 rfl ⟨by unfold rg_tl; rw [if_neg (by omega)]; rfl, rfl, rfl⟩
  · refine xw_aloadR_n dd_R_leastKept_9 rfl ?_
    refine xw_get fl_R_17 dd_R_leastKept_10 h1 rfl ?_
    refine xw_bipush 16 dd_R_leastKept_13 (by decide) ?_
    refine xw_isub dd_R_leastKept_15 ?_
    refine xw_goto 20 dd_R_leastKept_16 (by decide) ?_
    have hl : 16 < hd := by
      by_cases q : hd ≤ 16
      · exact absurd (nI_le (a := hd) (b := 16) q (by decide)) hc
      · omega
    have e1 : nI hd - 16 = nI (hd - 16) := pk_sub (a := hd) (b := 16) (by omega)
    exact xw_iret dd_R_leastKept_20 rfl ⟨by unfold rg_tl; rw [if_pos hl, e1], rfl, rfl⟩
theorem rg_and {k : Nat} (hk : k < 1000000) : nI k &&& 15 = nI (k % 16) := pk_andN (n := k) (by omega) (m := 15) 4 (by decide)
/-- the note of a serial: none where it isn't kept -/
theorem ct_R_noteAt {a c hd : Nat} {s : Int32} {f : Nat → Option Nat} (hR : rg_at h a c hd f) : xa_T G mm_R_noteAt 1 0 0 [.ref a, .int s] h sz (xq_same h sz (some (va_rf (if nI (rg_tl hd) ≤ s ∧ s < nI hd then f (s.toNatClampNeg % 16) else none)))) := by
  have hR0 := hR
  obtain ⟨h1, h2, h3, h4⟩ := hR
  have hno : ¬ (nI (rg_tl hd) ≤ s ∧ s < nI hd) → xa_W G mm_R_noteAt 1 0 0 16 [some (.ref a), some (.int s)] [] h sz (xq_same h sz (some (va_rf (if nI (rg_tl hd) ≤ s ∧ s < nI hd then f (s.toNatClampNeg % 16) else none)))) := by
    intro hn
    refine xw_null dd_R_noteAt_16 ?_
    exact xw_aretN dd_R_noteAt_17 rfl (Or.inl ⟨_, rfl⟩) ⟨by rw [if_neg hn]; rfl, rfl, rfl⟩
  refine xt_o ok_R_noteAt rfl rfl ?_
  refine xw_iload_n dd_R_noteAt_0 rfl ?_
  refine xw_aloadR_n dd_R_noteAt_1 rfl ?_
  refine xw_cl0 (ct_R_leastKept hR0) (iv_R_noteAt_2 h1) ok_R_leastKept rfl rfl rfl ?_ (fun _ _ _ q => by cases q.1)
  rintro v h' z1 ⟨hv, rfl, rfl⟩
  cases hv
  refine xw_icmp_lt 16 dd_R_noteAt_5 (by decide) (fun hc => hno (fun q => Int32.not_lt.mpr q.1 hc)) (fun hc => ?_)
  refine xw_iload_n dd_R_noteAt_8 rfl ?_
  refine xw_aloadR_n dd_R_noteAt_9 rfl ?_
  refine xw_get fl_R_17 dd_R_noteAt_10 h1 rfl ?_
  refine xw_icmp_lt 18 dd_R_noteAt_13 (by decide) (fun hc2 => ?_) (fun hc2 => hno (fun q => hc2 q.2))
  have htl : 1 ≤ rg_tl hd := by unfold rg_tl; split <;> omega
  have hok : nI (rg_tl hd) ≤ s ∧ s < nI hd := ⟨Int32.not_lt.mp hc, hc2⟩
  have htb : rg_tl hd ≤ hd := by unfold rg_tl; split <;> omega
  have hs0 : ¬ s < 0 := by
    have q1 := Int32.le_iff_toInt_le.mp hok.1
    rw [nI_toInt (by omega)] at q1
    rw [Int32.lt_iff_toInt_lt, Int32.toInt_zero]
    omega
  obtain ⟨j, hj, rfl⟩ := nI_of hs0
  have hjd : j < hd := (nI_ltI hj (by omega)).mp hc2
  refine xw_aloadR_n dd_R_noteAt_18 rfl ?_
  refine xw_get fl_R_11 dd_R_noteAt_19 h1 rfl ?_
  refine xw_iload_n dd_R_noteAt_22 rfl ?_
  refine xw_bipush 15 dd_R_noteAt_23 (by decide) ?_
  refine xw_iand dd_R_noteAt_25 ?_
  rw [rg_and (by omega)]
  refine xw_aald (t := 4) rfl dd_R_noteAt_26 h2 (vp_in_nI (by omega) (by decide)) ?_
  rw [nI_clamp (by omega)]
  exact xw_aret dd_R_noteAt_27 rfl (Or.inl ⟨_, rfl⟩) ⟨by rw [if_pos hok, nI_clamp hj], rfl, rfl⟩
theorem ct_R_append {a c hd e : Nat} {r : Int32} {f : Nat → Option Nat} (hR : rg_at h a c hd f) (hB : G.2.2.1 ≤ a) (hBc : G.2.2.1 ≤ c) (hm : hd < 900000) : xa_T G mm_R_append 2 1 2 [.ref a, .ref e, .int r] h sz (fun o h' z => o = .returned none ∧ z = sz + 1 ∧ rg_at h' a c (hd + 1) (va_up f (hd % 16) (some sz)) ∧ h' sz = some (nt_c e r) ∧ ∀ b, b ≠ a → b ≠ c → b ≠ sz → h' b = h b) := by
  obtain ⟨h1, h2, h3, h4⟩ := hR
  have hac : a ≠ c := fun q => by
    subst q
    rw [h1] at h2
    cases h2
  refine xt_o ok_R_append rfl rfl ?_
  refine xw_dom (fun hd0 hBz => ?_)
  have hla := hd0 _ _ h1
  have hlc := hd0 _ _ h2
  refine xw_aloadR_n dd_R_append_0 rfl ?_
  refine xw_get fl_R_11 dd_R_append_1 h1 rfl ?_
  refine xw_aloadR_n dd_R_append_4 rfl ?_
  refine xw_get fl_R_17 dd_R_append_5 h1 rfl ?_
  refine xw_bipush 15 dd_R_append_8 (by decide) ?_
  refine xw_iand dd_R_append_10 ?_
  rw [rg_and (by omega)]
  refine xw_less (kc' := 0 + 1) (ks' := 0 + 2) (by decide) (by decide) ?_
  refine xw_newA nw_R_9 dd_R_append_11 (fun h5 n5 f5 => ?_)
  refine xw_dup dd_R_append_14 rfl ?_
  refine xw_aloadR_n dd_R_append_15 rfl ?_
  refine xw_iload_n dd_R_append_16 rfl ?_
  refine xw_cl0 (ct_N_init n5 hBz) iv_R_append_17 ok_N_init rfl rfl rfl ?_ (fun _ _ _ q => by cases q.1)
  rintro v h6 z1 ⟨hv, rfl, n6, f6⟩
  cases hv
  refine xw_aastA (t := 4) rfl (ci := 3) ⟨_, rfl, Or.inl rfl⟩ dd_R_append_20 ((f6 c (by omega)).trans ((f5 c (by omega)).trans h2)) n6 (vp_in_nI (by omega) (by decide)) hBc (fun h7 n7 f7 => ?_)
  rw [nI_clamp (by omega)] at n7
  have h17 : h7 a = some (.inr (4, [.ref c, .int (nI hd)])) := (f7 a hac).trans ((f6 a (by omega)).trans ((f5 a (by omega)).trans h1))
  refine xw_aloadR_n dd_R_append_21 rfl ?_
  refine xw_dup dd_R_append_22 rfl ?_
  refine xw_get fl_R_17 dd_R_append_23 h17 rfl ?_
  refine xw_iconst 1 dd_R_append_26 (by decide) ?_
  refine xw_iadd dd_R_append_27 ?_
  rw [nI_1]
  refine xw_putA fl_R_17 fz_R_17 (by decide) dd_R_append_28 h17 rfl hB rfl rfl (fun h8 n8 f8 => ?_)
  exact xw_vret dd_R_append_31 rfl ⟨rfl, rfl, ⟨n8, (f8 c (fun q => hac q.symm)).trans n7, by omega, by omega⟩, (f8 sz (by omega)).trans ((f7 sz (by omega)).trans n6), fun b b1 b2 b3 => (f8 b b1).trans ((f7 b b2).trans ((f6 b b3).trans (f5 b b3)))⟩
end LF
