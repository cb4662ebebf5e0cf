/-! fields, arrays, new cells -/
def xa_F (own : String) (index ci k : Nat) : Prop := ∃ (C : String) (T : u_T) (N : Nat) (ref : String), xv_c[ci]? = some (C, T, N) ∧ k < N ∧ (∀ w ∈ u_ws C T N, w ∈ xv_T) ∧ Cond.fieldLink own index ref (T k).2.1 (T k).2.2.1 ∈ xv_T ∧ (ref = (T k).1 ∨ Cond.sameField ref (T k).1 (T k).2.1 (T k).2.2.1 ∈ xv_T)
def xa_Z (ci k : Nat) (ty : FieldType) (fin : Bool) (own : String) : Prop := ∃ (C : String) (T : u_T) (N : Nat) (ty0 : Nat → FieldType), xv_c[ci]? = some (C, T, N) ∧ (∀ k, k < N → parseFieldDescriptor (T k).2.2.1 = some (ty0 k)) ∧ (∀ a, a < N → ∀ b, b < N → a ≠ b → (T a).2.1 ≠ (T b).2.1) ∧ ty0 k = ty ∧ (T k).2.2.2 = fin ∧ (fin = true → (T k).1 = own)
def xa_N (own : String) (index ci : Nat) (fs : List Value) : Prop := ∃ (C : String) (T : u_T) (N : Nat) (ty0 : Nat → FieldType), xv_c[ci]? = some (C, T, N) ∧ fs.length = N ∧ (∀ k, k < N → parseFieldDescriptor (T k).2.2.1 = some (ty0 k)) ∧ (∀ k, k < N → defaultValue (ty0 k) = vp_V fs k) ∧ (∀ w ∈ u_ws C T N, w ∈ xv_T) ∧ Cond.classLink own index C ∈ xv_T ∧ Cond.instantiable C N ∈ xv_T ∧ Cond.initialized C ∈ xv_T
section XH
variable {G : xa_G} {M : xa_M} {dp kc ks pc : Nat} {L : List (Option Value)} {st : List Value} {h : xa_H} {sz : Nat} {Q : Outcome → xa_H → Nat → Prop}
theorem xw_get {index ci k a : Nat} {fs : List Value} {v : Value} (hF : xa_F M.1.cls index ci k) (hd : decode M.2.1 pc = .ok (.getfield index, 3)) (ha : h a = some (.inr (ci, fs))) (hv : fs[k]? = some v) (kk : xa_W G M dp kc ks (pc + 3) L (v :: st) h sz Q) : xa_W G M dp kc ks pc L (.ref a :: st) h sz Q := by
  intro p e R s m args below meth c H locs cells slots ls kT nT C h1 h2 h3 h4 hl hP hz hS
  have C' := C
  obtain ⟨hx, hb, -, hown, hts, -, -, -, -, hK, -⟩ := C'
  obtain ⟨Cn, T, N, ref, hc, hk, hin, hlink, hsm⟩ := hF
  obtain ⟨r, g1, cell, q1, q2, q3, q4⟩ := hP.obj ha
  have hr : r = (Cn, T, N) := Option.some.inj (g1.symm.trans hc)
  subst hr
  obtain ⟨hSl, hfc, kC, hkC, hkind⟩ := hK.1 ci _ hc
  obtain ⟨cf, kf, fi, f, hi, hsl⟩ := hSl k hk
  have hi' : s.fieldFound? ref (T k).2.1 (T k).2.2.1 = some (cf, kf, fi, f) := by
    rcases hsm with rfl | hsm
    · exact hi
    · exact u_same (hts _ hsm) _ hi
  refine W.getf hx hb hown (hts _ hlink) hi' (u_facts hfc hkC (u_lays hts hin hk) hi).1 q1 (by rw [q3]; exact fun h => by cases h) (v := v) ?_ rfl rfl hd (kk p e R s m args below meth c H locs cells slots ls kT nT C h1 h2 h3 h4 hl hP hz hS)
  rw [hsl, q4 k hk]
  simp [vp_V, hv]
theorem xw_put {index ci k a : Nat} {fs : List Value} {v : Value} {ty : FieldType} {fin : Bool} (hF : xa_F M.1.cls index ci k) (hZ : xa_Z ci k ty fin M.1.cls) (hfin : fin = false ∨ M.1.name = "<init>") (hd : decode M.2.1 pc = .ok (.putfield index, 3)) (ha : h a = some (.inr (ci, fs))) (hl0 : k < fs.length) (hB : G.2.2.1 ≤ a) (hn : narrow ty v = v) (hfit : fits ty v = true)
    (kk : xa_W G M dp kc ks (pc + 3) L st (xa_up h a (.inr (ci, fs.set k v))) sz Q) : xa_W G M dp kc ks pc L (v :: .ref a :: st) h sz Q := by
  intro p e R s m args below meth c H locs cells slots ls kT nT C h1 h2 h3 h4 hl hP hz hS
  have C' := C
  obtain ⟨hx, hb, -, hown, hts, -, -, hnm', -, hK, -⟩ := C'
  obtain ⟨Cn, T, N, ref, hc, hk, hin, hlink, hsm⟩ := hF
  obtain ⟨Cn2, T2, N2, ty0, hc2, hty, hnm, hte, hfi, hdecl⟩ := hZ
  have hcc : (Cn2, T2, N2) = (Cn, T, N) := Option.some.inj (hc2.symm.trans hc)
  cases hcc
  obtain ⟨r, g1, cell, q1, q2, q3, q4⟩ := hP.obj ha
  have hr : r = (Cn, T, N) := Option.some.inj (g1.symm.trans hc)
  subst hr
  have hKn := hK.1 ci _ hc
  obtain ⟨hSl, hfc, kC, hkC, hkind⟩ := hK.1 ci _ hc
  have hap : ∀ x y, x < N → y < N → x ≠ y → (G.2.1.1.2 ci) x ≠ (G.2.1.1.2 ci) y := by
    intro x y hx' hy hne
    obtain ⟨_, _, _, fa, hia, ea⟩ := hSl x hx'
    obtain ⟨_, _, _, fb, hib, eb⟩ := hSl y hy
    rw [← ea, ← eb]
    refine u_apart (u_lays hts hin hx') (u_lays hts hin hy) hia hib ?_
    rw [(State.fieldFound?_type hia (hty x hx')).1, (State.fieldFound?_type hib (hty y hy)).1]
    exact hnm x hx' y hy hne
  obtain ⟨cf, kf, fi, f, hi, hsl⟩ := hSl k hk
  have hi' : s.fieldFound? ref (T k).2.1 (T k).2.2.1 = some (cf, kf, fi, f) := by
    rcases hsm with rfl | hsm
    · exact hi
    · exact u_same (hts _ hsm) _ hi
  have hd' : parseFieldDescriptor (T k).2.2.1 = some ty := by rw [hty k hk, hte]
  have hst := (u_facts hfc hkC (u_lays hts hin hk) hi).1
  have hlay := hts _ (hin _ (u_in_lay hk))
  unfold u_lay at hlay
  have fine : ∀ (H' : Heap), H'[a]? = some (cell.setSlot f.slot v) → H'.size = H.size → (∀ q, q ≠ a → H'[q]? = H[q]?) → W p G.1 e R s m args below meth c H' (locs ++ [⟨a, f.slot⟩]) cells slots (xa_Q G s below kT nT Q) (F0 m (pc + 3) ls st) := by
    intro H' e1 e2 e3
    rw [hsl] at e1 ⊢
    exact kk p e R s m args below meth c H' _ cells slots ls kT nT C h1 h2 h3 h4 hl (hP.put (e := .inr (ci, fs.set k v)) ⟨_, hc, t_OB.to (V := updV (vp_V fs) k v) ⟨_, e1, q2, q3, t_set q4 hap hk v⟩ (fun j _ => vp_updV_set hl0 v j)⟩ e3) (e2.trans hz) (hS.put e2 e3 hB)
  cases fin with
  | false =>
    rw [if_neg (by rw [hfi]; decide)] at hlay
    have h6 := u_store hfc hkC hkind hlay hi hd' hn hfit
    exact W.putK hx hb (f := f) ⟨hown, hts _ hlink, ⟨_, _, _, hi'⟩, hst⟩ (by rw [q2]; exact h6) q1 q3 (by rw [hsl]; exact k2_hasslot (q4 k hk)) rfl rfl hd fine
  | true =>
    rw [if_pos hfi] at hlay
    have hcf : m.cls = cf := by
      obtain ⟨_, _, c', _, _, _, -, -, hf', -, -, -, hown2, -⟩ := Cond.laysFinal_spec hlay
      have e1 : c' = cf := by have := hi.symm.trans hf'; simp at this; exact this.1.symm
      rw [hdecl rfl] at hown2
      rw [← e1]; exact Option.some.inj (hown.symm.trans hown2)
    have hin2 : meth.name = "<init>" := by
      rcases hfin with q | q
      · cases q
      · exact hnm'.trans q
    have h6 := u_fits hfc hkC hkind (Or.inr hlay) hi hd' hn hfit
    exact W.putFinK hx hb hown (hts _ hlink) hi' hst hcf hin2 (by rw [q2]; exact h6) q1 q3 (by rw [hsl]; exact k2_hasslot (q4 k hk)) rfl rfl hd fine
theorem xw_new {index ci : Nat} {fs : List Value} (hN : xa_N M.1.cls index ci fs) (hd : decode M.2.1 pc = .ok (.new index, 3)) (kk : xa_W G M dp kc ks (pc + 3) L (.ref sz :: st) (xa_up h sz (.inr (ci, fs))) (sz + 1) Q) : xa_W G M dp (kc + 1) (ks + fs.length) pc L st h sz Q := by
  intro p e R s m args below meth c H locs cells slots ls kT nT C h1 h2 h3 h4 hl hP hz hS
  have C' := C
  obtain ⟨hx, hb, -, hown, hts, -, -, -, -, hK, -, -, hBs, -⟩ := C'
  obtain ⟨Cn, T, N, ty0, hc, hlen, hty, hfs, hin, hcl, hins, hini⟩ := hN
  subst hz
  have hKn := hK.1 ci _ hc
  refine W.newcK hx hb hown (hts _ hcl) (hts _ hins) (hts _ hini) rfl hd (by omega) (by omega) hKn.2.1 rfl fun H1 kC hkC e1 z1 o1 => ?_
  refine kk p e R s m args below meth c H1 locs (cells + 1) (slots + N) ls kT nT C (by omega) (by omega) h3 h4 hl (hP.new (e := .inr (ci, fs)) ⟨_, hc, (u_born ty0 hts hin hKn hkC e1 hty).to hfs⟩ o1 z1) z1 ?_
  exact ⟨Nat.le_trans hS.1 (by omega), fun q g1 g2 => (o1 q (Nat.lt_of_lt_of_le g1 hS.1)).trans (hS.2.1 q g1 g2), hS.2.2⟩
theorem xw_iald {a n : Nat} {f : Nat → Int32} {i : Int32} (hd : decode M.2.1 pc = .ok (.iaload, 1)) (ha : h a = some (.inl (0, (n, .inl f)))) (hin : vp_in i n) (kk : xa_W G M dp kc ks (pc + 1) L (.int (f i.toNatClampNeg) :: st) h sz Q) : xa_W G M dp kc ks pc L (.int i :: .ref a :: st) h sz Q := by
  intro p e R s m args below meth c H locs cells slots ls kT nT C h1 h2 h3 h4 hl hP hz hS
  have hlt : i.toNatClampNeg < n := Nat.not_le.mp fun q => hin (Or.inr q)
  have hK := C.2.2.2.2.2.2.2.2.2.1
  obtain ⟨cell, hcell, hcls, hsl, hvu, hvs⟩ := hP.arr ha
  exact W.iald (v := .int (f i.toNatClampNeg)) C.1 C.2.1 hcell (xa_isA (t := 0) hK C.2.2.2.2.2.2.2.2.2.2.2.2.2 rfl hcls hvs) hvu (by rw [hsl]; show ¬ (i < 0 ∨ (arrV _ _ _).slots.size ≤ _); rw [arrV_size]; exact hin) (by rw [hsl]; show (arrV _ _ _).slots[_]? = _; rw [arrV_read _ _ hlt]) rfl rfl hd (kk p e R s m args below meth c H locs cells slots ls kT nT C h1 h2 h3 h4 hl hP hz hS)
theorem xw_lald {a n : Nat} {f : Nat → Int64} {i : Int32} (hd : decode M.2.1 pc = .ok (.laload, 1)) (ha : h a = some (.inl (1, (n, .inr (.inl f))))) (hin : vp_in i n) (kk : xa_W G M dp kc ks (pc + 1) L (.long (f i.toNatClampNeg) :: st) h sz Q) : xa_W G M dp kc ks pc L (.int i :: .ref a :: st) h sz Q := by
  intro p e R s m args below meth c H locs cells slots ls kT nT C h1 h2 h3 h4 hl hP hz hS
  have hlt : i.toNatClampNeg < n := Nat.not_le.mp fun q => hin (Or.inr q)
  have hK := C.2.2.2.2.2.2.2.2.2.1
  obtain ⟨cell, hcell, hcls, hsl, hvu, hvs⟩ := hP.arr ha
  exact W.lald (v := .long (f i.toNatClampNeg)) C.1 C.2.1 hcell (xa_isA (t := 1) hK C.2.2.2.2.2.2.2.2.2.2.2.2.2 rfl hcls hvs) hvu (by rw [hsl]; show ¬ (i < 0 ∨ (arrV _ _ _).slots.size ≤ _); rw [arrV_size]; exact hin) (by rw [hsl]; show (arrV _ _ _).slots[_]? = _; rw [arrV_read _ _ hlt]) rfl rfl hd (kk p e R s m args below meth c H locs cells slots ls kT nT C h1 h2 h3 h4 hl hP hz hS)
theorem xw_zald {a n : Nat} {f : Nat → Int32} {i : Int32} (hd : decode M.2.1 pc = .ok (.baload, 1)) (ha : h a = some (.inl (2, (n, .inl f)))) (hin : vp_in i n) (kk : xa_W G M dp kc ks (pc + 1) L (.int (f i.toNatClampNeg) :: st) h sz Q) : xa_W G M dp kc ks pc L (.int i :: .ref a :: st) h sz Q := by
  intro p e R s m args below meth c H locs cells slots ls kT nT C h1 h2 h3 h4 hl hP hz hS
  have hlt : i.toNatClampNeg < n := Nat.not_le.mp fun q => hin (Or.inr q)
  have hK := C.2.2.2.2.2.2.2.2.2.1
  obtain ⟨cell, hcell, hcls, hsl, hvu, hvs⟩ := hP.arr ha
  exact W.zald (v := .int (f i.toNatClampNeg)) C.1 C.2.1 hcell (xa_isA (t := 2) hK C.2.2.2.2.2.2.2.2.2.2.2.2.2 rfl hcls hvs) hvu (by rw [hsl]; show ¬ (i < 0 ∨ (arrV _ _ _).slots.size ≤ _); rw [arrV_size]; exact hin) (by rw [hsl]; show (arrV _ _ _).slots[_]? = _; rw [arrV_read _ _ hlt]) rfl rfl hd (kk p e R s m args below meth c H locs cells slots ls kT nT C h1 h2 h3 h4 hl hP hz hS)
theorem xw_aald {a n t : Nat} {E : String} {f : Nat → Option Nat} {i : Int32} (ht : xv_y[t]? = some (.object E)) (hd : decode M.2.1 pc = .ok (.aaload, 1)) (ha : h a = some (.inl (t, (n, .inr (.inr (.inr (.inr f))))))) (hin : vp_in i n) (kk : xa_W G M dp kc ks (pc + 1) L (va_rf (f i.toNatClampNeg) :: st) h sz Q) : xa_W G M dp kc ks pc L (.int i :: .ref a :: st) h sz Q := by
  intro p e R s m args below meth c H locs cells slots ls kT nT C h1 h2 h3 h4 hl hP hz hS
  have hlt : i.toNatClampNeg < n := Nat.not_le.mp fun q => hin (Or.inr q)
  have hK := C.2.2.2.2.2.2.2.2.2.1
  obtain ⟨cell, hcell, hcls, hsl, hvu, hvs⟩ := hP.arr ha
  exact W.aald (v := va_rf (f i.toNatClampNeg)) (ty := .object E) C.1 C.2.1 hcell (xa_isA hK C.2.2.2.2.2.2.2.2.2.2.2.2.2 ht hcls hvs) rfl hvu (by rw [hsl]; show ¬ (i < 0 ∨ (arrV _ _ _).slots.size ≤ _); rw [arrV_size]; exact hin) (by rw [hsl]; show (arrV _ _ _).slots[_]? = _; rw [arrV_read _ _ hlt]) rfl rfl hd (kk p e R s m args below meth c H locs cells slots ls kT nT C h1 h2 h3 h4 hl hP hz hS)
theorem xw_alen {a t : Nat} {ty : FieldType} {x : vp_A} (ht : xv_y[t]? = some ty) (hd : decode M.2.1 pc = .ok (.arraylength, 1)) (ha : h a = some (.inl (t, x))) (kk : xa_W G M dp kc ks (pc + 1) L (.int (nI x.1) :: st) h sz Q) : xa_W G M dp kc ks pc L (.ref a :: st) h sz Q := by
  intro p e R s m args below meth c H locs cells slots ls kT nT C h1 h2 h3 h4 hl hP hz hS
  have hK := C.2.2.2.2.2.2.2.2.2.1
  have k9 := kk p e R s m args below meth c H locs cells slots ls kT nT C h1 h2 h3 h4 hl hP hz hS
  obtain ⟨cell, hcell, hcls, hsl, hvu, hvs⟩ := hP.arr ha
  obtain ⟨n, f | f | f | f | f⟩ := x
  · exact W.alen (n := Int32.ofNat n) C.1 C.2.1 hcell (xa_isA hK C.2.2.2.2.2.2.2.2.2.2.2.2.2 ht hcls hvs) (by rw [hsl, vp_cell_i, arrV_size] <;> rfl) rfl rfl hd k9
  · exact W.alen (n := Int32.ofNat n) C.1 C.2.1 hcell (xa_isA hK C.2.2.2.2.2.2.2.2.2.2.2.2.2 ht hcls hvs) (by rw [hsl, vp_cell_l, arrV_size] <;> rfl) rfl rfl hd k9
  · exact W.alen (n := Int32.ofNat n) C.1 C.2.1 hcell (xa_isA hK C.2.2.2.2.2.2.2.2.2.2.2.2.2 ht hcls hvs) (by rw [hsl, vp_cell_f, arrV_size] <;> rfl) rfl rfl hd k9
  · exact W.alen (n := Int32.ofNat n) C.1 C.2.1 hcell (xa_isA hK C.2.2.2.2.2.2.2.2.2.2.2.2.2 ht hcls hvs) (by rw [hsl, vp_cell_d, arrV_size] <;> rfl) rfl rfl hd k9
  · exact W.alen (n := Int32.ofNat n) C.1 C.2.1 hcell (xa_isA hK C.2.2.2.2.2.2.2.2.2.2.2.2.2 ht hcls hvs) (by rw [hsl, vp_cell_q, arrV_size] <;> rfl) rfl rfl hd k9
theorem xw_iast {a n : Nat} {f : Nat → Int32} {i x : Int32} (hd : decode M.2.1 pc = .ok (.iastore, 1)) (ha : h a = some (.inl (0, (n, .inl f)))) (hin : vp_in i n) (hB : G.2.2.1 ≤ a) (kk : xa_W G M dp kc ks (pc + 1) L st (xa_up h a (.inl (0, (n, .inl (upd f i.toNatClampNeg x))))) sz Q) : xa_W G M dp kc ks pc L (.int x :: .int i :: .ref a :: st) h sz Q := by
  intro p e R s m args below meth c H locs cells slots ls kT nT C h1 h2 h3 h4 hl hP hz hS
  have hK := C.2.2.2.2.2.2.2.2.2.1
  refine W.iast C.1 C.2.1 (hP.own ha hB) ((hK.2 0 _ rfl).1 n (fun j => .int (f j))) (fun q => by cases q) (by show ¬ (i < 0 ∨ (arrV _ _ _).slots.size ≤ _); rw [arrV_size]; exact hin) rfl rfl hd fun H1 e1 z oq => ?_
  refine kk p e R s m args below meth c H1 _ cells slots ls kT nT C h1 h2 h3 h4 hl (hP.put ?_ oq) (z.trans hz) (hS.put z oq hB)
  show H1[a]? = some (vp_cell _ _)
  rw [e1]
  show some ((vp_cell _ (n, .inl f)).setSlot _ _) = _
  rw [vp_cell_i, vp_cell_i, arrV_store]
  congr 2
  funext q
  by_cases hq : q = i.toNatClampNeg
  · subst hq
    simp [updV, upd]
  · simp [updV, upd, hq]
theorem xw_last {a n : Nat} {f : Nat → Int64} {i : Int32} {x : Int64} (hd : decode M.2.1 pc = .ok (.lastore, 1)) (ha : h a = some (.inl (1, (n, .inr (.inl f))))) (hin : vp_in i n) (hB : G.2.2.1 ≤ a) (kk : xa_W G M dp kc ks (pc + 1) L st (xa_up h a (.inl (1, (n, .inr (.inl (vp_updL f i.toNatClampNeg x)))))) sz Q) : xa_W G M dp kc ks pc L (.long x :: .int i :: .ref a :: st) h sz Q := by
  intro p e R s m args below meth c H locs cells slots ls kT nT C h1 h2 h3 h4 hl hP hz hS
  have hK := C.2.2.2.2.2.2.2.2.2.1
  refine W.last C.1 C.2.1 (hP.own ha hB) ((hK.2 1 _ rfl).1 n (fun j => .long (f j))) (fun q => by cases q) (by show ¬ (i < 0 ∨ (arrV _ _ _).slots.size ≤ _); rw [arrV_size]; exact hin) rfl rfl hd fun H1 e1 z oq => ?_
  refine kk p e R s m args below meth c H1 _ cells slots ls kT nT C h1 h2 h3 h4 hl (hP.put ?_ oq) (z.trans hz) (hS.put z oq hB)
  show H1[a]? = some (vp_cell _ _)
  rw [e1]
  show some ((vp_cell _ (n, .inr (.inl f))).setSlot _ _) = _
  rw [vp_cell_l, vp_cell_l, arrV_store]
  congr 2
  funext q
  by_cases hq : q = i.toNatClampNeg
  · subst hq
    simp [updV, vp_updL]
  · simp [updV, vp_updL, hq]
theorem xw_zast {a n : Nat} {f : Nat → Int32} {i x : Int32} (hd : decode M.2.1 pc = .ok (.bastore, 1)) (ha : h a = some (.inl (2, (n, .inl f)))) (hin : vp_in i n) (hB : G.2.2.1 ≤ a) (kk : xa_W G M dp kc ks (pc + 1) L st (xa_up h a (.inl (2, (n, .inl (upd f i.toNatClampNeg (vp_nar .boolean x)))))) sz Q) : xa_W G M dp kc ks pc L (.int x :: .int i :: .ref a :: st) h sz Q := by
  intro p e R s m args below meth c H locs cells slots ls kT nT C h1 h2 h3 h4 hl hP hz hS
  have hK := C.2.2.2.2.2.2.2.2.2.1
  refine W.zast C.1 C.2.1 (hP.own ha hB) ((hK.2 2 _ rfl).1 n (fun j => .int (f j))) (fun q => by cases q) (by show ¬ (i < 0 ∨ (arrV _ _ _).slots.size ≤ _); rw [arrV_size]; exact hin) rfl rfl hd fun H1 e1 z oq => ?_
  refine kk p e R s m args below meth c H1 _ cells slots ls kT nT C h1 h2 h3 h4 hl (hP.put ?_ oq) (z.trans hz) (hS.put z oq hB)
  show H1[a]? = some (vp_cell _ _)
  rw [e1]
  show some ((vp_cell _ (n, .inl f)).setSlot _ _) = _
  rw [vp_cell_i, vp_cell_i, arrV_store]
  congr 2
  funext q
  by_cases hq : q = i.toNatClampNeg
  · subst hq
    simp [updV, upd, vp_nar, narrow]
  · simp [updV, upd, hq]
def xa_A (ci : Nat) (E : String) : Prop := ∃ r : vw_C, xv_c[ci]? = some r ∧ (r.1 = E ∨ Cond.castable r.1 E ∈ xv_U)
theorem xa_asg {D : xa_D} {s : State} {ci : Nat} {E : String} (hK : xa_K D s) (hts : ∀ w ∈ xv_U, w.before #[] s = true) (hA : xa_A ci E) {comp : ClassId} (hE : s.vm.findClass E = some comp) : s.vm.assignable (D.1.1 ci) comp = true ∧ ∃ kC, s.vm.classes[D.1.1 ci]? = some kC := by
  obtain ⟨r, hc, hr⟩ := hA
  have hcl := (hK.1 ci r hc).2
  obtain ⟨kC, hkC, -⟩ := hcl.2
  refine ⟨?_, kC, hkC⟩
  rcases hr with hr | hr
  · rw [hr] at hcl
    cases hE.symm.trans hcl.1
    exact va_assign hcl
  · obtain ⟨c0, t0, f1, f2, f3⟩ := Cond.castable_spec (hts _ hr)
    cases hcl.1.symm.trans f1
    cases hE.symm.trans f2
    exact f3
theorem xw_aast {a n t v ci : Nat} {vs : List Value} {E : String} {f : Nat → Option Nat} {i : Int32} (ht : xv_y[t]? = some (.object E)) (hA : xa_A ci E) (hd : decode M.2.1 pc = .ok (.aastore, 1)) (ha : h a = some (.inl (t, (n, .inr (.inr (.inr (.inr f))))))) (hv : h v = some (.inr (ci, vs))) (hin : vp_in i n) (hB : G.2.2.1 ≤ a)
    (kk : xa_W G M dp kc ks (pc + 1) L st (xa_up h a (.inl (t, (n, .inr (.inr (.inr (.inr (va_up f i.toNatClampNeg (some v))))))))) sz Q) : xa_W G M dp kc ks pc L (.ref v :: .int i :: .ref a :: st) h sz Q := by
  intro p e R s m args below meth c H locs cells slots ls kT nT C h1 h2 h3 h4 hl hP hz hS
  have hK := C.2.2.2.2.2.2.2.2.2.1
  have hts := C.2.2.2.2.2.2.2.2.2.2.2.2.2.2.2.2.1
  have hlt : i.toNatClampNeg < n := Nat.not_le.mp fun q => hin (Or.inr q)
  have h0 : ¬ i < 0 := fun q => hin (Or.inl q)
  obtain ⟨r', hr', cellV, g1, g2, g3, -⟩ := hP.obj hv
  obtain ⟨kA, comp, k1, k2, k3, -⟩ := (hK.2 t _ ht).2
  obtain ⟨kE, hkE, -⟩ := Vm.findClass_spec k3
  obtain ⟨hasg, kC, hkC⟩ := xa_asg hK hts hA k3
  refine W.aast C.1 C.2.1 (hP.own ha hB) (fun q h => by cases h) (fun h => by cases h) k1 k2 rfl hkE ⟨h0, by show _ < (arrV _ _ _).slots.size; rw [arrV_size]; exact hlt⟩ g1 (fun q h => by rw [g3] at h; cases h) (by rw [g2]; exact hkC) (by rw [g2]; exact hasg) rfl rfl hd fun H1 e1 z oq => ?_
  refine kk p e R s m args below meth c H1 _ cells slots ls kT nT C h1 h2 h3 h4 hl (hP.put ?_ oq) (z.trans hz) (hS.put z oq hB)
  show H1[a]? = some (vp_cell _ _)
  rw [e1]
  show some ((vp_cell _ (n, .inr (.inr (.inr (.inr f))))).setSlot _ _) = _
  rw [vp_cell_q, vp_cell_q, arrV_store]
  congr 2
  funext q
  by_cases hq : q = i.toNatClampNeg
  · subst hq
    simp [updV, va_up, va_rf]
  · simp [updV, va_up, hq]
theorem xw_aastN {a n t : Nat} {E : String} {f : Nat → Option Nat} {i : Int32} (ht : xv_y[t]? = some (.object E)) (hd : decode M.2.1 pc = .ok (.aastore, 1)) (ha : h a = some (.inl (t, (n, .inr (.inr (.inr (.inr f))))))) (hin : vp_in i n) (hB : G.2.2.1 ≤ a)
    (kk : xa_W G M dp kc ks (pc + 1) L st (xa_up h a (.inl (t, (n, .inr (.inr (.inr (.inr (va_up f i.toNatClampNeg none)))))))) sz Q) : xa_W G M dp kc ks pc L (.null :: .int i :: .ref a :: st) h sz Q := by
  intro p e R s m args below meth c H locs cells slots ls kT nT C h1 h2 h3 h4 hl hP hz hS
  have hK := C.2.2.2.2.2.2.2.2.2.1
  refine va_WaastN (C := E) C.1 C.2.1 (hP.own ha hB) ((hK.2 t _ ht).1 n (fun j => va_rf (f j))) (fun h => by cases h) (by show ¬ (i < 0 ∨ (arrV _ _ _).slots.size ≤ _); rw [arrV_size]; exact hin) rfl rfl hd fun H1 e1 z oq => ?_
  refine kk p e R s m args below meth c H1 _ cells slots ls kT nT C h1 h2 h3 h4 hl (hP.put ?_ oq) (z.trans hz) (hS.put z oq hB)
  show H1[a]? = some (vp_cell _ _)
  rw [e1]
  show some ((vp_cell _ (n, .inr (.inr (.inr (.inr f))))).setSlot _ _) = _
  rw [vp_cell_q, vp_cell_q, arrV_store]
  congr 2
  funext q
  by_cases hq : q = i.toNatClampNeg
  · subst hq
    simp [updV, va_up, va_rf]
  · simp [updV, va_up, hq]
theorem xw_newa {atype : ArrayType} {ty : FieldType} {t N : Nat} {n : Int32} {a0 : vp_A} (hty : newarray.typeOf atype = ty) (hpr : ∀ E, ty ≠ .object E) (ht : xv_y[t]? = some ty) (hw : Cond.arrayClass ty ∈ xv_T) (hd : decode M.2.1 pc = .ok (.newarray atype, 2)) (ha : ∀ cA : ClassId, vp_cell cA a0 = arrV cA N (fun _ => defaultValue ty)) (hn : ¬ n < 0) (hN : n.toNatClampNeg = N) (hby : N * componentBytes ty ≤ 536870912)
    (kk : xa_W G M dp kc ks (pc + 2) L (.ref sz :: st) (xa_up h sz (.inl (t, a0))) (sz + 1) Q) : xa_W G M dp (kc + 1) (ks + N) pc L (.int n :: st) h sz Q := by
  intro p e R s m args below meth c H locs cells slots ls kT nT C h1 h2 h3 h4 hl hP hz hS
  have hK := C.2.2.2.2.2.2.2.2.2.1
  have hts := C.2.2.2.2.1
  subst hz
  subst hty
  refine va_newaK C.1 C.2.1 (hts _ hw) rfl hd rfl hn hN hby (by omega) (by omega) rfl fun H1 cA e1 z1 o1 hAr hNm => ?_
  have hcA : cA = G.2.1.2 t := by
    have h9 := (hK.2 t _ ht).2
    have h8 : s.vm.findClass ("[" ++ (newarray.typeOf atype).toString) = some (G.2.1.2 t) := by cases atype <;> exact h9
    exact Option.some.inj (hNm.symm.trans h8)
  subst hcA
  refine kk p e R s m args below meth c H1 locs (cells + 1) (slots + N) ls kT nT C (by omega) (by omega) h3 h4 hl (hP.new (e := .inl (t, a0)) ?_ o1 z1) z1 ?_
  · show H1[H.size]? = some (vp_cell _ _)
    rw [ha]
    exact e1
  · exact ⟨Nat.le_trans hS.1 (by omega), fun q g1 g2 => (o1 q (Nat.lt_of_lt_of_le g1 hS.1)).trans (hS.2.1 q g1 g2), hS.2.2⟩
theorem xw_anew {t index N : Nat} {E : String} {n : Int32} (ht : xv_y[t]? = some (.object E)) (hw : Cond.classLink M.1.cls index E ∈ xv_T) (hov : Cond.arrayOver (.object E) ∈ xv_U) (hd : decode M.2.1 pc = .ok (.anewarray index, 3)) (hn : ¬ n < 0) (hN : n.toNatClampNeg = N) (hby : N * 4 ≤ 536870912)
    (kk : xa_W G M dp kc ks (pc + 3) L (.ref sz :: st) (xa_up h sz (.inl (t, (N, .inr (.inr (.inr (.inr (fun _ => none)))))))) (sz + 1) Q) : xa_W G M dp (kc + 1) (ks + N) pc L (.int n :: st) h sz Q := by
  intro p e R s m args below meth c H locs cells slots ls kT nT C h1 h2 h3 h4 hl hP hz hS
  have hK := C.2.2.2.2.2.2.2.2.2.1
  have hts := C.2.2.2.2.1
  have hown := C.2.2.2.1
  subst hz
  subst hN
  refine W.anew C.1 C.2.1 hown (hts _ hw) (va_AO.use (C.2.2.2.2.2.2.2.2.2.2.2.2.2.2.2.2.1 _ hov)) rfl hd rfl hn hby (by omega) (by omega) fun cA kA comp f1 f2 f3 f4 => ?_
  generalize hH1 : H.push ({ cls := cA, slots := Array.replicate n.toNatClampNeg .null, vm := .none } : Cell) = H1
  have z1 : H1.size = H.size + 1 := by rw [← hH1, Array.size_push]
  have e1 : H1[H.size]? = some (arrV cA n.toNatClampNeg (fun _ => .null)) := by rw [← hH1, Array.getElem?_push_size, ← arrV_new]
  have o1 : ∀ q : Nat, q < H.size → H1[q]? = H[q]? := fun q hq => by rw [← hH1, Array.getElem?_push, if_neg (Nat.ne_of_lt hq)]
  obtain ⟨_, _, _, _, _, k4⟩ := (hK.2 t _ ht).2
  have hcA : cA = G.2.1.2 t := Option.some.inj (f1.symm.trans k4)
  subst hcA
  refine kk p e R s m args below meth c H1 locs (cells + 1) (slots + n.toNatClampNeg) ls kT nT C (by omega) (by omega) h3 h4 hl (hP.new (e := .inl (t, (n.toNatClampNeg, .inr (.inr (.inr (.inr (fun _ => none))))))) ?_ o1 z1) z1 ?_
  · show H1[H.size]? = some (vp_cell _ _)
    rw [vp_cell_q]
    exact e1
  · exact ⟨Nat.le_trans hS.1 (by omega), fun q g1 g2 => (o1 q (Nat.lt_of_lt_of_le g1 hS.1)).trans (hS.2.1 q g1 g2), hS.2.2⟩
theorem xa_recv {G : xa_G} {s : State} {H : Heap} {h : xa_H} {a ci : Nat} {r : vw_C} {fs : List Value} (hK : xa_K G.2.1 s) (hP : xa_P G h H) (hc : xv_c[ci]? = some r) (ha : h a = some (.inr (ci, fs))) : ∃ cell : Cell, H[a]? = some cell ∧ cell.vm.isStatics = false ∧ s.vm.findClass r.1 = some cell.cls := by
  obtain ⟨r', _, cell, g1, g2, g3, -⟩ := hP.obj ha
  exact ⟨cell, g1, by rw [g3]; rfl, by rw [g2]; exact (hK.1 ci r hc).2.1⟩
theorem xw_cast {index a ci : Nat} {fs : List Value} {E : String} (hw : Cond.classLink M.1.cls index E ∈ xv_T) (hc : ∃ T N, xv_c[ci]? = some (E, T, N)) (hd : decode M.2.1 pc = .ok (.checkcast index, 3)) (ha : h a = some (.inr (ci, fs))) (kk : xa_W G M dp kc ks (pc + 3) L (.ref a :: st) h sz Q) : xa_W G M dp kc ks pc L (.ref a :: st) h sz Q := by
  intro p e R s m args below meth c H locs cells slots ls kT nT C h1 h2 h3 h4 hl hP hz hS
  have hK := C.2.2.2.2.2.2.2.2.2.1
  obtain ⟨T, N, hc⟩ := hc
  exact va_castS C.1 C.2.1 C.2.2.2.1 (C.2.2.2.2.1 _ hw) (hK.1 ci _ hc).2 (xa_recv hK hP hc ha) hd (kk p e R s m args below meth c H locs cells slots ls kT nT C h1 h2 h3 h4 hl hP hz hS)
theorem xw_objInit {index a : Nat} (hw : Cond.methodLink M.1.cls index objectInit ∈ xv_T) (hi : Cond.instanceMethod objectInit ∈ xv_T) (hc : Cond.code objectInit ⟨#[0xb1]⟩ 1 none ∈ xv_T) (hdp : 1 ≤ dp) (hst : ((st.map fun v => v.category).sum) ≤ 8) (hd : decode M.2.1 pc = .ok (.invokespecial index, 3)) (kk : xa_W G M dp kc ks (pc + 3) L st h sz Q) : xa_W G M dp kc ks pc L (.ref a :: st) h sz Q := by
  intro p e R s m args below meth c H locs cells slots ls kT nT C h1 h2 h3 h4 hl hP hz hS
  have hts := C.2.2.2.2.1
  have hf := C.2.2.2.2.2.2.2.2.2.2.1
  have hlo := C.2.2.2.2.2.2.2.2.2.2.2.1
  refine W.objInit C.1 C.2.1 C.2.2.2.1 (hts _ hw) (hts _ hi) (hts _ hc) (g := F0 m pc ls (.ref a :: st)) rfl (hl.1.trans C.2.2.1.symm) rfl hd (by omega) ?_ (kk p e R s m args below meth c H locs cells slots ls kT nT C h1 h2 h3 h4 hl hP hz hS)
  have h9 : (F0 m pc ls (.ref a :: st)).monitorRoom = 0 := rfl
  rw [h9]
  omega
end XH
