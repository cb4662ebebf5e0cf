/-! statics, constants, class objects, arraycopy -/
section XM
variable {G : xa_G} {M : xa_M} {dp kc ks pc : Nat} {L : List (Option Value)} {st : List Value} {h : xa_H} {sz : Nat} {Q : Outcome → xa_H → Nat → Prop}
theorem xw_ishr {x y : Int32} (hd : decode M.2.1 pc = .ok (.ishr, 1)) (k : xa_W G M dp kc ks (pc + 1) L (.int (x >>> (y &&& 31)) :: st) h sz Q) : xa_W G M dp kc ks pc L (.int y :: .int x :: st) h sz Q :=
  xw_go (fun _ _ _ _ _ _ _ _ _ _ _ _ _ _ _ hx hb _ => lv_ishr hx hb hd) k
theorem xw_ldcI {index : Nat} {v : Int32} (hw : Cond.constant M.1.cls index v ∈ xv_T) (hd : decode M.2.1 pc = .ok (.ldc index, 2)) (kk : xa_W G M dp kc ks (pc + 2) L (.int v :: st) h sz Q) : xa_W G M dp kc ks pc L st h sz Q := by
  intro p e R s m args below meth c H locs cells slots ls kT nT C h1 h2 h3 h4 hl hP hz hS
  exact lv_ldc C.1 C.2.1 C.2.2.2.1 (C.2.2.2.2.1 _ hw) hd (kk p e R s m args below meth c H locs cells slots ls kT nT C h1 h2 h3 h4 hl hP hz hS)
theorem xw_empty {index : Nat} (hw : Cond.fieldLink M.1.cls index "java/util/ArrayList" "DEFAULTCAPACITY_EMPTY_ELEMENTDATA" "[Ljava/lang/Object;" ∈ xv_T) (hd : decode M.2.1 pc = .ok (.getstatic index, 3)) (kk : xa_W G M dp kc ks (pc + 3) L (.ref G.2.2.2.1 :: st) h sz Q) : xa_W G M dp kc ks pc L st h sz Q := by
  intro p e R s m args below meth c H locs cells slots ls kT nT C h1 h2 h3 h4 hl hP hz hS
  have hpr := C.2.2.2.2.2.2.2.2.2.2.2.2.2
  exact va_gets C.1 C.2.1 hpr.2.2.1 hS C.2.2.2.1 (C.2.2.2.2.1 _ hw) (fun _ q => q) hd (kk p e R s m args below meth c H locs cells slots ls kT nT C h1 h2 h3 h4 hl hP hz hS)
theorem xw_mirror {index : Nat} (hw : Cond.classLink M.1.cls index "[Ljava/lang/Object;" ∈ xv_T) (hd : decode M.2.1 pc = .ok (.ldc index, 2)) (kk : xa_W G M dp kc ks (pc + 2) L (.ref G.2.2.2.2 :: st) h sz Q) : xa_W G M dp kc ks pc L st h sz Q := by
  intro p e R s m args below meth c H locs cells slots ls kT nT C h1 h2 h3 h4 hl hP hz hS
  have hpr := C.2.2.2.2.2.2.2.2.2.2.2.2.2
  exact va_ldcM C.1 C.2.1 C.2.2.2.1 (C.2.2.2.2.1 _ hw) hpr.2.2.2.2.2.2.2 hd (kk p e R s m args below meth c H locs cells slots ls kT nT C h1 h2 h3 h4 hl hP hz hS)
theorem xw_getC {index a : Nat} {x : vp_A} (hw : Cond.methodLink M.1.cls index ⟨"java/lang/Object", "getClass", "()Ljava/lang/Class;"⟩ ∈ xv_T) (hsel : Cond.selects "[Ljava/lang/Object;" ⟨"java/lang/Object", "getClass", "()Ljava/lang/Class;"⟩ ⟨"java/lang/Object", "getClass", "()Ljava/lang/Class;"⟩ ∈ xv_T) (hinst : Cond.instanceMethod ⟨"java/lang/Object", "getClass", "()Ljava/lang/Class;"⟩ ∈ xv_T) (hnat : Cond.native ⟨"java/lang/Object", "getClass", "()Ljava/lang/Class;"⟩ ∈ xv_T) (hd : decode M.2.1 pc = .ok (.invokevirtual index, 3)) (ha : h a = some (.inl (3, x))) (hdp : 1 ≤ dp) (hst : (st.map fun v => v.category).sum ≤ 8)
    (kk : xa_W G M dp kc ks (pc + 3) L (.ref G.2.2.2.2 :: st) h sz Q) : xa_W G M dp kc ks pc L (.ref a :: st) h sz Q := by
  intro p e R s m args below meth c H locs cells slots ls kT nT C h1 h2 h3 h4 hl hP hz hS
  have hpr := C.2.2.2.2.2.2.2.2.2.2.2.2.2
  have hK := C.2.2.2.2.2.2.2.2.2.1
  have hts := C.2.2.2.2.1
  have hf := C.2.2.2.2.2.2.2.2.2.2.1
  have hlo := C.2.2.2.2.2.2.2.2.2.2.2.1
  have hname := va_nmO (s := s) (C := "java/lang/Object") (nm := "[Ljava/lang/Object;") (hK.2 3 _ rfl).2 (by decide)
  refine va_getC C.1 C.2.1 (C.2.2.1.trans hl.1.symm) C.2.2.2.1 (hts _ hw) (va_Dc.use hpr.2.2.2.2.2.2.1) (hts _ hsel) (hts _ hinst) (hts _ hnat) hpr.2.2.2.2.2.2.2 ?_ (by omega) (by omega) hd (kk p e R s m args below meth c H locs cells slots ls kT nT C h1 h2 h3 h4 hl hP hz hS)
  obtain ⟨cell, g1, g2, -, -, g3⟩ := hP.arr ha
  refine ⟨cell, g1, ?_, ?_⟩
  · cases hv : cell.vm <;> first | rfl | (exact absurd hv (g3 _))
  · rw [hname, g2.resolve_right (fun q => by cases q.1)]
theorem xa_nn {z : Int32} (hz : ¬ z < 0) : z.toInt = (z.toNatClampNeg : Int) := by
  have hz0 : (0 : Int) ≤ z.toInt := by
    have := Int32.not_lt.mp hz
    simpa using Int32.le_iff_toInt_le.mp this
  show z.toInt = ((z.toInt.toNat : Nat) : Int)
  omega
theorem xw_copy {index a0 a n0 n1 : Nat} {f g : Nat → Option Nat} {sp tp n : Int32} (hw : Cond.methodLink M.1.cls index arraycopyName ∈ xv_T) (hnat : Cond.native arraycopyName ∈ xv_T) (hstat : Cond.static arraycopyName ∈ xv_T) (hini : Cond.initialized "java/lang/System" ∈ xv_T) (hd : decode M.2.1 pc = .ok (.invokestatic index, 3)) (ha0 : h a0 = some (.inl (3, (n0, .inr (.inr (.inr (.inr f))))))) (ha1 : h a = some (.inl (3, (n1, .inr (.inr (.inr (.inr g))))))) (h1 : ¬ sp < 0) (h2 : ¬ tp < 0) (h3 : ¬ n < 0) (h4 : sp.toNatClampNeg + n.toNatClampNeg ≤ n0) (h5 : tp.toNatClampNeg + n.toNatClampNeg ≤ n1)
    (hel : ∀ i : Nat, i < n.toNatClampNeg → ∀ y : Nat, f (sp.toNatClampNeg + i) = some y → ∃ ci fs, h y = some (.inr (ci, fs)) ∧ xa_A ci "java/lang/Object") (hB : G.2.2.1 ≤ a) (hdp : 1 ≤ dp) (hst : (st.map fun v => v.category).sum ≤ 8)
    (kk : xa_W G M dp kc ks (pc + 3) L st (xa_up h a (.inl (3, (n1, .inr (.inr (.inr (.inr (va_cpy f g sp.toNatClampNeg tp.toNatClampNeg n.toNatClampNeg)))))))) sz Q) : xa_W G M dp kc ks pc L (.int n :: .int tp :: .ref a :: .int sp :: .ref a0 :: st) h sz Q := by
  intro p e R s m args below meth c H locs cells slots ls kT nT C q1 q2 q3 q4 hl hP hz hS T hT X
  have hpr := C.2.2.2.2.2.2.2.2.2.2.2.2.2
  have hK := C.2.2.2.2.2.2.2.2.2.1
  have hts := C.2.2.2.2.1
  have hf := C.2.2.2.2.2.2.2.2.2.2.1
  have hlo := C.2.2.2.2.2.2.2.2.2.2.2.1
  obtain ⟨cell0, hc0, hcl0, hsl0, hvu0, hvs0⟩ := hP.arr ha0
  have hcl0 : cell0.cls = G.2.1.2 3 := hcl0.resolve_right (fun q => by cases q.1)
  have hsl0 : cell0.slots = (arrV (G.2.1.2 3) n0 (fun j => va_rf (f j))).slots := hsl0
  have hc1 : H[a]? = some (vp_cell (G.2.1.2 3) (n1, .inr (.inr (.inr (.inr g))))) := hP.own ha1 hB
  obtain ⟨-, k0, hk0, cm0, hkk0⟩ := (hK.2 3 _ rfl).1 n0 (fun j => va_rf (f j))
  obtain ⟨-, k1, hk1, cm1, hkk1⟩ := (hK.2 3 _ rfl).1 n1 (fun j => va_rf (g j))
  obtain ⟨vm', X', step⟩ := X.arraycopy C.1 C.2.2.2.1 (hts _ hw) (hts _ hnat) (hts _ hstat) (hts _ hini) (src := a0) (dst := a) (cs := cell0) (cd := vp_cell (G.2.1.2 3) (n1, .inr (.inr (.inr (.inr g))))) (srcPos := sp) (destPos := tp) (n := n) (by rw [hT]; exact hc0) (by rw [hT]; exact hc1)
    hvs0 (fun _ h => by cases h) hvu0 (fun h => by cases h) (by rw [hcl0]; exact hk0) hk1 hkk0 hkk1 rfl h1 h2 h3
    (by rw [xa_nn h1, xa_nn h3]; rw [hsl0]; show ¬ _ > ((arrV _ n0 (fun j => va_rf (f j))).slots.size : Int); rw [arrV_size]; omega)
    (by rw [xa_nn h2, xa_nn h3]; show ¬ _ > ((arrV _ n1 (fun j => va_rf (g j))).slots.size : Int); rw [arrV_size]; omega)
    (fun vm₁ hal i hi => by
      have e : cell0.slots.getD (sp.toNatClampNeg + i) .null = va_rf (f (sp.toNatClampNeg + i)) := by
        rw [hsl0]
        show (arrV (G.2.1.2 3) n0 (fun j => va_rf (f j))).slots.getD _ _ = _
        rw [Array.getD_eq_getD_getElem?, arrV_read _ _ (by omega)]
        rfl
      rw [e]
      cases hy : f (sp.toNatClampNeg + i) with
      | none => exact ⟨rfl, trivial⟩
      | some y =>
        obtain ⟨ci, fs, hyh, hA⟩ := hel i hi y hy
        obtain ⟨r', hr', cellV, g1, g2, g3, -⟩ := hP.obj hyh
        obtain ⟨kA, comp, r1, r2, r3, -⟩ := (hK.2 3 _ rfl).2
        cases hk1.symm.trans r1
        cases hkk1.symm.trans r2
        obtain ⟨kE, hkE, -⟩ := Vm.findClass_spec r3
        obtain ⟨hasg, kC, hkC⟩ := xa_asg hK hpr.2.2.2.1 hA r3
        obtain ⟨kC', hkC', -⟩ := hal.2.2 _ _ hkC
        obtain ⟨kE', hkE', -⟩ := hal.2.2 _ _ hkE
        refine ⟨rfl, cellV, (show T.heap[y]? = some cellV by rw [hT]; exact g1), (fun q h => by rw [g3] at h; cases h), ⟨kC', by rw [g2]; exact hkC'⟩, ?_, ?_⟩
        · exact ⟨kE', hkE'⟩
        · show vm₁.assignable _ _ = true
          rw [hal.assignable, g2]
          exact hasg)
    (g := F0 m pc ls (.int n :: .int tp :: .ref a :: .int sp :: .ref a0 :: st)) rfl (by show ls.size = _; rw [hl.1, C.2.2.1]) (rest := st) rfl (by rw [C.2.1]; exact hd) (by omega) (by
      show 2 * 0 + (st.map fun v => v.category).sum + _ ≤ _
      have hw9 : nativeFrameWords "java/lang/System" "arraycopy" 5 ≤ 40 := by decide
      omega)
  have e1 : copied (vp_cell (G.2.1.2 3) (n0, .inr (.inr (.inr (.inr f))))) (vp_cell (G.2.1.2 3) (n1, .inr (.inr (.inr (.inr g))))) sp tp n = vp_cell (G.2.1.2 3) (n1, .inr (.inr (.inr (.inr (va_cpy f g sp.toNatClampNeg tp.toNatClampNeg n.toNatClampNeg))))) := by
    rw [vp_cell_q, vp_cell_q, vp_cell_q]
    exact va_copied (fun z => va_rf z) _ _ f g h4
  have e0 : copied cell0 (vp_cell (G.2.1.2 3) (n1, .inr (.inr (.inr (.inr g))))) sp tp n = copied (vp_cell (G.2.1.2 3) (n0, .inr (.inr (.inr (.inr f))))) (vp_cell (G.2.1.2 3) (n1, .inr (.inr (.inr (.inr g))))) sp tp n := by
    have hs : cell0.slots = (vp_cell (G.2.1.2 3) (n0, .inr (.inr (.inr (.inr f))))).slots := hsl0
    unfold copied Cell.stretch
    rw [hs]
  rw [e0, e1] at X' step
  have hla : a < H.size := (Array.getElem?_eq_some_iff.mp hc1).1
  generalize hV : (.inr (.inr (.inr (.inr (va_cpy f g sp.toNatClampNeg tp.toNatClampNeg n.toNatClampNeg)))) : (Nat → Int32) ⊕ (Nat → Int64) ⊕ (Nat → UInt32) ⊕ (Nat → UInt64) ⊕ (Nat → Option Nat)) = V at X' step kk
  have hheap : ((T.setVm vm').setCell a (vp_cell (G.2.1.2 3) (n1, V))).heap = H.setIfInBounds a (vp_cell (G.2.1.2 3) (n1, V)) := by rw [← hT]; rfl
  have oq : ∀ q : Nat, q ≠ a → (H.setIfInBounds a (vp_cell (G.2.1.2 3) (n1, V)))[q]? = H[q]? := fun q hq => by simp [Array.getElem?_setIfInBounds, Ne.symm hq]
  obtain ⟨t, a1, b1⟩ := kk p e R s m args below meth c (H.setIfInBounds a (vp_cell (G.2.1.2 3) (n1, V))) _ cells slots ls kT nT C q1 q2 q3 q4 hl (hP.put (e := .inl (3, (n1, V))) (show (H.setIfInBounds a _)[a]? = some _ by simp [Array.getElem?_setIfInBounds, hla]) oq) (by simp; exact hz) ⟨by simp; exact hS.1, fun q g1 g2 => by
      rw [oq q (fun e => g2 (by rw [e]; exact hB))]
      exact hS.2.1 q g1 g2, fun q hq => by
      rcases List.mem_append.mp hq with h | h
      · exact hS.2.2 q h
      · obtain ⟨z, -, hz⟩ := List.mem_map.mp h
        rw [← hz]
        exact hB⟩ _ hheap X'
  exact ⟨t, step t a1, b1⟩
/-! references that are known not to be null, or null -/
theorem xw_aloadR_n {i : Fin 4} {a : Nat} (hd : decode M.2.1 pc = .ok (.aload_n i, 1)) (hi : L[(i : Nat)]? = some (some (.ref a))) (k : xa_W G M dp kc ks (pc + 1) L (.ref a :: st) h sz Q) : xa_W G M dp kc ks pc L st h sz Q := xw_aload_n (r := some a) hd hi k
theorem xw_aloadR {i : Nat} {a : Nat} (hd : decode M.2.1 pc = .ok (.aload i, 2)) (hi : L[i]? = some (some (.ref a))) (k : xa_W G M dp kc ks (pc + 2) L (.ref a :: st) h sz Q) : xa_W G M dp kc ks pc L st h sz Q := xw_aload (r := some a) hd hi k
theorem xw_astoreR_n {i : Fin 4} {a : Nat} (hd : decode M.2.1 pc = .ok (.astore_n i, 1)) (hn : (i : Nat) < M.2.2.1) (k : xa_W G M dp kc ks (pc + 1) (L.set i (some (.ref a))) st h sz Q) : xa_W G M dp kc ks pc L (.ref a :: st) h sz Q := xw_astore_n (r := some a) hd hn k
theorem xw_astoreR {i : Nat} {a : Nat} (hd : decode M.2.1 pc = .ok (.astore i, 2)) (hn : i < M.2.2.1) (k : xa_W G M dp kc ks (pc + 2) (L.set i (some (.ref a))) st h sz Q) : xa_W G M dp kc ks pc L (.ref a :: st) h sz Q := xw_astore (r := some a) hd hn k
theorem xw_aretR {rt : FieldType} {a : Nat} (hd : decode M.2.1 pc = .ok (.areturn, 1)) (hr : M.2.2.2.1 = some rt) (hrt : (∃ n, rt = .object n) ∨ ∃ t, rt = .array t) (hq : Q (.returned (some (.ref a))) h sz) : xa_W G M dp kc ks pc L [.ref a] h sz Q := xw_aret (r := some a) hd hr hrt hq
theorem xw_aretN {rt : FieldType} (hd : decode M.2.1 pc = .ok (.areturn, 1)) (hr : M.2.2.2.1 = some rt) (hrt : (∃ n, rt = .object n) ∨ ∃ t, rt = .array t) (hq : Q (.returned (some .null)) h sz) : xa_W G M dp kc ks pc L [.null] h sz Q := xw_aret (r := none) hd hr hrt hq
theorem xw_ifnullR {a : Nat} {off : Int} (hd : decode M.2.1 pc = .ok (.ifnull off, 3)) (k : xa_W G M dp kc ks (pc + 3) L st h sz Q) : xa_W G M dp kc ks pc L (.ref a :: st) h sz Q := xw_go (fun _ _ _ _ _ _ _ _ _ _ _ _ _ _ _ hx hb _ => lv_ifnull hx hb hd) k
theorem xw_ifnullN {off : Int} (tgt : Nat) (hd : decode M.2.1 pc = .ok (.ifnull off, 3)) (ht : (pc : Int) + off = (tgt : Int)) (k : xa_W G M dp kc ks tgt L st h sz Q) : xa_W G M dp kc ks pc L (.null :: st) h sz Q := xw_go (fun _ _ _ _ _ _ _ _ _ _ _ _ _ _ _ hx hb _ => lv_ifnullN hx hb hd ht) k
theorem xw_ifnonnullR {a : Nat} {off : Int} (tgt : Nat) (hd : decode M.2.1 pc = .ok (.ifnonnull off, 3)) (ht : (pc : Int) + off = (tgt : Int)) (k : xa_W G M dp kc ks tgt L st h sz Q) : xa_W G M dp kc ks pc L (.ref a :: st) h sz Q := xw_go (fun _ _ _ _ _ _ _ _ _ _ _ _ _ _ _ hx hb _ => lv_ifnonnull hx hb hd ht) k
theorem xw_ifnonnullN {off : Int} (hd : decode M.2.1 pc = .ok (.ifnonnull off, 3)) (k : xa_W G M dp kc ks (pc + 3) L st h sz Q) : xa_W G M dp kc ks pc L (.null :: st) h sz Q := xw_go (fun _ _ _ _ _ _ _ _ _ _ _ _ _ _ _ hx hb _ => lv_ifnonnullN hx hb hd) k
theorem xw_castN {index : Nat} (hd : decode M.2.1 pc = .ok (.checkcast index, 3)) (k : xa_W G M dp kc ks (pc + 3) L (.null :: st) h sz Q) : xa_W G M dp kc ks pc L (.null :: st) h sz Q := xw_go (fun _ _ _ _ _ _ _ _ _ _ _ _ _ _ _ hx hb _ => lv_castN hx hb hd) k
theorem xw_max {index : Nat} {x y : Int32} (hw : Cond.methodLink M.1.cls index Lib.Math.max.name ∈ xv_T) (hs : Cond.static Lib.Math.max.name ∈ xv_T) (hi : Cond.initialized "java/lang/Math" ∈ xv_T) (hc : Cond.code Lib.Math.max.name Lib.Math.max.code 2 (some .int) ∈ xv_T) (hd : decode M.2.1 pc = .ok (.invokestatic index, 3)) (hdp : 1 ≤ dp) (hst : (st.map fun v => v.category).sum ≤ 8) (kk : xa_W G M dp kc ks (pc + 3) L (.int (if x < y then y else x) :: st) h sz Q) : xa_W G M dp kc ks pc L (.int y :: .int x :: st) h sz Q := by
  intro p e R s m args below meth c H locs cells slots ls kT nT C h1 h2 h3 h4 hl hP hz hS
  have hts := C.2.2.2.2.1
  have hf := C.2.2.2.2.2.2.2.2.2.2.1
  have hlo := C.2.2.2.2.2.2.2.2.2.2.2.1
  exact va_mmax C.1 C.2.1 (C.2.2.1.trans hl.1.symm) C.2.2.2.1 (hts _ hw) (hts _ hs) (hts _ hi) (hts _ hc) (by omega) (by omega) (by omega) (by omega) hd (kk p e R s m args below meth c H locs cells slots ls kT nT C h1 h2 h3 h4 hl hP hz hS)
theorem xw_min {index : Nat} {x y : Int32} (hw : Cond.methodLink M.1.cls index Lib.Math.min.name ∈ xv_T) (hs : Cond.static Lib.Math.min.name ∈ xv_T) (hi : Cond.initialized "java/lang/Math" ∈ xv_T) (hc : Cond.code Lib.Math.min.name Lib.Math.min.code 2 (some .int) ∈ xv_T) (hd : decode M.2.1 pc = .ok (.invokestatic index, 3)) (hdp : 1 ≤ dp) (hst : (st.map fun v => v.category).sum ≤ 8) (kk : xa_W G M dp kc ks (pc + 3) L (.int (if y < x then y else x) :: st) h sz Q) : xa_W G M dp kc ks pc L (.int y :: .int x :: st) h sz Q := by
  intro p e R s m args below meth c H locs cells slots ls kT nT C h1 h2 h3 h4 hl hP hz hS
  have hts := C.2.2.2.2.1
  have hf := C.2.2.2.2.2.2.2.2.2.2.1
  have hlo := C.2.2.2.2.2.2.2.2.2.2.2.1
  exact va_mmin C.1 C.2.1 (C.2.2.1.trans hl.1.symm) C.2.2.2.1 (hts _ hw) (hts _ hs) (hts _ hi) (hts _ hc) (by omega) (by omega) (by omega) (by omega) hd (kk p e R s m args below meth c H locs cells slots ls kT nT C h1 h2 h3 h4 hl hP hz hS)
end XM
