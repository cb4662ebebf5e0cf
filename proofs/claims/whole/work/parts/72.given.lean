/-! what the statement gives of the start (by program: wip/whole/mk72.py) -/
theorem xv_U_src : ∀ w ∈ xv_U, w ∈ tables_1 ∨ w ∈ flatC (Cond.and given_1 narrow_1) := by decide +kernel
theorem xv_any {w : Cond} (hw : xv_cz w = true) {A A' : Array Value} {U : State} (h : w.before A U = true) : w.before A' U = true := by
  match w, hw with
  | .castable a b, _ => exact h
  | .not (.castable a b), _ => exact h
  | .arrayOver (.object C), _ => exact h
  | .declares x, _ => exact h
theorem xv_S_src : ∀ x ∈ xv_S, Cond.stringRef x.1 x.2.1 x.2.2 ∈ tables_1 ∧ Cond.exactly (.string x.1 x.2.1) "java/lang/String" ∈ flatC (Cond.and given_1 narrow_1) := by decide +kernel
theorem xa_szof {args : Array Value} {s : State} {C n d : String} {A : Nat → Prop} (hl : (Cond.laysStatic C n d).before args s = true) (hr : (Cond.isRef (.static C n d)).before args s = true) (hA : ∀ a : Nat, a < s.heap.size → ¬ A a) : xa_sz C n d A s := by
  obtain ⟨c, k, i, f, a, cell, h1, h2, h3, h4, h5, h6, h7, h8, h9⟩ := Cond.laysStatic_spec hl
  have hv : cell.slots[f.slot]? = some cell.slots[f.slot] := Array.getElem?_eq_getElem h8
  have e : (Term.static C n d).eval args s none [] s = some cell.slots[f.slot] := by simp [Term.eval, State.fieldNamed?, h2, h3, h4, h5, h6, hv]
  refine ⟨cell.slots[f.slot], c, k, i, f, a, cell, ?_, h1, h2, h3, h4, h5, h6, hv, h7, h9, hA a (Array.getElem?_eq_some_iff.mp h5).1⟩
  simp only [Cond.before, Cond.holds, Cond.value, e] at hr
  generalize cell.slots[f.slot] = v at hr
  cases v <;> first | rfl | (simp at hr)
theorem arr_of {s : State} {c : ClassId} {k : Class} {comp : ClassId} {ty : FieldType} (hk : s.vm.classes[c]? = some k) (hkind : k.kind = .array comp ty) : ArrOfT s c ty := fun _ _ => ⟨(fun _ q => by cases q), k, hk, comp, hkind⟩
theorem len_eval {t : Term} {args : Array Value} {s : State} {u : Nat} (h : t.eval args s none [] s = some (.ref u)) : (Term.length t).eval args s none [] s = (match s.arrayAt? u with
    | none => none
    | some c => if c.slots.size < 2 ^ 31 then some (.int c.slots.size.toInt32) else none) := by
  rw [Term.eval, h]
  show (do
    let c ← s.arrayAt? u
    if c.slots.size < 2 ^ 31 then Pure.pure (Value.int c.slots.size.toInt32) else none) = _
  cases s.arrayAt? u with
  | none => rfl
  | some c => rfl
theorem lw_given {s : State} {b n : Nat} {xs : Nat → Int32} (l : Launch) (hfl : l.flags = pinnedFlags ++ [noTraceFlag]) (ht : ∀ w ∈ tables_1, w.before #[Value.ref b] s = true) (hT : ∀ w ∈ xv_T, w.before #[Value.ref b] s = true) (hX : va_X b n xs s s.heap) (hgv : (Cond.and given_1 narrow_1).before #[Value.ref b] s = true) : ∃ (D : xa_D) (u mi : Nat), xa_K D s ∧ xa_pr (l, D, s.heap.size, u, mi) s ∧ ∃ (h : xa_H) (g : Nat → Option Nat), xa_P (l, D, s.heap.size, u, mi) h s.heap ∧ h b = some (.inl (0, (n, .inl xs))) ∧ h u = some (xr_q 3 0 g) ∧ u < s.heap.size := by
  have hs := flat_of_before _ hgv
  obtain ⟨scr, x1, ⟨x2a, kS, x2b, compS, x2c⟩, x3, x4, x5⟩ := hX
  -- the classes
  have hC : ∀ c : Nat, ∃ d : ClassId × (Nat → Nat), ∀ q, xv_c[c]? = some q → u_Kn s q.1 q.2.1 q.2.2 d.1 d.2 := by
    intro c
    by_cases hc : c < 15
    · rcases (show c = 0 ∨ c = 1 ∨ c = 2 ∨ c = 3 ∨ c = 4 ∨ c = 5 ∨ c = 6 ∨ c = 7 ∨ c = 8 ∨ c = 9 ∨ c = 10 ∨ c = 11 ∨ c = 12 ∨ c = 13 ∨ c = 14 by omega) with rfl | rfl | rfl | rfl | rfl | rfl | rfl | rfl | rfl | rfl | rfl | rfl | rfl | rfl | rfl
      · obtain ⟨cC, iS, hK⟩ := u_known (ws := xv_T) (C := "NotedVolume") (T := tx_0) (N := 7) hT ly_0 (ht (Cond.instantiable "NotedVolume" 7) (List.mem_of_getElem? (i := 34) (by decide +kernel)))
        exact ⟨(cC, iS), fun q hq => by cases hq; exact hK⟩
      · obtain ⟨cC, iS, hK⟩ := u_known (ws := xv_T) (C := "NotedVolume$Entry") (T := tx_1) (N := 5) hT ly_1 (ht (Cond.instantiable "NotedVolume$Entry" 5) (List.mem_of_getElem? (i := 365) (by decide +kernel)))
        exact ⟨(cC, iS), fun q hq => by cases hq; exact hK⟩
      · obtain ⟨cC, iS, hK⟩ := u_known (ws := xv_T) (C := "NotedVolume$FileTable") (T := tx_2) (N := 2) hT ly_2 (ht (Cond.instantiable "NotedVolume$FileTable" 2) (List.mem_of_getElem? (i := 42) (by decide +kernel)))
        exact ⟨(cC, iS), fun q hq => by cases hq; exact hK⟩
      · obtain ⟨cC, iS, hK⟩ := u_known (ws := xv_T) (C := "NotedVolume$Note") (T := tx_3) (N := 2) hT ly_3 (ht (Cond.instantiable "NotedVolume$Note" 2) (List.mem_of_getElem? (i := 401) (by decide +kernel)))
        exact ⟨(cC, iS), fun q hq => by cases hq; exact hK⟩
      · obtain ⟨cC, iS, hK⟩ := u_known (ws := xv_T) (C := "NotedVolume$Ring") (T := tx_4) (N := 2) hT ly_4 (ht (Cond.instantiable "NotedVolume$Ring" 2) (List.mem_of_getElem? (i := 81) (by decide +kernel)))
        exact ⟨(cC, iS), fun q hq => by cases hq; exact hK⟩
      · obtain ⟨cC, iS, hK⟩ := u_known (ws := xv_T) (C := "NotedVolume$Gathering") (T := tx_5) (N := 2) hT ly_5 (ht (Cond.instantiable "NotedVolume$Gathering" 2) (List.mem_of_getElem? (i := 271) (by decide +kernel)))
        exact ⟨(cC, iS), fun q hq => by cases hq; exact hK⟩
      · obtain ⟨cC, iS, hK⟩ := u_known (ws := xv_T) (C := "NotedVolume$Gatherings") (T := tx_6) (N := 1) hT ly_6 (ht (Cond.instantiable "NotedVolume$Gatherings" 1) (List.mem_of_getElem? (i := 96) (by decide +kernel)))
        exact ⟨(cC, iS), fun q hq => by cases hq; exact hK⟩
      · obtain ⟨cC, iS, hK⟩ := u_known (ws := xv_T) (C := "NotedVolume$Subscriber") (T := tx_7) (N := 6) hT ly_7 (ht (Cond.instantiable "NotedVolume$Subscriber" 6) (List.mem_of_getElem? (i := 109) (by decide +kernel)))
        exact ⟨(cC, iS), fun q hq => by cases hq; exact hK⟩
      · obtain ⟨cC, iS, hK⟩ := u_known (ws := xv_T) (C := "java/util/ArrayList") (T := tx_8) (N := 3) hT ly_8 (ht (Cond.instantiable "java/util/ArrayList" 3) (List.mem_of_getElem? (i := 48) (by decide +kernel)))
        exact ⟨(cC, iS), fun q hq => by cases hq; exact hK⟩
      · obtain ⟨cC, iS, hK⟩ := u_known (ws := xv_T) (C := "NotedVolumeModel") (T := tx_9) (N := 28) hT ly_9 (ht (Cond.instantiable "NotedVolumeModel" 28) (List.mem_of_getElem? (i := 1081) (by decide +kernel)))
        exact ⟨(cC, iS), fun q hq => by cases hq; exact hK⟩
      · obtain ⟨cC, iS, hK⟩ := u_known (ws := xv_T) (C := "java/lang/IllegalStateException") (T := tx_10) (N := 0) hT (fun w hw => by cases hw) (ht (Cond.instantiable "java/lang/IllegalStateException" 6) (List.mem_of_getElem? (i := 437) (by decide +kernel)))
        exact ⟨(cC, iS), fun q hq => by cases hq; exact hK⟩
      · obtain ⟨cC, iS, hK⟩ := u_known (ws := xv_T) (C := "java/lang/IllegalArgumentException") (T := tx_11) (N := 0) hT (fun w hw => by cases hw) (ht (Cond.instantiable "java/lang/IllegalArgumentException" 6) (List.mem_of_getElem? (i := 511) (by decide +kernel)))
        exact ⟨(cC, iS), fun q hq => by cases hq; exact hK⟩
      · obtain ⟨cC, iS, hK⟩ := u_known (ws := xv_T) (C := "java/util/NoSuchElementException") (T := tx_12) (N := 0) hT (fun w hw => by cases hw) (ht (Cond.instantiable "java/util/NoSuchElementException" 6) (List.mem_of_getElem? (i := 535) (by decide +kernel)))
        exact ⟨(cC, iS), fun q hq => by cases hq; exact hK⟩
      · obtain ⟨cC, iS, hK⟩ := u_known (ws := xv_T) (C := "java/lang/UnsupportedOperationException") (T := tx_13) (N := 0) hT (fun w hw => by cases hw) (ht (Cond.instantiable "java/lang/UnsupportedOperationException" 6) (List.mem_of_getElem? (i := 551) (by decide +kernel)))
        exact ⟨(cC, iS), fun q hq => by cases hq; exact hK⟩
      · obtain ⟨cC, iS, hK⟩ := u_known (ws := xv_T) (C := "java/lang/IndexOutOfBoundsException") (T := tx_14) (N := 0) hT (fun w hw => by cases hw) (ht (Cond.instantiable "java/lang/IndexOutOfBoundsException" 6) (List.mem_of_getElem? (i := 614) (by decide +kernel)))
        exact ⟨(cC, iS), fun q hq => by cases hq; exact hK⟩
    · exact ⟨(0, fun _ => 0), fun q hq => by
        have := (List.getElem?_eq_some_iff.mp hq).1
        exact absurd this hc⟩
  obtain ⟨D1, hD1⟩ := Classical.axiomOfChoice hC
  have hA : ∀ k : Nat, ∃ cA : ClassId, (∀ ty, xv_y[k]? = some ty → ArrOfT s cA ty ∧ va_RA s cA ty) ∧ (k = 10 → cA = scr.cls) := by
    intro k
    by_cases hk : k < 6
    · rcases (show k = 0 ∨ k = 1 ∨ k = 2 ∨ k = 3 ∨ k = 4 ∨ k = 5 by omega) with rfl | rfl | rfl | rfl | rfl | rfl
      · obtain ⟨cA, kA, comp, g1, g2, g3⟩ := Cond.arrayClass_spec (ht (Cond.arrayClass .int) (List.mem_of_getElem? (i := 140) (by decide +kernel)))
        exact ⟨cA, fun ty hty => by cases hty; exact ⟨arr_of g2 g3, g1⟩, fun q => by cases q⟩
      · obtain ⟨cA, kA, comp, g1, g2, g3⟩ := Cond.arrayClass_spec (ht (Cond.arrayClass .long) (List.mem_of_getElem? (i := 1387) (by decide +kernel)))
        exact ⟨cA, fun ty hty => by cases hty; exact ⟨arr_of g2 g3, g1⟩, fun q => by cases q⟩
      · obtain ⟨cA, kA, comp, g1, g2, g3⟩ := Cond.arrayClass_spec (ht (Cond.arrayClass .boolean) (List.mem_of_getElem? (i := 1171) (by decide +kernel)))
        exact ⟨cA, fun ty hty => by cases hty; exact ⟨arr_of g2 g3, g1⟩, fun q => by cases q⟩
      · obtain ⟨comp, cA, kA, g1, -, g2, g3, g4⟩ := Cond.arrayOver_spec (ht (Cond.arrayOver (.object "java/lang/Object")) (List.mem_of_getElem? (i := 340) (by decide +kernel)))
        exact ⟨cA, fun ty hty => by cases hty; exact ⟨arr_of g2 g3, kA, comp, g2, g3, g1, g4⟩, fun q => by cases q⟩
      · obtain ⟨comp, cA, kA, g1, -, g2, g3, g4⟩ := Cond.arrayOver_spec (ht (Cond.arrayOver (.object "NotedVolume$Note")) (List.mem_of_getElem? (i := 87) (by decide +kernel)))
        exact ⟨cA, fun ty hty => by cases hty; exact ⟨arr_of g2 g3, kA, comp, g2, g3, g1, g4⟩, fun q => by cases q⟩
      · obtain ⟨comp, cA, kA, g1, -, g2, g3, g4⟩ := Cond.arrayOver_spec (ht (Cond.arrayOver (.object "NotedVolume$Subscriber")) (List.mem_of_getElem? (i := 108) (by decide +kernel)))
        exact ⟨cA, fun ty hty => by cases hty; exact ⟨arr_of g2 g3, kA, comp, g2, g3, g1, g4⟩, fun q => by cases q⟩
    · exact ⟨scr.cls, fun ty hty => by
        have := (List.getElem?_eq_some_iff.mp hty).1
        exact absurd this hk, fun _ => rfl⟩
  obtain ⟨D2, hD2⟩ := Classical.axiomOfChoice hA
  have hK : xa_K ((fun c => (D1 c).1, fun c => (D1 c).2), D2) s := ⟨fun c q hq => hD1 c q hq, fun k ty hk => (hD2 k).1 ty hk⟩
  -- the empty array
  have hex : (Cond.exactly (.static "java/util/ArrayList" "DEFAULTCAPACITY_EMPTY_ELEMENTDATA" "[Ljava/lang/Object;") "[Ljava/lang/Object;").before #[Value.ref b] s = true := hs _ (by decide +kernel)
  have har : (Cond.arrayOf (.static "java/util/ArrayList" "DEFAULTCAPACITY_EMPTY_ELEMENTDATA" "[Ljava/lang/Object;") (.object "java/lang/Object")).before #[Value.ref b] s = true := hs _ (by decide +kernel)
  have hle : (Cond.eq (.length (.static "java/util/ArrayList" "DEFAULTCAPACITY_EMPTY_ELEMENTDATA" "[Ljava/lang/Object;")) (.int 0)).before #[Value.ref b] s = true := hs _ (by decide +kernel)
  obtain ⟨u, cU, cell, kU, u1, u2, u3, u4, u5, u6, -⟩ := Cond.exactly_spec hex
  have huv : cell.vm ≠ .unknown := by
    intro q
    simp only [Cond.before, Cond.holds, Cond.value, u1] at har
    split at har
    · cases har
    · simp [u3, q] at har
      rw [u6, u4] at har
      cases har
  have hus : ∀ k, cell.vm ≠ .statics k := fun k q => by
    rw [q] at u5
    cases u5
  obtain ⟨kA, comp, r1, r2, r3, r4⟩ := ((hD2 3).1 (.object "java/lang/Object") rfl).2
  have hcu : cell.cls = D2 3 := by
    rw [u6]
    have r4 : s.vm.findClass "[Ljava/lang/Object;" = some (D2 3) := r4
    exact Option.some.inj (u2.symm.trans r4)
  have hsz : cell.slots.size = 0 := by
    have hev := len_eval u1
    cases ha : s.arrayAt? u with
    | none =>
      exfalso
      rw [ha] at hev
      simp only [Cond.before, Cond.holds, Cond.value, hev] at hle
      cases hle
    | some c2 =>
      obtain ⟨hc2, -⟩ := State.arrayAt?_spec ha
      cases u3.symm.trans hc2
      rw [ha] at hev
      by_cases hlt : cell.slots.size < 2 ^ 31
      · have hev : (Term.length (.static "java/util/ArrayList" "DEFAULTCAPACITY_EMPTY_ELEMENTDATA" "[Ljava/lang/Object;")).eval #[Value.ref b] s none [] s = some (.int cell.slots.size.toInt32) := hev.trans (if_pos hlt)
        have hv := Cond.eq_ints hev (show (Term.int 0).eval #[Value.ref b] s none [] s = some (.int 0) from rfl)
        have h0 : cell.slots.size.toInt32 = 0 := by simpa [Cond.before, Cond.holds, hv] using hle
        exact (nI_eq (a := cell.slots.size) (b := 0) hlt (by decide)).mp h0
      · exfalso
        have hev : (Term.length (.static "java/util/ArrayList" "DEFAULTCAPACITY_EMPTY_ELEMENTDATA" "[Ljava/lang/Object;")).eval #[Value.ref b] s none [] s = none := hev.trans (if_neg hlt)
        simp only [Cond.before, Cond.holds, Cond.value, hev] at hle
        cases hle
  have hul : u < s.heap.size := (Array.getElem?_eq_some_iff.mp u3).1
  have hbl : b < s.heap.size := (Array.getElem?_eq_some_iff.mp x1).1
  have hbu : u ≠ b := fun q => by
    rw [q, x1] at u3
    cases u3
    rw [hcu, r1] at x2b
    cases x2b
    rw [r2] at x2c
    cases x2c
  have hslb : scr.slots = (vp_cell (D2 0) (n, .inl xs)).slots := by
    show scr.slots = (arrV (D2 0) n (fun j => .int (xs j))).slots
    refine Array.ext_getElem? (fun j => ?_)
    by_cases hj : j < n
    · rw [x5 j hj, arrV_read _ _ hj]
    · rw [Array.getElem?_eq_none (by omega), Array.getElem?_eq_none (by rw [arrV_size]; omega)]
  have hslu : cell.slots = (vp_cell (D2 3) (0, .inr (.inr (.inr (.inr (fun _ => none)))))).slots := by
    show cell.slots = (arrV (D2 3) 0 (fun j => va_rf none)).slots
    refine Array.ext_getElem? (fun j => ?_)
    rw [Array.getElem?_eq_none (by omega), Array.getElem?_eq_none (by rw [arrV_size]; omega)]
  obtain ⟨mi, hmi⟩ := va_Mi.of (hs (Cond.isRef (.mirror "[Ljava/lang/Object;")) (by decide +kernel))
  have hno : ∀ a : Nat, a < s.heap.size → ¬ s.heap.size ≤ a := fun a h1 h2 => by omega
  refine ⟨((fun c => (D1 c).1, fun c => (D1 c).2), D2), u, mi, hK, ⟨⟨hfl, ?_⟩, fun x hx => ?_, ?_, fun w hw => ?_, ?_, ?_, ?_, hmi⟩, (fun a => if a = b then some (.inl (0, (n, .inl xs))) else if a = u then some (xr_q 3 0 (fun _ => none)) else none), (fun _ => none), ⟨fun a e hae => ?_, fun q c hq hc => ?_⟩, if_pos rfl, ?_, hul⟩
  · show ArrOfT s (D2 10) .int
    rw [(hD2 10).2 rfl]
    exact arr_of x2b x2c
  · obtain ⟨g1, g2⟩ := xv_S_src x hx
    obtain ⟨q, -, -, -, g3, -⟩ := Cond.exactly_spec (hs _ g2)
    exact ⟨q, vk_R.of (ht _ g1) g3⟩
  · exact va_Zref (ht (Cond.laysStatic "java/util/ArrayList" "DEFAULTCAPACITY_EMPTY_ELEMENTDATA" "[Ljava/lang/Object;") (List.mem_of_getElem? (i := 60) (by decide +kernel))) (ht (Cond.initialized "java/util/ArrayList") (List.mem_of_getElem? (i := 5) (by decide +kernel))) u1 hno
  · rcases xv_U_src w hw with q | q
    · exact xv_any (xv_U_cz w hw) (ht w q)
    · exact xv_any (xv_U_cz w hw) (hs w q)
  · exact xa_szof (ht (Cond.laysStatic "java/lang/Throwable" "UNASSIGNED_STACK" "[Ljava/lang/StackTraceElement;") (List.mem_of_getElem? (i := 463) (by decide +kernel))) (hs (Cond.isRef (.static "java/lang/Throwable" "UNASSIGNED_STACK" "[Ljava/lang/StackTraceElement;")) (by decide +kernel)) hno
  · exact xa_szof (ht (Cond.laysStatic "java/lang/Throwable" "SUPPRESSED_SENTINEL" "Ljava/util/List;") (List.mem_of_getElem? (i := 465) (by decide +kernel))) (hs (Cond.isRef (.static "java/lang/Throwable" "SUPPRESSED_SENTINEL" "Ljava/util/List;")) (by decide +kernel)) hno
  · exact va_Dc.of (ht (Cond.declares ⟨"java/lang/Object", "getClass", "()Ljava/lang/Class;"⟩) (List.mem_of_getElem? (i := 1401) (by decide +kernel)))
  · right
    have hae : (if a = b then some (.inl (0, (n, .inl xs))) else if a = u then some (xr_q 3 0 (fun _ => none)) else none : Option xa_E) = some e := hae
    by_cases e1 : a = b
    · rw [if_pos e1] at hae
      cases hae
      subst e1
      exact ⟨hbl, 0, (n, .inl xs), scr, rfl, x1, Or.inr ⟨rfl, ((hD2 10).2 rfl).symm⟩, hslb, x3, x2a⟩
    · rw [if_neg e1] at hae
      by_cases e2 : a = u
      · rw [if_pos e2] at hae
        cases hae
        subst e2
        exact ⟨hul, 3, _, cell, rfl, u3, Or.inl hcu, hslu, huv, hus⟩
      · rw [if_neg e2] at hae
        cases hae
  · have := (Array.getElem?_eq_some_iff.mp hc).1
    exact absurd this (by
      have hq : s.heap.size ≤ q := hq
      omega)
  · show (if u = b then _ else if u = u then _ else _) = _
    rw [if_neg hbu, if_pos rfl]
