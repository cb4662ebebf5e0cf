/-! a walk begun anew at a state that it has come to -/
theorem xa_hears {s T : State} {m : MethodId} {fs below : List Frame} (hvm : s.vm.Alike T.vm) (h : s.hears m below = true) : (T.setFrames fs).hears m below = true := by
  cases below with
  | nil =>
    simp only [State.hears] at h ⊢
    show (T.vm.method? m).any _ = true
    rw [hvm.method?]
    exact h
  | cons f r =>
    cases f with
    | java g =>
      simp only [State.hears] at h ⊢
      have e1 : (T.setFrames fs).code? g.method = s.code? g.method := by
        rw [State.code?_eq, State.code?_eq]
        show (T.vm.method? _).bind _ = _
        rw [hvm.method?]
      rw [e1]
      exact h
    | native _ => rfl
    | proc _ => rfl
    | _ =>
      simp only [State.hears] at h ⊢
      show (T.vm.method? m).any _ = true
      rw [hvm.method?]
      exact h
theorem xa_rebase {p : Program} {l : Launch} {e : Env} {R : Room} {s : State} {m : MethodId} {args : Array Value} {below : List Frame} {meth : Method} {c : Code} {T : State} {locs : List Loc} {cells slots : Nat} (X : Stand p l e R s m args below meth c T locs cells slots) (hc : cells ≤ R.cells) (hs : slots ≤ R.slots) :
    Stand p l e { R with cells := R.cells - cells, slots := R.slots - slots } (T.setFrames (.invoking m args :: below)) m args below meth c T [] 0 0 := by
  obtain ⟨g₀, hfr⟩ := X.frames_eq
  have hcur : T.cur < T.threads.size := State.cur_lt_of_frames hfr
  have hF : (T.setFrames (.invoking m args :: below)).frames = .invoking m args :: below := State.frames_setFrames _ hcur
  have hm' : (T.setFrames (.invoking m args :: below)).vm.method? m = some meth := X.method'
  refine ⟨X.admits, X.cas, X.clock, hF, ?_, xa_hears X.warmed.alike X.hears, hm', X.code, X.here, X.tail, State.WarmedH.refl _, ?_, ?_, ?_⟩
  · have h := X.room
    simp only [State.hasRoom, Bool.and_eq_true, decide_eq_true_eq] at h ⊢
    obtain ⟨⟨⟨⟨r1, r2, r3, r4, r5, r6⟩, r7⟩, r8⟩, r9⟩ := h
    rw [State.localsInUse_invoking hF hm' X.code, State.stackLimits_setFrames, State.stackBytes_setFrames, hF, X.limits, X.bytes]
    rw [State.localsInUse_invoking X.frames X.method X.code] at r1 r4 r5
    rw [X.frames] at r2 r3
    have z1 := X.heapSize
    have z2 := X.used
    have z3 := X.book
    refine ⟨⟨⟨⟨r1, r2, r3, r4, r5, r6⟩, ?_⟩, ?_⟩, z3⟩
    · show T.heap.size + (R.cells - cells) ≤ _
      omega
    · show T.slotsUsed + (R.slots - slots) ≤ _
      omega
  · rw [State.stackLimits_setFrames]
  · rw [State.stackBytes_setFrames]
  · refine ⟨?_, Nat.le_refl _, Nat.le_refl _, ?_, ?_, fun a c h => ⟨c, h, rfl, rfl, fun _ _ => rfl⟩⟩
    · obtain ⟨t, ht, -⟩ := State.frames_cons hfr
      show T = { (T.setFrames (.invoking m args :: below)).setFrames T.frames with heap := T.heap, slotsUsed := T.slotsUsed }
      rw [State.setFrames_setFrames, State.setFrames_self ht]
    · show T.slotsUsed = T.slotsUsed + ((T.heap.toList.drop T.heap.size).map _).sum
      rw [List.drop_eq_nil_of_le (by simp)]
      rfl
    · show ((T.heap.toList.drop T.heap.size).map _).sum ≤ 0
      rw [List.drop_eq_nil_of_le (by simp)]
      exact Nat.le_refl _
theorem xa_rejoin {s T U : State} {m : MethodId} {args : Array Value} {below : List Frame} {locs L : List Loc} {cells slots k n : Nat} (h1 : s.sameButNew (T.setVm s.vm) locs cells slots) (h2 : (T.setFrames (.invoking m args :: below)).sameButNew ({ U with vm := (T.setFrames (.invoking m args :: below)).vm } : State) L k n) : s.sameButNew ({ U with vm := s.vm } : State) (locs ++ L) (cells + k) (slots + n) := by
  have h3 : (T.setVm s.vm).sameButNew ({ U with vm := s.vm } : State) L k n := by
    obtain ⟨q1, q2, q3, q4, q5, q6⟩ := h2
    refine ⟨?_, q2, q3, q4, q5, q6⟩
    have q7 : ({ U with vm := T.vm } : State) = { T.setFrames U.frames with heap := U.heap, slotsUsed := U.slotsUsed } := by
      refine Eq.trans q1 ?_
      rw [State.setFrames_setFrames]
      rfl
    have q8 := congrArg (fun z : State => { z with vm := s.vm }) q7
    exact q8
  exact h1.trans h3
theorem xa_zev {C n d : String} {v : Value} {A : Nat → Prop} {U : State} {args : Array Value} {o : Option Outcome} {idx : List Nat} (h : va_Z C n d v A U U.heap) : (Term.static C n d).eval args U o idx U = some v := by
  obtain ⟨cf, kf, fi, f, a, cell, h1, h2, h3, h4, h5, h6, h7, h8⟩ := h
  simp [Term.eval, State.fieldNamed?, h1, h2, h4, h5, h6, h7]
theorem xa_isRef {C n d : String} {v : Value} {A : Nat → Prop} {U : State} (args : Array Value) (hv : v.isRef = true) (h : va_Z C n d v A U U.heap) : (Cond.isRef (.static C n d)).before args U = true := by
  have e := xa_zev (args := args) (o := none) (idx := []) h
  simp only [Cond.before, Cond.holds, Cond.value, e]
  cases v <;> first | rfl | (simp [Value.isRef] at hv)
/-- what the tables say of an exception's class X (number ci) and of its constructor, named by the entry ic of own's pool -/
def xa_E0 (own : String) (ia ic ci : Nat) (X : String) (names : List String) : Prop := (∃ F, xv_c[ci]? = some (X, F, 0)) ∧ Bundle.fit X = true ∧ (∀ n ∈ names, Bundle.fit n = true) ∧ names.length ≤ 3 ∧ Cond.classLink own ia X ∈ xv_T ∧ Cond.instantiable X 6 ∈ xv_T ∧ Cond.initialized X ∈ xv_T ∧ Cond.castable X X ∈ xv_U ∧
  ∀ w ∈ Bundle.ownAtoms own ic X names, w ∈ xv_T ∨ w = Cond.castable X X ∨ w = Cond.isRef (.static "java/lang/Throwable" "UNASSIGNED_STACK" "[Ljava/lang/StackTraceElement;") ∨ w = Cond.isRef (.static "java/lang/Throwable" "SUPPRESSED_SENTINEL" "Ljava/util/List;")
set_option maxHeartbeats 4000000 in
/-- throw new X("..") : new, dup, ldc, invokespecial, athrow -/
theorem xw_throw {G : xa_G} {M : xa_M} {dp kc ks pc ia ib ic ci : Nat} {L : List (Option Value)} {st : List Value} {h : xa_H} {sz : Nat} {Q : Outcome → xa_H → Nat → Prop} {X tx : String} {names : List String} (hE : xa_E0 M.1.cls ia ic ci X names)
    (hd0 : decode M.2.1 pc = .ok (.new ia, 3)) (hd3 : decode M.2.1 (pc + 3) = .ok (.dup, 1)) (hd4 : decode M.2.1 (pc + 4) = .ok (.ldc ib, 2)) (hd6 : decode M.2.1 (pc + 6) = .ok (.invokespecial ic, 3)) (hd9 : decode M.2.1 (pc + 9) = .ok (.athrow, 1)) (hstr : (M.1.cls, ib, tx) ∈ xv_S)
    (hdp : 8 ≤ dp) (hst : (st.map fun v => v.category).sum ≤ 8) (hout : xa_out M (pc + 9)) (hq : Q (.threw sz) (xa_up h sz (.inr (ci, []))) (sz + 1)) : xa_W G M dp (kc + 1) (ks + 6) pc L st h sz Q := by
  obtain ⟨⟨F, hc⟩, hfit, hfits, hlen, hcl, hins, hini, hcast, hat⟩ := hE
  intro p e R s m args below meth c H locs cells slots ls kT nT C h1 h2 h3 h4 hl hP hz hS T hT X0
  obtain ⟨hx, hb, hmL, hown, hts, hret, hlk, hnm, htb, hK, hf, hlo, hBs, hpr⟩ := C
  have X' := xa_rebase X0 (by omega) (by omega)
  generalize hs' : T.setFrames (.invoking m args :: below) = s' at X'
  have hvm' : s'.vm = T.vm := by rw [← hs']; rfl
  have hhp' : s'.heap = H := by rw [← hs', ← hT]; rfl
  have hWs : s.WarmedH s'.vm := by rw [hvm']; exact X0.warmed
  have hts' := xa_words hts args (U := s') hWs
  have hpr' : xa_pr G s' := hpr.to hWs (fun a ha hna => by rw [hhp']; exact hS.2.1 a ha hna)
  have hK' : xa_K G.2.1 s' := hK.moved hWs.alike
  have hown' : s'.vm.findClass M.1.cls = some m.cls := by rw [hWs.alike.findClass]; exact hown
  obtain ⟨q, hq0⟩ := hpr'.2.1 _ hstr
  have hcls := (hK'.1 ci _ hc).2
  obtain ⟨v5, e5, z5⟩ := hpr'.2.2.2.2.1
  obtain ⟨v6, e6, z6⟩ := hpr'.2.2.2.2.2.1
  have hwords : ∀ w ∈ Bundle.ownAtoms M.1.cls ic X names, w.before args s' = true := by
    intro w hw
    rcases hat w hw with g | g | g | g
    · exact hts' w g
    · rw [g]; exact va_Nw.use rfl (hpr'.2.2.2.1 _ hcast)
    · rw [g]; exact xa_isRef args e5 z5
    · rw [g]; exact xa_isRef args e6 z6
  have htr : e.platform.stackTraces = false := Launch.traces_off hpr.1 X0.admits
  have key : W p G.1 e { R with cells := R.cells - cells, slots := R.slots - slots } s' m args below meth c H [] 0 0 (fun U => U.status = .running ∧ Ended U below (.threw sz) ∧ s'.WarmedH U.vm ∧ s'.sameButNew ({ U with vm := s'.vm } : State) [] 1 6 ∧ ∃ ce : Cell, U.heap[sz]? = some ce ∧ ce.cls = G.2.1.1.1 ci ∧ ce.vm = .none) (F0 m pc ls st) := by
    refine W.newcK (n := 6) hx hb hown' (hts' _ hcl) (hts' _ hins) (hts' _ hini) rfl hd0 (by show 0 + 1 ≤ R.cells - cells; omega) (by show 0 + 6 ≤ R.slots - slots; omega) hcls.1 hz fun H1 kC hkC e1 z1 o1 => ?_
    refine W.eq (g2 := F0 m (pc + 3) ls (.ref sz :: st)) rfl ?_
    refine lv_dup hx hb hd3 rfl ?_
    refine va_ldcS hx hb hown' hq0 hd4 ?_
    intro T1 hT1 X1
    obtain ⟨U, g1, g2, g3, g4, g5, ce, g6, g7⟩ := X1.ctorThrowS hx htr hown' hfit hfits hwords (fun y hy => by cases hy) hcls.1 hkC (a := sz) (by rw [hT1]; exact e1) (by rw [hhp', hz]; exact Nat.le_refl _) (msg := .ref q) rfl (g := F0 m (pc + 3 + 1 + 2) ls (.ref q :: .ref sz :: .ref sz :: st)) rfl (hl.1.trans hmL.symm) rfl rfl rfl (by rw [hb]; exact hd6) (by rw [hb]; exact hd9) (hout.spec htb) (by show names.length + 3 < R.frames; omega) (by
      show 2 * 0 + ((Value.ref sz :: st).map fun v => v.category).sum + (13 * (names.length + 1) + 42) ≤ R.locals
      have : ((Value.ref sz :: st).map fun v => v.category).sum = 1 + (st.map fun v => v.category).sum := by simp [Value.category]
      omega) hlk
    exact ⟨U, g1, g2, g3, g4, g5, ce, g6, Option.some.inj (g7.cls.symm.trans hcls.1), g7.vm⟩
  obtain ⟨U, st1, u1, u2, u3, u4, ce, u5, u6, u7⟩ := key T hT X'
  have hold : ∀ a, a < sz → U.heap[a]? = H[a]? := by
    intro a ha
    obtain ⟨-, -, -, -, -, w6⟩ := u4
    obtain ⟨cl, hcl'⟩ : ∃ cl, H[a]? = some cl := ⟨H[a]'(by omega), by simp [show a < H.size by omega]⟩
    obtain ⟨c', w1, w2, w3, w4⟩ := w6 a cl (by rw [hhp']; exact hcl')
    have w5 : c'.slots = cl.slots := by
      apply Array.ext_getElem?
      intro i
      exact w4 i (by simp)
    rw [hcl']
    show U.heap[a]? = some cl
    have w7 : U.heap[a]? = some c' := w1
    rw [w7, w2, w5]
  have hsz : U.heap.size = sz + 1 := by
    have w1 : U.heap.size ≤ s'.heap.size + 1 := u4.2.2.1
    have w2 := (Array.getElem?_eq_some_iff.mp u5).1
    rw [hhp'] at w1
    omega
  refine ⟨U, st1, .threw sz, u1, u2, ⟨⟨xa_up h sz (.inr (ci, [])), by rw [hsz]; exact hq, ?_⟩, ?_⟩, locs ++ [], ?_, ?_, ?_⟩
  · have hP0 : xa_P G h H := hP
    subst hz
    exact hP0.new (e := .inr (ci, [])) ⟨_, hc, ce, u5, u6, u7, fun k hk => absurd hk (Nat.not_lt_zero k)⟩ hold hsz
  · refine ⟨by have := hS.1; omega, fun a ha hna => ?_⟩
    have hle := hS.1
    rw [hold a (by omega)]
    exact hS.2.1 a ha hna
  · exact State.WarmedH.trans (X0.warmed) (by rw [← hs'] at u3; exact u3)
  · subst hs'
    exact (xa_rejoin X0.same u4).mono (by omega) (by omega)
  · intro y hy
    rw [List.append_nil] at hy
    exact hS.2.2 y hy
