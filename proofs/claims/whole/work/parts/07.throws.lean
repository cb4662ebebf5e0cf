/-! a walk begun anew at a state that it has come to -/
theorem xa_hears {s T : State} {m : MethodId} {fs below : List Frame} (hvm : s.vm.Alike T.vm) (h : s.hears m below = true) : (T.setFrames fs).hears m below = true := by
  cases below with
  | nil =>
    simp only [State.hears] at h ⊢
    show (T.vm.method? m).any _ = true
    rw [hvm.method?]
    exact h
  | cons f r =>
    cases f with
    | java g =>
      simp only [State.hears] at h ⊢
      have e1 : (T.setFrames fs).code? g.method = s.code? g.method := by
        rw [State.code?_eq, State.code?_eq]
        show (T.vm.method? _).bind _ = _
        rw [hvm.method?]
      rw [e1]
      exact h
    | native _ => rfl
    | proc _ => rfl
    | _ =>
      simp only [State.hears] at h ⊢
      show (T.vm.method? m).any _ = true
      rw [hvm.method?]
      exact h
theorem xa_rebase {p : Program} {l : Launch} {e : Env} {R : Room} {s : State} {m : MethodId} {args : Array Value} {below : List Frame} {meth : Method} {c : Code} {T : State} {locs : List Loc} {cells slots : Nat} (X : Stand p l e R s m args below meth c T locs cells slots) (hc : cells ≤ R.cells) (hs : slots ≤ R.slots) :
    Stand p l e { R with cells := R.cells - cells, slots := R.slots - slots } (T.setFrames (.invoking m args :: below)) m args below meth c T [] 0 0 := by
  obtain ⟨g₀, hfr⟩ := X.frames_eq
  have hcur : T.cur < T.threads.size := State.cur_lt_of_frames hfr
  have hF : (T.setFrames (.invoking m args :: below)).frames = .invoking m args :: below := State.frames_setFrames _ hcur
  have hm' : (T.setFrames (.invoking m args :: below)).vm.method? m = some meth := X.method'
  refine ⟨X.admits, X.cas, X.clock, hF, ?_, xa_hears X.warmed.alike X.hears, hm', X.code, X.here, X.tail, State.WarmedH.refl _, ?_, ?_, ?_⟩
  · have h := X.room
    simp only [State.hasRoom, Bool.and_eq_true, decide_eq_true_eq] at h ⊢
    obtain ⟨⟨⟨⟨r1, r2, r3, r4, r5, r6⟩, r7⟩, r8⟩, r9⟩ := h
    rw [State.localsInUse_invoking hF hm' X.code, State.stackLimits_setFrames, State.stackBytes_setFrames, hF, X.limits, X.bytes]
    rw [State.localsInUse_invoking X.frames X.method X.code] at r1 r4 r5
    rw [X.frames] at r2 r3
    have z1 := X.heapSize
    have z2 := X.used
    have z3 := X.book
    refine ⟨⟨⟨⟨r1, r2, r3, r4, r5, r6⟩, ?_⟩, ?_⟩, z3⟩
    · show T.heap.size + (R.cells - cells) ≤ _
      omega
    · show T.slotsUsed + (R.slots - slots) ≤ _
      omega
  · rw [State.stackLimits_setFrames]
  · rw [State.stackBytes_setFrames]
  · refine ⟨?_, Nat.le_refl _, Nat.le_refl _, ?_, ?_, fun a c h => ⟨c, h, rfl, rfl, fun _ _ => rfl⟩⟩
    · obtain ⟨t, ht, -⟩ := State.frames_cons hfr
      show T = { (T.setFrames (.invoking m args :: below)).setFrames T.frames with heap := T.heap, slotsUsed := T.slotsUsed }
      rw [State.setFrames_setFrames, State.setFrames_self ht]
    · show T.slotsUsed = T.slotsUsed + ((T.heap.toList.drop T.heap.size).map _).sum
      rw [List.drop_eq_nil_of_le (by simp)]
      rfl
    · show ((T.heap.toList.drop T.heap.size).map _).sum ≤ 0
      rw [List.drop_eq_nil_of_le (by simp)]
      exact Nat.le_refl _
theorem xa_rejoin {s T U : State} {m : MethodId} {args : Array Value} {below : List Frame} {locs L : List Loc} {cells slots k n : Nat} (h1 : s.sameButNew (T.setVm s.vm) locs cells slots) (h2 : (T.setFrames (.invoking m args :: below)).sameButNew ({ U with vm := (T.setFrames (.invoking m args :: below)).vm } : State) L k n) : s.sameButNew ({ U with vm := s.vm } : State) (locs ++ L) (cells + k) (slots + n) := by
  have h3 : (T.setVm s.vm).sameButNew ({ U with vm := s.vm } : State) L k n := by
    obtain ⟨q1, q2, q3, q4, q5, q6⟩ := h2
    refine ⟨?_, q2, q3, q4, q5, q6⟩
    have q7 : ({ U with vm := T.vm } : State) = { T.setFrames U.frames with heap := U.heap, slotsUsed := U.slotsUsed } := by
      refine Eq.trans q1 ?_
      rw [State.setFrames_setFrames]
      rfl
    have q8 := congrArg (fun z : State => { z with vm := s.vm }) q7
    exact q8
  exact h1.trans h3
/-- an exception is made with a text, and leaves the method: the constructor of its class names that of the class above by the entry ix -/
theorem xz_ctor {p : Program} {l : Launch} {e : Env} {R : Room} {s : State} {m₀ : MethodId} {args : Array Value} {below : List Frame} {meth : Method} {c : Code} {W : State} {locs : List Loc} {cells slots : Nat} (X : Stand p l e R s m₀ args below meth c W locs cells slots) (hexec : p.tables.exec = Jvm.exec) (htr : e.platform.stackTraces = false) {own cls : String} {names : List String} {ic ix : Nat} {rx : ByteArray}
    (xd : decode rx 0 = .ok (.aload_n 0, 1) ∧ decode rx 1 = .ok (.aload_n 1, 1) ∧ decode rx 2 = .ok (.invokespecial ix, 3) ∧ decode rx 5 = .ok (.return_, 1))
    (hown : s.vm.findClass own = some m₀.cls) (hcls : Bundle.fit cls = true) (hnames : ∀ n ∈ names, Bundle.fit n = true) (h : ∀ w ∈ Bundle.ownAtomsX own ic cls ix rx names, w.before args s = true) (hlocs : ∀ x ∈ locs, ∀ cell, s.heap[x.base]? = some cell → cell.vm.isStatics = false)
    {a : Addr} {cX : ClassId} {kX : Class} (hfX : s.vm.findClass cls = some cX) (hkX : s.vm.classes[cX]? = some kX) (hcell : W.heap[a]? = some (freshCell cX kX)) (hnew : s.heap.size ≤ a) {msg : Value} (hmsg : msg.isRef = true)
    {g : JFrame} (hg : g.method = m₀) (hsize : g.locals.size = c.maxLocals) (hlocked : g.locked = none) (hentered : g.entered = []) {rest : List Value} (hstack : g.stack = msg :: .ref a :: .ref a :: rest)
    (hd6 : decode c.code g.pc = .ok (.invokespecial ic, 3)) (hd9 : decode c.code (g.pc + 3) = .ok (.athrow, 1)) (hout : ∀ x ∈ c.exceptionTable.toList, covers x (g.pc + 3) = false) (hRf : names.length + 3 < R.frames) (hRl : 2 * g.monitorRoom + ((Value.ref a :: rest).map fun v => v.category).sum + (13 * (names.length + 1) + 42) ≤ R.locals) (hlk : meth.locks = false) :
    ∃ U : State, Steps p.tables e below (W.setTop g) U ∧ U.status = .running ∧ Ended U below (.threw a) ∧ s.WarmedH U.vm ∧ s.sameButNew ({ U with vm := s.vm } : State) locs cells slots ∧ ∃ ce : Cell, U.heap[a]? = some ce ∧ ce.cls = cX ∧ ce.vm = .none := by
  obtain ⟨x0, x1, x2, x5⟩ := xd
  have hpl : e.platform.magicAccessors = ({} : Platform).magicAccessors := by rw [X.admits.platform]
  have word : ∀ w, w ∈ Bundle.ownAtomsX own ic cls ix rx names → w.before args s = true := fun w hw => h w hw
  obtain ⟨T, Z0, L, _, Y⟩ := ThrowableC.of_atoms (args := args) (by rw [X.admits.platform]) (by rw [X.admits.platform]) hpl (fun w hw => word w (by simp [Bundle.ownAtomsX, hw]))
  obtain ⟨Z, M, LZ, LM, hZ⟩ := Init0T.ofS_atoms (args := args) hpl L Y (fun w hw => word w (by simp [Bundle.ownAtomsX, hw]))
  obtain ⟨P, Ps, hlen, LP, hLs, hPm, hup, hups⟩ := Bundle.chainSX (args := args) hpl hZ x0 x1 x2 x5 names cls hcls hnames (fun w hw => word w (by simp [Bundle.ownAtomsX, hw]))
  cases Option.some.inj (hfX.symm.trans (findClass_of_methodNamed hPm))
  obtain ⟨c1, k1, q1, q2, hord, -, -, -⟩ := Cond.instantiable_spec (word (.instantiable cls 6) (by simp [Bundle.ownAtomsX]))
  cases Option.some.inj (q1.symm.trans hfX)
  cases Option.some.inj (hkX.symm.trans q2)
  have sel : ∀ (y : MethodName) (mm : MethodId), Cond.selects cls y y ∈ Bundle.ownAtomsX own ic cls ix rx names → s.methodNamed? y = some mm → s.methodFound? y.cls y.name y.desc = some mm → selectMethod e.platform s.vm P.m.cls mm = .method mm := by
    intro y mm hy hn hf
    obtain ⟨c2, r2, m2, z1, z2, z3, z4, -⟩ := Cond.selects_spec (word _ hy)
    cases Option.some.inj (z1.symm.trans hfX)
    cases Option.some.inj (z2.symm.trans hf)
    cases Option.some.inj (z3.symm.trans hn)
    rw [Launch.admits_selectMethod X.admits]
    exact z4
  have s0 := sel Bundle.tFill0 T.fill0 (by simp [Bundle.ownAtomsX]) Y.fill0 (State.methodFound?_of_named Y.fill0 (by decide))
  have s1 := sel Bundle.tFill T.fill (by simp [Bundle.ownAtomsX]) Y.fill (State.methodFound?_of_named Y.fill (by decide))
  obtain ⟨cS, hcS, hSt⟩ := Y.statics
  obtain ⟨u0, hu0⟩ := Cond.staticRefV Y.unassigned L.unassignedStatic L.statics hcS hSt (word (.isRef (.static Bundle.tN "UNASSIGNED_STACK" Bundle.steD)) (by simp [Bundle.ownAtomsX]))
  obtain ⟨se, hse⟩ := Cond.staticRefV Y.sentinel L.sentinelStatic L.statics hcS hSt (word (.isRef (.static Bundle.tN "SUPPRESSED_SENTINEL" Bundle.listD)) (by simp [Bundle.ownAtomsX]))
  obtain ⟨b1, b2, fB, b3, b4, b5, b6, -, b7, b8, b9⟩ := Cond.ownField (t := .object "java/lang/Object") Y.found L.cls (by decide +kernel) (word (.fieldLink Bundle.tN 198 Bundle.tN "backtrace" "Ljava/lang/Object;") (by simp [Bundle.ownAtomsX])) (word (.lays Bundle.tN Bundle.tN "backtrace" "Ljava/lang/Object;") (by simp [Bundle.ownAtomsX])) e.platform hpl
  obtain ⟨cS', w1, w2, -, w3⟩ := X.same.2.2.2.2.2 T.aS cS hcS
  have w1 : W.heap[T.aS]? = some cS' := w1
  have apart : ∀ i, (⟨T.aS, i⟩ : Loc) ∉ locs := fun i hm => by
    have hh := hlocs _ hm cS hcS
    rw [hSt] at hh
    cases hh
  have known : cS'.vm ≠ .unknown := by
    intro hh
    rw [w2] at hh
    rw [show cS.vm = .unknown from hh] at hSt
    cases hSt
  have far : T.aS ≠ a := Nat.ne_of_lt (Nat.lt_of_lt_of_le (Array.getElem?_eq_some_iff.mp hcS).1 hnew)
  obtain ⟨iM, hM⟩ := Y.msg
  obtain ⟨tC, dC, hC, nC⟩ := Cond.laysAt hfX hkX Y.cause (word (.lays cls Bundle.tN "cause" "Ljava/lang/Throwable;") (by simp [Bundle.ownAtomsX]))
  obtain ⟨tS, dS, hS, nS⟩ := Cond.laysAt hfX hkX Y.stack (word (.lays cls Bundle.tN "stackTrace" Bundle.steD) (by simp [Bundle.ownAtomsX]))
  obtain ⟨tP, dP, hP, nP⟩ := Cond.laysAt hfX hkX Y.supp (word (.lays cls Bundle.tN "suppressedExceptions" Bundle.listD) (by simp [Bundle.ownAtomsX]))
  obtain ⟨tM, dM, hDM, nM⟩ := Cond.laysAt hfX hkX hM (word (.lays cls Bundle.tN "detailMessage" "Ljava/lang/String;") (by simp [Bundle.ownAtomsX]))
  obtain ⟨tB, dB, hDB, nB⟩ := Cond.laysAt hfX hkX b9 (word (.lays cls Bundle.tN "backtrace" "Ljava/lang/Object;") (by simp [Bundle.ownAtomsX]))
  have a1 := Cond.laysApart hDB hC nB nC (by rw [b7, Y.causeName]; decide)
  have a2 := Cond.laysApart hDB hS nB nS (by rw [b7, Y.stackName]; decide)
  have a3 := Cond.laysApart hDB hP nB nP (by rw [b7, Y.suppName]; decide)
  have skip : SkipFacts T e.platform s (fun u => u) u0 ((preparedCellV T.toThrowableT (freshCell P.m.cls kX) a u0 se).withEntry W.cur) :=
    ⟨{ ci198 := b1, i198 := b2, fBack := fB }, ⟨b3, b4, b5, b6⟩, by
      have hh := fresh_default (c := P.m.cls) tB
      rw [b8] at hh
      simpa [preparedCellV, Cell.setSlot, Cell.withEntry, Array.getElem?_setIfInBounds, a1, a2, a3, a1.symm, a2.symm, a3.symm, defaultValue] using hh, fun _ _ => rfl⟩
  obtain ⟨tm, _, _, _, vm1, hnC, -, -, -, -, -, -, -, hW1, st1⟩ := Steps.initColdS (tb := p.tables) (e := e) (below := below) (s := s) (U := W) X.here hexec X.warmed hpl hown (t := Bundle.initS cls) rfl rfl (Bundle.fit_spec hcls).2 (word (.methodLink own ic (Bundle.initS cls)) (by simp [Bundle.ownAtomsX])) (word (.instanceMethod (Bundle.initS cls)) (by cases names <;> simp [Bundle.ownAtomsX, Bundle.chainSAtomsX, Bundle.passSAtoms])) (bytes := rx) (maxL := 2) (word (.code (Bundle.initS cls) rx 2 none) (by cases names <;> simp [Bundle.ownAtomsX, Bundle.chainSAtomsX, Bundle.passSAtoms])) (f := g) hg (a := a) (msg := msg) (rest := .ref a :: rest) hstack hd6
  cases Option.some.inj (hnC.symm.trans hPm)
  obtain ⟨vm2, X2, st2⟩ := (X.noted hW1).ctorMessageOffV hexec (g := { g with stack := .ref a :: rest }) hg hsize T L Z LZ M LM (P :: Ps) (fun Q hQ => by
      rcases List.mem_cons.mp hQ with rfl | hQ
      · exact LP
      · exact hLs Q hQ) ⟨hup, hups⟩ (u0 := u0) (sen := se) (self := a) hmsg (cell := freshCell P.m.cls kX) (cellS := cS') hcell (fun _ => by simp) (by simp) rfl rfl s0 s1 w1 far known (by rw [w3 _ (apart _)]; exact hu0) (by rw [w3 _ (apart _)]; exact hse)
    (Takes.of_laid hkX hord tC (by rw [Y.causeType]; rfl)) (Takes.of_laid hkX hord tS (by rw [Y.stackType]; exact fits_refV_array _ u0)) (Takes.of_laid hkX hord tP (by rw [Y.suppType]; exact fits_refV_object _ se)) (Takes.of_laid hkX hord tM (by rw [Y.msgType]; exact fits_refV_object _ ⟨msg, hmsg⟩)) Y.objLocals skip htr [] hd6 (by simp only [List.length_cons, hlen]; omega) (by simp only [List.length_cons, hlen]; exact hRl)
  obtain ⟨r1, r2, r3, r4, r5⟩ := X2.athrowLeaves hexec (g := { g with stack := .ref a :: rest, pc := g.pc + 3 }) hg hlocked hentered hout (a := a) (rest := rest) rfl hd9
  have hlt : a < ((W.setVm vm1).setVm vm2).heap.size := (Array.getElem?_eq_some_iff.mp hcell).1
  refine ⟨_, st1 _ (fun acts => ?_), r2, r3, r4, r5.weaken (fun y hy hl => ?_) (Nat.le_refl _) (Nat.le_refl _), _, heapAt_setCell_self (s := (W.setVm vm1).setVm vm2) (plainBareV T.toThrowableT (freshCell P.m.cls kX) a u0 se msg) hlt, rfl, rfl⟩
  · rw [doInvoke_state]
    exact st2 _ r1
  · rcases List.mem_append.mp hy with hh | hh
    · exact hh
    · have hb : y.base = a := by
        simp only [List.mem_cons, List.not_mem_nil, or_false] at hh
        rcases hh with rfl | rfl | rfl | rfl | rfl <;> rfl
      rw [hb] at hl
      exact absurd hl (Nat.not_lt.mpr hnew)
/-- what the tables say of an exception's class X (number ci) and of its constructor, named by the entry ic of own's pool, the one above by ix -/
def xa_E0 (own : String) (ia ic ci : Nat) (X : String) (ix : Nat) (rx : ByteArray) (names : List String) : Prop := (∃ F, xv_c[ci]? = some (X, F, 0)) ∧ Bundle.fit X = true ∧ (∀ n ∈ names, Bundle.fit n = true) ∧ names.length ≤ 3 ∧ Cond.classLink own ia X ∈ xv_T ∧ Cond.instantiable X 6 ∈ xv_T ∧ Cond.initialized X ∈ xv_T ∧ (decode rx 0 = .ok (.aload_n 0, 1) ∧ decode rx 1 = .ok (.aload_n 1, 1) ∧ decode rx 2 = .ok (.invokespecial ix, 3) ∧ decode rx 5 = .ok (.return_, 1)) ∧
  ∀ w ∈ Bundle.ownAtomsX own ic X ix rx names, w ∈ xv_T ∨ (w ∈ xv_U ∧ w.onTables = true) ∨ w = Cond.isRef (.static "java/lang/Throwable" "UNASSIGNED_STACK" "[Ljava/lang/StackTraceElement;") ∨ w = Cond.isRef (.static "java/lang/Throwable" "SUPPRESSED_SENTINEL" "Ljava/util/List;") ∨ w = Cond.laysStatic "java/lang/Throwable" "UNASSIGNED_STACK" "[Ljava/lang/StackTraceElement;" ∨ w = Cond.laysStatic "java/lang/Throwable" "SUPPRESSED_SENTINEL" "Ljava/util/List;"
/-- a text from the pool, by the long form -/
theorem xz_ldcw {p : Program} {l : Launch} {e : Env} {R : Room} {s : State} {m : MethodId} {args : Array Value} {below : List Frame} {meth : Method} {c : Code} {H : Heap} {locs : List Loc} {cells slots : Nat} {Q : State → Prop} {cc : ByteArray} {pc : Nat} {ls : Array Slot} {rest : List Value} (hexec : p.tables.exec = Jvm.exec) (hb : c.code = cc) {own tx : String} {index q : Nat} (hown : s.vm.findClass own = some m.cls) (hZ : vk_R own index tx q s) (hdg : decode cc pc = .ok (.ldc_w index, 3))
    (k : W p l e R s m args below meth c H locs cells slots Q (F0 m (pc + 3) ls (.ref q :: rest))) : W p l e R s m args below meth c H locs cells slots Q (F0 m pc ls rest) := by
  intro T hT X
  obtain ⟨t, a1, b1⟩ := k T hT X
  refine ⟨t, ?_, b1⟩
  obtain ⟨k1, cf, i, a', hk, hcf, hcp, -, hr, hev⟩ := Cond.stringRef_spec (args := #[]) hown hZ.1
  cases hZ.2.symm.trans hev
  obtain ⟨k2, hk2, he⟩ := X.warmed.alike.2.2 _ _ hk
  have hr2 : k2.resolved[index]? = some (some (.string q)) := by
    rcases X.warmed.entry hk hk2 index with w | ⟨w, -⟩
    · rw [w]; exact hr
    · rw [hr] at w; cases w
  have hdg' : decode c.code (F0 m pc ls rest).pc = .ok (.ldc_w index, 3) := by rw [hb]; exact hdg
  jvm_step X.here [hexec, hdg', ldc_w.wp_string (e := e) (s := T) (f := F0 m pc ls rest) X.here.top hk2 (by rw [he]; exact hcf) hcp hr2]
  exact a1
set_option maxHeartbeats 4000000 in
/-- throw new X("..") : new, dup, ldc, invokespecial, athrow -/
theorem xw_throwG {G : xa_G} {M : xa_M} {dp kc ks pc ia ib ic ci ln : Nat} {L : List (Option Value)} {st : List Value} {h : xa_H} {sz : Nat} {Q : Outcome → xa_H → Nat → Prop} {X tx : String} {ix : Nat} {rx : ByteArray} {names : List String} (hE : xa_E0 M.1.cls ia ic ci X ix rx names)
    (hd0 : decode M.2.1 pc = .ok (.new ia, 3)) (hd3 : decode M.2.1 (pc + 3) = .ok (.dup, 1)) (hd4 : (ln = 2 ∧ decode M.2.1 (pc + 4) = .ok (.ldc ib, 2)) ∨ (ln = 3 ∧ decode M.2.1 (pc + 4) = .ok (.ldc_w ib, 3))) (hd6 : decode M.2.1 (pc + 4 + ln) = .ok (.invokespecial ic, 3)) (hd9 : decode M.2.1 (pc + 4 + ln + 3) = .ok (.athrow, 1)) (hstr : (M.1.cls, ib, tx) ∈ xv_S)
    (hdp : 8 ≤ dp) (hst : (st.map fun v => v.category).sum ≤ 8) (hout : xa_out M (pc + 4 + ln + 3)) (hq : Q (.threw sz) (xa_up h sz (.inr (ci, []))) (sz + 1)) : xa_W G M dp (kc + 1) (ks + 6) pc L st h sz Q := by
  obtain ⟨⟨F, hc⟩, hfit, hfits, hlen, hcl, hins, hini, hxd, hat⟩ := hE
  intro p e R s m args below meth c H locs cells slots ls kT nT C h1 h2 h3 h4 hl hP hz hS T hT X0
  obtain ⟨hx, hb, hmL, hown, hts, hret, hlk, hnm, htb, hK, hf, hlo, hBs, hpr⟩ := C
  have X' := xa_rebase X0 (by omega) (by omega)
  generalize hs' : T.setFrames (.invoking m args :: below) = s' at X'
  have hvm' : s'.vm = T.vm := by rw [← hs']; rfl
  have hhp' : s'.heap = H := by rw [← hs', ← hT]; rfl
  have hWs : s.WarmedH s'.vm := by rw [hvm']; exact X0.warmed
  have hts' := xa_words hts args (U := s') hWs
  have hpr' : xa_pr G s' := hpr.to hWs (fun a ha hna => by rw [hhp']; exact hS.2.1 a ha hna)
  have hK' : xa_K G.2.1 s' := hK.moved hWs.alike
  have hown' : s'.vm.findClass M.1.cls = some m.cls := by rw [hWs.alike.findClass]; exact hown
  obtain ⟨q, hq0⟩ := hpr'.2.1 _ hstr
  have hcls := (hK'.1 ci _ hc).2
  have z5 := hpr'.2.2.2.2.1
  have z6 := hpr'.2.2.2.2.2.1
  have hwords : ∀ w ∈ Bundle.ownAtomsX M.1.cls ic X ix rx names, w.before args s' = true := by
    intro w hw
    rcases hat w hw with g | g | g | g | g | g
    · exact hts' w g
    · exact va_Nw.use g.2 (hpr'.2.2.2.1 _ g.1)
    · rw [g]; exact z5.isRef args
    · rw [g]; exact z6.isRef args
    · rw [g]; exact z5.lays args
    · rw [g]; exact z6.lays args
  have htr : e.platform.stackTraces = false := Launch.traces_off hpr.1.1 X0.admits
  have key : W p G.1 e { R with cells := R.cells - cells, slots := R.slots - slots } s' m args below meth c H [] 0 0 (fun U => U.status = .running ∧ Ended U below (.threw sz) ∧ s'.WarmedH U.vm ∧ s'.sameButNew ({ U with vm := s'.vm } : State) [] 1 6 ∧ ∃ ce : Cell, U.heap[sz]? = some ce ∧ ce.cls = G.2.1.1.1 ci ∧ ce.vm = .none) (F0 m pc ls st) := by
    refine W.newcK (n := 6) hx hb hown' (hts' _ hcl) (hts' _ hins) (hts' _ hini) rfl hd0 (by show 0 + 1 ≤ R.cells - cells; omega) (by show 0 + 6 ≤ R.slots - slots; omega) hcls.1 hz fun H1 kC hkC e1 z1 o1 => ?_
    refine W.eq (g2 := F0 m (pc + 3) ls (.ref sz :: st)) rfl ?_
    refine lv_dup hx hb hd3 rfl ?_
    have fin : W p G.1 e { R with cells := R.cells - cells, slots := R.slots - slots } s' m args below meth c H1 [] (0 + 1) (0 + 6) (fun U => U.status = .running ∧ Ended U below (.threw sz) ∧ s'.WarmedH U.vm ∧ s'.sameButNew ({ U with vm := s'.vm } : State) [] 1 6 ∧ ∃ ce : Cell, U.heap[sz]? = some ce ∧ ce.cls = G.2.1.1.1 ci ∧ ce.vm = .none) (F0 m (pc + 3 + 1 + ln) ls (.ref q :: .ref sz :: .ref sz :: st)) := by
      intro T1 hT1 X1
      obtain ⟨U, g1, g2, g3, g4, g5, ce, g6, g7, g8⟩ := xz_ctor X1 hx htr hxd hown' hfit hfits hwords (fun y hy => by cases hy) hcls.1 hkC (a := sz) (by rw [hT1]; exact e1) (by rw [hhp', hz]; exact Nat.le_refl _) (msg := .ref q) rfl (g := F0 m (pc + 3 + 1 + ln) ls (.ref q :: .ref sz :: .ref sz :: st)) rfl (hl.1.trans hmL.symm) rfl rfl rfl (by rw [hb]; exact hd6) (by rw [hb]; exact hd9) (hout.spec htb) (by show names.length + 3 < R.frames; omega) (by
        show 2 * 0 + ((Value.ref sz :: st).map fun v => v.category).sum + (13 * (names.length + 1) + 42) ≤ R.locals
        have : ((Value.ref sz :: st).map fun v => v.category).sum = 1 + (st.map fun v => v.category).sum := by simp [Value.category]
        omega) hlk
      exact ⟨U, g1, g2, g3, g4, g5, ce, g6, g7, g8⟩
    rcases hd4 with ⟨rfl, hd4⟩ | ⟨rfl, hd4⟩
    · exact va_ldcS hx hb hown' hq0 hd4 fin
    · exact xz_ldcw hx hb hown' hq0 hd4 fin
  obtain ⟨U, st1, u1, u2, u3, u4, ce, u5, u6, u7⟩ := key T hT X'
  have hold : ∀ a, a < sz → U.heap[a]? = H[a]? := by
    intro a ha
    obtain ⟨-, -, -, -, -, w6⟩ := u4
    obtain ⟨cl, hcl'⟩ : ∃ cl, H[a]? = some cl := ⟨H[a]'(by omega), by simp [show a < H.size by omega]⟩
    obtain ⟨c', w1, w2, w3, w4⟩ := w6 a cl (by rw [hhp']; exact hcl')
    have w5 : c'.slots = cl.slots := by
      apply Array.ext_getElem?
      intro i
      exact w4 i (by simp)
    rw [hcl']
    show U.heap[a]? = some cl
    have w7 : U.heap[a]? = some c' := w1
    rw [w7, w2, w5]
  have hsz : U.heap.size = sz + 1 := by
    have w1 : U.heap.size ≤ s'.heap.size + 1 := u4.2.2.1
    have w2 := (Array.getElem?_eq_some_iff.mp u5).1
    rw [hhp'] at w1
    omega
  refine ⟨U, st1, .threw sz, u1, u2, ⟨⟨xa_up h sz (.inr (ci, [])), by rw [hsz]; exact hq, ?_⟩, ?_⟩, locs ++ [], ?_, ?_, ?_⟩
  · have hP0 : xa_P G h H := hP
    subst hz
    exact hP0.new (e := .inr (ci, [])) ⟨_, hc, ce, u5, u6, u7, fun k hk => absurd hk (Nat.not_lt_zero k)⟩ hold hsz
  · refine ⟨by have := hS.1; omega, fun a ha hna => ?_⟩
    have hle := hS.1
    rw [hold a (by omega)]
    exact hS.2.1 a ha hna
  · exact State.WarmedH.trans (X0.warmed) (by rw [← hs'] at u3; exact u3)
  · subst hs'
    exact (xa_rejoin X0.same u4).mono (by omega) (by omega)
  · intro y hy
    rw [List.append_nil] at hy
    exact hS.2.2 y hy
theorem xw_throw {G : xa_G} {M : xa_M} {dp kc ks pc ia ib ic ci : Nat} {L : List (Option Value)} {st : List Value} {h : xa_H} {sz : Nat} {Q : Outcome → xa_H → Nat → Prop} {X tx : String} {ix : Nat} {rx : ByteArray} {names : List String} (hE : xa_E0 M.1.cls ia ic ci X ix rx names)
    (hd0 : decode M.2.1 pc = .ok (.new ia, 3)) (hd3 : decode M.2.1 (pc + 3) = .ok (.dup, 1)) (hd4 : decode M.2.1 (pc + 4) = .ok (.ldc ib, 2)) (hd6 : decode M.2.1 (pc + 6) = .ok (.invokespecial ic, 3)) (hd9 : decode M.2.1 (pc + 9) = .ok (.athrow, 1)) (hstr : (M.1.cls, ib, tx) ∈ xv_S)
    (hdp : 8 ≤ dp) (hst : (st.map fun v => v.category).sum ≤ 8) (hout : xa_out M (pc + 9)) (hq : Q (.threw sz) (xa_up h sz (.inr (ci, []))) (sz + 1)) : xa_W G M dp (kc + 1) (ks + 6) pc L st h sz Q :=
  xw_throwG (ln := 2) hE hd0 hd3 (Or.inl ⟨rfl, hd4⟩) hd6 hd9 hstr hdp hst hout hq
theorem xw_throwW {G : xa_G} {M : xa_M} {dp kc ks pc ia ib ic ci : Nat} {L : List (Option Value)} {st : List Value} {h : xa_H} {sz : Nat} {Q : Outcome → xa_H → Nat → Prop} {X tx : String} {ix : Nat} {rx : ByteArray} {names : List String} (hE : xa_E0 M.1.cls ia ic ci X ix rx names)
    (hd0 : decode M.2.1 pc = .ok (.new ia, 3)) (hd3 : decode M.2.1 (pc + 3) = .ok (.dup, 1)) (hd4 : decode M.2.1 (pc + 4) = .ok (.ldc_w ib, 3)) (hd6 : decode M.2.1 (pc + 7) = .ok (.invokespecial ic, 3)) (hd9 : decode M.2.1 (pc + 10) = .ok (.athrow, 1)) (hstr : (M.1.cls, ib, tx) ∈ xv_S)
    (hdp : 8 ≤ dp) (hst : (st.map fun v => v.category).sum ≤ 8) (hout : xa_out M (pc + 10)) (hq : Q (.threw sz) (xa_up h sz (.inr (ci, []))) (sz + 1)) : xa_W G M dp (kc + 1) (ks + 6) pc L st h sz Q :=
  xw_throwG (ln := 3) hE hd0 hd3 (Or.inr ⟨rfl, hd4⟩) hd6 hd9 hstr hdp hst hout hq
