/-! contracts, calls, throws -/
def xa_rm (dp kc ks : Nat) : Room := { frames := dp, cells := kc, slots := ks, locals := 128 * dp }
def xa_Pc (G : xa_G) (as : List Value) (h : xa_H) (sz : Nat) : Array Value → State → Prop := fun a U => a = as.toArray ∧ xa_P G h U.heap ∧ U.heap.size = sz ∧ xa_K G.2.1 U ∧ G.2.2.1 ≤ sz ∧ xa_pr G U
def xa_Qc (G : xa_G) (kc ks : Nat) (Q : Outcome → xa_H → Nat → Prop) : Array Value → State → Outcome → State → Prop := fun _ st o t => xa_R G Q st o t ∧ ∃ L, st.WarmedH t.vm ∧ st.sameButNew ({ t with vm := st.vm } : State) L kc ks ∧ ∀ q ∈ L, G.2.2.1 ≤ q.base
/-- the method M, called with 'as' on a heap that holds h, of size sz: it ends, and Q -/
def xa_T (G : xa_G) (M : xa_M) (dp kc ks : Nat) (as : List Value) (h : xa_H) (sz : Nat) (Q : Outcome → xa_H → Nat → Prop) : Prop :=
  MetFree G.1 M.1 (headSpec xv_T (xa_rm dp kc ks)) (xa_Pc G as h sz) (fun _ _ _ _ _ => True) (xa_Qc G kc ks Q)
/-- what the tables say of a method -/
def xa_O (M : xa_M) : Prop := plainName M.1.cls = true ∧ (Cond.codeWith M.1 M.2.1 M.2.2.1 M.2.2.2.1 M.2.2.2.2 ∈ xv_T ∨ (M.2.2.2.2 = [] ∧ Cond.code M.1 M.2.1 M.2.2.1 M.2.2.2.1 ∈ xv_T)) ∧ Cond.initialized M.1.cls ∈ xv_T ∧ M.1.cls ≠ "java/lang/invoke/MethodHandle" ∧ M.1.cls ≠ "java/lang/invoke/VarHandle"
theorem xa_O.spec {M : xa_M} (h : xa_O M) {args : Array Value} {s : State} (hts : ∀ w ∈ xv_T, w.before args s = true) {m : MethodId} (hn : s.methodNamed? M.1 = some m) : ∃ meth c, s.vm.method? m = some meth ∧ meth.code = some c ∧ c.code = M.2.1 ∧ c.maxLocals = M.2.2.1 ∧ meth.sig.returnType = M.2.2.2.1 ∧ meth.locks = false ∧ xa_tb c.exceptionTable = M.2.2.2.2 ∧ parseMethodDescriptor M.1.desc = some meth.sig := by
  have hw : (Cond.codeWith M.1 M.2.1 M.2.2.1 M.2.2.2.1 M.2.2.2.2).before args s = true := by
    rcases h.2.1 with h1 | ⟨h1, h2⟩
    · exact hts _ h1
    · have h3 := hts _ h2
      rw [h1]
      unfold Cond.before Cond.holds at h3 ⊢
      rw [← Cond.code_iff_codeWith_nil]
      exact h3
  obtain ⟨m', meth, c, hn', hm, hc, hb, hl, ht, hr, hk, hsig⟩ := Cond.codeWith_spec hw
  cases hn.symm.trans hn'
  exact ⟨meth, c, hm, hc, hb, hl, hr, hk, ht, hsig⟩
/-- words hold at every later state of a walk -/
theorem xa_words {args : Array Value} {s : State} (hts : ∀ w ∈ xv_T, w.before args s = true) (a' : Array Value) {U : State} (hW : s.WarmedH U.vm) : ∀ w ∈ xv_T, w.before a' U = true := fun w hw => word_at hW (xv_good w hw) (hts w hw)
theorem xt_of {G : xa_G} {M : xa_M} {dp kc ks : Nat} {as : List Value} {h : xa_H} {sz : Nat} {Q : Outcome → xa_H → Nat → Prop} (hO : xa_O M) (hcat : ∀ v ∈ as, v.category = 1) (hn : as.length ≤ M.2.2.1) (k : xa_W G M dp kc ks 0 (as.map some ++ List.replicate (M.2.2.1 - as.length) none) [] h sz Q) : xa_T G M dp kc ks as h sz Q := by
  refine MetFree.of_bodyS (code := M.2.1) (maxLocals := M.2.2.1) (ret := M.2.2.2.1) hO.1 ?_ ?_
  · intro args s m hp hn'
    obtain ⟨meth, c, h1, h2, h3, h4, h5, h6, -⟩ := hO.spec (atoms_spec (ws := xv_T) hp) hn'
    exact ⟨meth, c, h1, h2, h3, h4, h5, h6⟩
  · intro p e s m args below meth c s₁ B hml hP _
    obtain ⟨rfl, hPic, hsz, hK, hB, hpr⟩ := hP
    have hts := atoms_spec (ws := xv_T) B.pre
    obtain ⟨meth', c', g1, g2, g3, g4, g5, g6, g7, -⟩ := hO.spec hts B.named
    have X := Stand.of_body B
    have e1 : meth' = meth := Option.some.inj (g1.symm.trans B.method)
    subst e1
    have e2 : c' = c := Option.some.inj (g2.symm.trans X.code)
    subst e2
    have hh0 : s₁.heap = s.heap := by rw [B.state]; rfl
    have hlen : (lg_sl as).length ≤ M.2.2.1 := by rw [xa_sl_len as hcat]; exact hn
    have hl := lv_entry as hlen
    have hL : xa_L ((lg_sl as ++ List.replicate (M.2.2.1 - (lg_sl as).length) Slot.unset).toArray) M.2.2.1 (as.map some ++ List.replicate (M.2.2.1 - as.length) none) := by
      refine ⟨hl.1, hl.2.1, fun i v hi => ?_⟩
      by_cases hi2 : i < as.length
      · rw [List.getElem?_append_left (by simpa using hi2), List.getElem?_map] at hi
        obtain ⟨w, hw, hw2⟩ := Option.map_eq_some_iff.mp hi
        cases hw2
        have := xa_args_mem as 0 hcat i v hw
        rw [Nat.zero_add] at this
        exact ⟨hl.2.2 (i, v) this, hcat v (List.mem_of_getElem? hw)⟩
      · rw [List.getElem?_append_right (by simpa using Nat.not_lt.mp hi2), List.getElem?_replicate] at hi
        split at hi <;> cases hi
    obtain ⟨t, a1, o, b1, b2, b3, b4⟩ := k p e (headSpec xv_T (xa_rm dp kc ks)).room s m as.toArray below meth' c' s.heap [] 0 0 _ kc ks
      ⟨B.exec, B.bytes, hml, findClass_of_methodNamed B.named, hts, B.returns, B.notSynchronized, (name_of_methodNamed B.named B.method).1, g7, hK, Nat.le_refl _, Nat.le_refl _, by rw [hsz]; exact hB, hpr⟩
      (by omega) (by omega) (Nat.le_refl _) (Nat.le_refl _) hL hPic hsz va_S.rf s₁ hh0 X
    refine ⟨t, o, ?_, b1, b2, b3, b4⟩
    rw [lg_entry_eq]
    exact a1
/-- a call: the callee comes back, by a value or by a throw -/
theorem xa_comes {G : xa_G} {M : xa_M} {dp kc ks : Nat} {as : List Value} {h : xa_H} {sz : Nat} {Q : Outcome → xa_H → Nat → Prop} {p : Program} {e : Env} {R : Room} {s : State} {m : MethodId} {args : Array Value} {below : List Frame} {meth : Method} {c : Code} {U : State} {locs : List Loc} {cells slots : Nat}
    (hM : xa_T G M dp kc ks as h sz Q) (hO : xa_O M) (X : Stand p G.1 e R s m args below meth c U locs cells slots) (hts : ∀ w ∈ xv_T, w.before args s = true) {g : JFrame} (hg : g.method = m) (hsize : g.locals.size = c.maxLocals) {ig : Instr} (hdg : decode c.code g.pc = .ok (ig, 3))
    (hw : 2 * g.monitorRoom + (g.stack.map fun v => v.category).sum ≤ 8) {mk : MethodId} (hn : U.methodNamed? M.1 = some mk) (hfr : dp + 1 ≤ R.frames) (hlo : 8 + (M.2.2.1 + 11) + 128 * dp ≤ R.locals) (hc : cells + kc ≤ R.cells) (hs : slots + ks ≤ R.slots) (hP : xa_Pc G as h sz as.toArray U) :
    ∃ (o : Outcome) (T' : State) (L : List Loc) (h' : xa_H), Stand p G.1 e R s m args below meth c T' (locs ++ L) (cells + kc) (slots + ks) ∧ (∀ q ∈ L, G.2.2.1 ≤ q.base) ∧ Q o h' T'.heap.size ∧ xa_P G h' T'.heap ∧ U.heap.size ≤ T'.heap.size ∧ (∀ q, q < U.heap.size → ¬ G.2.2.1 ≤ q → T'.heap[q]? = U.heap[q]?) ∧
      Steps p.tables e below (doInvoke e (U.setTop g) [] mk as.toArray).1 (match o with
        | .returned v => T'.setTop { g with pc := g.pc + 3, stack := v.toList ++ g.stack }
        | .threw x => (T'.setTop g).pushFrame (.throwing x)) := by
  have hwU := xa_words hts as.toArray X.warmed
  obtain ⟨methY, cY, hmY, hcY, -, hlY, -⟩ := hO.spec hwU hn
  obtain ⟨kY, hkY, -⟩ := className_of_methodNamed hn
  have hinitY : kY.init = .initialized := Cond.initialized_spec (findClass_of_methodNamed hn) hkY (hwU _ hO.2.2.1)
  have hA : At U g.method c below := by rw [hg]; exact X.here
  have happ : (headSpec xv_T (xa_rm dp kc ks)).appliesLoose M.1 e.platform (U.calling g mk as.toArray) = true :=
    Spec.appliesLoose_calling (g := g) hA hdg hn hkY hinitY
      (X.room_calling (g := g) (R' := (headSpec xv_T (xa_rm dp kc ks)).room) hsize hmY hcY hfr (by rw [hlY]; show _ + _ + 128 * dp ≤ _; omega) hc hs) (atoms_intro hwU)
  obtain ⟨mid, hmid⟩ := hA.above
  have hfr' : (U.setTop g).frames = (.java g :: mid) ++ below := by rw [State.frames_setTop' g hA.top, hmid]; rfl
  have hPc : xa_Pc G as h sz as.toArray (U.calling g mk as.toArray) := by
    obtain ⟨q1, q2, q3, q4, q5, q6⟩ := hP
    exact ⟨q1, q2, q3, q4.moved (u := U) (U := U.calling g mk as.toArray) (Vm.Alike.refl U.vm), q5, xa_pr_calling q6⟩
  obtain ⟨o, s₂, hsteps, -, hend, hq⟩ := Steps.callFree hM p X.admits X.cas X.clock (acts := []) hfr' happ hPc trivial
  have hq' : xa_Qc G kc ks Q as.toArray (U.calling g mk as.toArray) o s₂ := hq
  rw [State.frames_setTop' g hA.top] at hend
  obtain ⟨⟨⟨h', hQ, hP'⟩, hF1, hF2⟩, L, hW₂, ⟨e2, q2, q3, q4, q5, q6⟩, hL⟩ := hq'
  have e3 : s₂ = ({ (U.calling g mk as.toArray).setFrames s₂.frames with heap := s₂.heap, slotsUsed := s₂.slotsUsed } : State).setVm s₂.vm := by
    have : s₂ = ({ s₂ with vm := (U.calling g mk as.toArray).vm } : State).setVm s₂.vm := rfl
    rw [e2] at this
    exact this
  have hW' : U.WarmedH s₂.vm := hW₂
  obtain ⟨g₀, hg0⟩ := Option.isSome_iff_exists.mp hA.top
  obtain ⟨r, hr⟩ := State.topJava?_eq_some.mp hg0
  have hr' : (({ U with heap := s₂.heap, slotsUsed := s₂.slotsUsed } : State).setVm s₂.vm).frames = .java g₀ :: r := hr
  have hsame : U.sameButNew ({ U with heap := s₂.heap, slotsUsed := s₂.slotsUsed } : State) L kc ks := by
    refine ⟨?_, q2, q3, q4, q5, q6⟩
    obtain ⟨t, ht, -⟩ := State.frames_cons hr
    show ({ U with heap := s₂.heap, slotsUsed := s₂.slotsUsed } : State) = { U.setFrames U.frames with heap := s₂.heap, slotsUsed := s₂.slotsUsed }
    rw [State.setFrames_self ht]
  refine ⟨o, (({ U with heap := s₂.heap, slotsUsed := s₂.slotsUsed } : State).setVm s₂.vm), L, h',
    ⟨X.admits, X.cas, X.clock, X.frames, X.room, X.hears, X.method, X.code, (X.here.setHeapUsed s₂.heap s₂.slotsUsed).setVm hW'.alike, X.tail, State.WarmedH.trans X.warmed hW', X.limits, X.bytes, X.same.trans (hsame.setVm s.vm)⟩,
    hL, hQ, hP', hF1, hF2, ?_⟩
  cases o with
  | returned v =>
    obtain ⟨c₂, i₂, len₂, hc₂, hd₂, hf₂⟩ := hend
    have hcc : c₂ = c := by
      have h1 : s₂.code? g.method = U.code? g.method := by
        rw [State.code?_eq, State.code?_eq, hW'.alike.method?]
      exact Option.some.inj (hc₂.symm.trans (h1.trans hA.code))
    subst hcc
    have hlen : len₂ = 3 := by rw [hdg] at hd₂; cases hd₂; rfl
    subst hlen
    have hs₂ : s₂ = (({ U with heap := s₂.heap, slotsUsed := s₂.slotsUsed } : State).setVm s₂.vm).setTop { g with pc := g.pc + 3, stack := v.toList ++ g.stack } := by
      refine e3.trans ?_
      rw [hf₂, State.calling_eq hA.top, State.setFrames_setFrames, State.setTop_of_frames _ hr', hr]
      rfl
    show Steps p.tables e below _ ((({ U with heap := s₂.heap, slotsUsed := s₂.slotsUsed } : State).setVm s₂.vm).setTop { g with pc := g.pc + 3, stack := v.toList ++ g.stack })
    rw [← hs₂]
    exact hsteps
  | threw x =>
    have hf₂ : s₂.frames = .throwing x :: .java g :: U.frames.tail := hend
    have hs₂ : s₂ = ((({ U with heap := s₂.heap, slotsUsed := s₂.slotsUsed } : State).setVm s₂.vm).setTop g).pushFrame (.throwing x) := by
      refine e3.trans ?_
      rw [hf₂, State.calling_eq hA.top, State.setFrames_setFrames, State.pushFrame, State.frames_setTop _ hr', State.setTop_of_frames _ hr', State.setFrames_setFrames, hr]
      rfl
    show Steps p.tables e below _ (((({ U with heap := s₂.heap, slotsUsed := s₂.slotsUsed } : State).setVm s₂.vm).setTop g).pushFrame (.throwing x))
    rw [← hs₂]
    exact hsteps
/-- the walk with an exception x on its way, thrown at pc -/
def xa_X (G : xa_G) (M : xa_M) (dp kc ks pc : Nat) (L : List (Option Value)) (st : List Value) (x : Nat) (h : xa_H) (sz : Nat) (Q : Outcome → xa_H → Nat → Prop) : Prop :=
  ∀ (p : Program) (e : Env) (R : Room) (s : State) (m : MethodId) (args : Array Value) (below : List Frame) (meth : Method) (c : Code) (H : Heap) (locs : List Loc) (cells slots : Nat) (ls : Array Slot) (kT nT : Nat),
    xa_C G M dp p e R s m args meth c → cells + kc ≤ kT → slots + ks ≤ nT → kT ≤ R.cells → nT ≤ R.slots → xa_L ls M.2.2.1 L → xa_P G h H → H.size = sz → va_S (fun q => G.2.2.1 ≤ q) s.heap H locs →
    ∀ T : State, T.heap = H → Stand p G.1 e R s m args below meth c T locs cells slots → ∃ t, Steps p.tables e below ((T.setTop (F0 m pc ls st)).pushFrame (.throwing x)) t ∧ xa_Q G s below kT nT Q t
def xa_out (M : xa_M) (pc : Nat) : Prop := M.2.2.2.2.all (fun q => !(decide (q.1 ≤ pc) && decide (pc < q.2.1))) = true
theorem xa_out.spec {M : xa_M} {pc : Nat} (h : xa_out M pc) {c : Code} (hc : xa_tb c.exceptionTable = M.2.2.2.2) : ∀ x ∈ c.exceptionTable.toList, covers x pc = false := by
  intro x hx
  unfold xa_out at h
  rw [← hc, List.all_eq_true] at h
  have := h _ (List.mem_map.mpr ⟨x, hx, rfl⟩)
  have h9 : ¬ (x.startPc ≤ pc ∧ pc < x.endPc) := by
    intro q
    simp [q.1, q.2] at this
  unfold covers
  rw [Bool.and_eq_false_iff, decide_eq_false_iff_not, decide_eq_false_iff_not]
  omega
theorem xx_out {G : xa_G} {M : xa_M} {dp kc ks pc : Nat} {L : List (Option Value)} {st : List Value} {x : Nat} {h : xa_H} {sz : Nat} {Q : Outcome → xa_H → Nat → Prop} (ho : xa_out M pc) (hq : Q (.threw x) h sz) : xa_X G M dp kc ks pc L st x h sz Q := by
  intro p e R s m args below meth c H locs cells slots ls kT nT C h1 h2 h3 h4 hl hP hz hS T hT X
  obtain ⟨st1, r1, r2, r3, r4⟩ := X.leaveThrown x (g := F0 m pc ls st) rfl rfl rfl (ho.spec C.2.2.2.2.2.2.2.2.1) C.2.2.2.2.2.2.1
  refine ⟨_, st1, .threw x, r1, r2, ⟨⟨h, ?_, ?_⟩, hS.F hT⟩, locs, r3, r4.mono (by omega) (by omega), hS.2.2⟩
  · show Q (.threw x) h T.heap.size
    rw [hT, hz]
    exact hq
  · show xa_P G h T.heap
    rw [hT]
    exact hP
/-- the step into a callee -/
def xa_inv (G : xa_G) (M M' : xa_M) (pc : Nat) (stk as rest : List Value) (h : xa_H) : Prop :=
  ∀ (p : Program) (e : Env) (R : Room) (s : State) (m : MethodId) (args : Array Value) (below : List Frame) (meth : Method) (c : Code) (H : Heap) (locs : List Loc) (cells slots : Nat) (ls : Array Slot),
    p.tables.exec = Jvm.exec → c.code = M.2.1 → s.vm.findClass M.1.cls = some m.cls → (∀ w ∈ xv_T, w.before args s = true) → xa_K G.2.1 s → xa_P G h H → ∀ T : State, T.heap = H → Stand p G.1 e R s m args below meth c T locs cells slots →
    (∃ ig, decode M.2.1 pc = .ok (ig, 3)) ∧ ∃ (vm₁ : Vm) (mk : MethodId), Stand p G.1 e R s m args below meth c (T.setVm vm₁) locs cells slots ∧ s.methodNamed? M'.1 = some mk ∧
      ∀ target, (∀ acts, Steps p.tables e below (doInvoke e ((T.setVm vm₁).setTop (F0 m pc ls rest)) acts mk as.toArray).1 target) → Steps p.tables e below (T.setTop (F0 m pc ls stk)) target
theorem xw_call {G : xa_G} {M M' : xa_M} {dp dp' kc ks kc' ks' pc : Nat} {L : List (Option Value)} {stk as rest : List Value} {h : xa_H} {sz : Nat} {Q Q' : Outcome → xa_H → Nat → Prop} (hI : xa_inv G M M' pc stk as rest h) (hT : xa_T G M' dp' kc' ks' as h sz Q') (hO : xa_O M') (hdp : dp' + 1 ≤ dp) (hml : M'.2.2.1 ≤ 100) (hst : (rest.map fun v => v.category).sum ≤ 8)
    (hret : ∀ v h' z, Q' (.returned v) h' z → xa_W G M dp kc ks (pc + 3) L (v.toList ++ rest) h' z Q) (hthr : ∀ x h' z, Q' (.threw x) h' z → xa_X G M dp kc ks pc L rest x h' z Q) : xa_W G M dp (kc + kc') (ks + ks') pc L stk h sz Q := by
  intro p e R s m args below meth c H locs cells slots ls kT nT C h1 h2 h3 h4 hl hP hz hS T hTH X
  have C' := C
  obtain ⟨hx, hb, hmL, hown, hts, -, -, -, -, hK, hf, hlo, hBs, hpr⟩ := C'
  obtain ⟨⟨ig, hdg⟩, vm₁, mk, X₁, hnm, step⟩ := hI p e R s m args below meth c H locs cells slots ls hx hb hown hts hK hP T hTH X
  have hPc : xa_Pc G as h sz as.toArray (T.setVm vm₁) := by
    refine ⟨rfl, ?_, ?_, hK.moved X₁.warmed.alike, ?_, hpr.to X₁.warmed ?_⟩
    · show xa_P G h T.heap
      rw [hTH]; exact hP
    · show T.heap.size = sz
      rw [hTH]; exact hz
    · have := hS.1
      omega
    · intro a ha hna
      show T.heap[a]? = _
      rw [hTH]
      exact hS.2.1 a ha hna
  obtain ⟨o, T', Lc, h', X', hL, hQ, hP', z1, z2, st2⟩ := xa_comes (g := F0 m pc ls rest) (ig := ig) hT hO X₁ hts rfl (hl.1.trans hmL.symm) (by rw [hb]; exact hdg) (by show 2 * 0 + (rest.map fun v => v.category).sum ≤ 8; omega) (X₁.named hnm) (by omega) (by omega) (by omega) (by omega) hPc
  have z1' : H.size ≤ T'.heap.size := by rw [← hTH]; exact z1
  have z2' : ∀ q, q < H.size → ¬ G.2.2.1 ≤ q → T'.heap[q]? = H[q]? := by rw [← hTH]; exact z2
  have hS' : va_S (fun q => G.2.2.1 ≤ q) s.heap T'.heap (locs ++ Lc) := by
    refine ⟨Nat.le_trans hS.1 z1', fun q g1 g2 => (z2' q (Nat.lt_of_lt_of_le g1 hS.1) g2).trans (hS.2.1 q g1 g2), fun q hq => ?_⟩
    rcases List.mem_append.mp hq with g | g
    · exact hS.2.2 q g
    · exact hL q g
  have hgo := step _ (fun acts => by rw [doInvoke_state]; exact st2)
  cases o with
  | returned v =>
    obtain ⟨t, a1, b1⟩ := hret v h' _ hQ p e R s m args below meth c T'.heap (locs ++ Lc) (cells + kc') (slots + ks') ls kT nT C (by omega) (by omega) h3 h4 hl hP' rfl hS' T' rfl X'
    exact ⟨t, hgo.trans a1, b1⟩
  | threw x =>
    obtain ⟨t, a1, b1⟩ := hthr x h' _ hQ p e R s m args below meth c T'.heap (locs ++ Lc) (cells + kc') (slots + ks') ls kT nT C (by omega) (by omega) h3 h4 hl hP' rfl hS' T' rfl X'
    exact ⟨t, hgo.trans a1, b1⟩
theorem xi_S {G : xa_G} {M M' : xa_M} {pc index n : Nat} {as rest : List Value} {h : xa_H} (hd : decode M.2.1 pc = .ok (.invokestatic index, 3)) (hO : xa_O M') (hl : Cond.methodLink M.1.cls index M'.1 ∈ xv_T) (hs : Cond.static M'.1 ∈ xv_T) (hn : (parseMethodDescriptor M'.1.desc).map (fun d => d.parameters.length) = some n) (ha : as.length = n) : xa_inv G M M' pc (as.reverse ++ rest) as rest h := by
  intro p e R s m args below meth c H locs cells slots ls hx hb hown hts hK hP T hT X
  obtain ⟨mk, hnm⟩ : ∃ mk, s.methodNamed? M'.1 = some mk := by
    rcases hO.2.1 with h1 | h1
    · obtain ⟨m', _, _, hn', -⟩ := Cond.codeWith_spec (hts _ h1)
      exact ⟨m', hn'⟩
    · exact Cond.code_named (hts _ h1.2)
  obtain ⟨methM, cM, hmM, -, -, -, -, -, -, hsig⟩ := hO.spec hts hnm
  obtain ⟨kP, hkP, -⟩ := className_of_methodNamed hnm
  have hinit : kP.init = .initialized := Cond.initialized_spec (findClass_of_methodNamed hnm) hkP (hts _ hO.2.2.1)
  have hst : methM.isStatic = true := Cond.static_spec hnm hmM (hts _ hs)
  have hlen : as.length = methM.sig.parameters.length := by
    rw [hsig] at hn
    rw [ha]
    exact (Option.some.inj hn).symm
  obtain ⟨vm₁, X₁, step⟩ := X.invokestatic hx hown (hts _ hl) hnm hmM hst hkP hinit hO.2.2.2 (g := F0 m pc ls (as.reverse ++ rest)) rfl (argsL := as) (rest := rest) hlen rfl (by rw [hb]; exact hd)
  exact ⟨⟨_, hd⟩, vm₁, mk, X₁, hnm, step⟩
theorem xi_V {G : xa_G} {M M' : xa_M} {pc index n b ci : Nat} {r : vw_C} {fs As rest : List Value} {h : xa_H} (hd : decode M.2.1 pc = .ok (.invokevirtual index, 3)) (hO : xa_O M') (hl : Cond.methodLink M.1.cls index M'.1 ∈ xv_T) (hi : Cond.instanceMethod M'.1 ∈ xv_T) (hc : xv_c[ci]? = some r) (hsel : Cond.selects r.1 M'.1 M'.1 ∈ xv_T) (hn : (parseMethodDescriptor M'.1.desc).map (fun d => d.parameters.length) = some n) (ha : As.length = n) (hb : h b = some (.inr (ci, fs))) : xa_inv G M M' pc (As.reverse ++ .ref b :: rest) (.ref b :: As) rest h := by
  intro p e R s m args below meth c H locs cells slots ls hx hbc hown hts hK hP T hT X
  obtain ⟨cellB, hcB, hobj, hcls⟩ := xa_recv hK hP hc hb
  obtain ⟨mk, methM, hnm, hmM, hstM, habM⟩ := Cond.instanceMethod_spec (hts _ hi)
  obtain ⟨methM', cM, hmM', -, -, -, -, -, -, hsig⟩ := hO.spec hts hnm
  cases hmM.symm.trans hmM'
  obtain ⟨c2, r2, m2, q1, q2, q3, q4, kP, hkP, hkPi⟩ := Cond.selects_spec (hts _ hsel)
  cases hcls.symm.trans q1
  cases (State.methodFound?_of_named hnm hO.2.2.2).symm.trans q2
  cases hnm.symm.trans q3
  have hselP : selectMethod e.platform s.vm cellB.cls mk = .method mk := by rw [Launch.admits_selectMethod X.admits]; exact q4
  have hlen : As.length = methM.sig.parameters.length := by
    rw [hsig] at hn
    rw [ha]
    exact (Option.some.inj hn).symm
  obtain ⟨vm₁, X₁, step⟩ := X.invokevirtual hx hown (hts _ hl) hnm hmM hstM hkP hkPi hO.2.2.2 (a := b) (cell := cellB) (by rw [hT]; exact hcB)
    (fun z hz => by rw [hz] at hobj; cases hobj) hselP hmM habM hkP hkPi (g := F0 m pc ls (As.reverse ++ .ref b :: rest)) rfl (argsL := As) (rest := rest) hlen rfl (by rw [hbc]; exact hd)
  exact ⟨⟨_, hd⟩, vm₁, mk, X₁, hnm, step⟩
theorem xi_I {G : xa_G} {M M' : xa_M} {pc index n b : Nat} {As rest : List Value} {h : xa_H} (hd : decode M.2.1 pc = .ok (.invokespecial index, 3)) (hO : xa_O M') (hy : M'.1.name = "<init>") (hcw : Cond.code M'.1 M'.2.1 M'.2.2.1 none ∈ xv_T) (hl : Cond.methodLink M.1.cls index M'.1 ∈ xv_T) (hi : Cond.instanceMethod M'.1 ∈ xv_T) (hn : (parseMethodDescriptor M'.1.desc).map (fun d => d.parameters.length) = some n) (ha : As.length = n) : xa_inv G M M' pc (As.reverse ++ .ref b :: rest) (.ref b :: As) rest h := by
  intro p e R s m args below meth c H locs cells slots ls hx hbc hown hts hK hP T hT X
  have hpl : e.platform.magicAccessors = ({} : Platform).magicAccessors := by rw [X.admits.platform]
  obtain ⟨mk, methM, cM, kP, vm₁, hnm, hmM, hcM, -, hlM, -, hkP, -, hW₁, step⟩ := Steps.initColdArgs (e := e) X.here hx X.warmed hpl hown hy hO.2.2.2 (hts _ hl) (hts _ hi) (hts _ hcw) (f := F0 m pc ls (As.reverse ++ .ref b :: rest)) rfl (a := b) (argsL := As) (rest := rest) (fun sig hs => by
    rw [hs] at hn
    rw [ha]
    exact (Option.some.inj hn).symm) rfl (by rw [hbc]; exact hd)
  exact ⟨⟨_, hd⟩, vm₁, mk, X.noted hW₁, hnm, step⟩
