/-! a throw that is caught: the rows of the table are asked in their order; a class that a row names may be linked just then -/
def xa_asks (pl : Platform) (s₀ : State) (d : ClassId) (pc : Nat) (thrown : ClassId) (y : ExceptionTableEntry) (yes : Bool) : Prop := covers y pc = true ∧ y.catchType ≠ 0 ∧ ∃ c, s₀.vm.ClassLinks pl d y.catchType c ∧ s₀.vm.assignable thrown c = yes
theorem xa_ask1 {e : Env} {f : JFrame} {a : Addr} {s₀ S : State} {cell : Cell} {y : ExceptionTableEntry} {yes : Bool} (hW : s₀.WarmedH S.vm) (hcell : S.heap[a]? = some cell) (hobj : ∀ k, cell.vm ≠ .statics k) (hk0 : ∃ k, s₀.vm.classes[cell.cls]? = some k) (hy : xa_asks e.platform s₀ f.method.cls f.pc cell.cls y yes) :
    ∃ vm', s₀.WarmedH vm' ∧ ∀ (t : List ExceptionTableEntry) (Q : Handler → Pre) (E : CtlPost) (d : Bool) (acts : List Action), wp (findHandler.go f a (y :: t)) Q E e d acts S ↔ (if yes = true then Q (.found y.handlerPc) d acts (S.setVm vm') else wp (findHandler.go f a t) Q E e d acts (S.setVm vm')) := by
  obtain ⟨hcov, h0, c, hl, hfit⟩ := hy
  obtain ⟨k0, hk0⟩ := hk0
  obtain ⟨dk, _, _, kt, hd, _, _, _, _, hkt, _, hopen⟩ := hl.here
  have hl' := hW.classLinks hl
  have hW' : s₀.WarmedH (S.vm.noted f.method.cls y.catchType (.cls c)) := hW.noted hd hopen (State.rightAt_cls hl)
  obtain ⟨q1, q2⟩ := (resolveClass_links e.toSetting hl').op (op := VmOp.resolveClass f.method.cls y.catchType) rfl
  obtain ⟨k1, hk1, -⟩ := hW'.alike.2.2 _ _ hk0
  obtain ⟨k2, hk2, -⟩ := hW'.alike.2.2 _ _ hkt
  have hfit' : (S.vm.noted f.method.cls y.catchType (.cls c)).assignable cell.cls c = yes := by rw [hW'.alike.assignable]; exact hfit
  refine ⟨_, hW', fun t Q E d acts => ?_⟩
  simp only [covers] at hcov
  cases yes with
  | true => simp [findHandler.go, hcov, h0, q1, q2, hcell, hobj, hk1, hk2, hfit', VmOp.dirties, VmOp.acts]
  | false => simp [findHandler.go, hcov, h0, q1, q2, hcell, hobj, hk1, hk2, hfit', VmOp.dirties, VmOp.acts]
theorem xa_asked {e : Env} {f : JFrame} {a : Addr} {s₀ : State} {cell : Cell} (hobj : ∀ k, cell.vm ≠ .statics k) (hk0 : ∃ k, s₀.vm.classes[cell.cls]? = some k) (x : ExceptionTableEntry) (hx : xa_asks e.platform s₀ f.method.cls f.pc cell.cls x true) (t : List ExceptionTableEntry) :
    ∀ (pre : List ExceptionTableEntry) (S : State), s₀.WarmedH S.vm → S.heap[a]? = some cell → (∀ y ∈ pre, covers y f.pc = false ∨ xa_asks e.platform s₀ f.method.cls f.pc cell.cls y false) →
      ∃ vm', s₀.WarmedH vm' ∧ ∀ (Q : Handler → Pre) (E : CtlPost) (d : Bool) (acts : List Action), wp (findHandler.go f a (pre ++ x :: t)) Q E e d acts S ↔ Q (.found x.handlerPc) d acts (S.setVm vm') := by
  intro pre
  induction pre with
  | nil =>
    intro S hW hcell _
    obtain ⟨vm', hW', hq⟩ := xa_ask1 hW hcell hobj hk0 hx
    exact ⟨vm', hW', fun Q E d acts => by simpa using hq t Q E d acts⟩
  | cons y ys ih =>
    intro S hW hcell hpass
    have hrest : ∀ z ∈ ys, covers z f.pc = false ∨ xa_asks e.platform s₀ f.method.cls f.pc cell.cls z false := fun z hz => hpass z (List.mem_cons_of_mem _ hz)
    rcases hpass y List.mem_cons_self with hno | hy
    · obtain ⟨vm', hW', hq⟩ := ih S hW hcell hrest
      exact ⟨vm', hW', fun Q E d acts => by
        rw [List.cons_append, W.findHandler_go_skip hno]
        exact hq Q E d acts⟩
    · obtain ⟨vm1, hW1, hq1⟩ := xa_ask1 hW hcell hobj hk0 hy
      obtain ⟨vm', hW', hq⟩ := ih (S.setVm vm1) hW1 hcell hrest
      exact ⟨vm', hW', fun Q E d acts => by
        rw [List.cons_append, hq1]
        have h9 := hq Q E d acts
        rw [show (S.setVm vm1).setVm vm' = S.setVm vm' from rfl] at h9
        simpa using h9⟩
theorem xa_caught {p : Program} {l : Launch} {e : Env} {R : Room} {s : State} {m : MethodId} {args : Array Value} {below : List Frame} {meth : Method} {c : Code} {T : State} {locs : List Loc} {cells slots : Nat} (X : Stand p l e R s m args below meth c T locs cells slots) {a : Addr} {g : JFrame} (hg : g.method = m) {cell : Cell} (hcell : T.heap[a]? = some cell) (hobj : ∀ k, cell.vm ≠ .statics k) (hk0 : ∃ k, s.vm.classes[cell.cls]? = some k)
    (pre : List ExceptionTableEntry) (x : ExceptionTableEntry) (t : List ExceptionTableEntry) (hsplit : c.exceptionTable.toList = pre ++ x :: t) (hpass : ∀ y ∈ pre, covers y g.pc = false ∨ xa_asks e.platform s m.cls g.pc cell.cls y false) (hx : xa_asks e.platform s m.cls g.pc cell.cls x true) :
    ∃ vm', Stand p l e R s m args below meth c (T.setVm vm') locs cells slots ∧ ∀ target, Steps p.tables e below ((T.setVm vm').setTop { g with pc := x.handlerPc, stack := [.ref a] }) target → Steps p.tables e below ((T.setTop g).pushFrame (.throwing a)) target := by
  subst hg
  obtain ⟨vm', hW', hq⟩ := xa_asked (e := e) (f := g) (a := a) hobj hk0 x hx t pre ((T.setTop g).pushFrame (.throwing a)) (by rw [Stand.throwing_vm]; exact X.warmed) (by rw [Stand.throwing_heap]; exact hcell) hpass
  refine ⟨vm', X.noted hW', fun target hrest => ?_⟩
  have hA := X.here
  obtain ⟨hgo, hw⟩ := hA.throwing a
  refine Steps.head hgo hw ?_
  have hm : ((T.setTop g).pushFrame (.throwing a)).vm.method? g.method = some meth := by rw [Stand.throwing_vm]; exact X.method'
  have hfind : ∀ (Q : Handler → Pre) (E : CtlPost) (d : Bool) (acts : List Action), wp (findHandler g a) Q E e d acts ((T.setTop g).pushFrame (.throwing a)) ↔ Q (.found x.handlerPc) d acts (((T.setTop g).pushFrame (.throwing a)).setVm vm') := by
    intro Q E d acts
    rw [W.findHandler_eq hm X.code, hsplit]
    exact hq Q E d acts
  have hstep : (stepThrowing e ((T.setTop g).pushFrame (.throwing a)) a (.java g :: T.frames.tail)).1 = (((T.setTop g).pushFrame (.throwing a)).setVm vm').setFrames (.java { g with pc := x.handlerPc, stack := [.ref a] } :: T.frames.tail) := by
    simp only [stepThrowing, searchFrame, vmDo]
    generalize hr : Sem.go _ e false [] _ = res
    obtain ⟨as, rfl, ha⟩ := Sem.eq_ok_of hr (a := Handler.found x.handlerPc) (s' := ((T.setTop g).pushFrame (.throwing a)).setVm vm') (acts' := []) (by simp [hfind _ _ _ _])
    rfl
  rw [stepThread_throwing (frames_entered hA.top _), hstep]
  obtain ⟨g₀, hg0⟩ := Option.isSome_iff_exists.mp hA.top
  obtain ⟨r, hr⟩ := State.topJava?_eq_some.mp hg0
  have hr' : (T.setVm vm').frames = .java g₀ :: r := hr
  rw [State.setTop_of_frames _ hr'] at hrest
  have e1 : (((T.setTop g).pushFrame (.throwing a)).setVm vm').setFrames (.java { g with pc := x.handlerPc, stack := [.ref a] } :: T.frames.tail) = (T.setVm vm').setFrames (.java { g with pc := x.handlerPc, stack := [.ref a] } :: r) := by
    rw [hr, List.tail_cons, State.pushFrame, State.setTop_of_frames _ hr]
    show ((((T.setFrames _).setFrames _).setVm vm').setFrames _) = _
    rw [State.setFrames_setFrames]
    show (((T.setVm vm').setFrames _).setFrames _) = _
    rw [State.setFrames_setFrames]
  rw [e1]
  exact hrest
/-- how a row of the table takes or passes an exception of class number ci: by the words -/
def xa_row (own : String) (pc : Nat) (X : String) (q : Nat × Nat × Nat × Nat) (yes : Bool) : Prop := q.1 ≤ pc ∧ pc < q.2.1 ∧ q.2.2.2 ≠ 0 ∧ ∃ E, Cond.classLink own q.2.2.2 E ∈ xv_T ∧ (if yes = true then Cond.castable X E ∈ xv_U else Cond.not (Cond.castable X E) ∈ xv_U)
theorem xa_row.asks {own X : String} {pc ci : Nat} {q : Nat × Nat × Nat × Nat} {yes : Bool} (h : xa_row own pc X q yes) {G : xa_G} {e : Env} {s : State} {args : Array Value} {d : ClassId} (hpl : e.platform.magicAccessors = ({} : Platform).magicAccessors) (hown : s.vm.findClass own = some d) (hts : ∀ w ∈ xv_T, w.before args s = true) (hU : ∀ w ∈ xv_U, w.before #[] s = true) {F : u_T} {N : Nat} (hc : xv_c[ci]? = some (X, F, N)) (hK : xa_K G.2.1 s) {y : ExceptionTableEntry} (hy : (y.startPc, y.endPc, y.handlerPc, y.catchType) = q) : xa_asks e.platform s d pc (G.2.1.1.1 ci) y yes := by
  subst hy
  obtain ⟨h1, h2, h3, E, hlink, hcast⟩ := h
  obtain ⟨cE, hcE, hcl⟩ := Cond.classLink_spec hown (hts _ hlink) e.platform hpl
  have hX := (hK.1 ci _ hc).2.1
  refine ⟨by simp [covers, h1, h2], h3, cE, hcl, ?_⟩
  cases yes with
  | true =>
    rw [if_pos rfl] at hcast
    obtain ⟨c0, t0, f1, f2, f3⟩ := Cond.castable_spec (hU _ hcast)
    cases hX.symm.trans f1
    cases hcE.symm.trans f2
    exact f3
  | false =>
    rw [if_neg (by decide)] at hcast
    have hv := Cond.holds_not_iff.mp (hU _ hcast)
    simp only [Cond.value, hX, hcE] at hv
    exact Option.some.inj hv
/-- the exception is caught: by the row q, behind the rows pre that pass it -/
theorem xx_catch {G : xa_G} {M : xa_M} {dp kc ks pc ci x : Nat} {L : List (Option Value)} {st : List Value} {h : xa_H} {sz : Nat} {Q : Outcome → xa_H → Nat → Prop} {X : String} {F : u_T} {N : Nat} {fs : List Value} (pre : List (Nat × Nat × Nat × Nat)) (q : Nat × Nat × Nat × Nat) (post : List (Nat × Nat × Nat × Nat)) (hc : xv_c[ci]? = some (X, F, N)) (hx : h x = some (.inr (ci, fs))) (hsplit : M.2.2.2.2 = pre ++ q :: post) (hpre : ∀ y ∈ pre, xa_row M.1.cls pc X y false) (hqr : xa_row M.1.cls pc X q true)
    (k : xa_W G M dp kc ks q.2.2.1 L [.ref x] h sz Q) : xa_X G M dp kc ks pc L st x h sz Q := by
  intro p e R s m args below meth c H locs cells slots ls kT nT C h1 h2 h3 h4 hl hP hz hS T hT X0
  have C' := C
  obtain ⟨hx0, hb, hmL, hown, hts, hret, hlk, hnm, htb, hK, hf, hlo, hBs, hpr⟩ := C'
  have hpl : e.platform.magicAccessors = ({} : Platform).magicAccessors := by rw [X0.admits.platform]
  obtain ⟨r, hr, cell, g1, g2, g3, -⟩ := hP.obj hx
  have hkc : ∃ kx, s.vm.classes[cell.cls]? = some kx := by
    obtain ⟨-, kC, hkC, -⟩ := (hK.1 ci _ hc).2
    exact ⟨kC, by rw [g2]; exact hkC⟩
  have htb' : c.exceptionTable.toList.map (fun h => (h.startPc, h.endPc, h.handlerPc, h.catchType)) = pre ++ q :: post := by
    have := htb
    unfold xa_tb at this
    rw [this, hsplit]
  obtain ⟨l1, l2, e1, e2, e3⟩ := List.map_eq_append_iff.mp htb'
  obtain ⟨y, l3, e4, e5, e6⟩ := List.map_eq_cons_iff.mp e3
  obtain ⟨vm', X1, step⟩ := xa_caught X0 (a := x) (g := F0 m pc ls st) rfl (by rw [hT]; exact g1) (fun kk hk => by rw [g3] at hk; cases hk) hkc l1 y l3 (by rw [e1, e4]) (fun z hz' => Or.inr (by
    rw [g2]
    exact (hpre _ (by rw [← e2]; exact List.mem_map.mpr ⟨z, hz', rfl⟩)).asks hpl hown hts hpr.2.2.2.1 hc hK rfl)) (by
    rw [g2]
    exact hqr.asks hpl hown hts hpr.2.2.2.1 hc hK e5)
  have hy3 : y.handlerPc = q.2.2.1 := by rw [← e5]
  obtain ⟨t, a1, b1⟩ := k p e R s m args below meth c H locs cells slots ls kT nT C h1 h2 h3 h4 hl hP hz hS (T.setVm vm') hT X1
  refine ⟨t, step t ?_, b1⟩
  rw [hy3]
  exact a1
