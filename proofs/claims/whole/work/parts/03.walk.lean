/-! A layer over W: the heap as a function of addresses; one region [B, ..) that is the claim's own; budgets of cells and slots; a method may return or throw. -/
abbrev xa_D : Type := va_G × (Nat → ClassId)
abbrev xa_E : Type := (Nat × vp_A) ⊕ (Nat × List Value)
abbrev xa_H : Type := Nat → Option xa_E
abbrev xa_M : Type := MethodName × ByteArray × Nat × Option FieldType × List (Nat × Nat × Nat × Nat)
/-- the launch; class numbers; where the own region begins; the addresses of the empty array that lists begin with, and of the class object of arrays of objects -/
abbrev xa_G : Type := Launch × xa_D × Nat × Nat × Nat
def xa_at (D : xa_D) (a : Nat) (e : xa_E) (H : Heap) : Prop := match e with
  | .inl x => H[a]? = some (vp_cell (D.2 x.1) x.2)
  | .inr o => ∃ r : vw_C, xv_c[o.1]? = some r ∧ t_OB a (D.1.1 o.1) r.2.2 (D.1.2 o.1) H (vp_V o.2)
/-- an array that was there before: of its cell no more is known than that it is such an array -/
def xa_gv (G : xa_G) (a : Nat) (e : xa_E) (H : Heap) : Prop := a < G.2.2.1 ∧ ∃ (t : Nat) (x : vp_A) (cell : Cell), e = .inl (t, x) ∧ H[a]? = some cell ∧ (cell.cls = G.2.1.2 t ∨ (t = 0 ∧ cell.cls = G.2.1.2 10)) ∧ cell.slots = (vp_cell (G.2.1.2 t) x).slots ∧ cell.vm ≠ .unknown ∧ ∀ k, cell.vm ≠ .statics k
theorem xa_gv.kept {G : xa_G} {a : Nat} {e : xa_E} {H H1 : Heap} (h : xa_gv G a e H) (hq : H1[a]? = H[a]?) : xa_gv G a e H1 := by
  obtain ⟨h0, t, x, cell, h1, h2, h3⟩ := h
  exact ⟨h0, t, x, cell, h1, hq.trans h2, h3⟩
def xa_P (G : xa_G) (h : xa_H) (H : Heap) : Prop := (∀ (a : Nat) (e : xa_E), h a = some e → xa_at G.2.1 a e H ∨ xa_gv G a e H) ∧ ∀ (q : Nat) (cell : Cell), G.2.2.1 ≤ q → H[q]? = some cell → cell.vm.isStatics = false
def xa_K (D : xa_D) (U : State) : Prop := (∀ (c : Nat) (q : vw_C), xv_c[c]? = some q → u_Kn U q.1 q.2.1 q.2.2 (D.1.1 c) (D.1.2 c)) ∧ ∀ (k : Nat) (ty : FieldType), xv_y[k]? = some ty → ArrOfT U (D.2 k) ty ∧ va_RA U (D.2 k) ty
theorem xa_K.moved {D : xa_D} {u U : State} (hvm : u.vm.Alike U.vm) (h : xa_K D u) : xa_K D U := ⟨fun c q hq => u_Kn_moved hvm (h.1 c q hq), fun k ty hk => ⟨arrOfT_moved hvm (h.2 k ty hk).1, (h.2 k ty hk).2.moved hvm⟩⟩
def xa_up (h : xa_H) (a : Nat) (e : xa_E) : xa_H := fun b => if b = a then some e else h b
theorem xa_up_eq (h : xa_H) (a : Nat) (e : xa_E) : xa_up h a e a = some e := by simp [xa_up]
theorem xa_up_ne (h : xa_H) {a b : Nat} (e : xa_E) (hn : b ≠ a) : xa_up h a e b = h b := by simp [xa_up, hn]
theorem xa_at.kept {D : xa_D} {a : Nat} {e : xa_E} {H H1 : Heap} (h : xa_at D a e H) (hq : H1[a]? = H[a]?) : xa_at D a e H1 := by
  cases e with
  | inl x => exact hq.trans h
  | inr o =>
    obtain ⟨r, h1, h2⟩ := h
    exact ⟨r, h1, h2.kept hq⟩
theorem xa_at.lt {D : xa_D} {a : Nat} {e : xa_E} {H : Heap} (h : xa_at D a e H) : a < H.size := by
  cases e with
  | inl x => exact (Array.getElem?_eq_some_iff.mp h).1
  | inr o =>
    obtain ⟨r, h1, cell, h2, -⟩ := h
    exact (Array.getElem?_eq_some_iff.mp h2).1
theorem xa_at.cell {D : xa_D} {a : Nat} {e : xa_E} {H : Heap} (h : xa_at D a e H) : ∃ cell : Cell, H[a]? = some cell ∧ cell.vm = .none := by
  cases e with
  | inl x =>
    obtain ⟨t, n, f | f | f | f | f⟩ := x <;> exact ⟨_, h, rfl⟩
  | inr o =>
    obtain ⟨r, h1, cell, h2, h3, h4, -⟩ := h
    exact ⟨cell, h2, h4⟩
theorem xa_P.lt {G : xa_G} {h : xa_H} {H : Heap} (hP : xa_P G h H) {a : Nat} {e : xa_E} (ha : h a = some e) : a < H.size := by
  rcases hP.1 a e ha with q | ⟨-, t, x, cell, -, q, -⟩
  · exact q.lt
  · exact (Array.getElem?_eq_some_iff.mp q).1
theorem xa_P.own {G : xa_G} {h : xa_H} {H : Heap} (hP : xa_P G h H) {a : Nat} {e : xa_E} (ha : h a = some e) (hB : G.2.2.1 ≤ a) : xa_at G.2.1 a e H := (hP.1 a e ha).resolve_right (fun q => by have := q.1; omega)
theorem xa_P.obj {G : xa_G} {h : xa_H} {H : Heap} (hP : xa_P G h H) {a : Nat} {o : Nat × List Value} (ha : h a = some (.inr o)) : xa_at G.2.1 a (.inr o) H := (hP.1 a _ ha).resolve_right (fun ⟨_, _, _, _, q, _⟩ => by cases q)
/-- the cell of an array -/
theorem xa_P.arr {G : xa_G} {h : xa_H} {H : Heap} (hP : xa_P G h H) {a t : Nat} {x : vp_A} (ha : h a = some (.inl (t, x))) : ∃ cell : Cell, H[a]? = some cell ∧ (cell.cls = G.2.1.2 t ∨ (t = 0 ∧ cell.cls = G.2.1.2 10)) ∧ cell.slots = (vp_cell (G.2.1.2 t) x).slots ∧ cell.vm ≠ .unknown ∧ ∀ k, cell.vm ≠ .statics k := by
  rcases hP.1 a _ ha with q | ⟨-, t', x', cell, q, h2, h3⟩
  · obtain ⟨cell, g1, g2⟩ := q.cell
    have q : H[a]? = some (vp_cell (G.2.1.2 t) x) := q
    have e : cell = vp_cell (G.2.1.2 t) x := Option.some.inj (g1.symm.trans q)
    refine ⟨cell, g1, Or.inl ?_, by rw [e], by rw [g2]; exact fun w => (by cases w), fun k w => by rw [g2] at w; cases w⟩
    rw [e]
    obtain ⟨n, f | f | f | f | f⟩ := x <;> rfl
  · cases q
    exact ⟨cell, h2, h3⟩
theorem xa_P.put {G : xa_G} {h : xa_H} {H H1 : Heap} (hP : xa_P G h H) {a : Nat} {e : xa_E} (he : xa_at G.2.1 a e H1) (oq : ∀ q : Nat, q ≠ a → H1[q]? = H[q]?) : xa_P G (xa_up h a e) H1 := by
  refine ⟨?_, ?_⟩
  · intro b e' hb
    by_cases hba : b = a
    · subst hba
      rw [xa_up_eq] at hb
      cases hb
      exact Or.inl he
    · rw [xa_up_ne h e hba] at hb
      exact (hP.1 b e' hb).imp (fun w => w.kept (oq b hba)) (fun w => w.kept (oq b hba))
  · intro q cell hq hc
    by_cases hqa : q = a
    · subst hqa
      obtain ⟨cell', g1, g2⟩ := he.cell
      cases hc.symm.trans g1
      rw [g2]
      rfl
    · rw [oq q hqa] at hc
      exact hP.2 q cell hq hc
theorem xa_P.new {G : xa_G} {h : xa_H} {H H1 : Heap} (hP : xa_P G h H) {e : xa_E} (he : xa_at G.2.1 H.size e H1) (oq : ∀ q : Nat, q < H.size → H1[q]? = H[q]?) (hz : H1.size = H.size + 1) : xa_P G (xa_up h H.size e) H1 := by
  refine ⟨?_, ?_⟩
  · intro b e' hb
    by_cases hba : b = H.size
    · subst hba
      rw [xa_up_eq] at hb
      cases hb
      exact Or.inl he
    · rw [xa_up_ne h e hba] at hb
      exact (hP.1 b e' hb).imp (fun w => w.kept (oq b (hP.lt hb))) (fun w => w.kept (oq b (hP.lt hb)))
  · intro q cell hq hc
    by_cases hqa : q = H.size
    · subst hqa
      obtain ⟨cell', g1, g2⟩ := he.cell
      cases hc.symm.trans g1
      rw [g2]
      rfl
    · have hlt := (Array.getElem?_eq_some_iff.mp hc).1
      rw [oq q (by omega)] at hc
      exact hP.2 q cell hq hc
/-- locals by their place; values of one slot alone -/
def xa_L (ls : Array Slot) (n : Nat) (L : List (Option Value)) : Prop := ls.size = n ∧ lv_wf ls ∧ ∀ (i : Nat) (v : Value), L[i]? = some (some v) → ls[i]? = some (.val v) ∧ v.category = 1
def xa_prs (L : List (Option Value)) : List (Nat × Value) := (List.range L.length).filterMap (fun i => match L[i]? with
  | some (some v) => some (i, v)
  | _ => none)
theorem xa_prs_mem {L : List (Option Value)} {i : Nat} {v : Value} : (i, v) ∈ xa_prs L ↔ L[i]? = some (some v) := by
  unfold xa_prs
  rw [List.mem_filterMap]
  constructor
  · rintro ⟨j, -, hj⟩
    split at hj
    · rename_i w hw
      cases hj
      exact hw
    · cases hj
  · intro h
    refine ⟨i, List.mem_range.mpr (List.getElem?_eq_some_iff.mp h).1, ?_⟩
    rw [h]
theorem xa_L.has {ls : Array Slot} {n : Nat} {L : List (Option Value)} (h : xa_L ls n L) : lv_has ls n (xa_prs L) := ⟨h.1, h.2.1, fun q hq => (h.2.2 q.1 q.2 (xa_prs_mem.mp hq)).1⟩
theorem xa_L.at {ls : Array Slot} {n : Nat} {L : List (Option Value)} (h : xa_L ls n L) {i : Nat} {v : Value} (hi : L[i]? = some (some v)) : ls[i]? = some (.val v) := (h.2.2 i v hi).1
theorem xa_L.st {ls' : Array Slot} {n : Nat} {L : List (Option Value)} {ls : Array Slot} (h : xa_L ls n L) {i : Nat} {v : Value} (hc : v.category = 1) (h' : lv_has ls' n ((i, v) :: (xa_prs L).filter (fun q => !(q.1 == i) && !(q.1 + 1 == i && q.2.category == 2)))) : xa_L ls' n (L.set i (some v)) := by
  refine ⟨h'.1, h'.2.1, fun j w hj => ?_⟩
  by_cases hji : j = i
  · subst hji
    have hlt : j < L.length := by
      have := (List.getElem?_eq_some_iff.mp hj).1
      simpa using this
    rw [List.getElem?_set_self hlt] at hj
    cases hj
    exact ⟨h'.2.2 (j, v) List.mem_cons_self, hc⟩
  · rw [List.getElem?_set_ne (fun e => hji e.symm)] at hj
    have hw := h.2.2 j w hj
    refine ⟨h'.2.2 (j, w) (List.mem_cons_of_mem _ (List.mem_filter.mpr ⟨xa_prs_mem.mpr hj, ?_⟩)), hw.2⟩
    have h1 : (j == i) = false := by simpa using hji
    have h2 : (w.category == 2) = false := by rw [hw.2]; rfl
    simp [h1, h2]
theorem xa_args_mem : ∀ (as : List Value) (k : Nat), (∀ v ∈ as, v.category = 1) → ∀ (i : Nat) (v : Value), as[i]? = some v → (k + i, v) ∈ lv_args k as
  | [], _, _, i, v, h => by simp at h
  | a :: as, k, hc, i, v, h => by
    unfold lv_args
    have ha : a.category = 1 := hc a List.mem_cons_self
    rw [if_neg (by omega)]
    cases i with
    | zero =>
      simp at h
      subst h
      exact List.mem_cons_self
    | succ i =>
      simp at h
      have := xa_args_mem as (k + 1) (fun v hv => hc v (List.mem_cons_of_mem _ hv)) i v h
      rw [show k + (i + 1) = k + 1 + i by omega]
      exact List.mem_cons_of_mem _ this
theorem xa_sl_len : ∀ (as : List Value), (∀ v ∈ as, v.category = 1) → (lg_sl as).length = as.length
  | [], _ => rfl
  | a :: as, hc => by
    have ha : a.category = 1 := hc a List.mem_cons_self
    have ih := xa_sl_len as (fun v hv => hc v (List.mem_cons_of_mem _ hv))
    simp [lg_sl, ha] at ih ⊢
    omega
/-- the end of a walk -/
def xa_R (G : xa_G) (Q : Outcome → xa_H → Nat → Prop) (s : State) (o : Outcome) (t : State) : Prop := (∃ h, Q o h t.heap.size ∧ xa_P G h t.heap) ∧ va_F (fun q => G.2.2.1 ≤ q) s t
def xa_Q (G : xa_G) (s : State) (below : List Frame) (kc ks : Nat) (Q : Outcome → xa_H → Nat → Prop) : State → Prop := fun t =>
  ∃ o, t.status = .running ∧ Ended t below o ∧ xa_R G Q s o t ∧ ∃ L, s.WarmedH t.vm ∧ s.sameButNew ({ t with vm := s.vm } : State) L kc ks ∧ ∀ q ∈ L, G.2.2.1 ≤ q.base
def xa_tb (t : Array ExceptionTableEntry) : List (Nat × Nat × Nat × Nat) := t.toList.map fun h => (h.startPc, h.endPc, h.handlerPc, h.catchType)
/-- a static field of a reference type that nobody writes: how it lies -/
def xa_sz (C n d : String) (A : Nat → Prop) (U : State) : Prop := ∃ (v : Value) (c : ClassId) (k : Class) (i : Nat) (f : Field) (a : Nat) (cell : Cell), v.isRef = true ∧ U.vm.findClass C = some c ∧ U.fieldFound? C n d = some (c, k, i, f) ∧ f.isStatic = true ∧ k.statics = some a ∧ U.heap[a]? = some cell ∧ cell.vm.isStatics = true ∧ cell.slots[f.slot]? = some v ∧ cell.cls = c ∧ k.staticTypes[f.slot]? = some f.type ∧ ¬ A a
theorem xa_sz.to {C n d : String} {A : Nat → Prop} {s U : State} (h : xa_sz C n d A s) (hvm : s.vm.Alike U.vm) (hq : ∀ a : Nat, a < s.heap.size → ¬ A a → U.heap[a]? = s.heap[a]?) : xa_sz C n d A U := by
  obtain ⟨v, c, k, i, f, a, cell, h1, h2, h3, h4, h5, h6, h7, h8, h9, h10, h11⟩ := h
  obtain ⟨k', hi', he⟩ := State.fieldFound?_setVm hvm h3
  exact ⟨v, c, k', i, f, a, cell, h1, by rw [hvm.findClass]; exact h2, hi', h4, by rw [he]; exact h5, by rw [hq a (Array.getElem?_eq_some_iff.mp h6).1 h11]; exact h6, h7, h8, h9, by rw [he]; exact h10, h11⟩
theorem xa_sz.lays {C n d : String} {A : Nat → Prop} {U : State} (args : Array Value) (h : xa_sz C n d A U) : (Cond.laysStatic C n d).before args U = true := by
  obtain ⟨v, c, k, i, f, a, cell, h1, h2, h3, h4, h5, h6, h7, h8, h9, h10, h11⟩ := h
  have hlt : f.slot < cell.slots.size := (Array.getElem?_eq_some_iff.mp h8).1
  simp [Cond.before, Cond.holds, Cond.value, h2, h3, h4, h5, h6, h7, h9, h10, hlt]
theorem xa_sz.isRef {C n d : String} {A : Nat → Prop} {U : State} (args : Array Value) (h : xa_sz C n d A U) : (Cond.isRef (.static C n d)).before args U = true := by
  obtain ⟨v, c, k, i, f, a, cell, h1, h2, h3, h4, h5, h6, h7, h8, h9, h10, h11⟩ := h
  have e : (Term.static C n d).eval args U none [] U = some v := by simp [Term.eval, State.fieldNamed?, h3, h4, h5, h6, h7, h8]
  simp only [Cond.before, Cond.holds, Cond.value, e]
  cases v <;> first | rfl | (simp [Value.isRef] at h1)
/-- what the claim takes as given beside the tables' words: flags, texts, the empty array -/
def xa_pr (G : xa_G) (U : State) : Prop := (G.1.flags = pinnedFlags ++ [noTraceFlag] ∧ ArrOfT U (G.2.1.2 10) .int) ∧ (∀ x ∈ xv_S, ∃ q, vk_R x.1 x.2.1 x.2.2 q U) ∧ va_Z "java/util/ArrayList" "DEFAULTCAPACITY_EMPTY_ELEMENTDATA" "[Ljava/lang/Object;" (.ref G.2.2.2.1) (fun q => G.2.2.1 ≤ q) U U.heap ∧ (∀ w ∈ xv_U, w.before #[] U = true) ∧ xa_sz "java/lang/Throwable" "UNASSIGNED_STACK" "[Ljava/lang/StackTraceElement;" (fun q => G.2.2.1 ≤ q) U ∧ xa_sz "java/lang/Throwable" "SUPPRESSED_SENTINEL" "Ljava/util/List;" (fun q => G.2.2.1 ≤ q) U ∧ va_Dc U ∧ va_Mi "[Ljava/lang/Object;" G.2.2.2.2 U
theorem xa_pr.to {G : xa_G} {s U : State} (h : xa_pr G s) (hW : s.WarmedH U.vm) (hq : ∀ a : Nat, a < s.heap.size → ¬ G.2.2.1 ≤ a → U.heap[a]? = s.heap[a]?) : xa_pr G U := by
  obtain ⟨h1, h2, h3, h4, h5, h6, h7, h8⟩ := h
  refine ⟨⟨h1.1, arrOfT_moved hW.alike h1.2⟩, fun x hx => ?_, va_Z.moved hW.alike (h3.kept hq), fun w hw => xv_moved (xv_U_cz w hw) hW.alike (h4 w hw), h5.to hW.alike hq, h6.to hW.alike hq, h7.moved hW.alike, h8.moved hW.alike⟩
  obtain ⟨q, hq⟩ := h2 x hx
  exact ⟨q, hq.warm hW⟩
theorem xa_pr.same {G : xa_G} {u U : State} (hvm : U.vm = u.vm) (hh : U.heap = u.heap) (h : xa_pr G u) : xa_pr G U := by
  obtain ⟨h1, h2, h3, h4, h5, h6, h7, h8⟩ := h
  have hal : u.vm.Alike U.vm := by rw [hvm]; exact Vm.Alike.refl u.vm
  refine ⟨⟨h1.1, arrOfT_moved hal h1.2⟩, fun x hx => ?_, ?_, fun w hw => xv_moved (xv_U_cz w hw) hal (h4 w hw), h5.to hal (fun a _ _ => by rw [hh]), h6.to hal (fun a _ _ => by rw [hh]), h7.moved hal, h8.moved hal⟩
  · obtain ⟨q, hq⟩ := h2 x hx
    exact ⟨q, vk_R.same hvm hq⟩
  · rw [hh]; exact va_Z.moved hal h3
theorem xa_pr_calling {G : xa_G} {U : State} {g : JFrame} {mk : MethodId} {a : Array Value} (h : xa_pr G U) : xa_pr G (U.calling g mk a) := xa_pr.same (u := U) (U := U.calling g mk a) rfl rfl h
theorem xa_isA {G : xa_G} {U : State} {t : Nat} {ty : FieldType} {cell : Cell} (hK : xa_K G.2.1 U) (hpr : xa_pr G U) (ht : xv_y[t]? = some ty) (hc : cell.cls = G.2.1.2 t ∨ (t = 0 ∧ cell.cls = G.2.1.2 10)) (hv : ∀ k, cell.vm ≠ .statics k) : U.isArrayOf cell ty := by
  rcases hc with hc | ⟨rfl, hc⟩
  · obtain ⟨-, k, h1, h2⟩ := (hK.2 t ty ht).1 0 (fun _ => .null)
    exact ⟨hv, k, by rw [hc]; exact h1, h2⟩
  · have ht : some FieldType.int = some ty := ht
    cases ht
    obtain ⟨-, k, h1, h2⟩ := hpr.1.2 0 (fun _ => .null)
    exact ⟨hv, k, by rw [hc]; exact h1, h2⟩
/-- what holds through a method's whole walk -/
def xa_C (G : xa_G) (M : xa_M) (dp : Nat) (p : Program) (e : Env) (R : Room) (s : State) (m : MethodId) (args : Array Value) (meth : Method) (c : Code) : Prop :=
  p.tables.exec = Jvm.exec ∧ c.code = M.2.1 ∧ c.maxLocals = M.2.2.1 ∧ s.vm.findClass M.1.cls = some m.cls ∧ (∀ w ∈ xv_T, w.before args s = true) ∧ meth.sig.returnType = M.2.2.2.1 ∧ meth.locks = false ∧ meth.name = M.1.name ∧
  xa_tb c.exceptionTable = M.2.2.2.2 ∧ xa_K G.2.1 s ∧ dp ≤ R.frames ∧ 128 * dp ≤ R.locals ∧ G.2.2.1 ≤ s.heap.size ∧ xa_pr G s
def xa_W (G : xa_G) (M : xa_M) (dp kc ks pc : Nat) (L : List (Option Value)) (st : List Value) (h : xa_H) (sz : Nat) (Q : Outcome → xa_H → Nat → Prop) : Prop :=
  ∀ (p : Program) (e : Env) (R : Room) (s : State) (m : MethodId) (args : Array Value) (below : List Frame) (meth : Method) (c : Code) (H : Heap) (locs : List Loc) (cells slots : Nat) (ls : Array Slot) (kT nT : Nat),
    xa_C G M dp p e R s m args meth c → cells + kc ≤ kT → slots + ks ≤ nT → kT ≤ R.cells → nT ≤ R.slots → xa_L ls M.2.2.1 L → xa_P G h H → H.size = sz → va_S (fun q => G.2.2.1 ≤ q) s.heap H locs →
    W p G.1 e R s m args below meth c H locs cells slots (xa_Q G s below kT nT Q) (F0 m pc ls st)
theorem xa_Wmono {p : Program} {l : Launch} {e : Env} {R : Room} {s : State} {m : MethodId} {args : Array Value} {below : List Frame} {meth : Method} {c : Code} {H : Heap} {locs : List Loc} {cells slots : Nat} {Q Q' : State → Prop} {g : JFrame} (h : ∀ t, Q t → Q' t) (k : W p l e R s m args below meth c H locs cells slots Q g) : W p l e R s m args below meth c H locs cells slots Q' g := by
  intro T hT X
  obtain ⟨t, a, b⟩ := k T hT X
  exact ⟨t, a, h t b⟩
