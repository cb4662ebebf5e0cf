/-! the rows of the layer: an instruction each -/
section XW
variable {G : xa_G} {M : xa_M} {dp kc ks pc : Nat} {L : List (Option Value)} {st : List Value} {h : xa_H} {sz : Nat} {Q : Outcome → xa_H → Nat → Prop}
/-- an instruction that leaves heap and locals -/
theorem xw_go {pc' : Nat} {st' : List Value} (f : ∀ (p : Program) (e : Env) (R : Room) (s : State) (m : MethodId) (args : Array Value) (below : List Frame) (meth : Method) (c : Code) (H : Heap) (locs : List Loc) (cells slots : Nat) (ls : Array Slot) (Q' : State → Prop), p.tables.exec = Jvm.exec → c.code = M.2.1 → xa_L ls M.2.2.1 L →
      W p G.1 e R s m args below meth c H locs cells slots Q' (F0 m pc' ls st') → W p G.1 e R s m args below meth c H locs cells slots Q' (F0 m pc ls st)) (k : xa_W G M dp kc ks pc' L st' h sz Q) : xa_W G M dp kc ks pc L st h sz Q := by
  intro p e R s m args below meth c H locs cells slots ls kT nT C h1 h2 h3 h4 hl hP hz hS
  exact f p e R s m args below meth c H locs cells slots ls _ C.1 C.2.1 hl (k p e R s m args below meth c H locs cells slots ls kT nT C h1 h2 h3 h4 hl hP hz hS)
theorem xw_iconst {n : Int} (v : Int32) (hd : decode M.2.1 pc = .ok (.iconst n, 1)) (hv : Int32.ofInt n = v) (k : xa_W G M dp kc ks (pc + 1) L (.int v :: st) h sz Q) : xa_W G M dp kc ks pc L st h sz Q :=
  xw_go (fun _ _ _ _ _ _ _ _ _ _ _ _ _ _ _ hx hb _ => lv_iconst hx hb hd hv) k
theorem xw_bipush {n : Int} (v : Int32) (hd : decode M.2.1 pc = .ok (.bipush n, 2)) (hv : (Int8.ofInt n).toInt32 = v) (k : xa_W G M dp kc ks (pc + 2) L (.int v :: st) h sz Q) : xa_W G M dp kc ks pc L st h sz Q :=
  xw_go (fun _ _ _ _ _ _ _ _ _ _ _ _ _ _ _ hx hb _ => lv_bipush hx hb hd hv) k
theorem xw_sipush {n : Int} (v : Int32) (hd : decode M.2.1 pc = .ok (.sipush n, 3)) (hv : (Int16.ofInt n).toInt32 = v) (k : xa_W G M dp kc ks (pc + 3) L (.int v :: st) h sz Q) : xa_W G M dp kc ks pc L st h sz Q :=
  xw_go (fun _ _ _ _ _ _ _ _ _ _ _ _ _ _ _ hx hb _ => lv_sipush hx hb hd hv) k
theorem xw_lconst {n : Fin 2} (v : Int64) (hd : decode M.2.1 pc = .ok (.lconst n, 1)) (hv : Int64.ofNat (n : Nat) = v) (k : xa_W G M dp kc ks (pc + 1) L (.long v :: st) h sz Q) : xa_W G M dp kc ks pc L st h sz Q :=
  xw_go (fun _ _ _ _ _ _ _ _ _ _ _ _ _ _ _ hx hb _ => lv_lconst hx hb hd hv) k
theorem xw_null (hd : decode M.2.1 pc = .ok (.aconst_null, 1)) (k : xa_W G M dp kc ks (pc + 1) L (.null :: st) h sz Q) : xa_W G M dp kc ks pc L st h sz Q :=
  xw_go (fun _ _ _ _ _ _ _ _ _ _ _ _ _ _ _ hx hb _ => lv_null hx hb hd) k
theorem xw_iload_n {i : Fin 4} {x : Int32} (hd : decode M.2.1 pc = .ok (.iload_n i, 1)) (hi : L[(i : Nat)]? = some (some (.int x))) (k : xa_W G M dp kc ks (pc + 1) L (.int x :: st) h sz Q) : xa_W G M dp kc ks pc L st h sz Q :=
  xw_go (fun _ _ _ _ _ _ _ _ _ _ _ _ _ _ _ hx hb hl => lv_iload_n hx hb hd rfl (hl.at hi)) k
theorem xw_iload {i : Nat} {x : Int32} (hd : decode M.2.1 pc = .ok (.iload i, 2)) (hi : L[i]? = some (some (.int x))) (k : xa_W G M dp kc ks (pc + 2) L (.int x :: st) h sz Q) : xa_W G M dp kc ks pc L st h sz Q :=
  xw_go (fun _ _ _ _ _ _ _ _ _ _ _ _ _ _ _ hx hb hl => lv_iload hx hb hd (hl.at hi)) k
theorem xw_aload_n {i : Fin 4} {r : Option Nat} (hd : decode M.2.1 pc = .ok (.aload_n i, 1)) (hi : L[(i : Nat)]? = some (some (va_rf r))) (k : xa_W G M dp kc ks (pc + 1) L (va_rf r :: st) h sz Q) : xa_W G M dp kc ks pc L st h sz Q := by
  cases r with
  | none => exact xw_go (fun _ _ _ _ _ _ _ _ _ _ _ _ _ _ _ hx hb hl => lv_aload_nN hx hb hd rfl (hl.at hi)) k
  | some a => exact xw_go (fun _ _ _ _ _ _ _ _ _ _ _ _ _ _ _ hx hb hl => lv_aload_n hx hb hd rfl (hl.at hi)) k
theorem xw_aload {i : Nat} {r : Option Nat} (hd : decode M.2.1 pc = .ok (.aload i, 2)) (hi : L[i]? = some (some (va_rf r))) (k : xa_W G M dp kc ks (pc + 2) L (va_rf r :: st) h sz Q) : xa_W G M dp kc ks pc L st h sz Q := by
  cases r with
  | none => exact xw_go (fun _ _ _ _ _ _ _ _ _ _ _ _ _ _ _ hx hb hl => lv_aloadN hx hb hd (hl.at hi)) k
  | some a => exact xw_go (fun _ _ _ _ _ _ _ _ _ _ _ _ _ _ _ hx hb hl => lv_aload hx hb hd (hl.at hi)) k
/-- an instruction that sets a local -/
theorem xw_goS {pc' : Nat} {st' : List Value} {i : Nat} {v : Value} (hv : v.category = 1) (f : ∀ (p : Program) (e : Env) (R : Room) (s : State) (m : MethodId) (args : Array Value) (below : List Frame) (meth : Method) (c : Code) (H : Heap) (locs : List Loc) (cells slots : Nat) (ls : Array Slot) (Q' : State → Prop), p.tables.exec = Jvm.exec → c.code = M.2.1 → xa_L ls M.2.2.1 L →
      (∀ ls' : Array Slot, lv_has ls' M.2.2.1 ((i, v) :: (xa_prs L).filter (fun q => !(q.1 == i) && !(q.1 + 1 == i && q.2.category == 2))) → W p G.1 e R s m args below meth c H locs cells slots Q' (F0 m pc' ls' st')) → W p G.1 e R s m args below meth c H locs cells slots Q' (F0 m pc ls st)) (k : xa_W G M dp kc ks pc' (L.set i (some v)) st' h sz Q) : xa_W G M dp kc ks pc L st h sz Q := by
  intro p e R s m args below meth c H locs cells slots ls kT nT C h1 h2 h3 h4 hl hP hz hS
  exact f p e R s m args below meth c H locs cells slots ls _ C.1 C.2.1 hl (fun ls' hl' => k p e R s m args below meth c H locs cells slots ls' kT nT C h1 h2 h3 h4 (hl.st hv hl') hP hz hS)
theorem xw_istore_n {i : Fin 4} {x : Int32} (hd : decode M.2.1 pc = .ok (.istore_n i, 1)) (hn : (i : Nat) < M.2.2.1) (k : xa_W G M dp kc ks (pc + 1) (L.set i (some (.int x))) st h sz Q) : xa_W G M dp kc ks pc L (.int x :: st) h sz Q :=
  xw_goS rfl (fun _ _ _ _ _ _ _ _ _ _ _ _ _ _ _ hx hb hl kk => lv_istore_n hx hb hd rfl hl.has hn rfl kk) k
theorem xw_istore {i : Nat} {x : Int32} (hd : decode M.2.1 pc = .ok (.istore i, 2)) (hn : i < M.2.2.1) (k : xa_W G M dp kc ks (pc + 2) (L.set i (some (.int x))) st h sz Q) : xa_W G M dp kc ks pc L (.int x :: st) h sz Q :=
  xw_goS rfl (fun _ _ _ _ _ _ _ _ _ _ _ _ _ _ _ hx hb hl kk => lv_istore hx hb hd hl.has hn rfl kk) k
theorem xw_astore_n {i : Fin 4} {r : Option Nat} (hd : decode M.2.1 pc = .ok (.astore_n i, 1)) (hn : (i : Nat) < M.2.2.1) (k : xa_W G M dp kc ks (pc + 1) (L.set i (some (va_rf r))) st h sz Q) : xa_W G M dp kc ks pc L (va_rf r :: st) h sz Q := by
  cases r with
  | none => exact xw_goS (v := .null) rfl (fun _ _ _ _ _ _ _ _ _ _ _ _ _ _ _ hx hb hl kk => lv_astore_nN hx hb hd rfl hl.has hn rfl kk) k
  | some a => exact xw_goS (v := .ref a) rfl (fun _ _ _ _ _ _ _ _ _ _ _ _ _ _ _ hx hb hl kk => lv_astore_n hx hb hd rfl hl.has hn rfl kk) k
theorem xw_astore {i : Nat} {r : Option Nat} (hd : decode M.2.1 pc = .ok (.astore i, 2)) (hn : i < M.2.2.1) (k : xa_W G M dp kc ks (pc + 2) (L.set i (some (va_rf r))) st h sz Q) : xa_W G M dp kc ks pc L (va_rf r :: st) h sz Q := by
  cases r with
  | none => exact xw_goS (v := .null) rfl (fun _ _ _ _ _ _ _ _ _ _ _ _ _ _ _ hx hb hl kk => lv_astoreN hx hb hd hl.has hn rfl kk) k
  | some a => exact xw_goS (v := .ref a) rfl (fun _ _ _ _ _ _ _ _ _ _ _ _ _ _ _ hx hb hl kk => lv_astore hx hb hd hl.has hn rfl kk) k
theorem xw_iinc {i : Nat} {n : Int} {x v : Int32} (hd : decode M.2.1 pc = .ok (.iinc i n, 3)) (hi : L[i]? = some (some (.int x))) (hv : x + Int32.ofInt n = v) (hn : i < M.2.2.1) (k : xa_W G M dp kc ks (pc + 3) (L.set i (some (.int v))) st h sz Q) : xa_W G M dp kc ks pc L st h sz Q :=
  xw_goS rfl (fun _ _ _ _ _ _ _ _ _ _ _ _ _ _ _ hx hb hl kk => by
    obtain ⟨j, hj⟩ := List.getElem?_of_mem (xa_prs_mem.mpr hi)
    exact lv_iinc hx hb hd hl.has hj hv hn rfl kk) k
theorem xw_iadd {x y : Int32} (hd : decode M.2.1 pc = .ok (.iadd, 1)) (k : xa_W G M dp kc ks (pc + 1) L (.int (x + y) :: st) h sz Q) : xa_W G M dp kc ks pc L (.int y :: .int x :: st) h sz Q :=
  xw_go (fun _ _ _ _ _ _ _ _ _ _ _ _ _ _ _ hx hb _ => lv_iadd hx hb hd) k
theorem xw_isub {x y : Int32} (hd : decode M.2.1 pc = .ok (.isub, 1)) (k : xa_W G M dp kc ks (pc + 1) L (.int (x - y) :: st) h sz Q) : xa_W G M dp kc ks pc L (.int y :: .int x :: st) h sz Q :=
  xw_go (fun _ _ _ _ _ _ _ _ _ _ _ _ _ _ _ hx hb _ => lv_isub hx hb hd) k
theorem xw_imul {x y : Int32} (hd : decode M.2.1 pc = .ok (.imul, 1)) (k : xa_W G M dp kc ks (pc + 1) L (.int (x * y) :: st) h sz Q) : xa_W G M dp kc ks pc L (.int y :: .int x :: st) h sz Q :=
  xw_go (fun _ _ _ _ _ _ _ _ _ _ _ _ _ _ _ hx hb _ => lv_imul hx hb hd) k
theorem xw_iand {x y : Int32} (hd : decode M.2.1 pc = .ok (.iand, 1)) (k : xa_W G M dp kc ks (pc + 1) L (.int (x &&& y) :: st) h sz Q) : xa_W G M dp kc ks pc L (.int y :: .int x :: st) h sz Q :=
  xw_go (fun _ _ _ _ _ _ _ _ _ _ _ _ _ _ _ hx hb _ => lv_iand hx hb hd) k
theorem xw_ior {x y : Int32} (hd : decode M.2.1 pc = .ok (.ior, 1)) (k : xa_W G M dp kc ks (pc + 1) L (.int (x ||| y) :: st) h sz Q) : xa_W G M dp kc ks pc L (.int y :: .int x :: st) h sz Q :=
  xw_go (fun _ _ _ _ _ _ _ _ _ _ _ _ _ _ _ hx hb _ => lv_ior hx hb hd) k
theorem xw_irem {x y : Int32} (hd : decode M.2.1 pc = .ok (.irem, 1)) (hy : ¬ y = 0) (k : xa_W G M dp kc ks (pc + 1) L (.int (x - x / y * y) :: st) h sz Q) : xa_W G M dp kc ks pc L (.int y :: .int x :: st) h sz Q :=
  xw_go (fun _ _ _ _ _ _ _ _ _ _ _ _ _ _ _ hx hb _ => lv_irem hx hb hd hy) k
theorem xw_i2l {x : Int32} (hd : decode M.2.1 pc = .ok (.i2l, 1)) (k : xa_W G M dp kc ks (pc + 1) L (.long x.toInt64 :: st) h sz Q) : xa_W G M dp kc ks pc L (.int x :: st) h sz Q :=
  xw_go (fun _ _ _ _ _ _ _ _ _ _ _ _ _ _ _ hx hb _ => lv_i2l hx hb hd rfl) k
theorem xw_lcmp {x y : Int64} (hd : decode M.2.1 pc = .ok (.lcmp, 1)) (k : xa_W G M dp kc ks (pc + 1) L (.int (lg_cmp x y) :: st) h sz Q) : xa_W G M dp kc ks pc L (.long y :: .long x :: st) h sz Q :=
  xw_go (fun _ _ _ _ _ _ _ _ _ _ _ _ _ _ _ hx hb _ => W.lcmp hx hb hd) k
theorem xw_dup {v : Value} (hd : decode M.2.1 pc = .ok (.dup, 1)) (hv : v.category = 1) (k : xa_W G M dp kc ks (pc + 1) L (v :: v :: st) h sz Q) : xa_W G M dp kc ks pc L (v :: st) h sz Q :=
  xw_go (fun _ _ _ _ _ _ _ _ _ _ _ _ _ _ _ hx hb _ => lv_dup hx hb hd hv) k
theorem xw_dup2 {v w : Value} (hd : decode M.2.1 pc = .ok (.dup2, 1)) (hv : v.category = 1) (hw : w.category = 1) (k : xa_W G M dp kc ks (pc + 1) L (v :: w :: v :: w :: st) h sz Q) : xa_W G M dp kc ks pc L (v :: w :: st) h sz Q :=
  xw_go (fun _ _ _ _ _ _ _ _ _ _ _ _ _ _ _ hx hb _ => lv_dup2_11 hx hb hd hv hw) k
theorem xw_dup_x1 {v w : Value} (hd : decode M.2.1 pc = .ok (.dup_x1, 1)) (hv : v.category = 1) (hw : w.category = 1) (k : xa_W G M dp kc ks (pc + 1) L (v :: w :: v :: st) h sz Q) : xa_W G M dp kc ks pc L (v :: w :: st) h sz Q :=
  xw_go (fun _ _ _ _ _ _ _ _ _ _ _ _ _ _ _ hx hb _ => lv_dup_x1 hx hb hd hv hw) k
theorem xw_pop {v : Value} (hd : decode M.2.1 pc = .ok (.pop, 1)) (hv : v.category = 1) (k : xa_W G M dp kc ks (pc + 1) L st h sz Q) : xa_W G M dp kc ks pc L (v :: st) h sz Q :=
  xw_go (fun _ _ _ _ _ _ _ _ _ _ _ _ _ _ _ hx hb _ => lv_pop hx hb hd hv) k
theorem xw_goto {off : Int} (tgt : Nat) (hd : decode M.2.1 pc = .ok (.goto off, 3)) (ht : (pc : Int) + off = (tgt : Int)) (k : xa_W G M dp kc ks tgt L st h sz Q) : xa_W G M dp kc ks pc L st h sz Q :=
  xw_go (fun _ _ _ _ _ _ _ _ _ _ _ _ _ _ _ hx hb _ => lv_goto hx hb hd ht) k
/-- two roads -/
theorem xw_two {c : Prop} {pa pb : Nat} {st' : List Value} (f : ∀ (p : Program) (e : Env) (R : Room) (s : State) (m : MethodId) (args : Array Value) (below : List Frame) (meth : Method) (c' : Code) (H : Heap) (locs : List Loc) (cells slots : Nat) (ls : Array Slot) (Q' : State → Prop), p.tables.exec = Jvm.exec → c'.code = M.2.1 →
      (c → W p G.1 e R s m args below meth c' H locs cells slots Q' (F0 m pa ls st')) → (¬ c → W p G.1 e R s m args below meth c' H locs cells slots Q' (F0 m pb ls st')) → W p G.1 e R s m args below meth c' H locs cells slots Q' (F0 m pc ls st)) (ka : c → xa_W G M dp kc ks pa L st' h sz Q) (kb : ¬ c → xa_W G M dp kc ks pb L st' h sz Q) : xa_W G M dp kc ks pc L st h sz Q := by
  intro p e R s m args below meth c' H locs cells slots ls kT nT C h1 h2 h3 h4 hl hP hz hS
  exact f p e R s m args below meth c' H locs cells slots ls _ C.1 C.2.1 (fun q => ka q p e R s m args below meth c' H locs cells slots ls kT nT C h1 h2 h3 h4 hl hP hz hS) (fun q => kb q p e R s m args below meth c' H locs cells slots ls kT nT C h1 h2 h3 h4 hl hP hz hS)
theorem xw_if_eq {x : Int32} {off : Int} (tgt : Nat) (hd : decode M.2.1 pc = .ok (.ifCond .eq off, 3)) (ht : (pc : Int) + off = (tgt : Int)) (ka : x = 0 → xa_W G M dp kc ks tgt L st h sz Q) (kb : ¬ x = 0 → xa_W G M dp kc ks (pc + 3) L st h sz Q) : xa_W G M dp kc ks pc L (.int x :: st) h sz Q :=
  xw_two (fun _ _ _ _ _ _ _ _ _ _ _ _ _ _ _ hx hb => lv_if_eq hx hb hd ht) ka kb
theorem xw_icmp_eq {x y : Int32} {off : Int} (tgt : Nat) (hd : decode M.2.1 pc = .ok (.if_icmp .eq off, 3)) (ht : (pc : Int) + off = (tgt : Int)) (ka : x = y → xa_W G M dp kc ks tgt L st h sz Q) (kb : ¬ x = y → xa_W G M dp kc ks (pc + 3) L st h sz Q) : xa_W G M dp kc ks pc L (.int y :: .int x :: st) h sz Q :=
  xw_two (fun _ _ _ _ _ _ _ _ _ _ _ _ _ _ _ hx hb => lv_icmp_eq hx hb hd ht) ka kb
theorem xw_if_lt {x : Int32} {off : Int} (tgt : Nat) (hd : decode M.2.1 pc = .ok (.ifCond .lt off, 3)) (ht : (pc : Int) + off = (tgt : Int)) (ka : x < 0 → xa_W G M dp kc ks tgt L st h sz Q) (kb : ¬ x < 0 → xa_W G M dp kc ks (pc + 3) L st h sz Q) : xa_W G M dp kc ks pc L (.int x :: st) h sz Q :=
  xw_two (fun _ _ _ _ _ _ _ _ _ _ _ _ _ _ _ hx hb => lv_if_lt hx hb hd ht) ka kb
theorem xw_icmp_lt {x y : Int32} {off : Int} (tgt : Nat) (hd : decode M.2.1 pc = .ok (.if_icmp .lt off, 3)) (ht : (pc : Int) + off = (tgt : Int)) (ka : x < y → xa_W G M dp kc ks tgt L st h sz Q) (kb : ¬ x < y → xa_W G M dp kc ks (pc + 3) L st h sz Q) : xa_W G M dp kc ks pc L (.int y :: .int x :: st) h sz Q :=
  xw_two (fun _ _ _ _ _ _ _ _ _ _ _ _ _ _ _ hx hb => lv_icmp_lt hx hb hd ht) ka kb
theorem xw_if_ge {x : Int32} {off : Int} (tgt : Nat) (hd : decode M.2.1 pc = .ok (.ifCond .ge off, 3)) (ht : (pc : Int) + off = (tgt : Int)) (ka : 0 ≤ x → xa_W G M dp kc ks tgt L st h sz Q) (kb : ¬ 0 ≤ x → xa_W G M dp kc ks (pc + 3) L st h sz Q) : xa_W G M dp kc ks pc L (.int x :: st) h sz Q :=
  xw_two (fun _ _ _ _ _ _ _ _ _ _ _ _ _ _ _ hx hb => lv_if_ge hx hb hd ht) ka kb
theorem xw_icmp_ge {x y : Int32} {off : Int} (tgt : Nat) (hd : decode M.2.1 pc = .ok (.if_icmp .ge off, 3)) (ht : (pc : Int) + off = (tgt : Int)) (ka : y ≤ x → xa_W G M dp kc ks tgt L st h sz Q) (kb : ¬ y ≤ x → xa_W G M dp kc ks (pc + 3) L st h sz Q) : xa_W G M dp kc ks pc L (.int y :: .int x :: st) h sz Q :=
  xw_two (fun _ _ _ _ _ _ _ _ _ _ _ _ _ _ _ hx hb => lv_icmp_ge hx hb hd ht) ka kb
theorem xw_if_gt {x : Int32} {off : Int} (tgt : Nat) (hd : decode M.2.1 pc = .ok (.ifCond .gt off, 3)) (ht : (pc : Int) + off = (tgt : Int)) (ka : 0 < x → xa_W G M dp kc ks tgt L st h sz Q) (kb : ¬ 0 < x → xa_W G M dp kc ks (pc + 3) L st h sz Q) : xa_W G M dp kc ks pc L (.int x :: st) h sz Q :=
  xw_two (fun _ _ _ _ _ _ _ _ _ _ _ _ _ _ _ hx hb => lv_if_gt hx hb hd ht) ka kb
theorem xw_icmp_gt {x y : Int32} {off : Int} (tgt : Nat) (hd : decode M.2.1 pc = .ok (.if_icmp .gt off, 3)) (ht : (pc : Int) + off = (tgt : Int)) (ka : y < x → xa_W G M dp kc ks tgt L st h sz Q) (kb : ¬ y < x → xa_W G M dp kc ks (pc + 3) L st h sz Q) : xa_W G M dp kc ks pc L (.int y :: .int x :: st) h sz Q :=
  xw_two (fun _ _ _ _ _ _ _ _ _ _ _ _ _ _ _ hx hb => lv_icmp_gt hx hb hd ht) ka kb
theorem xw_if_le {x : Int32} {off : Int} (tgt : Nat) (hd : decode M.2.1 pc = .ok (.ifCond .le off, 3)) (ht : (pc : Int) + off = (tgt : Int)) (ka : x ≤ 0 → xa_W G M dp kc ks tgt L st h sz Q) (kb : ¬ x ≤ 0 → xa_W G M dp kc ks (pc + 3) L st h sz Q) : xa_W G M dp kc ks pc L (.int x :: st) h sz Q :=
  xw_two (fun _ _ _ _ _ _ _ _ _ _ _ _ _ _ _ hx hb => lv_if_le hx hb hd ht) ka kb
theorem xw_icmp_le {x y : Int32} {off : Int} (tgt : Nat) (hd : decode M.2.1 pc = .ok (.if_icmp .le off, 3)) (ht : (pc : Int) + off = (tgt : Int)) (ka : x ≤ y → xa_W G M dp kc ks tgt L st h sz Q) (kb : ¬ x ≤ y → xa_W G M dp kc ks (pc + 3) L st h sz Q) : xa_W G M dp kc ks pc L (.int y :: .int x :: st) h sz Q :=
  xw_two (fun _ _ _ _ _ _ _ _ _ _ _ _ _ _ _ hx hb => lv_icmp_le hx hb hd ht) ka kb
theorem xw_if_ne {x : Int32} {off : Int} (tgt : Nat) (hd : decode M.2.1 pc = .ok (.ifCond .ne off, 3)) (ht : (pc : Int) + off = (tgt : Int)) (ka : ¬ x = 0 → xa_W G M dp kc ks tgt L st h sz Q) (kb : x = 0 → xa_W G M dp kc ks (pc + 3) L st h sz Q) : xa_W G M dp kc ks pc L (.int x :: st) h sz Q :=
  xw_two (c := ¬ x = 0) (fun _ _ _ _ _ _ _ _ _ _ _ _ _ _ _ hx hb a b => lv_if_ne hx hb hd ht a (fun q => b (fun r => r q))) ka (fun q => kb (Classical.not_not.mp q))
theorem xw_icmp_ne {x y : Int32} {off : Int} (tgt : Nat) (hd : decode M.2.1 pc = .ok (.if_icmp .ne off, 3)) (ht : (pc : Int) + off = (tgt : Int)) (ka : ¬ x = y → xa_W G M dp kc ks tgt L st h sz Q) (kb : x = y → xa_W G M dp kc ks (pc + 3) L st h sz Q) : xa_W G M dp kc ks pc L (.int y :: .int x :: st) h sz Q :=
  xw_two (c := ¬ x = y) (fun _ _ _ _ _ _ _ _ _ _ _ _ _ _ _ hx hb a b => lv_icmp_ne hx hb hd ht a (fun q => b (fun r => r q))) ka (fun q => kb (Classical.not_not.mp q))
theorem xw_ifnull {r : Option Nat} {off : Int} (tgt : Nat) (hd : decode M.2.1 pc = .ok (.ifnull off, 3)) (ht : (pc : Int) + off = (tgt : Int)) (ka : r = none → xa_W G M dp kc ks tgt L st h sz Q) (kb : ∀ a, r = some a → xa_W G M dp kc ks (pc + 3) L st h sz Q) : xa_W G M dp kc ks pc L (va_rf r :: st) h sz Q := by
  cases r with
  | none => exact xw_go (fun _ _ _ _ _ _ _ _ _ _ _ _ _ _ _ hx hb _ => lv_ifnullN hx hb hd ht) (ka rfl)
  | some a => exact xw_go (fun _ _ _ _ _ _ _ _ _ _ _ _ _ _ _ hx hb _ => lv_ifnull hx hb hd) (kb a rfl)
theorem xw_ifnonnull {r : Option Nat} {off : Int} (tgt : Nat) (hd : decode M.2.1 pc = .ok (.ifnonnull off, 3)) (ht : (pc : Int) + off = (tgt : Int)) (ka : ∀ a, r = some a → xa_W G M dp kc ks tgt L st h sz Q) (kb : r = none → xa_W G M dp kc ks (pc + 3) L st h sz Q) : xa_W G M dp kc ks pc L (va_rf r :: st) h sz Q := by
  cases r with
  | none => exact xw_go (fun _ _ _ _ _ _ _ _ _ _ _ _ _ _ _ hx hb _ => lv_ifnonnullN hx hb hd) (kb rfl)
  | some a => exact xw_go (fun _ _ _ _ _ _ _ _ _ _ _ _ _ _ _ hx hb _ => lv_ifnonnull hx hb hd ht) (ka a rfl)
theorem xw_acmp_eq {rx ry : Option Nat} {off : Int} (tgt : Nat) (hd : decode M.2.1 pc = .ok (.if_acmp .eq off, 3)) (ht : (pc : Int) + off = (tgt : Int)) (ka : rx = ry → xa_W G M dp kc ks tgt L st h sz Q) (kb : ¬ rx = ry → xa_W G M dp kc ks (pc + 3) L st h sz Q) : xa_W G M dp kc ks pc L (va_rf ry :: va_rf rx :: st) h sz Q :=
  xw_two (fun _ _ _ _ _ _ _ _ _ _ _ _ _ _ _ hx hb => lv_acmp_eq hx hb hd ht) ka kb
theorem xw_acmp_ne {rx ry : Option Nat} {off : Int} (tgt : Nat) (hd : decode M.2.1 pc = .ok (.if_acmp .ne off, 3)) (ht : (pc : Int) + off = (tgt : Int)) (ka : ¬ rx = ry → xa_W G M dp kc ks tgt L st h sz Q) (kb : rx = ry → xa_W G M dp kc ks (pc + 3) L st h sz Q) : xa_W G M dp kc ks pc L (va_rf ry :: va_rf rx :: st) h sz Q :=
  xw_two (c := ¬ rx = ry) (fun _ _ _ _ _ _ _ _ _ _ _ _ _ _ _ hx hb a b => lv_acmp_ne hx hb hd ht a (fun q => b (fun r => r q))) ka (fun q => kb (Classical.not_not.mp q))
theorem xw_lookup {dflt : Int} {ps : Array (Int × Int)} {len : Nat} {x : Int32} {off : Int} (tgt : Nat) (hd : decode M.2.1 pc = .ok (.lookupswitch dflt ps, len)) (hp : (ps.toList.zip (ps.toList.drop 1)).all (fun (a, next) => a.1 < next.1) = true) (ho : Op.lookupswitch.offset ps.toList dflt x.toInt = off) (ht : (pc : Int) + off = (tgt : Int)) (k : xa_W G M dp kc ks tgt L st h sz Q) : xa_W G M dp kc ks pc L (.int x :: st) h sz Q :=
  xw_go (fun _ _ _ _ _ _ _ _ _ _ _ _ _ _ _ hx hb _ => lv_lookup hx hb hd hp ho ht) k
theorem xw_tableOut {dflt lo hi : Int} {offs : Array Int} {len : Nat} {x : Int32} (tgt : Nat) (hd : decode M.2.1 pc = .ok (.tableswitch dflt lo hi offs, len)) (hx : x.toInt < lo ∨ hi < x.toInt) (ht : (pc : Int) + dflt = (tgt : Int)) (k : xa_W G M dp kc ks tgt L st h sz Q) : xa_W G M dp kc ks pc L (.int x :: st) h sz Q :=
  xw_go (fun _ _ _ _ _ _ _ _ _ _ _ _ _ _ _ hx' hb _ => lv_tableOut hx' hb hd hx ht) k
theorem xw_tableIn {dflt lo hi : Int} {offs : Array Int} {len : Nat} {x : Int32} {off : Int} (tgt : Nat) (hd : decode M.2.1 pc = .ok (.tableswitch dflt lo hi offs, len)) (h1 : ¬ x.toInt < lo) (h2 : ¬ hi < x.toInt) (ho : offs[(x.toInt - lo).toNat]? = some off) (ht : (pc : Int) + off = (tgt : Int)) (k : xa_W G M dp kc ks tgt L st h sz Q) : xa_W G M dp kc ks pc L (.int x :: st) h sz Q :=
  xw_go (fun _ _ _ _ _ _ _ _ _ _ _ _ _ _ _ hx hb _ => lv_tableIn hx hb hd h1 h2 ho ht) k
/-- roads that meet -/
theorem xw_dia {pj : Nat} {stj : List Value} {Lj : List (Option Value)} (v : Value) (main : xa_W G M dp kc ks pj Lj (v :: stj) h sz Q) (arms : (∀ w, w = v → xa_W G M dp kc ks pj Lj (w :: stj) h sz Q) → xa_W G M dp kc ks pc L st h sz Q) : xa_W G M dp kc ks pc L st h sz Q := arms (fun w hw => hw ▸ main)
/-- ends -/
theorem xw_ends {v : Option Value} (f : ∀ (p : Program) (e : Env) (R : Room) (s : State) (m : MethodId) (args : Array Value) (below : List Frame) (meth : Method) (c : Code) (H : Heap) (locs : List Loc) (cells slots : Nat) (ls : Array Slot) (Qc : Array Value → State → Outcome → State → Prop) (free : Addr → Prop), p.tables.exec = Jvm.exec → c.code = M.2.1 → meth.sig.returnType = M.2.2.2.1 → meth.locks = false →
      (∀ t : State, t.heap = H → s.WarmedH t.vm → Qc args s (.returned v) t) → (∀ q ∈ locs, free q.base) → W p G.1 e R s m args below meth c H locs cells slots (MQ below Qc args s cells slots free) (F0 m pc ls st)) (hq : Q (.returned v) h sz) : xa_W G M dp kc ks pc L st h sz Q := by
  intro p e R s m args below meth c H locs cells slots ls kT nT C h1 h2 h3 h4 hl hP hz hS
  obtain ⟨hx, hb, -, -, -, hr, hk, -⟩ := C
  refine xa_Wmono ?_ (f p e R s m args below meth c H locs cells slots ls (fun _ st' o t => xa_R G Q st' o t) (fun q => G.2.2.1 ≤ q) hx hb hr hk (fun t ht _ => ⟨⟨h, by rw [ht, hz]; exact hq, by rw [ht]; exact hP⟩, hS.F ht⟩) hS.2.2)
  rintro t ⟨o, a1, a2, a3, L', ⟨-, a4, a5⟩, a6⟩
  exact ⟨o, a1, a2, a3, L', a4, a5.mono (by omega) (by omega), a6⟩
theorem xw_iret {v : Int32} (hd : decode M.2.1 pc = .ok (.ireturn, 1)) (hr : M.2.2.2.1 = some .int) (hq : Q (.returned (some (.int v))) h sz) : xa_W G M dp kc ks pc L [.int v] h sz Q :=
  xw_ends (fun _ _ _ _ _ _ _ _ _ _ _ _ _ _ _ _ hx hb hr' hk a b => W.iret hx hb (hr'.trans hr) a b hd hk) hq
theorem xw_zret {v : Int32} (hd : decode M.2.1 pc = .ok (.ireturn, 1)) (hr : M.2.2.2.1 = some .boolean) (hn : narrow .boolean (.int v) = .int v) (hq : Q (.returned (some (.int v))) h sz) : xa_W G M dp kc ks pc L [.int v] h sz Q :=
  xw_ends (fun _ _ _ _ _ _ _ _ _ _ _ _ _ _ _ _ hx hb hr' hk a b => W.zret hx hb (hr'.trans hr) hn a b hd hk) hq
theorem xw_vret (hd : decode M.2.1 pc = .ok (.return_, 1)) (hr : M.2.2.2.1 = none) (hq : Q (.returned none) h sz) : xa_W G M dp kc ks pc L [] h sz Q :=
  xw_ends (fun _ _ _ _ _ _ _ _ _ _ _ _ _ _ _ _ hx hb hr' hk a b => W.vret hx hb (hr'.trans hr) a b hd hk) hq
theorem xw_aret {rt : FieldType} {r : Option Nat} (hd : decode M.2.1 pc = .ok (.areturn, 1)) (hr : M.2.2.2.1 = some rt) (hrt : (∃ n, rt = .object n) ∨ ∃ t, rt = .array t) (hq : Q (.returned (some (va_rf r))) h sz) : xa_W G M dp kc ks pc L [va_rf r] h sz Q :=
  xw_ends (fun _ _ _ _ _ _ _ _ _ _ _ _ _ _ _ _ hx hb hr' hk a b => W.aret hx hb (hr'.trans hr) hrt (by cases r with
    | none => exact Or.inl rfl
    | some x => exact Or.inr ⟨x, rfl⟩) a b hd hk) hq
/-- budgets -/
theorem xw_less {kc' ks' : Nat} (hc : kc' ≤ kc) (hs : ks' ≤ ks) (k : xa_W G M dp kc' ks' pc L st h sz Q) : xa_W G M dp kc ks pc L st h sz Q := by
  intro p e R s m args below meth c H locs cells slots ls kT nT C h1 h2 h3 h4 hl hP hz hS
  exact k p e R s m args below meth c H locs cells slots ls kT nT C (by omega) (by omega) h3 h4 hl hP hz hS
theorem xw_mono {Q' : Outcome → xa_H → Nat → Prop} (hQ : ∀ o h z, Q' o h z → Q o h z) (k : xa_W G M dp kc ks pc L st h sz Q') : xa_W G M dp kc ks pc L st h sz Q := by
  intro p e R s m args below meth c H locs cells slots ls kT nT C h1 h2 h3 h4 hl hP hz hS
  refine xa_Wmono ?_ (k p e R s m args below meth c H locs cells slots ls kT nT C h1 h2 h3 h4 hl hP hz hS)
  rintro t ⟨o, a1, a2, ⟨⟨h', a3, a4⟩, a5⟩, a6⟩
  exact ⟨o, a1, a2, ⟨⟨h', hQ _ _ _ a3, a4⟩, a5⟩, a6⟩
end XW
