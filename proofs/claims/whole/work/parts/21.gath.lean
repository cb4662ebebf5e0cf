/-! Gatherings (by program: wip/whole/mk21.py) -/
/-- what is said of these cells still holds -/
def xk (h h' : xa_H) (P : Nat → xa_E → Prop) : Prop := ∀ (b : Nat) (e : xa_E), h b = some e → P b e → h' b = some e
theorem xk.trans {h h1 h2 : xa_H} {P : Nat → xa_E → Prop} (H1 : xk h h1 P) (H2 : xk h1 h2 P) : xk h h2 P := fun b e hb hp => H2 b e (H1 b e hb hp) hp
theorem xk.weak {h h1 : xa_H} {P P' : Nat → xa_E → Prop} (H : xk h h1 P) (hp : ∀ b e, h b = some e → P' b e → P b e) : xk h h1 P' := fun b e hb h1 => H b e hb (hp b e hb h1)
theorem xk.refl {h : xa_H} {P : Nat → xa_E → Prop} : xk h h P := fun _ _ hb _ => hb
abbrev gt_d (g : Int32 × Int32) : xa_E := gt_c g.1 g.2
def gt_l (h : xa_H) (xs : List Nat) (gs : List (Int32 × Int32)) : Prop := xs.map h = gs.map (fun g => some (gt_d g))
theorem gt_l.len {h : xa_H} {xs : List Nat} {gs : List (Int32 × Int32)} (H : gt_l h xs gs) : xs.length = gs.length := by
  have := congrArg List.length H
  simpa using this
theorem gt_l.at {h : xa_H} {xs : List Nat} {gs : List (Int32 × Int32)} (H : gt_l h xs gs) {i : Nat} (hi : i < gs.length) : ∃ y g, xs[i]? = some y ∧ gs[i]? = some g ∧ h y = some (gt_d g) := by
  have hl := H.len
  have h1 := congrArg (fun l => l[i]?) H
  simp only [List.getElem?_map] at h1
  rw [List.getElem?_eq_getElem (by omega : i < xs.length), List.getElem?_eq_getElem hi] at h1
  exact ⟨xs[i]'(by omega), gs[i], List.getElem?_eq_getElem (by omega), List.getElem?_eq_getElem hi, by simpa using h1⟩
theorem gt_l.mem {h : xa_H} {xs : List Nat} {gs : List (Int32 × Int32)} (H : gt_l h xs gs) {y : Nat} (hy : y ∈ xs) : ∃ g, g ∈ gs ∧ h y = some (gt_d g) := by
  have h1 : h y ∈ xs.map h := List.mem_map_of_mem hy
  rw [H] at h1
  obtain ⟨e, he, h2⟩ := List.mem_map.mp h1
  exact ⟨e, he, h2.symm⟩
theorem gt_l.keep {h h1 : xa_H} {xs : List Nat} {gs : List (Int32 × Int32)} (H : gt_l h xs gs) (hk : ∀ y g, h y = some (gt_d g) → h1 y = h y) : gt_l h1 xs gs := by
  unfold gt_l at H ⊢
  rw [← H]
  refine List.map_congr_left (fun y hy => ?_)
  obtain ⟨e, -, h2⟩ := gt_l.mem H hy
  exact hk y e h2
theorem gt_l.obj {h : xa_H} {xs : List Nat} {gs : List (Int32 × Int32)} (H : gt_l h xs gs) : xo_in h xs := by
  intro y hy
  obtain ⟨e, -, h2⟩ := H.mem hy
  exact ⟨5, _, h2, xo_5⟩
theorem gt_l.del {h : xa_H} : ∀ {xs : List Nat} {gs : List (Int32 × Int32)} {i : Nat}, gt_l h xs gs → gt_l h (xs.eraseIdx i) (gs.eraseIdx i)
  | [], [], i, H => by simpa using H
  | x1 :: xs, e1 :: es, 0, H => by
    unfold gt_l at H ⊢
    simp only [List.map_cons, List.cons.injEq] at H
    exact H.2
  | x1 :: xs, e1 :: es, i + 1, H => by
    unfold gt_l at H
    simp only [List.map_cons, List.cons.injEq] at H
    have := gt_l.del (i := i) (show gt_l h xs es from H.2)
    unfold gt_l at this ⊢
    simp only [List.eraseIdx_cons_succ, List.map_cons]
    rw [H.1, this]
  | [], e1 :: es, i, H => by
    have := gt_l.len H
    simp at this
  | x1 :: xs, [], i, H => by
    have := gt_l.len H
    simp at this
theorem gt_l.app {h : xa_H} {xs : List Nat} {gs : List (Int32 × Int32)} {y : Nat} {g : Int32 × Int32} (H : gt_l h xs gs) (hy : h y = some (gt_d g)) : gt_l h (xs ++ [y]) (gs ++ [g]) := by
  unfold gt_l at H ⊢
  rw [List.map_append, List.map_append, H]
  simp [hy]
theorem gt_l.upd {h h1 : xa_H} {xs : List Nat} {gs : List (Int32 × Int32)} {i y : Nat} {g : Int32 × Int32} (H : gt_l h xs gs) (hn : xs.Nodup) (hx : xs[i]? = some y) (h2 : h1 y = some (gt_d g)) (h3 : ∀ b, b ≠ y → h1 b = h b) : gt_l h1 xs (gs.set i g) := by
  have hl := H.len
  obtain ⟨hi, hy⟩ := List.getElem?_eq_some_iff.mp hx
  unfold gt_l at H ⊢
  refine List.ext_getElem? (fun j => ?_)
  have hj := congrArg (fun l => l[j]?) H
  simp only [List.getElem?_map] at hj ⊢
  rw [List.getElem?_set]
  by_cases e : i = j
  · subst e
    rw [if_pos rfl, if_pos (by omega), hx]
    simp [h2]
  · rw [if_neg e, ← hj]
    cases hxj : xs[j]? with
    | none => rfl
    | some z =>
      obtain ⟨hj2, hz⟩ := List.getElem?_eq_some_iff.mp hxj
      have : z ≠ y := fun q => by
        rw [← hy, ← hz] at q
        rcases Nat.lt_or_gt_of_ne e with w | w
        · exact List.pairwise_iff_getElem.mp hn i j hi hj2 w q.symm
        · exact List.pairwise_iff_getElem.mp hn j i hj2 hi w q
      simp [h3 z this]
/-- gatherings at t: the list at a, its array at ea, the gatherings at xs -/
def gh_x (G : xa_G) (h : xa_H) (t a ea cap : Nat) (xs : List Nat) (gs : List (Int32 × Int32)) : Prop := h t = some (.inr (6, [.ref a])) ∧ al_x G h a ea cap xs ∧ gt_l h xs gs ∧ xs.Nodup ∧ ∀ y ∈ xs, G.2.2.1 ≤ y
def gh_at (G : xa_G) (h : xa_H) (t a ea cap : Nat) (gs : List (Int32 × Int32)) : Prop := ∃ xs, gh_x G h t a ea cap xs gs
/-- what is found: nothing, or a gathering's cell and its place -/
def gt_r (xs : List Nat) (gs : List (Int32 × Int32)) (p : Int32 × Int32 → Bool) (r : Option Nat) : Prop := (gs.find? p = none ∧ r = none) ∨ ∃ g y i, gs.find? p = some g ∧ r = some y ∧ xs[i]? = some y ∧ gs[i]? = some g ∧ (gs.take i).find? p = none ∧ p g = true
theorem gh_ne {G : xa_G} {h : xa_H} {t a ea cap : Nat} {xs : List Nat} {gs : List (Int32 × Int32)} (H : gh_x G h t a ea cap xs gs) : t ≠ a ∧ t ≠ ea ∧ a ≠ ea ∧ (∀ y g, h y = some (gt_d g) → y ≠ a ∧ y ≠ ea ∧ y ≠ t) := by
  obtain ⟨hT, hA, hE, -⟩ := H
  have hne := hA.ne
  obtain ⟨-, -, f, ⟨⟨mc, h1⟩, h2, -⟩, -⟩ := hA
  refine ⟨fun e => ?_, fun e => ?_, hne, fun y e hy => ⟨fun q => ?_, fun q => ?_, fun q => ?_⟩⟩
  · subst e; rw [hT] at h1; cases h1
  · subst e; rw [hT] at h2; cases h2
  · subst q; rw [hy] at h1; cases h1
  · subst q; rw [hy] at h2; cases h2
  · subst q; rw [hy] at hT; cases hT
theorem sg_none {gs : List (Int32 × Int32)} {f r : Int32} (hn : gs.find? (fun g => decide (g.1 = f)) = none) : sv_gather gs f r = (r, gs ++ [(f, r)]) := by
  induction gs with
  | nil => rfl
  | cons g gs ih =>
    rw [List.find?_cons] at hn
    have hg : ¬ g.1 = f := fun q => by simp [q] at hn
    rw [decide_eq_false hg] at hn
    unfold sv_gather
    rw [if_neg hg, ih hn]
    rfl
theorem sg_hit : ∀ {gs : List (Int32 × Int32)} {f r : Int32} {i : Nat} {g : Int32 × Int32}, (gs.take i).find? (fun g => decide (g.1 = f)) = none → gs[i]? = some g → g.1 = f → sv_gather gs f r = (g.2 ||| r, gs.set i (g.1, g.2 ||| r))
  | [], f, r, i, g, _, he, _ => by simp at he
  | a :: gs, f, r, 0, g, _, he, hp => by
    simp at he
    subst he
    unfold sv_gather
    rw [if_pos hp]
    rfl
  | a :: gs, f, r, i + 1, g, hn, he, hp => by
    simp at he
    rw [List.take_succ_cons, List.find?_cons] at hn
    have hg : ¬ a.1 = f := fun q => by simp [q] at hn
    rw [decide_eq_false hg] at hn
    unfold sv_gather
    rw [if_neg hg, sg_hit hn he hp]
    rfl
section GH
variable {G : xa_G} {h : xa_H} {sz : Nat}
theorem ct_H_init {a : Nat} {f : Nat → Option Nat} (ha : h a = some (.inr (6, [.null]))) (hB : G.2.2.1 ≤ a) (hu : h G.2.2.2.1 = some (xr_q 3 0 f)) : xa_T G mm_H_init 4 1 3 [.ref a] h sz (fun o h' z => o = .returned none ∧ z = sz + 1 ∧ gh_at G h' a sz G.2.2.2.1 0 [] ∧ ∀ b, b ≠ a → b ≠ sz → h' b = h b) := by
  refine xt_o ok_H_init rfl rfl ?_
  refine xw_dom (fun hd hBz => ?_)
  have hla := hd _ _ ha
  have hlu := hd _ _ hu
  refine xw_aloadR_n dd_H_init_0 rfl ?_
  refine xw_objInit ol_H_3 wo_in wo_co (by decide) (by decide) dd_H_init_1 ?_
  refine xw_aloadR_n dd_H_init_4 rfl ?_
  refine xw_less (kc' := 0 + 1) (ks' := 0 + 3) (by decide) (by decide) ?_
  refine xw_newA nw_H_9 dd_H_init_5 (fun h1 n1 f1 => ?_)
  refine xw_dup dd_H_init_8 rfl ?_
  refine xw_cl0 (ct_A_init n1 hBz ((f1 _ (by omega)).trans hu)) iv_H_init_9 ok_A_init rfl rfl rfl ?_ (fun _ _ _ q => by cases q.1)
  rintro v h2 z1 ⟨hv, rfl, q1, q2⟩
  cases hv
  have hua : a ≠ G.2.2.2.1 := fun e => by
    rw [← e, ha] at hu
    cases hu
  refine xw_putA fl_H_12 fz_H_12 (by decide) dd_H_init_12 ((q2 a (by omega)).trans ((f1 a (by omega)).trans ha)) rfl hB rfl rfl (fun h3 n3 f3 => ?_)
  obtain ⟨k1, k2, g, ⟨⟨mc, k3⟩, k4, k5, k6⟩, k7⟩ := q1
  refine xw_vret dd_H_init_15 rfl ⟨rfl, rfl, ⟨[], n3, ⟨k1, k2, g, ⟨⟨mc, (f3 sz (by omega)).trans k3⟩, (f3 _ (fun e => hua e.symm)).trans k4, k5, k6⟩, k7⟩, rfl, List.nodup_nil, fun y hy => by simp at hy⟩, fun b b1 b2 => ?_⟩
  exact (f3 b b1).trans ((q2 b b2).trans (f1 b b2))
theorem ct_H_count {t a ea cap : Nat} {gs : List (Int32 × Int32)} (H : gh_at G h t a ea cap gs) : xa_T G mm_H_count 1 0 0 [.ref t] h sz (xq_same h sz (some (.int (nI gs.length)))) := by
  obtain ⟨xs, hT, hA, hE, -⟩ := H
  obtain ⟨fs, hAc⟩ := hA.cell
  refine xt_o ok_H_count rfl rfl ?_
  refine xw_aloadR_n dd_H_count_0 rfl ?_
  refine xw_get fl_H_12 dd_H_count_1 hT rfl ?_
  refine xw_cl0 (ct_A_size' hA) (iv_H_count_4 hAc) ok_A_size rfl rfl rfl ?_ (fun _ _ _ q => by cases q.1)
  rintro v h sz ⟨hv, rfl, rfl⟩
  cases hv
  exact xw_iret dd_H_count_7 rfl ⟨by rw [hE.len], rfl, rfl⟩
/-- the first gathering's cell -/
def gt_f (h : xa_H) (gs : List (Int32 × Int32)) (r : Option Nat) : Prop := (gs.head? = none ∧ r = none) ∨ ∃ g y, gs.head? = some g ∧ r = some y ∧ h y = some (gt_d g)
theorem ct_H_first {t a ea cap : Nat} {gs : List (Int32 × Int32)} (H : gh_at G h t a ea cap gs) : xa_T G mm_H_first 3 0 0 [.ref t] h sz (fun o h' z => h' = h ∧ z = sz ∧ ∃ r, o = .returned (some (va_rf r)) ∧ gt_f h gs r) := by
  obtain ⟨xs, hT, hA, hE, -⟩ := H
  obtain ⟨fs, hAc⟩ := hA.cell
  have hlen := hE.len
  refine xt_o ok_H_first rfl rfl ?_
  refine xw_aloadR_n dd_H_first_0 rfl ?_
  refine xw_get fl_H_12 dd_H_first_1 hT rfl ?_
  refine xw_cl0 (ct_A_isEmpty' hA) (iv_H_first_4 hAc) ok_A_isEmpty rfl rfl rfl ?_ (fun _ _ _ q => by cases q.1)
  rintro v h sz ⟨hv, rfl, rfl⟩
  cases hv
  by_cases h0 : xs.length = 0
  · rw [if_pos h0]
    refine xw_if_eq 14 dd_H_first_7 (by decide) (fun hc => absurd hc (by decide)) (fun hc => ?_)
    refine xw_null dd_H_first_10 ?_
    refine xw_goto 25 dd_H_first_11 (by decide) ?_
    have : gs = [] := List.eq_nil_of_length_eq_zero (by omega)
    subst this
    exact xw_aretN dd_H_first_25 rfl (Or.inl ⟨_, rfl⟩) ⟨rfl, rfl, none, rfl, Or.inl ⟨rfl, rfl⟩⟩
  · rw [if_neg h0]
    refine xw_if_eq 14 dd_H_first_7 (by decide) (fun hc => ?_) (fun hc => absurd rfl hc)
    obtain ⟨y, g, hx, hes, he⟩ := hE.at (i := 0) (by omega)
    refine xw_aloadR_n dd_H_first_14 rfl ?_
    refine xw_get fl_H_12 dd_H_first_15 hT rfl ?_
    refine xw_iconst 0 dd_H_first_18 (by decide) ?_
    refine xw_cl0 (ct_A_get' (i := 0) hA hx) (iv_H_first_19 hAc) ok_A_get rfl rfl rfl ?_ (fun _ _ _ q => by cases q.1)
    rintro v h sz ⟨hv, rfl, rfl⟩
    cases hv
    refine xw_cast cc_H_30 ⟨_, _, rfl⟩ dd_H_first_22 he ?_
    exact xw_aretR dd_H_first_25 rfl (Or.inl ⟨_, rfl⟩) ⟨rfl, rfl, some y, rfl, Or.inr ⟨g, y, by rw [List.head?_eq_getElem?]; exact hes, rfl, he⟩⟩
theorem ct_H_gatheringOf {t a ea cap : Nat} {xs : List Nat} {gs : List (Int32 × Int32)} {n : Int32} (H : gh_x G h t a ea cap xs gs) : xa_T G mm_H_gatheringOf 3 0 0 [.ref t, .int n] h sz (fun o h' z => h' = h ∧ z = sz ∧ ∃ r, o = .returned (some (va_rf r)) ∧ gt_r xs gs (fun g => decide (g.1 = n)) r) := by
  obtain ⟨hT, hA, hE, -⟩ := H
  obtain ⟨fs, hAc⟩ := hA.cell
  have hlen := hE.len
  have hcl := hA.len
  have loop : ∀ (k i : Nat) (o : Option Value), i + k = gs.length → (gs.take i).find? (fun g => decide (g.1 = n)) = none → xa_W G mm_H_gatheringOf 3 0 0 2 [some (.ref t), some (.int n), some (.int (nI i)), o] [] h sz (fun o h' z => h' = h ∧ z = sz ∧ ∃ r, o = .returned (some (va_rf r)) ∧ gt_r xs gs (fun g => decide (g.1 = n)) r) := by
    intro k
    induction k with
    | zero =>
      intro i o hk hn
      refine xw_iload_n dd_H_gatheringOf_2 rfl ?_
      refine xw_aloadR_n dd_H_gatheringOf_3 rfl ?_
      refine xw_get fl_H_12 dd_H_gatheringOf_4 hT rfl ?_
      refine xw_cl0 (ct_A_size' hA) (iv_H_gatheringOf_7 hAc) ok_A_size rfl rfl rfl ?_ (fun _ _ _ q => by cases q.1)
      rintro v h sz ⟨hv, rfl, rfl⟩
      cases hv
      refine xw_icmp_ge 41 dd_H_gatheringOf_10 (by decide) (fun hc => ?_) (fun hc => absurd (nI_le (by omega) (by omega)) hc)
      refine xw_null dd_H_gatheringOf_41 ?_
      exact xw_aretN dd_H_gatheringOf_42 rfl (Or.inl ⟨_, rfl⟩) ⟨rfl, rfl, none, rfl, Or.inl ⟨sf_end hn (by omega), rfl⟩⟩
    | succ k ih =>
      intro i o hk hn
      obtain ⟨y, e, hx, hes, he⟩ := hE.at (i := i) (by omega)
      refine xw_iload_n dd_H_gatheringOf_2 rfl ?_
      refine xw_aloadR_n dd_H_gatheringOf_3 rfl ?_
      refine xw_get fl_H_12 dd_H_gatheringOf_4 hT rfl ?_
      refine xw_cl0 (ct_A_size' hA) (iv_H_gatheringOf_7 hAc) ok_A_size rfl rfl rfl ?_ (fun _ _ _ q => by cases q.1)
      rintro v h sz ⟨hv, rfl, rfl⟩
      cases hv
      refine xw_icmp_ge 41 dd_H_gatheringOf_10 (by decide) (fun hc => absurd hc (nI_ge (by omega) (by omega))) (fun hc => ?_)
      refine xw_aloadR_n dd_H_gatheringOf_13 rfl ?_
      refine xw_get fl_H_12 dd_H_gatheringOf_14 hT rfl ?_
      refine xw_iload_n dd_H_gatheringOf_17 rfl ?_
      refine xw_cl0 (ct_A_get' hA hx) (iv_H_gatheringOf_18 hAc) ok_A_get rfl rfl rfl ?_ (fun _ _ _ q => by cases q.1)
      rintro v h sz ⟨hv, rfl, rfl⟩
      cases hv
      refine xw_cast cc_H_30 ⟨_, _, rfl⟩ dd_H_gatheringOf_21 he ?_
      refine xw_astoreR_n dd_H_gatheringOf_24 (by decide) ?_
      refine xw_aloadR_n dd_H_gatheringOf_25 rfl ?_
      refine xw_get fl_H_32 dd_H_gatheringOf_26 he rfl ?_
      refine xw_iload_n dd_H_gatheringOf_29 rfl ?_
      refine xw_icmp_ne 35 dd_H_gatheringOf_30 (by decide) (fun hc => ?_) (fun hc => ?_)
      · refine xw_iinc dd_H_gatheringOf_35 rfl (nI_1 i) (by decide) ?_
        refine xw_goto 2 dd_H_gatheringOf_38 (by decide) ?_
        exact ih (i + 1) _ (by omega) (sf_step hn hes (decide_eq_false hc))
      · refine xw_aloadR_n dd_H_gatheringOf_33 rfl ?_
        exact xw_aretR dd_H_gatheringOf_34 rfl (Or.inl ⟨_, rfl⟩) ⟨rfl, rfl, some y, rfl, Or.inr ⟨e, y, i, sf_hit hn hes (decide_eq_true hc), rfl, hx, hes, hn, decide_eq_true hc⟩⟩
  refine xt_o ok_H_gatheringOf rfl rfl ?_
  refine xw_iconst 0 dd_H_gatheringOf_0 (by decide) ?_
  refine xw_istore_n dd_H_gatheringOf_1 (by decide) ?_
  exact loop gs.length 0 _ (by omega) rfl
/-- the gathering that must be closed first -/
def sv_way (gs : List (Int32 × Int32)) (f : Int32) : Option (Int32 × Int32) := if gs.length < 3 ∨ (sv_gOf gs f).isSome then none else gs.head?
def gt_w (h : xa_H) (g : Option (Int32 × Int32)) (r : Option Nat) : Prop := (g = none ∧ r = none) ∨ ∃ g' y, g = some g' ∧ r = some y ∧ h y = some (gt_d g')
theorem ct_H_inTheWayOf {t a ea cap : Nat} {gs : List (Int32 × Int32)} {n : Int32} (H : gh_at G h t a ea cap gs) : xa_T G mm_H_inTheWayOf 4 0 0 [.ref t, .int n] h sz (fun o h' z => h' = h ∧ z = sz ∧ ∃ r, o = .returned (some (va_rf r)) ∧ gt_w h (sv_way gs n) r) := by
  have H0 := H
  obtain ⟨xs, H1⟩ := H
  obtain ⟨hT, hA, hE, -⟩ := id H1
  obtain ⟨fs, hAc⟩ := hA.cell
  have hlen := hE.len
  have hcl := hA.len
  have no : sv_way gs n = none → xa_W G mm_H_inTheWayOf 4 0 0 19 [some (.ref t), some (.int n)] [] h sz (fun o h' z => h' = h ∧ z = sz ∧ ∃ r, o = .returned (some (va_rf r)) ∧ gt_w h (sv_way gs n) r) := by
    intro hw
    refine xw_null dd_H_inTheWayOf_19 ?_
    refine xw_goto 27 dd_H_inTheWayOf_20 (by decide) ?_
    exact xw_aretN dd_H_inTheWayOf_27 rfl (Or.inl ⟨_, rfl⟩) ⟨rfl, rfl, none, rfl, Or.inl ⟨hw, rfl⟩⟩
  refine xt_o ok_H_inTheWayOf rfl rfl ?_
  refine xw_aloadR_n dd_H_inTheWayOf_0 rfl ?_
  refine xw_get fl_H_12 dd_H_inTheWayOf_1 hT rfl ?_
  refine xw_cl0 (ct_A_size' hA) (iv_H_inTheWayOf_4 hAc) ok_A_size rfl rfl rfl ?_ (fun _ _ _ q => by cases q.1)
  rintro v h sz ⟨hv, rfl, rfl⟩
  cases hv
  refine xw_iconst 3 dd_H_inTheWayOf_7 (by decide) ?_
  refine xw_icmp_lt 19 dd_H_inTheWayOf_8 (by decide) (fun hc => no ?_) (fun hc => ?_)
  · unfold sv_way
    rw [if_pos (Or.inl ?_)]
    have := (nI_ltI (a := xs.length) (b := 3) (by omega) (by decide)).mp hc
    omega
  · have h3 : ¬ gs.length < 3 := fun q => hc (nI_lt (a := xs.length) (b := 3) (by omega) (by decide))
    refine xw_aloadR_n dd_H_inTheWayOf_11 rfl ?_
    refine xw_iload_n dd_H_inTheWayOf_12 rfl ?_
    refine xw_cl0 (ct_H_gatheringOf H1) (iv_H_inTheWayOf_13 hT) ok_H_gatheringOf rfl rfl rfl ?_ (fun _ _ _ q => by cases q.2.2.choose_spec.1)
    rintro v h sz ⟨rfl, rfl, r, hv, hr⟩
    cases hv
    rcases hr with ⟨k1, rfl⟩ | ⟨g, y, i, k1, rfl, -⟩
    · refine xw_ifnullN 23 dd_H_inTheWayOf_16 (by decide) ?_
      refine xw_aloadR_n dd_H_inTheWayOf_23 rfl ?_
      refine xw_cl0 (ct_H_first H0) (iv_H_inTheWayOf_24 hT) ok_H_first rfl rfl rfl ?_ (fun _ _ _ q => by cases q.2.2.choose_spec.1)
      rintro v h sz ⟨rfl, rfl, r, hv, hr⟩
      cases hv
      refine xw_aret dd_H_inTheWayOf_27 rfl (Or.inl ⟨_, rfl⟩) ⟨rfl, rfl, r, rfl, ?_⟩
      have hw : sv_way gs n = gs.head? := by
        unfold sv_way
        rw [if_neg]
        rintro (q | q)
        · exact h3 q
        · unfold sv_gOf at q
          rw [k1] at q
          cases q
      rw [hw]
      exact hr
    · refine xw_ifnullR dd_H_inTheWayOf_16 ?_
      refine no ?_
      unfold sv_way
      rw [if_pos (Or.inr ?_)]
      unfold sv_gOf
      rw [k1]
      rfl
/-- the array of a list is the one that it was, or a new one -/
def er (sz ea cap ea' cap' : Nat) : Prop := (ea' = ea ∧ cap' = cap) ∨ sz ≤ ea'
theorem er.trans {sz sz1 ea cap ea1 cap1 ea2 cap2 : Nat} (H1 : er sz ea cap ea1 cap1) (H2 : er sz1 ea1 cap1 ea2 cap2) (hz : sz ≤ sz1) : er sz ea cap ea2 cap2 := by
  rcases H2 with ⟨rfl, rfl⟩ | q
  · exact H1
  · exact Or.inr (by omega)
/-- what a change of the gatherings keeps -/
abbrev gh_k (a ea cap : Nat) : Nat → xa_E → Prop := fun b e => b ≠ a ∧ (b ≠ ea ∨ cap = 0) ∧ ∀ q, e ≠ .inr (5, q)
theorem ct_H_gather {t a ea cap : Nat} {gs : List (Int32 × Int32)} {f r : Int32} (H : gh_at G h t a ea cap gs) (hn : gs.length ≤ 15) (hc : cap ≤ 22) : xa_T G mm_H_gather 7 2 24 [.ref t, .int f, .int r] h sz (fun o h' z => o = .returned (some (.int (sv_gather gs f r).1)) ∧ (∃ ea' cap', gh_at G h' t a ea' cap' (sv_gather gs f r).2 ∧ cap' ≤ 22 ∧ er sz ea cap ea' cap') ∧ sz ≤ z ∧ xk h h' (gh_k a ea cap)) := by
  obtain ⟨xs, H⟩ := H
  have H0 := H
  obtain ⟨k1, k2, k3, k4⟩ := gh_ne H
  obtain ⟨hT, hA, hE, hnd, hB⟩ := H
  obtain ⟨fs, hAc⟩ := hA.cell
  have hlen := hE.len
  have hcl := hA.len
  have tail : ∀ (h2 : xa_H) (z2 ea2 cap2 : Nat) (xs2 : List Nat) (gs2 : List (Int32 × Int32)) (i y : Nat) (r0 : Int32), gh_x G h2 t a ea2 cap2 xs2 gs2 → xs2[i]? = some y → gs2[i]? = some (f, r0) → cap2 ≤ 22 → er sz ea cap ea2 cap2 → sz ≤ z2 → xk h h2 (gh_k a ea cap) → sv_gather gs f r = (r0 ||| r, gs2.set i (f, r0 ||| r)) → xa_W G mm_H_gather 7 0 0 28 [some (.ref t), some (.int f), some (.int r), some (.ref y)] [] h2 z2 (fun o h' z => o = .returned (some (.int (sv_gather gs f r).1)) ∧ (∃ ea' cap', gh_at G h' t a ea' cap' (sv_gather gs f r).2 ∧ cap' ≤ 22 ∧ er sz ea cap ea' cap') ∧ sz ≤ z ∧ xk h h' (gh_k a ea cap)) := by
    intro h2 z2 ea2 cap2 xs2 gs2 i y r0 H2 hx hg hc2 hea hz2 hk hs
    obtain ⟨j1, j2, j3, j4⟩ := gh_ne H2
    obtain ⟨hT2, hA2, hE2, hnd2, hB2⟩ := H2
    have hi2 := (List.getElem?_eq_some_iff.mp hg).1
    have hy : h2 y = some (gt_d (f, r0)) := by
      obtain ⟨y', g', w1, w2, w3⟩ := hE2.at (i := i) hi2
      rw [hx] at w1
      rw [hg] at w2
      cases w1
      cases w2
      exact w3
    obtain ⟨n1, n2, n3⟩ := j4 y _ hy
    refine xw_aloadR_n dd_H_gather_28 rfl ?_
    refine xw_dup dd_H_gather_29 rfl ?_
    refine xw_get fl_H_51 dd_H_gather_30 hy rfl ?_
    refine xw_iload_n dd_H_gather_33 rfl ?_
    refine xw_ior dd_H_gather_34 ?_
    refine xw_putA fl_H_51 fz_H_51 (by decide) dd_H_gather_35 hy rfl (hB2 y (List.mem_of_getElem? hx)) rfl rfl (fun h3 m3 f3 => ?_)
    refine xw_aloadR_n dd_H_gather_38 rfl ?_
    refine xw_get fl_H_51 dd_H_gather_39 m3 rfl ?_
    refine xw_iret dd_H_gather_42 rfl ⟨by rw [hs], ⟨ea2, cap2, ⟨xs2, (f3 t (fun q => n3 q.symm)).trans hT2, ?_, ?_, hnd2, hB2⟩, hc2, hea⟩, hz2, fun b e hb hp => ?_⟩
    · obtain ⟨w1, w2, g, ⟨⟨mc, w3⟩, w4, w5, w6⟩, w7⟩ := hA2
      exact ⟨w1, w2, g, ⟨⟨mc, (f3 a (fun q => n1 q.symm)).trans w3⟩, (f3 ea2 (fun q => n2 q.symm)).trans w4, w5, w6⟩, w7⟩
    · rw [hs]
      exact hE2.upd hnd2 hx m3 f3
    · have hb2 := hk b e hb hp
      rw [f3 b (fun q => ?_)]
      · exact hb2
      · subst q
        rw [hy] at hb2
        exact hp.2.2 _ (Option.some.inj hb2).symm
  refine xt_o ok_H_gather rfl rfl ?_
  refine xw_dom (fun hd hBz => ?_)
  refine xw_aloadR_n dd_H_gather_0 rfl ?_
  refine xw_iload_n dd_H_gather_1 rfl ?_
  refine xw_cl0 (ct_H_gatheringOf H0) (iv_H_gather_2 hT) ok_H_gatheringOf rfl rfl rfl ?_ (fun _ _ _ q => by cases q.2.2.choose_spec.1)
  rintro v h sz ⟨rfl, rfl, r1, hv, hr⟩
  cases hv
  rcases hr with ⟨w1, rfl⟩ | ⟨g, y, i, w1, rfl, w2, w3, w4, w5⟩
  · refine xw_astore_n (r := none) dd_H_gather_5 (by decide) ?_
    refine xw_aload_n (r := none) dd_H_gather_6 rfl ?_
    refine xw_ifnonnullN dd_H_gather_7 ?_
    refine xw_less (kc' := 1 + 1) (ks' := 22 + 2) (by decide) (by decide) ?_
    refine xw_newA nw_H_30 dd_H_gather_10 (fun h1 m1 f1 => ?_)
    refine xw_dup dd_H_gather_13 rfl ?_
    refine xw_iload_n dd_H_gather_14 rfl ?_
    refine xw_cl0 (ct_G_init m1 hBz) iv_H_gather_15 ok_G_init rfl rfl rfl ?_ (fun _ _ _ q => by cases q.1)
    rintro v h2 z2 ⟨hv, rfl, m2, f2⟩
    cases hv
    have h12 : ∀ b, b ≠ sz → h2 b = h b := fun b hb => (f2 b hb).trans (f1 b hb)
    have hla := hd _ _ hAc
    have hlt := hd _ _ hT
    have hA2 : al_x G h2 a ea cap xs := by
      obtain ⟨u1, u2, g, ⟨⟨mc, u3⟩, u4, u5, u6⟩, u7⟩ := hA
      have := hd _ _ u4
      exact ⟨u1, u2, g, ⟨⟨mc, (h12 a (by omega)).trans u3⟩, (h12 ea (by omega)).trans u4, u5, u6⟩, u7⟩
    have hE2 : gt_l h2 xs gs := hE.keep (fun y g hy => h12 y (by have := hd _ _ hy; omega))
    refine xw_astoreR_n dd_H_gather_18 (by decide) ?_
    refine xw_aloadR_n dd_H_gather_19 rfl ?_
    refine xw_get fl_H_12 dd_H_gather_20 ((h12 t (by omega)).trans hT) rfl ?_
    refine xw_aloadR_n dd_H_gather_23 rfl ?_
    have hpay : al_pay xs.length cap ≤ 22 := by
      unfold al_pay
      split
      · unfold al_cap
        split <;> omega
      · omega
    refine xw_less (kc' := 0 + 1) (ks' := 0 + al_pay xs.length cap) (by omega) (by omega) ?_
    refine xw_cl (ct_A_add1 hA2 hE2.obj (by omega) m2 xo_5) (iv_H_gather_24 ((h12 a (by omega)).trans hAc)) ok_A_add1 rfl rfl rfl ?_ (fun _ _ _ q => by cases q.1)
    rintro v h3 z3 ⟨hv, ea', cap', g1, g2, g3⟩
    cases hv
    refine xw_pop dd_H_gather_27 rfl ?_
    have hlea : ea < sz := by
      obtain ⟨u1, u2, g, ⟨⟨mc, u3⟩, u4, u5, u6⟩, u7⟩ := hA
      exact hd _ _ u4
    have hk3 : ∀ b, b < sz → b ≠ a → (b ≠ ea ∨ cap = 0) → h3 b = h b := by
      intro b hb b1 b2
      rw [← h12 b (by omega)]
      rcases g3 with ⟨r1, r2, r3, r4⟩ | ⟨r1, r2, r3, r4, r5⟩
      · have := g1.len
        rw [List.length_append] at this
        simp at this
        exact g2 b b1 (b2.resolve_right (by omega)) (by omega)
      · by_cases q : b = ea
        · rw [q]; exact r5
        · exact g2 b b1 q (by omega)
    have hs3 : h3 sz = some (gt_d (f, 0)) := (g2 sz (by omega) (by omega) (by omega)).trans m2
    refine tail h3 z3 ea' cap' (xs ++ [sz]) (gs ++ [(f, 0)]) gs.length sz 0 ⟨?_, g1, ?_, ?_, ?_⟩ ?_ ?_ ?_ ?_ ?_ (fun b e hb hp => ?_) ?_
    · exact (g2 t k1 k2 (by omega)).trans ((h12 t (by omega)).trans hT)
    · refine gt_l.app (hE.keep (fun y g hy => ?_)) hs3
      have hly := hd _ _ hy
      exact (g2 y (k4 y g hy).1 (k4 y g hy).2.1 (by omega)).trans (h12 y (by omega))
    · rw [List.nodup_append]
      refine ⟨hnd, by simp, fun b hb c hc => ?_⟩
      obtain ⟨g, -, hy⟩ := hE.mem hb
      have := hd _ _ hy
      simp at hc
      omega
    · intro b hb
      rcases List.mem_append.mp hb with hb | hb
      · exact hB b hb
      · simp at hb; omega
    · rw [List.getElem?_append_right (by omega), hlen]; simp
    · rw [List.getElem?_append_right (by omega)]; simp
    · rcases g3 with ⟨r1, r2, r3, r4⟩ | ⟨r1, r2, r3, r4, r5⟩
      · omega
      · rw [r2]
        unfold al_cap
        split <;> omega
    · rcases g3 with ⟨r1, r2, r3, r4⟩ | ⟨r1, r2, r3, r4, r5⟩
      · exact Or.inl ⟨r1, r2⟩
      · exact Or.inr (by omega)
    · rcases g3 with ⟨r1, r2, r3, r4⟩ | ⟨r1, r2, r3, r4, r5⟩ <;> omega
    · rw [hk3 b (hd _ _ hb) hp.1 hp.2.1]
      exact hb
    · rw [sg_none w1]
      have : (0 : Int32) ||| r = r := by simp
      rw [this, List.set_append_right _ _ (by omega)]
      simp
  · have hgf : g.1 = f := by simpa using w5
    obtain ⟨gf, gr⟩ := g
    cases hgf
    refine xw_astore_n (r := some y) dd_H_gather_5 (by decide) ?_
    refine xw_aloadR_n dd_H_gather_6 rfl ?_
    refine xw_ifnonnullR 28 dd_H_gather_7 (by decide) ?_
    refine xw_less (kc' := 0) (ks' := 0) (by decide) (by decide) ?_
    exact tail h sz ea cap xs gs i y gr H0 w2 w3 hc (Or.inl ⟨rfl, rfl⟩) (Nat.le_refl _) xk.refl (sg_hit w4 w3 rfl)
theorem ct_H_take {t a ea cap : Nat} {gs : List (Int32 × Int32)} {n : Int32} (H : gh_at G h t a ea cap gs) : xa_T G mm_H_take 3 0 0 [.ref t, .int n] h sz (fun o h' z => o = .returned none ∧ z = sz ∧ gh_at G h' t a ea cap (sv_take gs n) ∧ ∀ b, b ≠ a → (b ≠ ea ∨ cap = 0) → h' b = h b) := by
  have H9 := H
  obtain ⟨xs, H⟩ := H
  have H0 := H
  obtain ⟨k1, k2, k3, k4⟩ := gh_ne H
  obtain ⟨hT, hA, hE, hnd, hB⟩ := H
  obtain ⟨fs, hAc⟩ := hA.cell
  have hlen := hE.len
  have hcl := hA.len
  have loop : ∀ (k i : Nat), i + k = gs.length → (gs.take i).find? (fun g => decide (g.1 = n)) = none → xa_W G mm_H_take 3 0 0 2 [some (.ref t), some (.int n), some (.int (nI i))] [] h sz (fun o h' z => o = .returned none ∧ z = sz ∧ gh_at G h' t a ea cap (sv_take gs n) ∧ ∀ b, b ≠ a → (b ≠ ea ∨ cap = 0) → h' b = h b) := by
    intro k
    induction k with
    | zero =>
      intro i hk hn
      refine xw_iload_n dd_H_take_2 rfl ?_
      refine xw_aloadR_n dd_H_take_3 rfl ?_
      refine xw_get fl_H_12 dd_H_take_4 hT rfl ?_
      refine xw_cl0 (ct_A_size' hA) (iv_H_take_7 hAc) ok_A_size rfl rfl rfl ?_ (fun _ _ _ q => by cases q.1)
      rintro v h sz ⟨hv, rfl, rfl⟩
      cases hv
      refine xw_icmp_ge 47 dd_H_take_10 (by decide) (fun hc => ?_) (fun hc => absurd (nI_le (by omega) (by omega)) hc)
      exact xw_vret dd_H_take_47 rfl ⟨rfl, rfl, by unfold sv_take; rw [sf_none (sf_end hn (by omega))]; exact H9, fun _ _ _ => rfl⟩
    | succ k ih =>
      intro i hk hn
      obtain ⟨y, e, hx, hes, he⟩ := hE.at (i := i) (by omega)
      refine xw_iload_n dd_H_take_2 rfl ?_
      refine xw_aloadR_n dd_H_take_3 rfl ?_
      refine xw_get fl_H_12 dd_H_take_4 hT rfl ?_
      refine xw_cl0 (ct_A_size' hA) (iv_H_take_7 hAc) ok_A_size rfl rfl rfl ?_ (fun _ _ _ q => by cases q.1)
      rintro v h sz ⟨hv, rfl, rfl⟩
      cases hv
      refine xw_icmp_ge 47 dd_H_take_10 (by decide) (fun hc => absurd hc (nI_ge (by omega) (by omega))) (fun hc => ?_)
      refine xw_aloadR_n dd_H_take_13 rfl ?_
      refine xw_get fl_H_12 dd_H_take_14 hT rfl ?_
      refine xw_iload_n dd_H_take_17 rfl ?_
      refine xw_cl0 (ct_A_get' hA hx) (iv_H_take_18 hAc) ok_A_get rfl rfl rfl ?_ (fun _ _ _ q => by cases q.1)
      rintro v h sz ⟨hv, rfl, rfl⟩
      cases hv
      refine xw_cast cc_H_30 ⟨_, _, rfl⟩ dd_H_take_21 he ?_
      refine xw_get fl_H_32 dd_H_take_24 he rfl ?_
      refine xw_iload_n dd_H_take_27 rfl ?_
      refine xw_icmp_ne 41 dd_H_take_28 (by decide) (fun hc2 => ?_) (fun hc2 => ?_)
      · refine xw_iinc dd_H_take_41 rfl (nI_1 i) (by decide) ?_
        refine xw_goto 2 dd_H_take_44 (by decide) ?_
        exact ih (i + 1) (by omega) (sf_step hn hes (decide_eq_false hc2))
      · refine xw_aloadR_n dd_H_take_31 rfl ?_
        refine xw_get fl_H_12 dd_H_take_32 hT rfl ?_
        refine xw_iload_n dd_H_take_35 rfl ?_
        refine xw_cl0 (ct_A_remove hA hE.obj hx) (iv_H_take_36 hAc) ok_A_remove rfl rfl rfl ?_ (fun _ _ _ q => by cases q.1)
        rintro v h' z1 ⟨hv, rfl, g1, g2⟩
        cases hv
        refine xw_pop dd_H_take_39 rfl ?_
        have hke : ∀ y e', h y = some (gt_d e') → h' y = h y := fun y e' hy => g2 y (k4 y e' hy).1 (k4 y e' hy).2.1
        refine xw_vret dd_H_take_40 rfl ⟨rfl, rfl, ⟨_, (g2 t k1 k2).trans hT, g1, ?_, hnd.sublist (List.eraseIdx_sublist ..), fun y hy => hB y ((List.eraseIdx_sublist ..).mem hy)⟩, fun b b1 b2 => g2 b b1 (b2.resolve_right (by omega))⟩
        unfold sv_take
        rw [← sf_erase hn hes (decide_eq_true hc2)]
        exact (hE.keep hke).del
  refine xt_o ok_H_take rfl rfl ?_
  refine xw_iconst 0 dd_H_take_0 (by decide) ?_
  refine xw_istore_n dd_H_take_1 (by decide) ?_
  exact loop gs.length 0 (by omega) rfl
theorem gh_clear {t a ea cap : Nat} {gs : List (Int32 × Int32)} {h' : xa_H} (H : gh_at G h t a ea cap gs) (g1 : al_x G h' a ea cap []) (g2 : ∀ b, b ≠ a → (b ≠ ea ∨ cap = 0) → h' b = h b) : gh_at G h' t a ea cap [] := by
  obtain ⟨xs, H⟩ := H
  obtain ⟨k1, k2, k3, k4⟩ := gh_ne H
  exact ⟨[], (g2 t k1 (Or.inl k2)).trans H.1, g1, rfl, List.nodup_nil, fun y hy => by simp at hy⟩
theorem ct_H_forget {t a ea cap : Nat} {gs : List (Int32 × Int32)} (H : gh_at G h t a ea cap gs) : xa_T G mm_H_forget 1 0 0 [.ref t] h sz (fun o h' z => o = .returned none ∧ z = sz ∧ gh_at G h' t a ea cap [] ∧ ∀ b, b ≠ a → (b ≠ ea ∨ cap = 0) → h' b = h b) := by
  have H9 := H
  obtain ⟨xs, hT, hA, hE, hnd, hB⟩ := H
  obtain ⟨fs, hAc⟩ := hA.cell
  refine xt_o ok_H_forget rfl rfl ?_
  refine xw_aloadR_n dd_H_forget_0 rfl ?_
  refine xw_get fl_H_12 dd_H_forget_1 hT rfl ?_
  refine xw_cl0 (ct_A_clear hA) (iv_H_forget_4 hAc) ok_A_clear rfl rfl rfl ?_ (fun _ _ _ q => by cases q.1)
  rintro v h' z1 ⟨hv, rfl, g1, g2⟩
  cases hv
  exact xw_vret dd_H_forget_7 rfl ⟨rfl, rfl, gh_clear H9 g1 g2, g2⟩
theorem sg_len (gs : List (Int32 × Int32)) (f r : Int32) : (sv_gather gs f r).2.length ≤ gs.length + 1 := by
  induction gs with
  | nil => exact Nat.le_refl _
  | cons g gs ih =>
    unfold sv_gather
    split
    · simp
    · simp; omega
theorem st_len (gs : List (Int32 × Int32)) (f : Int32) : (sv_take gs f).length ≤ gs.length := (List.eraseP_sublist ..).length_le
/-- the notes that the ring keeps -/
def rn_at (h : xa_H) (f : Nat → Option Nat) (hd : Nat) (rg : Nat → Nat → Int32) : Prop := ∀ s, rg_tl hd ≤ s → s < hd → ∃ y ey e r, f (s % 16) = some y ∧ h y = some (nt_c ey r) ∧ h ey = some (en_c e) ∧ rg (s % 16) = sv_item e r
/-- the gatherings that the kept notes leave open -/
def sv_rc (rg : Nat → Nat → Int32) (gs : List (Int32 × Int32)) (s : Nat) : List (Int32 × Int32) := if rg (s % 16) 5 &&& 64 = 0 then (sv_gather gs (rg (s % 16) 0) (rg (s % 16) 5)).2 else sv_take gs (rg (s % 16) 0)
def sv_rcs (rg : Nat → Nat → Int32) : Nat → Nat → List (Int32 × Int32) → List (Int32 × Int32)
  | 0, _, gs => gs
  | k + 1, s, gs => sv_rcs rg k (s + 1) (sv_rc rg gs s)
def sv_recall (hd : Nat) (rg : Nat → Nat → Int32) : List (Int32 × Int32) := sv_rcs rg (hd - rg_tl hd) (rg_tl hd) []
theorem gh_k_step {a ea cap ea1 cap1 : Nat} {h1 h2 : xa_H} (hd : xd_h h sz) (H1 : xk h h1 (gh_k a ea cap)) (he : er sz ea cap ea1 cap1) (H2 : xk h1 h2 (gh_k a ea1 cap1)) : xk h h2 (gh_k a ea cap) := by
  intro b e hb hp
  refine H2 b e (H1 b e hb hp) ⟨hp.1, ?_, hp.2.2⟩
  rcases he with ⟨rfl, rfl⟩ | q
  · exact hp.2.1
  · have := hd _ _ hb
    exact Or.inl (by omega)
theorem ct_H_recall {t a ea cap r c hd : Nat} {gs : List (Int32 × Int32)} {f : Nat → Option Nat} {rg : Nat → Nat → Int32} (H : gh_at G h t a ea cap gs) (hc : cap ≤ 22) (hR : rg_at h r c hd f) (hN : rn_at h f hd rg) (hce : c ≠ ea) : xa_T G mm_H_recall 8 32 384 [.ref t, .ref r] h sz (fun o h' z => o = .returned none ∧ (∃ ea' cap', gh_at G h' t a ea' cap' (sv_recall hd rg) ∧ cap' ≤ 22 ∧ er sz ea cap ea' cap') ∧ sz ≤ z ∧ xk h h' (gh_k a ea cap)) := by
  have H9 := H
  obtain ⟨xs, hT, hA, hE, hnd, hB⟩ := id H
  obtain ⟨fs, hAc⟩ := hA.cell
  have htl : 1 ≤ rg_tl hd ∧ rg_tl hd ≤ hd ∧ hd - rg_tl hd ≤ 16 ∧ hd < 1000000 := by
    have := hR.2.2
    unfold rg_tl
    split <;> omega
  refine xt_o ok_H_recall rfl rfl ?_
  refine xw_dom (fun hdm hBz => ?_)
  have loop : ∀ (k s : Nat) (h1 : xa_H) (z1 ea1 cap1 : Nat) (gs1 : List (Int32 × Int32)) (o : Option Value), s + k = hd → rg_tl hd ≤ s → gs1.length + k ≤ 16 → gh_at G h1 t a ea1 cap1 gs1 → cap1 ≤ 22 → er sz ea cap ea1 cap1 → sz ≤ z1 → xk h h1 (gh_k a ea cap) → sv_rcs rg k s gs1 = sv_recall hd rg → xa_W G mm_H_recall 8 (2 * k) (24 * k) 12 [some (.ref t), some (.ref r), some (.int (nI s)), o] [] h1 z1 (fun o h' z => o = .returned none ∧ (∃ ea' cap', gh_at G h' t a ea' cap' (sv_recall hd rg) ∧ cap' ≤ 22 ∧ er sz ea cap ea' cap') ∧ sz ≤ z ∧ xk h h' (gh_k a ea cap)) := by
    intro k
    induction k with
    | zero =>
      intro s h1 z1 ea1 cap1 gs1 o hk hs hl Hg hc1 he1 hz1 hx1 hq
      have hR1 : rg_at h1 r c hd f := ⟨hx1 _ _ hR.1 ⟨fun q => ?_, ?_, fun q w => by cases w⟩, hx1 _ _ hR.2.1 ⟨fun q => ?_, Or.inl hce, fun q w => by cases w⟩, hR.2.2⟩
      · refine xw_iload_n dd_H_recall_12 rfl ?_
        refine xw_aloadR_n dd_H_recall_13 rfl ?_
        refine xw_cl0 (ct_R_nextSerial hR1) (iv_H_recall_14 hR1.1) ok_R_nextSerial rfl rfl rfl ?_ (fun _ _ _ q => by cases q.1)
        rintro v h1 z1 ⟨hv, rfl, rfl⟩
        cases hv
        refine xw_icmp_ge 78 dd_H_recall_17 (by decide) (fun hc => ?_) (fun hc => absurd (nI_le (by omega) (by omega)) hc)
        refine xw_vret dd_H_recall_78 rfl ⟨rfl, ⟨ea1, cap1, ?_, hc1, he1⟩, hz1, hx1⟩
        rw [← hq]
        exact Hg
      · have w := hR.1
        rw [q, hAc] at w
        cases w
      · refine Or.inl (fun q => ?_)
        obtain ⟨-, -, g, ⟨-, w4, -⟩, -⟩ := hA
        rw [← q, hR.1] at w4
        cases w4
      · have w := hR.2.1
        rw [q, hAc] at w
        cases w
    | succ k ih =>
      intro s h1 z1 ea1 cap1 gs1 o hk hs hl Hg hc1 he1 hz1 hx1 hq
      have hR1 : rg_at h1 r c hd f := ⟨hx1 _ _ hR.1 ⟨fun q => ?_, ?_, fun q w => by cases w⟩, hx1 _ _ hR.2.1 ⟨fun q => ?_, Or.inl hce, fun q w => by cases w⟩, hR.2.2⟩
      · obtain ⟨y, ey, e, rr, w1, w2, w3, w4⟩ := hN s hs (by omega)
        have hne : ∀ b q, h b = some q → (∀ t n f, q ≠ xr_q t n f) → (∀ w, q ≠ .inr (8, w)) → b ≠ a ∧ (b ≠ ea ∨ cap = 0) := by
          intro b q hb n1 n2
          refine ⟨fun w => ?_, Or.inl (fun w => ?_)⟩
          · rw [w, hAc] at hb
            exact n2 _ (Option.some.inj hb).symm
          · obtain ⟨-, -, g, ⟨-, u4, -⟩, -⟩ := hA
            rw [w, u4] at hb
            exact n1 _ _ _ (Option.some.inj hb).symm
        have w2' : h1 y = some (nt_c ey rr) := hx1 _ _ w2 ⟨(hne _ _ w2 (fun _ _ _ w => by cases w) (fun _ w => by cases w)).1, (hne _ _ w2 (fun _ _ _ w => by cases w) (fun _ w => by cases w)).2, fun _ w => by cases w⟩
        have w3' : h1 ey = some (en_c e) := hx1 _ _ w3 ⟨(hne _ _ w3 (fun _ _ _ w => by cases w) (fun _ w => by cases w)).1, (hne _ _ w3 (fun _ _ _ w => by cases w) (fun _ w => by cases w)).2, fun _ w => by cases w⟩
        refine xw_iload_n dd_H_recall_12 rfl ?_
        refine xw_aloadR_n dd_H_recall_13 rfl ?_
        refine xw_cl0 (ct_R_nextSerial hR1) (iv_H_recall_14 hR1.1) ok_R_nextSerial rfl rfl rfl ?_ (fun _ _ _ q => by cases q.1)
        rintro v h1 z1 ⟨hv, rfl, rfl⟩
        cases hv
        refine xw_icmp_ge 78 dd_H_recall_17 (by decide) (fun hc => absurd hc (nI_ge (by omega) (by omega))) (fun hc => ?_)
        refine xw_aloadR_n dd_H_recall_20 rfl ?_
        refine xw_iload_n dd_H_recall_21 rfl ?_
        refine xw_cl0 (ct_R_noteAt hR1) (iv_H_recall_22 hR1.1) ok_R_noteAt rfl rfl rfl ?_ (fun _ _ _ q => by cases q.1)
        rintro v h1 z1 ⟨hv, rfl, rfl⟩
        cases hv
        rw [if_pos ⟨nI_le hs (by omega), nI_lt (by omega) (by omega)⟩, nI_clamp (by omega), w1]
        refine xw_astore_n (r := some y) dd_H_recall_25 (by decide) ?_
        refine xw_aloadR_n dd_H_recall_26 rfl ?_
        refine xw_ifnonnullR 33 dd_H_recall_27 (by decide) ?_
        refine xw_aloadR_n dd_H_recall_33 rfl ?_
        refine xw_bipush 64 dd_H_recall_34 (by decide) ?_
        refine xw_cl0 (ct_N_hasAny w2') (iv_H_recall_36 w2') ok_N_hasAny rfl rfl rfl ?_ (fun _ _ _ q => by cases q.1)
        rintro v h1 z1 ⟨hv, rfl, rfl⟩
        cases hv
        have e0 : rg (s % 16) 0 = e.1 := by rw [w4]; rfl
        have e5 : rg (s % 16) 5 = rr := by rw [w4]; rfl
        have next : ∀ (h2 : xa_H) (z2 ea2 cap2 : Nat), gh_at G h2 t a ea2 cap2 (sv_rc rg gs1 s) → cap2 ≤ 22 → er z1 ea1 cap1 ea2 cap2 → z1 ≤ z2 → xk h1 h2 (gh_k a ea1 cap1) → (sv_rc rg gs1 s).length ≤ gs1.length + 1 → xa_W G mm_H_recall 8 (2 * k) (24 * k) 72 [some (.ref t), some (.ref r), some (.int (nI s)), some (.ref y)] [] h2 z2 (fun o h' z => o = .returned none ∧ (∃ ea' cap', gh_at G h' t a ea' cap' (sv_recall hd rg) ∧ cap' ≤ 22 ∧ er sz ea cap ea' cap') ∧ sz ≤ z ∧ xk h h' (gh_k a ea cap)) := by
          intro h2 z2 ea2 cap2 q1 q2 q3 q4 q5 q6
          refine xw_iinc dd_H_recall_72 rfl (nI_1 s) (by decide) ?_
          refine xw_goto 12 dd_H_recall_75 (by decide) ?_
          exact ih (s + 1) h2 z2 ea2 cap2 _ _ (by omega) (by omega) (by omega) q1 q2 (he1.trans q3 hz1) (by omega) (gh_k_step hdm hx1 he1 q5) hq
        have hT1 : h1 t = some (.inr (6, [.ref a])) := by
          obtain ⟨_, q, -⟩ := Hg
          exact q
        by_cases hz : rr &&& 64 = 0
        · rw [if_pos hz]
          refine xw_if_eq 56 dd_H_recall_39 (by decide) (fun hc => ?_) (fun hc => absurd rfl hc)
          refine xw_aloadR_n dd_H_recall_56 rfl ?_
          refine xw_aloadR_n dd_H_recall_57 rfl ?_
          refine xw_get fl_H_78 dd_H_recall_58 w2' rfl ?_
          refine xw_get fl_H_82 dd_H_recall_61 w3' rfl ?_
          refine xw_aloadR_n dd_H_recall_64 rfl ?_
          refine xw_get fl_H_90 dd_H_recall_65 w2' rfl ?_
          refine xw_less (kc' := 2 * k + 2) (ks' := 24 * k + 24) (by omega) (by omega) ?_
          refine xw_cl (ct_H_gather Hg (by omega) hc1) (iv_H_recall_68 hT1) ok_H_gather rfl rfl rfl ?_ (fun _ _ _ q => by cases q.1)
          rintro v h2 z2 ⟨hv, ⟨ea2, cap2, q1, q2, q3⟩, q4, q5⟩
          cases hv
          refine xw_pop dd_H_recall_71 rfl ?_
          have hrc : sv_rc rg gs1 s = (sv_gather gs1 e.1 rr).2 := by
            unfold sv_rc
            rw [e5, e0, if_pos hz]
          exact next h2 z2 ea2 cap2 (by rw [hrc]; exact q1) q2 q3 q4 q5 (by rw [hrc]; exact sg_len ..)
        · rw [if_neg hz]
          refine xw_if_eq 56 dd_H_recall_39 (by decide) (fun hc => absurd hc (by decide)) (fun hc => ?_)
          refine xw_aloadR_n dd_H_recall_42 rfl ?_
          refine xw_aloadR_n dd_H_recall_43 rfl ?_
          refine xw_get fl_H_78 dd_H_recall_44 w2' rfl ?_
          refine xw_get fl_H_82 dd_H_recall_47 w3' rfl ?_
          refine xw_cl0 (ct_H_take Hg) (iv_H_recall_50 hT1) ok_H_take rfl rfl rfl ?_ (fun _ _ _ q => by cases q.1)
          rintro v h2 z2 ⟨hv, rfl, q1, q2⟩
          cases hv
          refine xw_goto 72 dd_H_recall_53 (by decide) ?_
          have hrc : sv_rc rg gs1 s = sv_take gs1 e.1 := by
            unfold sv_rc
            rw [e5, e0, if_neg hz]
          refine xw_less (kc' := 2 * k) (ks' := 24 * k) (by omega) (by omega) ?_
          exact next h2 z2 ea1 cap1 (by rw [hrc]; exact q1) hc1 (Or.inl ⟨rfl, rfl⟩) (Nat.le_refl _) (fun b e hb hp => (q2 b hp.1 hp.2.1).trans hb) (by rw [hrc]; have := st_len gs1 e.1; omega)
      · have w := hR.1
        rw [q, hAc] at w
        cases w
      · refine Or.inl (fun q => ?_)
        obtain ⟨-, -, g, ⟨-, w4, -⟩, -⟩ := hA
        rw [← q, hR.1] at w4
        cases w4
      · have w := hR.2.1
        rw [q, hAc] at w
        cases w
  refine xw_aloadR_n dd_H_recall_0 rfl ?_
  refine xw_get fl_H_12 dd_H_recall_1 hT rfl ?_
  refine xw_cl0 (ct_A_clear hA) (iv_H_recall_4 hAc) ok_A_clear rfl rfl rfl ?_ (fun _ _ _ q => by cases q.1)
  rintro v h1 z1 ⟨hv, rfl, g1, g2⟩
  cases hv
  have hx1 : xk h h1 (gh_k a ea cap) := fun b e hb hp => (g2 b hp.1 hp.2.1).trans hb
  have hR1 : rg_at h1 r c hd f := ⟨hx1 _ _ hR.1 ⟨fun q => ?_, ?_, fun q w => by cases w⟩, hx1 _ _ hR.2.1 ⟨fun q => ?_, Or.inl hce, fun q w => by cases w⟩, hR.2.2⟩
  · refine xw_aloadR_n dd_H_recall_7 rfl ?_
    refine xw_cl0 (ct_R_leastKept hR1) (iv_H_recall_8 hR1.1) ok_R_leastKept rfl rfl rfl ?_ (fun _ _ _ q => by cases q.1)
    rintro v h1 z1 ⟨hv, rfl, rfl⟩
    cases hv
    refine xw_istore_n dd_H_recall_11 (by decide) ?_
    refine xw_less (kc' := 2 * (hd - rg_tl hd)) (ks' := 24 * (hd - rg_tl hd)) (by omega) (by omega) ?_
    exact loop (hd - rg_tl hd) (rg_tl hd) h1 z1 ea cap [] none (by omega) (Nat.le_refl _) (by simp; omega) (gh_clear H9 g1 g2) hc (Or.inl ⟨rfl, rfl⟩) (Nat.le_refl _) hx1 rfl
  · have w := hR.1
    rw [q, hAc] at w
    cases w
  · refine Or.inl (fun q => ?_)
    obtain ⟨-, -, g, ⟨-, w4, -⟩, -⟩ := hA
    rw [← q, hR.1] at w4
    cases w4
  · have w := hR.2.1
    rw [q, hAc] at w
    cases w
end GH
