/-! FileTable: files in a list, as a list of what they are like (by program: wip/whole/mk19.py) -/
theorem sf_step {α : Type} {p : α → Bool} {es : List α} {i : Nat} {e : α} (h : (es.take i).find? p = none) (he : es[i]? = some e) (hp : p e = false) : (es.take (i + 1)).find? p = none := by
  rw [List.take_add_one, he, List.find?_append, h]
  simp [hp]
theorem sf_hit {α : Type} {p : α → Bool} {es : List α} {i : Nat} {e : α} (h : (es.take i).find? p = none) (he : es[i]? = some e) (hp : p e = true) : es.find? p = some e := by
  have h1 : es = es.take i ++ e :: es.drop (i + 1) := by
    obtain ⟨hlt, hh⟩ := List.getElem?_eq_some_iff.mp he
    rw [← hh, List.getElem_cons_drop, List.take_append_drop]
  rw [h1, List.find?_append, h]
  simp [hp]
theorem sf_end {α : Type} {p : α → Bool} {es : List α} {i : Nat} (h : (es.take i).find? p = none) (hi : es.length ≤ i) : es.find? p = none := by
  rwa [List.take_of_length_le hi] at h
/-- entries at addresses -/
def en_l (h : xa_H) (xs : List Nat) (es : List sv_E) : Prop := xs.map h = es.map (fun e => some (en_c e))
theorem en_l.len {h : xa_H} {xs : List Nat} {es : List sv_E} (H : en_l h xs es) : xs.length = es.length := by
  have := congrArg List.length H
  simpa using this
theorem en_l.at {h : xa_H} {xs : List Nat} {es : List sv_E} (H : en_l h xs es) {i : Nat} (hi : i < es.length) : ∃ y e, xs[i]? = some y ∧ es[i]? = some e ∧ h y = some (en_c e) := by
  have hl := H.len
  have h1 := congrArg (fun l => l[i]?) H
  simp only [List.getElem?_map] at h1
  rw [List.getElem?_eq_getElem (by omega : i < xs.length), List.getElem?_eq_getElem hi] at h1
  exact ⟨xs[i]'(by omega), es[i], List.getElem?_eq_getElem (by omega), List.getElem?_eq_getElem hi, by simpa using h1⟩
theorem en_l.mem {h : xa_H} {xs : List Nat} {es : List sv_E} (H : en_l h xs es) {y : Nat} (hy : y ∈ xs) : ∃ e, e ∈ es ∧ h y = some (en_c e) := by
  have h1 : h y ∈ xs.map h := List.mem_map_of_mem hy
  rw [H] at h1
  obtain ⟨e, he, h2⟩ := List.mem_map.mp h1
  exact ⟨e, he, h2.symm⟩
theorem en_l.keep {h h1 : xa_H} {xs : List Nat} {es : List sv_E} (H : en_l h xs es) (hk : ∀ y e, h y = some (en_c e) → h1 y = h y) : en_l h1 xs es := by
  unfold en_l at H ⊢
  rw [← H]
  refine List.map_congr_left (fun y hy => ?_)
  obtain ⟨e, -, h2⟩ := en_l.mem H hy
  exact hk y e h2
theorem xo_1 : xa_A 1 "java/lang/Object" := ⟨_, rfl, Or.inr (by decide)⟩
theorem xo_5 : xa_A 5 "java/lang/Object" := ⟨_, rfl, Or.inr (by decide)⟩
theorem en_l.obj {h : xa_H} {xs : List Nat} {es : List sv_E} (H : en_l h xs es) : xo_in h xs := by
  intro y hy
  obtain ⟨e, -, h2⟩ := H.mem hy
  exact ⟨1, _, h2, xo_1⟩
/-- a table at t: its list at a, array at ea, entries at xs, like es -/
def ft_at (G : xa_G) (h : xa_H) (t a ea cap : Nat) (most : Int32) (xs : List Nat) (es : List sv_E) : Prop := h t = some (.inr (2, [.ref a, .int most])) ∧ al_x G h a ea cap xs ∧ en_l h xs es
/-- what is found: nothing, or an entry's cell -/
def ft_r (h : xa_H) (es : List sv_E) (p : sv_E → Bool) (r : Option Nat) : Prop := (es.find? p = none ∧ r = none) ∨ ∃ e y, es.find? p = some e ∧ r = some y ∧ h y = some (en_c e)
def xq_find (h : xa_H) (sz : Nat) (es : List sv_E) (p : sv_E → Bool) : Outcome → xa_H → Nat → Prop := fun o h' z => h' = h ∧ z = sz ∧ ∃ r, o = .returned (some (va_rf r)) ∧ ft_r h es p r
section FT
variable {G : xa_G} {h : xa_H} {sz : Nat}
theorem ct_F_init {a : Nat} {most : Int32} {f : Nat → Option Nat} (ha : h a = some (.inr (2, [.null, .int 0]))) (hB : G.2.2.1 ≤ a) (hu : h G.2.2.2.1 = some (xr_q 3 0 f)) : xa_T G mm_F_init 4 1 3 [.ref a, .int most] h sz (fun o h' z => o = .returned none ∧ z = sz + 1 ∧ ft_at G h' a sz G.2.2.2.1 0 most [] [] ∧ ∀ b, b ≠ a → b ≠ sz → h' b = h b) := by
  refine xt_o ok_F_init rfl rfl ?_
  refine xw_dom (fun hd hBz => ?_)
  have hla := hd _ _ ha
  have hlu := hd _ _ hu
  refine xw_aloadR_n dd_F_init_0 rfl ?_
  refine xw_objInit ol_F_1 wo_in wo_co (by decide) (by decide) dd_F_init_1 ?_
  refine xw_aloadR_n dd_F_init_4 rfl ?_
  refine xw_less (kc' := 0 + 1) (ks' := 0 + 3) (by decide) (by decide) ?_
  refine xw_newA nw_F_7 dd_F_init_5 (fun h1 n1 f1 => ?_)
  refine xw_dup dd_F_init_8 rfl ?_
  refine xw_cl0 (ct_A_init n1 hBz ((f1 _ (by omega)).trans hu)) iv_F_init_9 ok_A_init rfl rfl rfl ?_ (fun _ _ _ q => by cases q.1)
  rintro v h2 z1 ⟨hv, rfl, q1, q2⟩
  cases hv
  have hua : a ≠ G.2.2.2.1 := fun e => by
    rw [← e, ha] at hu
    cases hu
  refine xw_putA fl_F_10 fz_F_10 (by decide) dd_F_init_12 ((q2 a (by omega)).trans ((f1 a (by omega)).trans ha)) rfl hB rfl rfl (fun h3 n3 f3 => ?_)
  refine xw_aloadR_n dd_F_init_15 rfl ?_
  refine xw_iload_n dd_F_init_16 rfl ?_
  refine xw_putA fl_F_16 fz_F_16 (by decide) dd_F_init_17 n3 rfl hB rfl rfl (fun h4 n4 f4 => ?_)
  obtain ⟨k1, k2, g, ⟨⟨mc, k3⟩, k4, k5, k6⟩, k7⟩ := q1
  refine xw_vret dd_F_init_20 rfl ⟨rfl, rfl, ⟨n4, ⟨k1, k2, g, ⟨⟨mc, (f4 sz (by omega)).trans ((f3 sz (by omega)).trans k3)⟩, (f4 _ (fun e => hua e.symm)).trans ((f3 _ (fun e => hua e.symm)).trans k4), k5, k6⟩, k7⟩, rfl⟩, fun b b1 b2 => ?_⟩
  exact (f4 b b1).trans ((f3 b b1).trans ((q2 b b2).trans (f1 b b2)))
theorem ct_F_count {t a ea cap : Nat} {most : Int32} {xs : List Nat} {es : List sv_E} (H : ft_at G h t a ea cap most xs es) : xa_T G mm_F_count 1 0 0 [.ref t] h sz (xq_same h sz (some (.int (nI es.length)))) := by
  obtain ⟨hT, hA, hE⟩ := H
  obtain ⟨fs, hAc⟩ := hA.cell
  refine xt_o ok_F_count rfl rfl ?_
  refine xw_aloadR_n dd_F_count_0 rfl ?_
  refine xw_get fl_F_10 dd_F_count_1 hT rfl ?_
  refine xw_cl0 (ct_A_size' hA) (iv_F_count_4 hAc) ok_A_size rfl rfl rfl ?_ (fun _ _ _ q => by cases q.1)
  rintro v h sz ⟨hv, rfl, rfl⟩
  cases hv
  exact xw_iret dd_F_count_7 rfl ⟨by rw [hE.len], rfl, rfl⟩
theorem ct_F_entryOf {t a ea cap : Nat} {most : Int32} {xs : List Nat} {es : List sv_E} {n : Int32} (H : ft_at G h t a ea cap most xs es) : xa_T G mm_F_entryOf 3 0 0 [.ref t, .int n] h sz (xq_find h sz es (fun e => decide (e.1 = n))) := by
  obtain ⟨hT, hA, hE⟩ := H
  obtain ⟨fs, hAc⟩ := hA.cell
  have hlen := hE.len
  have hcl := hA.len
  have loop : ∀ (k i : Nat) (o : Option Value), i + k = es.length → (es.take i).find? (fun e => decide (e.1 = n)) = none → xa_W G mm_F_entryOf 3 0 0 2 [some (.ref t), some (.int n), some (.int (nI i)), o] [] h sz (xq_find h sz es (fun e => decide (e.1 = n))) := by
    intro k
    induction k with
    | zero =>
      intro i o hk hn
      refine xw_iload_n dd_F_entryOf_2 rfl ?_
      refine xw_aloadR_n dd_F_entryOf_3 rfl ?_
      refine xw_get fl_F_10 dd_F_entryOf_4 hT rfl ?_
      refine xw_cl0 (ct_A_size' hA) (iv_F_entryOf_7 hAc) ok_A_size rfl rfl rfl ?_ (fun _ _ _ q => by cases q.1)
      rintro v h sz ⟨hv, rfl, rfl⟩
      cases hv
      refine xw_icmp_ge 41 dd_F_entryOf_10 (by decide) (fun hc => ?_) (fun hc => absurd (nI_le (by omega) (by omega)) hc)
      refine xw_null dd_F_entryOf_41 ?_
      exact xw_aretN dd_F_entryOf_42 rfl (Or.inl ⟨_, rfl⟩) ⟨rfl, rfl, none, rfl, Or.inl ⟨sf_end hn (by omega), rfl⟩⟩
    | succ k ih =>
      intro i o hk hn
      obtain ⟨y, e, hx, hes, he⟩ := hE.at (i := i) (by omega)
      refine xw_iload_n dd_F_entryOf_2 rfl ?_
      refine xw_aloadR_n dd_F_entryOf_3 rfl ?_
      refine xw_get fl_F_10 dd_F_entryOf_4 hT rfl ?_
      refine xw_cl0 (ct_A_size' hA) (iv_F_entryOf_7 hAc) ok_A_size rfl rfl rfl ?_ (fun _ _ _ q => by cases q.1)
      rintro v h sz ⟨hv, rfl, rfl⟩
      cases hv
      refine xw_icmp_ge 41 dd_F_entryOf_10 (by decide) (fun hc => absurd hc (nI_ge (by omega) (by omega))) (fun hc => ?_)
      refine xw_aloadR_n dd_F_entryOf_13 rfl ?_
      refine xw_get fl_F_10 dd_F_entryOf_14 hT rfl ?_
      refine xw_iload_n dd_F_entryOf_17 rfl ?_
      refine xw_cl0 (ct_A_get' hA hx) (iv_F_entryOf_18 hAc) ok_A_get rfl rfl rfl ?_ (fun _ _ _ q => by cases q.1)
      rintro v h sz ⟨hv, rfl, rfl⟩
      cases hv
      refine xw_cast cc_F_28 ⟨_, _, rfl⟩ dd_F_entryOf_21 he ?_
      refine xw_astoreR_n dd_F_entryOf_24 (by decide) ?_
      refine xw_aloadR_n dd_F_entryOf_25 rfl ?_
      refine xw_get fl_F_30 dd_F_entryOf_26 he rfl ?_
      refine xw_iload_n dd_F_entryOf_29 rfl ?_
      refine xw_icmp_ne 35 dd_F_entryOf_30 (by decide) (fun hc => ?_) (fun hc => ?_)
      · refine xw_iinc dd_F_entryOf_35 rfl (nI_1 i) (by decide) ?_
        refine xw_goto 2 dd_F_entryOf_38 (by decide) ?_
        exact ih (i + 1) _ (by omega) (sf_step hn hes (by simpa using hc))
      · refine xw_aloadR_n dd_F_entryOf_33 rfl ?_
        exact xw_aretR dd_F_entryOf_34 rfl (Or.inl ⟨_, rfl⟩) ⟨rfl, rfl, some y, rfl, Or.inr ⟨e, y, sf_hit hn hes (by simpa using hc), rfl, he⟩⟩
  refine xt_o ok_F_entryOf rfl rfl ?_
  refine xw_iconst 0 dd_F_entryOf_0 (by decide) ?_
  refine xw_istore_n dd_F_entryOf_1 (by decide) ?_
  exact loop es.length 0 _ (by omega) rfl
theorem ct_F_entryAbove {t a ea cap : Nat} {most : Int32} {xs : List Nat} {es : List sv_E} {n : Int32} (H : ft_at G h t a ea cap most xs es) : xa_T G mm_F_entryAbove 3 0 0 [.ref t, .int n] h sz (xq_find h sz es (fun e => decide (n < e.1))) := by
  obtain ⟨hT, hA, hE⟩ := H
  obtain ⟨fs, hAc⟩ := hA.cell
  have hlen := hE.len
  have hcl := hA.len
  have loop : ∀ (k i : Nat) (o : Option Value), i + k = es.length → (es.take i).find? (fun e => decide (n < e.1)) = none → xa_W G mm_F_entryAbove 3 0 0 2 [some (.ref t), some (.int n), some (.int (nI i)), o] [] h sz (xq_find h sz es (fun e => decide (n < e.1))) := by
    intro k
    induction k with
    | zero =>
      intro i o hk hn
      refine xw_iload_n dd_F_entryAbove_2 rfl ?_
      refine xw_aloadR_n dd_F_entryAbove_3 rfl ?_
      refine xw_get fl_F_10 dd_F_entryAbove_4 hT rfl ?_
      refine xw_cl0 (ct_A_size' hA) (iv_F_entryAbove_7 hAc) ok_A_size rfl rfl rfl ?_ (fun _ _ _ q => by cases q.1)
      rintro v h sz ⟨hv, rfl, rfl⟩
      cases hv
      refine xw_icmp_ge 41 dd_F_entryAbove_10 (by decide) (fun hc => ?_) (fun hc => absurd (nI_le (by omega) (by omega)) hc)
      refine xw_null dd_F_entryAbove_41 ?_
      exact xw_aretN dd_F_entryAbove_42 rfl (Or.inl ⟨_, rfl⟩) ⟨rfl, rfl, none, rfl, Or.inl ⟨sf_end hn (by omega), rfl⟩⟩
    | succ k ih =>
      intro i o hk hn
      obtain ⟨y, e, hx, hes, he⟩ := hE.at (i := i) (by omega)
      refine xw_iload_n dd_F_entryAbove_2 rfl ?_
      refine xw_aloadR_n dd_F_entryAbove_3 rfl ?_
      refine xw_get fl_F_10 dd_F_entryAbove_4 hT rfl ?_
      refine xw_cl0 (ct_A_size' hA) (iv_F_entryAbove_7 hAc) ok_A_size rfl rfl rfl ?_ (fun _ _ _ q => by cases q.1)
      rintro v h sz ⟨hv, rfl, rfl⟩
      cases hv
      refine xw_icmp_ge 41 dd_F_entryAbove_10 (by decide) (fun hc => absurd hc (nI_ge (by omega) (by omega))) (fun hc => ?_)
      refine xw_aloadR_n dd_F_entryAbove_13 rfl ?_
      refine xw_get fl_F_10 dd_F_entryAbove_14 hT rfl ?_
      refine xw_iload_n dd_F_entryAbove_17 rfl ?_
      refine xw_cl0 (ct_A_get' hA hx) (iv_F_entryAbove_18 hAc) ok_A_get rfl rfl rfl ?_ (fun _ _ _ q => by cases q.1)
      rintro v h sz ⟨hv, rfl, rfl⟩
      cases hv
      refine xw_cast cc_F_28 ⟨_, _, rfl⟩ dd_F_entryAbove_21 he ?_
      refine xw_astoreR_n dd_F_entryAbove_24 (by decide) ?_
      refine xw_aloadR_n dd_F_entryAbove_25 rfl ?_
      refine xw_get fl_F_30 dd_F_entryAbove_26 he rfl ?_
      refine xw_iload_n dd_F_entryAbove_29 rfl ?_
      refine xw_icmp_le 35 dd_F_entryAbove_30 (by decide) (fun hc => ?_) (fun hc => ?_)
      · refine xw_iinc dd_F_entryAbove_35 rfl (nI_1 i) (by decide) ?_
        refine xw_goto 2 dd_F_entryAbove_38 (by decide) ?_
        exact ih (i + 1) _ (by omega) (sf_step hn hes (decide_eq_false (Int32.not_lt.mpr hc)))
      · refine xw_aloadR_n dd_F_entryAbove_33 rfl ?_
        exact xw_aretR dd_F_entryAbove_34 rfl (Or.inl ⟨_, rfl⟩) ⟨rfl, rfl, some y, rfl, Or.inr ⟨e, y, sf_hit hn hes (decide_eq_true (Int32.not_le.mp hc)), rfl, he⟩⟩
  refine xt_o ok_F_entryAbove rfl rfl ?_
  refine xw_iconst 0 dd_F_entryAbove_0 (by decide) ?_
  refine xw_istore_n dd_F_entryAbove_1 (by decide) ?_
  exact loop es.length 0 _ (by omega) rfl
theorem ct_F_entryNamed {t a ea cap : Nat} {most : Int32} {xs : List Nat} {es : List sv_E} {p n : Int32} (H : ft_at G h t a ea cap most xs es) : xa_T G mm_F_entryNamed 3 0 0 [.ref t, .int p, .int n] h sz (xq_find h sz es (fun e => decide (e.2.2.1 = p ∧ e.2.2.2.1 = n))) := by
  obtain ⟨hT, hA, hE⟩ := H
  obtain ⟨fs, hAc⟩ := hA.cell
  have hlen := hE.len
  have hcl := hA.len
  have loop : ∀ (k i : Nat) (o : Option Value), i + k = es.length → (es.take i).find? (fun e => decide (e.2.2.1 = p ∧ e.2.2.2.1 = n)) = none → xa_W G mm_F_entryNamed 3 0 0 2 [some (.ref t), some (.int p), some (.int n), some (.int (nI i)), o] [] h sz (xq_find h sz es (fun e => decide (e.2.2.1 = p ∧ e.2.2.2.1 = n))) := by
    intro k
    induction k with
    | zero =>
      intro i o hk hn
      refine xw_iload_n dd_F_entryNamed_2 rfl ?_
      refine xw_aloadR_n dd_F_entryNamed_3 rfl ?_
      refine xw_get fl_F_10 dd_F_entryNamed_4 hT rfl ?_
      refine xw_cl0 (ct_A_size' hA) (iv_F_entryNamed_7 hAc) ok_A_size rfl rfl rfl ?_ (fun _ _ _ q => by cases q.1)
      rintro v h sz ⟨hv, rfl, rfl⟩
      cases hv
      refine xw_icmp_ge 53 dd_F_entryNamed_10 (by decide) (fun hc => ?_) (fun hc => absurd (nI_le (by omega) (by omega)) hc)
      refine xw_null dd_F_entryNamed_53 ?_
      exact xw_aretN dd_F_entryNamed_54 rfl (Or.inl ⟨_, rfl⟩) ⟨rfl, rfl, none, rfl, Or.inl ⟨sf_end hn (by omega), rfl⟩⟩
    | succ k ih =>
      intro i o hk hn
      obtain ⟨y, e, hx, hes, he⟩ := hE.at (i := i) (by omega)
      refine xw_iload_n dd_F_entryNamed_2 rfl ?_
      refine xw_aloadR_n dd_F_entryNamed_3 rfl ?_
      refine xw_get fl_F_10 dd_F_entryNamed_4 hT rfl ?_
      refine xw_cl0 (ct_A_size' hA) (iv_F_entryNamed_7 hAc) ok_A_size rfl rfl rfl ?_ (fun _ _ _ q => by cases q.1)
      rintro v h sz ⟨hv, rfl, rfl⟩
      cases hv
      refine xw_icmp_ge 53 dd_F_entryNamed_10 (by decide) (fun hc => absurd hc (nI_ge (by omega) (by omega))) (fun hc => ?_)
      refine xw_aloadR_n dd_F_entryNamed_13 rfl ?_
      refine xw_get fl_F_10 dd_F_entryNamed_14 hT rfl ?_
      refine xw_iload_n dd_F_entryNamed_17 rfl ?_
      refine xw_cl0 (ct_A_get' hA hx) (iv_F_entryNamed_18 hAc) ok_A_get rfl rfl rfl ?_ (fun _ _ _ q => by cases q.1)
      rintro v h sz ⟨hv, rfl, rfl⟩
      cases hv
      refine xw_cast cc_F_28 ⟨_, _, rfl⟩ dd_F_entryNamed_21 he ?_
      refine xw_astoreR dd_F_entryNamed_24 (by decide) ?_
      refine xw_aloadR dd_F_entryNamed_26 rfl ?_
      refine xw_get fl_F_33 dd_F_entryNamed_28 he rfl ?_
      refine xw_iload_n dd_F_entryNamed_31 rfl ?_
      refine xw_icmp_ne 47 dd_F_entryNamed_32 (by decide) (fun hc => ?_) (fun hc => ?_)
      · refine xw_iinc dd_F_entryNamed_47 rfl (nI_1 i) (by decide) ?_
        refine xw_goto 2 dd_F_entryNamed_50 (by decide) ?_
        exact ih (i + 1) _ (by omega) (sf_step hn hes (decide_eq_false (fun q => hc q.1)))
      · refine xw_aloadR dd_F_entryNamed_35 rfl ?_
        refine xw_get fl_F_36 dd_F_entryNamed_37 he rfl ?_
        refine xw_iload_n dd_F_entryNamed_40 rfl ?_
        refine xw_icmp_ne 47 dd_F_entryNamed_41 (by decide) (fun hc2 => ?_) (fun hc2 => ?_)
        · refine xw_iinc dd_F_entryNamed_47 rfl (nI_1 i) (by decide) ?_
          refine xw_goto 2 dd_F_entryNamed_50 (by decide) ?_
          exact ih (i + 1) _ (by omega) (sf_step hn hes (decide_eq_false (fun q => hc2 q.2)))
        · refine xw_aloadR dd_F_entryNamed_44 rfl ?_
          exact xw_aretR dd_F_entryNamed_46 rfl (Or.inl ⟨_, rfl⟩) ⟨rfl, rfl, some y, rfl, Or.inr ⟨e, y, sf_hit hn hes (decide_eq_true ⟨hc, hc2⟩), rfl, he⟩⟩
  refine xt_o ok_F_entryNamed rfl rfl ?_
  refine xw_iconst 0 dd_F_entryNamed_0 (by decide) ?_
  refine xw_istore_n dd_F_entryNamed_1 (by decide) ?_
  exact loop es.length 0 _ (by omega) rfl
theorem ct_F_hasFilesIn {t a ea cap : Nat} {most : Int32} {xs : List Nat} {es : List sv_E} {p : Int32} (H : ft_at G h t a ea cap most xs es) : xa_T G mm_F_hasFilesIn 3 0 0 [.ref t, .int p] h sz (xq_same h sz (some (.int (if (es.find? (fun e => decide (e.2.2.1 = p))).isSome then 1 else 0)))) := by
  obtain ⟨hT, hA, hE⟩ := H
  obtain ⟨fs, hAc⟩ := hA.cell
  have hlen := hE.len
  have hcl := hA.len
  have loop : ∀ (k i : Nat), i + k = es.length → (es.take i).find? (fun e => decide (e.2.2.1 = p)) = none → xa_W G mm_F_hasFilesIn 3 0 0 2 [some (.ref t), some (.int p), some (.int (nI i))] [] h sz (xq_same h sz (some (.int (if (es.find? (fun e => decide (e.2.2.1 = p))).isSome then 1 else 0)))) := by
    intro k
    induction k with
    | zero =>
      intro i hk hn
      refine xw_iload_n dd_F_hasFilesIn_2 rfl ?_
      refine xw_aloadR_n dd_F_hasFilesIn_3 rfl ?_
      refine xw_get fl_F_10 dd_F_hasFilesIn_4 hT rfl ?_
      refine xw_cl0 (ct_A_size' hA) (iv_F_hasFilesIn_7 hAc) ok_A_size rfl rfl rfl ?_ (fun _ _ _ q => by cases q.1)
      rintro v h sz ⟨hv, rfl, rfl⟩
      cases hv
      refine xw_icmp_ge 39 dd_F_hasFilesIn_10 (by decide) (fun hc => ?_) (fun hc => absurd (nI_le (by omega) (by omega)) hc)
      refine xw_iconst 0 dd_F_hasFilesIn_39 (by decide) ?_
      exact xw_zret dd_F_hasFilesIn_40 rfl rfl ⟨by rw [sf_end hn (by omega)]; rfl, rfl, rfl⟩
    | succ k ih =>
      intro i hk hn
      obtain ⟨y, e, hx, hes, he⟩ := hE.at (i := i) (by omega)
      refine xw_iload_n dd_F_hasFilesIn_2 rfl ?_
      refine xw_aloadR_n dd_F_hasFilesIn_3 rfl ?_
      refine xw_get fl_F_10 dd_F_hasFilesIn_4 hT rfl ?_
      refine xw_cl0 (ct_A_size' hA) (iv_F_hasFilesIn_7 hAc) ok_A_size rfl rfl rfl ?_ (fun _ _ _ q => by cases q.1)
      rintro v h sz ⟨hv, rfl, rfl⟩
      cases hv
      refine xw_icmp_ge 39 dd_F_hasFilesIn_10 (by decide) (fun hc => absurd hc (nI_ge (by omega) (by omega))) (fun hc => ?_)
      refine xw_aloadR_n dd_F_hasFilesIn_13 rfl ?_
      refine xw_get fl_F_10 dd_F_hasFilesIn_14 hT rfl ?_
      refine xw_iload_n dd_F_hasFilesIn_17 rfl ?_
      refine xw_cl0 (ct_A_get' hA hx) (iv_F_hasFilesIn_18 hAc) ok_A_get rfl rfl rfl ?_ (fun _ _ _ q => by cases q.1)
      rintro v h sz ⟨hv, rfl, rfl⟩
      cases hv
      refine xw_cast cc_F_28 ⟨_, _, rfl⟩ dd_F_hasFilesIn_21 he ?_
      refine xw_get fl_F_33 dd_F_hasFilesIn_24 he rfl ?_
      refine xw_iload_n dd_F_hasFilesIn_27 rfl ?_
      refine xw_icmp_ne 33 dd_F_hasFilesIn_28 (by decide) (fun hc => ?_) (fun hc => ?_)
      · refine xw_iinc dd_F_hasFilesIn_33 rfl (nI_1 i) (by decide) ?_
        refine xw_goto 2 dd_F_hasFilesIn_36 (by decide) ?_
        exact ih (i + 1) (by omega) (sf_step hn hes (decide_eq_false hc))
      · refine xw_iconst 1 dd_F_hasFilesIn_31 (by decide) ?_
        exact xw_zret dd_F_hasFilesIn_32 rfl rfl ⟨by rw [sf_hit hn hes (decide_eq_true hc)]; rfl, rfl, rfl⟩
  refine xt_o ok_F_hasFilesIn rfl rfl ?_
  refine xw_iconst 0 dd_F_hasFilesIn_0 (by decide) ?_
  refine xw_istore_n dd_F_hasFilesIn_1 (by decide) ?_
  exact loop es.length 0 (by omega) rfl
end FT
