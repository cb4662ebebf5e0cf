/-! NotedVolumeModel: closing and opening gatherings (by program: wip/whole/mk38.py) -/
section MD
variable {G : xa_G} {h h1 : xa_H} {sz o : Nat} {K K1 : Nat → Int32} {A A1 : Nat → Nat → Int32} {V : sv_V}
theorem mqv.after {V' : sv_V} {v : Option Value} {o' : Outcome} {h' : xa_H} {z : Nat} (hf : frM o h h1) (hK : K1 0 = K 0) (hA : ∀ i, 9 ≤ i → i ≤ 21 → A1 i = A i) (q : mqv G h1 sz o V' K1 A1 v o' h' z) : mqv G h sz o V' K A v o' h' z := by
  obtain ⟨q1, q2, ⟨K2, A2, q3, q4, q5, q6⟩, q7⟩ := q
  exact ⟨q1, q2, ⟨K2, A2, q3, q4, q5.trans hK, fun i i1 i2 => (q6 i i1 i2).trans (hA i i1 i2)⟩, hf.trans q7⟩
theorem sp_gs (hs : (sv_spend V).1 = true) : sv_gs (sv_spend V).2 = sv_gs V := by
  obtain ⟨fs, lt, hd, rg, gs, on, lf⟩ := V
  unfold sv_spend at hs ⊢
  simp only at hs ⊢
  by_cases q : lf = 0
  · rw [if_pos q] at hs
    cases hs
  · rw [if_neg q]
theorem ct_M_closeGathering {j : Nat} {g : Int32 × Int32} (H : mo_at G h o K A) (hV : rV V K A) (hh : sv_hd V < 900000) (hg : (sv_gs V)[j]? = some g) (hf : ((sv_gs V).take j).find? (fun q => decide (q.1 = g.1)) = none) : xa_T G mm_M_closeGathering 2 0 0 [.ref o, .int (nI j)] h sz (mqv G h sz o (sv_closeG V g).2 K A (some (.int (if (sv_closeG V g).1 = true then 1 else 0)))) := by
  have hj := (List.getElem?_eq_some_iff.mp hg).1
  have hj3 : (sv_gs V).length ≤ 3 := hV.2.2.1.2.1
  refine xt_o ok_M_closeGathering rfl rfl ?_
  refine xw_aloadR_n dd_M_closeGathering_0 rfl ?_
  refine xw_cl0 (ct_M_writes H hV) (iv_M_closeGathering_1 H.1) ok_M_writes rfl rfl rfl ?_ (fun _ _ _ q => by cases q.1)
  rintro v h1 z1 ⟨hv, rfl, ⟨K1, A1, H1, V1, e1, e2⟩, fr1⟩
  cases hv
  by_cases hs : (sv_spend V).1 = true
  · have hc : sv_closeG V g = (true, sv_endG (sv_spend V).2 g) := by
      unfold sv_closeG
      rw [if_pos hs]
    have hgs := sp_gs hs
    have sl := sp_len V
    rw [hc, if_pos hs]
    refine xw_if_ne 9 dd_M_closeGathering_4 (by decide) (fun hc => ?_) (fun hc => absurd hc (by decide))
    have g3 := V1.2.2.1.2.2 j g (by rw [hgs]; exact hg)
    refine xw_aloadR_n dd_M_closeGathering_9 rfl ?_
    refine xw_aloadR_n dd_M_closeGathering_10 rfl ?_
    refine xw_get fl_M_32 dd_M_closeGathering_11 H1.1 rfl ?_
    refine xw_iload_n dd_M_closeGathering_14 rfl ?_
    refine xw_iald dd_M_closeGathering_15 (H1.2.1 7 (by decide) (by decide)) (vp_in_nI (show j < 4 by omega) (by decide)) ?_
    rw [nI_clamp (by omega), g3.1]
    refine xw_aloadR_n dd_M_closeGathering_16 rfl ?_
    refine xw_get fl_M_35 dd_M_closeGathering_17 H1.1 rfl ?_
    refine xw_iload_n dd_M_closeGathering_20 rfl ?_
    refine xw_iald dd_M_closeGathering_21 (H1.2.1 8 (by decide) (by decide)) (vp_in_nI (show j < 4 by omega) (by decide)) ?_
    rw [nI_clamp (by omega), g3.2]
    refine xw_cl0 (ct_M_noteClosing H1 V1 (by rw [sl.2.1]; exact hh)) (iv_M_closeGathering_22 H1.1) ok_M_noteClosing rfl rfl rfl ?_ (fun _ _ _ q => by cases q.1)
    rintro v h2 z2 ⟨hv, rfl, ⟨K2, A2, H2, V2, e3, e4⟩, fr2⟩
    cases hv
    have hg2 : sv_gs (sv_app (sv_spend V).2 ((sv_find (sv_fs (sv_spend V).2) g.1).getD (g.1, 0, 0, 0, 0)) (g.2 ||| 64)) = sv_gs V := hgs
    refine xw_aloadR_n dd_M_closeGathering_25 rfl ?_
    refine xw_iload_n dd_M_closeGathering_26 rfl ?_
    refine xw_cl0 (ct_M_dropGathering (j := j) H2 V2 (by rw [hg2]; exact hj)) (iv_M_closeGathering_27 H2.1) ok_M_dropGathering rfl rfl rfl ?_ (fun _ _ _ q => by cases q.1)
    rintro v h3 z3 q
    obtain ⟨hv, rfl, ⟨K3, A3, H3, V3, e5, e6⟩, fr3⟩ := q
    cases hv
    have hend : sv_endG (sv_spend V).2 g = sv_setG (sv_app (sv_spend V).2 ((sv_find (sv_fs (sv_spend V).2) g.1).getD (g.1, 0, 0, 0, 0)) (g.2 ||| 64)) ((sv_gs (sv_app (sv_spend V).2 ((sv_find (sv_fs (sv_spend V).2) g.1).getD (g.1, 0, 0, 0, 0)) (g.2 ||| 64))).eraseIdx j) := by
      rw [hg2, sf_erase hf hg (decide_eq_true rfl), ← hgs]
      rfl
    refine xw_iconst 1 dd_M_closeGathering_30 (by decide) ?_
    refine xw_zret dd_M_closeGathering_31 rfl rfl ⟨rfl, rfl, ⟨K3, A3, H3, ?_, e5.trans (e3.trans e1), fun i i1 i2 => (e6 i i1 i2).trans ((e4 i i1 i2).trans (e2 i i1 i2))⟩, fr1.trans (fr2.trans fr3)⟩
    rw [hend]
    exact V3
  · have hc : sv_closeG V g = (false, (sv_spend V).2) := by
      unfold sv_closeG
      rw [if_neg hs]
    rw [hc, if_neg hs]
    refine xw_if_ne 9 dd_M_closeGathering_4 (by decide) (fun hc => absurd rfl hc) (fun hc => ?_)
    refine xw_iconst 0 dd_M_closeGathering_7 (by decide) ?_
    exact xw_zret dd_M_closeGathering_8 rfl rfl ⟨rfl, rfl, ⟨K1, A1, H1, V1, e1, e2⟩, fr1⟩
theorem ct_M_opens {f : Int32} (H : mo_at G h o K A) (hV : rV V K A) (hh : sv_hd V < 900000) : xa_T G mm_M_opens 3 0 0 [.ref o, .int f] h sz (mqv G h sz o (sv_open V f).2 K A (some (.int (if (sv_open V f).1 = true then 1 else 0)))) := by
  have v3 := hV.2.2.1
  have hj3 : (sv_gs V).length ≤ 3 := v3.2.1
  have g1 : K 10 = nI (sv_gs V).length := v3.1
  refine xt_o ok_M_opens rfl rfl ?_
  refine xw_aloadR_n dd_M_opens_0 rfl ?_
  refine xw_iload_n dd_M_opens_1 rfl ?_
  refine xw_cl0 (ct_M_gatheringOf H v3) (iv_M_opens_2 H.1) ok_M_gatheringOf rfl rfl rfl ?_ (fun _ _ _ q => by cases q.1)
  rintro v h sz ⟨hv, rfl, rfl⟩
  cases hv
  rcases fx (fun e : Int32 × Int32 => decide (e.1 = f)) (sv_gs V) with ⟨w1, w2⟩ | ⟨i, e, he, w1, w2, w3, -⟩
  · have hix : sv_ix (fun e : Int32 × Int32 => decide (e.1 = f)) (sv_gs V) = -1 := by
      unfold sv_ix
      rw [w2]
    have hno : ¬ (sv_gOf (sv_gs V) f).isSome = true := by
      unfold sv_gOf
      rw [w1]
      decide
    rw [hix]
    refine xw_if_lt 10 dd_M_opens_5 (by decide) (fun hc => ?_) (fun hc => absurd (by decide) hc)
    refine xw_aloadR_n dd_M_opens_10 rfl ?_
    refine xw_get fl_M_95 dd_M_opens_11 H.1 rfl ?_
    rw [g1]
    refine xw_iconst 3 dd_M_opens_14 (by decide) ?_
    refine xw_icmp_lt 26 dd_M_opens_15 (by decide) (fun hc2 => ?_) (fun hc2 => ?_)
    · have hl : (sv_gs V).length < 3 := (nI_ltI (b := 3) (by omega) (by decide)).mp hc2
      have hop : sv_open V f = (true, V) := by
        unfold sv_open
        rw [if_pos (Or.inl hl)]
      rw [hop]
      refine xw_iconst 1 dd_M_opens_26 (by decide) ?_
      refine xw_goto 31 dd_M_opens_27 (by decide) ?_
      exact xw_zret dd_M_opens_31 rfl rfl ⟨rfl, rfl, ⟨K, A, H, hV, rfl, fun _ _ _ => rfl⟩, frM.refl⟩
    · have hl : ¬ (sv_gs V).length < 3 := fun q => hc2 (nI_lt (b := 3) q (by decide))
      have h0 : 0 < (sv_gs V).length := by omega
      have hg0 : (sv_gs V)[0]? = some (sv_gs V)[0] := List.getElem?_eq_getElem h0
      have hop : sv_open V f = sv_closeG V (sv_gs V)[0] := by
        unfold sv_open
        rw [if_neg (fun q => q.elim hl hno), List.head?_eq_getElem?, hg0]
      rw [hop]
      refine xw_aloadR_n dd_M_opens_18 rfl ?_
      refine xw_iconst 0 dd_M_opens_19 (by decide) ?_
      refine xw_cl0 (ct_M_closeGathering (j := 0) H hV hh hg0 rfl) (iv_M_opens_20 H.1) ok_M_closeGathering rfl rfl rfl ?_ (fun _ _ _ q => by cases q.1)
      rintro v h1 z1 ⟨hv, rfl, q1, q2⟩
      cases hv
      by_cases hs : (sv_closeG V (sv_gs V)[0]).1 = true
      · rw [if_pos hs]
        refine xw_if_eq 30 dd_M_opens_23 (by decide) (fun hc => absurd hc (by decide)) (fun hc => ?_)
        refine xw_iconst 1 dd_M_opens_26 (by decide) ?_
        refine xw_goto 31 dd_M_opens_27 (by decide) ?_
        exact xw_zret dd_M_opens_31 rfl rfl ⟨rfl, rfl, q1, q2⟩
      · rw [if_neg hs]
        refine xw_if_eq 30 dd_M_opens_23 (by decide) (fun hc => ?_) (fun hc => absurd rfl hc)
        refine xw_iconst 0 dd_M_opens_30 (by decide) ?_
        exact xw_zret dd_M_opens_31 rfl rfl ⟨rfl, rfl, q1, q2⟩
  · have hi := (List.getElem?_eq_some_iff.mp he).1
    have hix : sv_ix (fun e : Int32 × Int32 => decide (e.1 = f)) (sv_gs V) = nI i := by
      unfold sv_ix
      rw [w2]
    have hop : sv_open V f = (true, V) := by
      unfold sv_open
      rw [if_pos (Or.inr (by unfold sv_gOf; rw [w1]; rfl))]
    rw [hix, hop]
    refine xw_if_lt 10 dd_M_opens_5 (by decide) (fun hc => absurd hc (nI_pos (by omega))) (fun hc => ?_)
    refine xw_iconst 1 dd_M_opens_8 (by decide) ?_
    exact xw_zret dd_M_opens_9 rfl rfl ⟨rfl, rfl, ⟨K, A, H, hV, rfl, fun _ _ _ => rfl⟩, frM.refl⟩
end MD
