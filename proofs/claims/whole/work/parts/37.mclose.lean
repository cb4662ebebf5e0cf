/-! NotedVolumeModel: closing notes (by program: wip/whole/mk37.py) -/
/-- what a search finds -/
theorem fx {α : Type} (p : α → Bool) : ∀ l : List α, (l.find? p = none ∧ l.findIdx? p = none) ∨ ∃ i e, l[i]? = some e ∧ l.find? p = some e ∧ l.findIdx? p = some i ∧ p e = true ∧ (l.take i).find? p = none
  | [] => Or.inl ⟨rfl, rfl⟩
  | a :: l => by
    by_cases ha : p a = true
    · exact Or.inr ⟨0, a, rfl, by rw [List.find?_cons, ha], by rw [List.findIdx?_cons, ha]; rfl, ha, rfl⟩
    · have ha : p a = false := by simpa using ha
      rcases fx p l with ⟨h1, h2⟩ | ⟨i, e, h1, h2, h3, h4, h5⟩
      · exact Or.inl ⟨by rw [List.find?_cons, ha]; exact h1, by rw [List.findIdx?_cons, ha, h2]; rfl⟩
      · exact Or.inr ⟨i + 1, e, by simpa using h1, by rw [List.find?_cons, ha]; exact h2, by rw [List.findIdx?_cons, ha, h3]; rfl, h4, by rw [List.take_succ_cons, List.find?_cons, ha]; exact h5⟩
section MC
variable {G : xa_G} {h : xa_H} {sz o : Nat} {K : Nat → Int32} {A : Nat → Nat → Int32} {V : sv_V}
theorem ct_M_noteClosing {f r : Int32} (H : mo_at G h o K A) (hV : rV V K A) (hh : sv_hd V < 900000) : xa_T G mm_M_noteClosing 1 0 0 [.ref o, .int f, .int r] h sz (mqv G h sz o (sv_app V ((sv_find (sv_fs V) f).getD (f, 0, 0, 0, 0)) (r ||| 64)) K A none) := by
  have v1 := hV.1
  obtain ⟨k1, k2, k3⟩ := id v1
  refine xt_o ok_M_noteClosing rfl rfl ?_
  refine xw_aloadR_n dd_M_noteClosing_0 rfl ?_
  refine xw_iload_n dd_M_noteClosing_1 rfl ?_
  refine xw_cl0 (ct_M_placeOf H v1) (iv_M_noteClosing_2 H.1) ok_M_placeOf rfl rfl rfl ?_ (fun _ _ _ q => by cases q.1)
  rintro v h sz ⟨hv, rfl, rfl⟩
  cases hv
  refine xw_istore_n dd_M_noteClosing_5 (by decide) ?_
  refine xw_aloadR_n dd_M_noteClosing_6 rfl ?_
  refine xw_iload_n dd_M_noteClosing_7 rfl ?_
  rcases fx (fun e : sv_E => decide (e.1 = f)) (sv_fs V) with ⟨w1, w2⟩ | ⟨i, e, he, w1, w2, w3, -⟩
  · have hix : sv_ix (fun e : sv_E => decide (e.1 = f)) (sv_fs V) = -1 := by
      unfold sv_ix
      rw [w2]
    have hfi : sv_find (sv_fs V) f = none := w1
    rw [hix, hfi]
    refine xw_iload_n dd_M_noteClosing_8 rfl ?_
    refine xw_if_ge 16 dd_M_noteClosing_9 (by decide) (fun hc => absurd hc (by decide)) (fun hc => ?_)
    refine xw_iconst 0 dd_M_noteClosing_12 (by decide) ?_
    refine xw_goto 22 dd_M_noteClosing_13 (by decide) ?_
    refine xw_iload_n dd_M_noteClosing_22 rfl ?_
    refine xw_if_ge 30 dd_M_noteClosing_23 (by decide) (fun hc => absurd hc (by decide)) (fun hc => ?_)
    refine xw_iconst 0 dd_M_noteClosing_26 (by decide) ?_
    refine xw_goto 36 dd_M_noteClosing_27 (by decide) ?_
    refine xw_iload_n dd_M_noteClosing_36 rfl ?_
    refine xw_if_ge 44 dd_M_noteClosing_37 (by decide) (fun hc => absurd hc (by decide)) (fun hc => ?_)
    refine xw_iconst 0 dd_M_noteClosing_40 (by decide) ?_
    refine xw_goto 50 dd_M_noteClosing_41 (by decide) ?_
    refine xw_iload_n dd_M_noteClosing_50 rfl ?_
    refine xw_if_ge 58 dd_M_noteClosing_51 (by decide) (fun hc => absurd hc (by decide)) (fun hc => ?_)
    refine xw_iconst 0 dd_M_noteClosing_54 (by decide) ?_
    refine xw_goto 64 dd_M_noteClosing_55 (by decide) ?_
    refine xw_iload_n dd_M_noteClosing_64 rfl ?_
    refine xw_bipush 64 dd_M_noteClosing_65 (by decide) ?_
    refine xw_ior dd_M_noteClosing_67 ?_
    refine xw_cl0 (ct_M_writeNote H hV hh) (iv_M_noteClosing_68 H.1) ok_M_writeNote rfl rfl rfl ?_ (fun _ _ _ q => by cases q.1)
    rintro v h1 z1 q
    have hv := q.1
    cases hv
    exact xw_vret dd_M_noteClosing_71 rfl q
  · have hi : i < (sv_fs V).length := (List.getElem?_eq_some_iff.mp he).1
    have hix : sv_ix (fun e : sv_E => decide (e.1 = f)) (sv_fs V) = nI i := by
      unfold sv_ix
      rw [w2]
    have hfi : sv_find (sv_fs V) f = some e := w1
    have hef : e.1 = f := by simpa using w3
    rw [hix, hfi]
    refine xw_iload_n dd_M_noteClosing_8 rfl ?_
    refine xw_if_ge 16 dd_M_noteClosing_9 (by decide) (fun hc => ?_) (fun hc => absurd (nI_pos' (by omega)) hc)
    refine xw_aloadR_n dd_M_noteClosing_16 rfl ?_
    refine xw_get fl_M_13 dd_M_noteClosing_17 H.1 rfl ?_
    refine xw_iload_n dd_M_noteClosing_20 rfl ?_
    refine xw_iald dd_M_noteClosing_21 (H.2.1 2 (by decide) (by decide)) (vp_in_nI (show i < 20 by omega) (by decide)) ?_
    rw [nI_clamp (by omega), (k3 i e he).2.1]
    refine xw_iload_n dd_M_noteClosing_22 rfl ?_
    refine xw_if_ge 30 dd_M_noteClosing_23 (by decide) (fun hc => ?_) (fun hc => absurd (nI_pos' (by omega)) hc)
    refine xw_aloadR_n dd_M_noteClosing_30 rfl ?_
    refine xw_get fl_M_16 dd_M_noteClosing_31 H.1 rfl ?_
    refine xw_iload_n dd_M_noteClosing_34 rfl ?_
    refine xw_iald dd_M_noteClosing_35 (H.2.1 3 (by decide) (by decide)) (vp_in_nI (show i < 20 by omega) (by decide)) ?_
    rw [nI_clamp (by omega), (k3 i e he).2.2.1]
    refine xw_iload_n dd_M_noteClosing_36 rfl ?_
    refine xw_if_ge 44 dd_M_noteClosing_37 (by decide) (fun hc => ?_) (fun hc => absurd (nI_pos' (by omega)) hc)
    refine xw_aloadR_n dd_M_noteClosing_44 rfl ?_
    refine xw_get fl_M_19 dd_M_noteClosing_45 H.1 rfl ?_
    refine xw_iload_n dd_M_noteClosing_48 rfl ?_
    refine xw_iald dd_M_noteClosing_49 (H.2.1 4 (by decide) (by decide)) (vp_in_nI (show i < 20 by omega) (by decide)) ?_
    rw [nI_clamp (by omega), (k3 i e he).2.2.2.1]
    refine xw_iload_n dd_M_noteClosing_50 rfl ?_
    refine xw_if_ge 58 dd_M_noteClosing_51 (by decide) (fun hc => ?_) (fun hc => absurd (nI_pos' (by omega)) hc)
    refine xw_aloadR_n dd_M_noteClosing_58 rfl ?_
    refine xw_get fl_M_22 dd_M_noteClosing_59 H.1 rfl ?_
    refine xw_iload_n dd_M_noteClosing_62 rfl ?_
    refine xw_iald dd_M_noteClosing_63 (H.2.1 5 (by decide) (by decide)) (vp_in_nI (show i < 20 by omega) (by decide)) ?_
    rw [nI_clamp (by omega), (k3 i e he).2.2.2.2]
    refine xw_iload_n dd_M_noteClosing_64 rfl ?_
    refine xw_bipush 64 dd_M_noteClosing_65 (by decide) ?_
    refine xw_ior dd_M_noteClosing_67 ?_
    rw [← hef]
    refine xw_cl0 (ct_M_writeNote H hV hh) (iv_M_noteClosing_68 H.1) ok_M_writeNote rfl rfl rfl ?_ (fun _ _ _ q => by cases q.1)
    rintro v h1 z1 q
    have hv := q.1
    cases hv
    exact xw_vret dd_M_noteClosing_71 rfl q
theorem ct_M_dropGathering {j : Nat} (H : mo_at G h o K A) (hV : rV V K A) (hj : j < (sv_gs V).length) : xa_T G mm_M_dropGathering 0 0 0 [.ref o, .int (nI j)] h sz (mqv G h sz o (sv_setG V ((sv_gs V).eraseIdx j)) K A none) := by
  obtain ⟨fs, lt, hd, rg, gs, on, lf⟩ := V
  obtain ⟨v1, v2, v3, v4, v5, v6⟩ := hV
  obtain ⟨g1, g2, g3⟩ := id v3
  have g1 : K 10 = nI gs.length := g1
  have g2 : gs.length ≤ 3 := g2
  have hj : j < gs.length := hj
  have loop : ∀ (m k : Nat) (h1 : xa_H) (F7 F8 : Nat → Int32), k + m = gs.length - 1 → j ≤ k → mo_at G h1 o (upd K 10 (nI (gs.length - 1))) (uA (uA A 7 F7) 8 F8) → (∀ i, (F7 i = if j ≤ i ∧ i < k then A 7 (i + 1) else A 7 i) ∧ (F8 i = if j ≤ i ∧ i < k then A 8 (i + 1) else A 8 i)) → frM o h h1 → xa_W G mm_M_dropGathering 0 0 0 12 [some (.ref o), some (.int (nI j)), some (.int (nI k))] [] h1 sz (mqv G h sz o (sv_setG (fs, lt, hd, rg, gs, on, lf) (gs.eraseIdx j)) K A none) := by
    intro m
    induction m with
    | zero =>
      intro k h1 F7 F8 hk hjk H1 hF fr1
      refine xw_iload_n dd_M_dropGathering_12 rfl ?_
      refine xw_aloadR_n dd_M_dropGathering_13 rfl ?_
      refine xw_get fl_M_95 dd_M_dropGathering_14 H1.1 rfl ?_
      refine xw_icmp_ge 54 dd_M_dropGathering_17 (by decide) (fun hc => ?_) (fun hc => absurd (nI_le (a := gs.length - 1) (b := k) (by omega) (by omega)) hc)
      refine xw_vret dd_M_dropGathering_54 rfl ⟨rfl, rfl, ⟨_, _, H1, ⟨v1.cg rfl (fun i i1 i2 => ?_), v2.cg rfl ?_, ⟨?_, ?_, fun i g hg => ?_⟩, v4, v5, v6⟩, rfl, fun i i1 i2 => ?_⟩, fr1⟩
      · rw [uA_n _ _ (by omega), uA_n _ _ (by omega)]
      · rw [uA_n _ _ (by decide), uA_n _ _ (by decide)]
      · show nI (gs.length - 1) = nI (gs.eraseIdx j).length
        rw [List.length_eraseIdx, if_pos hj]
      · show (gs.eraseIdx j).length ≤ 3
        rw [List.length_eraseIdx, if_pos hj]
        omega
      · have hg : (gs.eraseIdx j)[i]? = some g := hg
        rw [uA_n _ _ (by decide : (7 : Nat) ≠ 8), uA_s, uA_s, (hF i).1, (hF i).2]
        rw [List.getElem?_eraseIdx] at hg
        by_cases e : i < j
        · rw [if_pos e] at hg
          rw [if_neg (by omega), if_neg (by omega)]
          exact g3 i g hg
        · rw [if_neg e] at hg
          have := (List.getElem?_eq_some_iff.mp hg).1
          rw [if_pos (by omega), if_pos (by omega)]
          exact g3 (i + 1) g hg
      · rw [uA_n _ _ (by omega), uA_n _ _ (by omega)]
    | succ m ih =>
      intro k h1 F7 F8 hk hjk H1 hF fr1
      refine xw_iload_n dd_M_dropGathering_12 rfl ?_
      refine xw_aloadR_n dd_M_dropGathering_13 rfl ?_
      refine xw_get fl_M_95 dd_M_dropGathering_14 H1.1 rfl ?_
      refine xw_icmp_ge 54 dd_M_dropGathering_17 (by decide) (fun hc => absurd hc (nI_ge (a := k) (b := gs.length - 1) (by omega) (by omega))) (fun hc => ?_)
      refine xw_aloadR_n dd_M_dropGathering_20 rfl ?_
      refine xw_get fl_M_32 dd_M_dropGathering_21 H1.1 rfl ?_
      refine xw_iload_n dd_M_dropGathering_24 rfl ?_
      refine xw_aloadR_n dd_M_dropGathering_25 rfl ?_
      refine xw_get fl_M_32 dd_M_dropGathering_26 H1.1 rfl ?_
      refine xw_iload_n dd_M_dropGathering_29 rfl ?_
      refine xw_iconst 1 dd_M_dropGathering_30 (by decide) ?_
      refine xw_iadd dd_M_dropGathering_31 ?_
      rw [nI_1]
      refine xw_iald dd_M_dropGathering_32 (H1.2.1 7 (by decide) (by decide)) (vp_in_nI (show k + 1 < 4 by omega) (by decide)) ?_
      rw [nI_clamp (by omega)]
      refine xw_iastA dd_M_dropGathering_33 (H1.2.1 7 (by decide) (by decide)) (vp_in_nI (show k < 4 by omega) (by decide)) (by have := H.2.2; omega) (fun h2 n2 f2 => ?_)
      rw [nI_clamp (by omega)] at n2
      obtain ⟨H2, fr2⟩ := H1.setA (i := 7) (by decide) n2 f2
      refine xw_aloadR_n dd_M_dropGathering_34 rfl ?_
      refine xw_get fl_M_35 dd_M_dropGathering_35 H2.1 rfl ?_
      refine xw_iload_n dd_M_dropGathering_38 rfl ?_
      refine xw_aloadR_n dd_M_dropGathering_39 rfl ?_
      refine xw_get fl_M_35 dd_M_dropGathering_40 H2.1 rfl ?_
      refine xw_iload_n dd_M_dropGathering_43 rfl ?_
      refine xw_iconst 1 dd_M_dropGathering_44 (by decide) ?_
      refine xw_iadd dd_M_dropGathering_45 ?_
      rw [nI_1]
      refine xw_iald dd_M_dropGathering_46 (H2.2.1 8 (by decide) (by decide)) (vp_in_nI (show k + 1 < 4 by omega) (by decide)) ?_
      rw [nI_clamp (by omega)]
      refine xw_iastA dd_M_dropGathering_47 (H2.2.1 8 (by decide) (by decide)) (vp_in_nI (show k < 4 by omega) (by decide)) (by have := H.2.2; omega) (fun h3 n3 f3 => ?_)
      rw [nI_clamp (by omega)] at n3
      obtain ⟨H3, fr3⟩ := H2.setA (i := 8) (by decide) n3 f3
      refine xw_iinc dd_M_dropGathering_48 rfl (nI_1 k) (by decide) ?_
      refine xw_goto 12 dd_M_dropGathering_51 (by decide) ?_
      have e7 : uA (uA A 7 F7) 8 F8 7 = F7 := by rw [uA_n _ _ (by decide : (7 : Nat) ≠ 8), uA_s]
      have e8 : uA (uA (uA A 7 F7) 8 F8) 7 (upd (uA (uA A 7 F7) 8 F8 7) k (uA (uA A 7 F7) 8 F8 7 (k + 1))) 8 = F8 := by rw [uA_n _ _ (by decide : (8 : Nat) ≠ 7), uA_s]
      rw [e8, e7] at H3
      have eA : uA (uA (uA (uA A 7 F7) 8 F8) 7 (upd F7 k (F7 (k + 1)))) 8 (upd F8 k (F8 (k + 1))) = uA (uA A 7 (upd F7 k (F7 (k + 1)))) 8 (upd F8 k (F8 (k + 1))) := funext (fun q => by
        unfold uA
        by_cases q8 : q = 8
        · simp [q8]
        · by_cases q7 : q = 7
          · simp [q7]
          · simp [q7, q8])
      rw [eA] at H3
      refine ih (k + 1) h3 _ _ (by omega) (by omega) H3 (fun i => ?_) (fr1.trans (fr2.trans fr3))
      by_cases ei : i = k
      · subst ei
        rw [pk_us, pk_us, if_pos (by omega), if_pos (by omega), (hF (i + 1)).1, (hF (i + 1)).2, if_neg (by omega), if_neg (by omega)]
        exact ⟨rfl, rfl⟩
      · rw [pk_un ei, pk_un ei, (hF i).1, (hF i).2]
        by_cases e2 : j ≤ i ∧ i < k
        · rw [if_pos e2, if_pos e2, if_pos (by omega), if_pos (by omega)]
          exact ⟨rfl, rfl⟩
        · rw [if_neg e2, if_neg e2, if_neg (by omega), if_neg (by omega)]
          exact ⟨rfl, rfl⟩
  refine xt_o ok_M_dropGathering rfl rfl ?_
  refine xw_aloadR_n dd_M_dropGathering_0 rfl ?_
  refine xw_dup dd_M_dropGathering_1 rfl ?_
  refine xw_get fl_M_95 dd_M_dropGathering_2 H.1 rfl ?_
  rw [g1]
  refine xw_iconst 1 dd_M_dropGathering_5 (by decide) ?_
  refine xw_isub dd_M_dropGathering_6 ?_
  rw [show nI gs.length - 1 = nI (gs.length - 1) from pk_sub (a := gs.length) (b := 1) (by omega)]
  refine xw_putA fl_M_95 fz_M_95 (by decide) dd_M_dropGathering_7 H.1 rfl H.2.2 rfl rfl (fun h1 n1 f1 => ?_)
  obtain ⟨H1, fr1⟩ := H.setK (K' := upd K 10 (nI (gs.length - 1))) n1 f1
  refine xw_iload_n dd_M_dropGathering_10 rfl ?_
  refine xw_istore_n dd_M_dropGathering_11 (by decide) ?_
  have eA : uA (uA A 7 (A 7)) 8 (A 8) = A := funext (fun q => by
    unfold uA
    by_cases q8 : q = 8
    · rw [if_pos q8, q8]
    · rw [if_neg q8]
      by_cases q7 : q = 7
      · rw [if_pos q7, q7]
      · rw [if_neg q7])
  refine loop (gs.length - 1 - j) j h1 (A 7) (A 8) (by omega) (Nat.le_refl _) (by rw [eA]; exact H1) (fun i => ?_) fr1
  rw [if_neg (by omega), if_neg (by omega)]
  exact ⟨rfl, rfl⟩
end MC
