/-! NotedVolumeModel: notes of changes (by program: wip/whole/mk39.py) -/
section ME
variable {G : xa_G} {h : xa_H} {sz o : Nat} {K : Nat → Int32} {A : Nat → Nat → Int32} {V : sv_V}
theorem ct_M_noteChange {f s p nm mk r : Int32} (H : mo_at G h o K A) (hV : rV V K A) (hh : sv_hd V < 900000) (hroom : (sv_gs V).length < 3 ∨ (sv_gOf (sv_gs V) f).isSome = true) : xa_T G mm_M_noteChange 1 0 0 [.ref o, .int f, .int s, .int p, .int nm, .int mk, .int r] h sz (mqv G h sz o (sv_note V (f, s, p, nm, mk) r).2 K A (some (.int (if (sv_note V (f, s, p, nm, mk) r).1 = true then 1 else 0)))) := by
  refine xt_o ok_M_noteChange rfl rfl ?_
  refine xw_aloadR_n dd_M_noteChange_0 rfl ?_
  refine xw_cl0 (ct_M_writes H hV) (iv_M_noteChange_1 H.1) ok_M_writes rfl rfl rfl ?_ (fun _ _ _ q => by cases q.1)
  rintro v h1 z1 ⟨hv, rfl, ⟨K1, A1, H1, V1, e1, e2⟩, fr1⟩
  cases hv
  by_cases hs : (sv_spend V).1 = true
  · have hc : sv_note V (f, s, p, nm, mk) r = (true, sv_app (sv_setG (sv_spend V).2 (sv_gather (sv_gs (sv_spend V).2) f r).2) (f, s, p, nm, mk) (sv_gather (sv_gs (sv_spend V).2) f r).1) := by
      unfold sv_note
      rw [if_pos hs]
    have hgs := sp_gs hs
    have sl := (sp_len V).2.1
    rw [hc, if_pos hs]
    rw [← hgs] at hroom
    generalize (sv_spend V).2 = V0 at V1 hgs sl hroom ⊢
    obtain ⟨fs, lt, hd, rg, gs, on, lf⟩ := V0
    have sl : hd = sv_hd V := sl
    have hroom : gs.length < 3 ∨ (sv_gOf gs f).isSome = true := hroom
    obtain ⟨v1, v2, v3, v4, v5, v6⟩ := V1
    obtain ⟨g1, g2, g3⟩ := id v3
    have g1 : K1 10 = nI gs.length := g1
    have g2 : gs.length ≤ 3 := g2
    have tail : ∀ (g : Nat) (h2 : xa_H) (K2 : Nat → Int32) (A2 : Nat → Nat → Int32) (gs2 : List (Int32 × Int32)) (r0 : Int32), mo_at G h2 o K2 A2 → rV (fs, lt, hd, rg, gs2, on, lf) K2 A2 → gs2[g]? = some (f, r0) → sv_gather gs f r = (r0 ||| r, gs2.set g (f, r0 ||| r)) → K2 0 = K 0 → (∀ i, 9 ≤ i → i ≤ 21 → A2 i = A i) → frM o h h2 → xa_W G mm_M_noteChange 1 0 0 53 [some (.ref o), some (.int f), some (.int s), some (.int p), some (.int nm), some (.int mk), some (.int r), some (.int (nI g))] [] h2 z1 (mqv G h z1 o (sv_app (sv_setG (fs, lt, hd, rg, gs, on, lf) (sv_gather gs f r).2) (f, s, p, nm, mk) (sv_gather gs f r).1) K A (some (.int (if true = true then 1 else 0)))) := by
      intro g h2 K2 A2 gs2 r0 H2 V2 hg hsg e3 e4 fr2
      obtain ⟨u1, u2, ⟨u3a, u3b, u3c⟩, u4, u5, u6⟩ := V2
      have hgl := (List.getElem?_eq_some_iff.mp hg).1
      have u3b : gs2.length ≤ 3 := u3b
      have hr0 := u3c g _ hg
      refine xw_aloadR_n dd_M_noteChange_53 rfl ?_
      refine xw_get fl_M_35 dd_M_noteChange_54 H2.1 rfl ?_
      refine xw_iload dd_M_noteChange_57 rfl ?_
      refine xw_aloadR_n dd_M_noteChange_59 rfl ?_
      refine xw_get fl_M_35 dd_M_noteChange_60 H2.1 rfl ?_
      refine xw_iload dd_M_noteChange_63 rfl ?_
      refine xw_iald dd_M_noteChange_65 (H2.2.1 8 (by decide) (by decide)) (vp_in_nI (show g < 4 by omega) (by decide)) ?_
      rw [nI_clamp (by omega), hr0.2]
      refine xw_iload dd_M_noteChange_66 rfl ?_
      refine xw_ior dd_M_noteChange_68 ?_
      refine xw_iastA dd_M_noteChange_69 (H2.2.1 8 (by decide) (by decide)) (vp_in_nI (show g < 4 by omega) (by decide)) (by have := H.2.2; omega) (fun h3 n3 f3 => ?_)
      rw [nI_clamp (by omega)] at n3
      obtain ⟨H3, fr3⟩ := H2.setA (i := 8) (by decide) n3 f3
      have V3 : rV (fs, lt, hd, rg, gs2.set g (f, r0 ||| r), on, lf) K2 (uA A2 8 (upd (A2 8) g (r0 ||| r))) := by
        refine ⟨u1.cg rfl (fun i i1 i2 => uA_n _ _ (by omega)), u2.cg rfl (uA_n _ _ (by decide)), ⟨?_, ?_, fun i q hq => ?_⟩, u4, u5, u6⟩
        · show K2 10 = nI (gs2.set g (f, r0 ||| r)).length
          rw [List.length_set]
          exact u3a
        · show (gs2.set g (f, r0 ||| r)).length ≤ 3
          rw [List.length_set]
          exact u3b
        · have hq : (gs2.set g (f, r0 ||| r))[i]? = some q := hq
          rw [uA_n _ _ (by decide : (7 : Nat) ≠ 8), uA_s]
          rw [List.getElem?_set] at hq
          by_cases e : g = i
          · subst e
            rw [if_pos rfl, if_pos hgl] at hq
            cases hq
            exact ⟨hr0.1, pk_us⟩
          · rw [if_neg e] at hq
            rw [pk_un (fun q => e q.symm)]
            exact u3c i q hq
      refine xw_aloadR_n dd_M_noteChange_70 rfl ?_
      refine xw_iload_n dd_M_noteChange_71 rfl ?_
      refine xw_iload_n dd_M_noteChange_72 rfl ?_
      refine xw_iload_n dd_M_noteChange_73 rfl ?_
      refine xw_iload dd_M_noteChange_74 rfl ?_
      refine xw_iload dd_M_noteChange_76 rfl ?_
      refine xw_aloadR_n dd_M_noteChange_78 rfl ?_
      refine xw_get fl_M_35 dd_M_noteChange_79 H3.1 rfl ?_
      refine xw_iload dd_M_noteChange_82 rfl ?_
      refine xw_iald dd_M_noteChange_84 (H3.2.1 8 (by decide) (by decide)) (vp_in_nI (show g < 4 by omega) (by decide)) ?_
      rw [nI_clamp (by omega), uA_s, pk_us]
      refine xw_cl0 (ct_M_writeNote H3 V3 (by show hd < 900000; omega)) (iv_M_noteChange_85 H3.1) ok_M_writeNote rfl rfl rfl ?_ (fun _ _ _ q => by cases q.1)
      rintro v h4 z4 q
      have q' := mqv.after (h := h) (K := K) (A := A) (fr2.trans fr3) e3 (fun i i1 i2 => (uA_n _ _ (by omega)).trans (e4 i i1 i2)) q
      obtain ⟨hv, rfl, q2, q3⟩ := q'
      cases hv
      refine xw_iconst 1 dd_M_noteChange_88 (by decide) ?_
      refine xw_zret dd_M_noteChange_89 rfl rfl ⟨rfl, rfl, ?_, q3⟩
      rw [hsg]
      exact q2
    refine xw_if_ne 9 dd_M_noteChange_4 (by decide) (fun hc => ?_) (fun hc => absurd hc (by decide))
    refine xw_aloadR_n dd_M_noteChange_9 rfl ?_
    refine xw_iload_n dd_M_noteChange_10 rfl ?_
    refine xw_cl0 (ct_M_gatheringOf H1 v3) (iv_M_noteChange_11 H1.1) ok_M_gatheringOf rfl rfl rfl ?_ (fun _ _ _ q => by cases q.1)
    rintro v h1 z1 ⟨hv, rfl, rfl⟩
    cases hv
    refine xw_istore dd_M_noteChange_14 (by decide) ?_
    refine xw_iload dd_M_noteChange_16 rfl ?_
    rcases fx (fun e : Int32 × Int32 => decide (e.1 = f)) gs with ⟨w1, w2⟩ | ⟨i, e, he, w1, w2, w3, w4⟩
    · have hix : sv_ix (fun e : Int32 × Int32 => decide (e.1 = f)) gs = -1 := by
        unfold sv_ix
        rw [w2]
      have hl : gs.length < 3 := by
        rcases hroom with q | q
        · exact q
        · unfold sv_gOf at q
          rw [w1] at q
          cases q
      rw [hix]
      refine xw_if_ge 53 dd_M_noteChange_18 (by decide) (fun hc => absurd hc (by decide)) (fun hc => ?_)
      refine xw_aloadR_n dd_M_noteChange_21 rfl ?_
      refine xw_get fl_M_95 dd_M_noteChange_22 H1.1 rfl ?_
      rw [g1]
      refine xw_istore dd_M_noteChange_25 (by decide) ?_
      refine xw_aloadR_n dd_M_noteChange_27 rfl ?_
      refine xw_get fl_M_32 dd_M_noteChange_28 H1.1 rfl ?_
      refine xw_iload dd_M_noteChange_31 rfl ?_
      refine xw_iload_n dd_M_noteChange_33 rfl ?_
      refine xw_iastA dd_M_noteChange_34 (H1.2.1 7 (by decide) (by decide)) (vp_in_nI (show gs.length < 4 by omega) (by decide)) (by have := H.2.2; omega) (fun h2 n2 f2 => ?_)
      rw [nI_clamp (by omega)] at n2
      obtain ⟨H2, fr2⟩ := H1.setA (i := 7) (by decide) n2 f2
      refine xw_aloadR_n dd_M_noteChange_35 rfl ?_
      refine xw_get fl_M_35 dd_M_noteChange_36 H2.1 rfl ?_
      refine xw_iload dd_M_noteChange_39 rfl ?_
      refine xw_iconst 0 dd_M_noteChange_41 (by decide) ?_
      refine xw_iastA dd_M_noteChange_42 (H2.2.1 8 (by decide) (by decide)) (vp_in_nI (show gs.length < 4 by omega) (by decide)) (by have := H.2.2; omega) (fun h3 n3 f3 => ?_)
      rw [nI_clamp (by omega)] at n3
      obtain ⟨H3, fr3⟩ := H2.setA (i := 8) (by decide) n3 f3
      refine xw_aloadR_n dd_M_noteChange_43 rfl ?_
      refine xw_dup dd_M_noteChange_44 rfl ?_
      refine xw_get fl_M_95 dd_M_noteChange_45 H3.1 rfl ?_
      rw [g1]
      refine xw_iconst 1 dd_M_noteChange_48 (by decide) ?_
      refine xw_iadd dd_M_noteChange_49 ?_
      rw [nI_1]
      refine xw_putA fl_M_95 fz_M_95 (by decide) dd_M_noteChange_50 H3.1 rfl H.2.2 rfl rfl (fun h4 n4 f4 => ?_)
      obtain ⟨H4, fr4⟩ := H3.setK (K' := upd K1 10 (nI (gs.length + 1))) n4 f4
      refine tail gs.length h4 _ _ (gs ++ [(f, 0)]) 0 H4 ⟨v1.cg rfl (fun i i1 i2 => ?_), v2.cg rfl ?_, ⟨?_, ?_, fun i q hq => ?_⟩, v4, v5, v6⟩ ?_ ?_ e1 (fun i i1 i2 => ?_) (fr1.trans (fr2.trans (fr3.trans fr4)))
      · rw [uA_n _ _ (by omega), uA_n _ _ (by omega)]
      · rw [uA_n _ _ (by decide), uA_n _ _ (by decide)]
      · show nI (gs.length + 1) = nI (gs ++ [(f, 0)]).length
        rw [List.length_append]
        rfl
      · show (gs ++ [(f, 0)]).length ≤ 3
        rw [List.length_append]
        show gs.length + 1 ≤ 3
        omega
      · have hq : (gs ++ [(f, 0)])[i]? = some q := hq
        rw [uA_n _ _ (by decide : (7 : Nat) ≠ 8), uA_s, uA_s, uA_n _ _ (by decide : (8 : Nat) ≠ 7)]
        by_cases e : i = gs.length
        · subst e
          rw [List.getElem?_append_right (by omega)] at hq
          simp at hq
          subst hq
          exact ⟨pk_us, pk_us⟩
        · have hi : i < gs.length := by
            have := (List.getElem?_eq_some_iff.mp hq).1
            simp at this
            omega
          rw [List.getElem?_append_left hi] at hq
          rw [pk_un e, pk_un e]
          exact g3 i q hq
      · rw [List.getElem?_append_right (by omega)]
        simp
      · rw [sg_none w1]
        have : (0 : Int32) ||| r = r := by simp
        rw [this, List.set_append_right _ _ (by omega)]
        simp
      · rw [uA_n _ _ (by omega), uA_n _ _ (by omega)]
        exact e2 i i1 i2
    · have hi := (List.getElem?_eq_some_iff.mp he).1
      have hix : sv_ix (fun e : Int32 × Int32 => decide (e.1 = f)) gs = nI i := by
        unfold sv_ix
        rw [w2]
      have hef : e.1 = f := by simpa using w3
      obtain ⟨ef, er⟩ := e
      cases hef
      rw [hix]
      refine xw_if_ge 53 dd_M_noteChange_18 (by decide) (fun hc => ?_) (fun hc => absurd (nI_pos' (by omega)) hc)
      exact tail i h1 K1 A1 gs er H1 ⟨v1, v2, v3, v4, v5, v6⟩ he (sg_hit w4 he rfl) e1 e2 fr1
  · have hc : sv_note V (f, s, p, nm, mk) r = (false, (sv_spend V).2) := by
      unfold sv_note
      rw [if_neg hs]
    rw [hc, if_neg hs]
    refine xw_if_ne 9 dd_M_noteChange_4 (by decide) (fun hc => absurd rfl hc) (fun hc => ?_)
    refine xw_iconst 0 dd_M_noteChange_7 (by decide) ?_
    exact xw_zret dd_M_noteChange_8 rfl rfl ⟨rfl, rfl, ⟨K1, A1, H1, V1, e1, e2⟩, fr1⟩
end ME
