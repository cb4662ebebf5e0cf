/-! NotedVolumeModel: remove (by program: wip/whole/mk48.py) -/
section MY
variable {G : xa_G} {h : xa_H} {sz o : Nat} {K : Nat → Int32} {A : Nat → Nat → Int32} {V : sv_V}
theorem ct_M_remove {f : Int32} (H : mo_at G h o K A) (hV : rV V K A) (hh : sv_hd V < 800000) : xa_T G mm_M_remove 4 0 0 [.ref o, .int f] h sz (mqp G h sz o (sv_rem V f) A) := by
  have v1 := hV.1
  obtain ⟨k1, k2, k3⟩ := id v1
  refine xt_o ok_M_remove rfl rfl ?_
  refine xw_aloadR_n dd_M_remove_0 rfl ?_
  refine xw_iload_n dd_M_remove_1 rfl ?_
  refine xw_cl0 (ct_M_placeOf H v1) (iv_M_remove_2 H.1) ok_M_placeOf rfl rfl rfl ?_ (fun _ _ _ q => by cases q.1)
  rintro v h sz ⟨hv, rfl, rfl⟩
  cases hv
  refine xw_istore_n dd_M_remove_5 (by decide) ?_
  refine xw_aloadR_n dd_M_remove_6 rfl ?_
  refine xw_aloadR_n dd_M_remove_7 rfl ?_
  refine xw_get fl_M_91 dd_M_remove_8 H.1 rfl ?_
  rw [off_zb hV]
  rcases fx (fun e : sv_E => decide (e.1 = f)) (sv_fs V) with ⟨w1, w2⟩ | ⟨i, e, he, w1, w2, w3, w4⟩
  · have hix : (sv_ix (fun e : sv_E => decide (e.1 = f)) (sv_fs V)) = -1 := by
      unfold sv_ix
      rw [w2]
    have w1' : sv_find (sv_fs V) f = none := w1
    rw [hix]
    refine xw_iload_n dd_M_remove_11 rfl ?_
    refine xw_if_ge 19 dd_M_remove_12 (by decide) (fun hc => absurd hc (by decide)) (fun hc => ?_)
    refine xw_iconst 1 dd_M_remove_15 (by decide) ?_
    refine xw_goto 20 dd_M_remove_16 (by decide) ?_
    refine xw_iload_n dd_M_remove_20 rfl ?_
    refine xw_if_lt 36 dd_M_remove_21 (by decide) (fun hc => ?_) (fun hc => absurd (by decide) hc)
    refine xw_iconst 0 dd_M_remove_36 (by decide) ?_
    refine xw_iconst 0 dd_M_remove_37 (by decide) ?_
    refine xw_cl0 (ct_M_refused H) (iv_M_remove_38 H.1) ok_M_refused rfl rfl rfl ?_ (fun _ _ _ q => by cases q.1)
    rintro v h1 z1 ⟨hv, rfl, H1, fr1⟩
    cases hv
    by_cases hon : sv_on V = true
    · have hk : md_c (zb (¬ sv_on V = true)) 1 0 0 = 2 := by
        unfold md_c
        rw [if_pos (zb_z.mpr (fun q => q hon))]
        rfl
      have hr : sv_rem V f = (2, 0, V) := by
        unfold sv_rem
        rw [if_pos hon, w1']
      rw [hk] at H1 ⊢
      refine xw_if_eq 46 dd_M_remove_41 (by decide) (fun hc => absurd hc (by decide)) (fun hc => ?_)
      refine xw_iconst 0 dd_M_remove_44 (by decide) ?_
      exact xw_zret dd_M_remove_45 rfl rfl ⟨by rw [hr], rfl, ⟨_, A, H1, by rw [hr]; exact hV.thr, by rw [hr]; rfl, fun _ _ _ => rfl⟩, fr1⟩
    · have hk : md_c (zb (¬ sv_on V = true)) 1 0 0 = 1 := by
        unfold md_c
        rw [if_neg (fun q => zb_z.mp q hon)]
      have hr : sv_rem V f = (1, 0, V) := by
        unfold sv_rem
        rw [if_neg hon]
      rw [hk] at H1 ⊢
      refine xw_if_eq 46 dd_M_remove_41 (by decide) (fun hc => absurd hc (by decide)) (fun hc => ?_)
      refine xw_iconst 0 dd_M_remove_44 (by decide) ?_
      exact xw_zret dd_M_remove_45 rfl rfl ⟨by rw [hr], rfl, ⟨_, A, H1, by rw [hr]; exact hV.thr, by rw [hr]; rfl, fun _ _ _ => rfl⟩, fr1⟩
  · have hi := (List.getElem?_eq_some_iff.mp he).1
    have hix : (sv_ix (fun e : sv_E => decide (e.1 = f)) (sv_fs V)) = nI i := by
      unfold sv_ix
      rw [w2]
    have hef : e.1 = f := by simpa using w3
    have hE : (f, e.2.1, e.2.2.1, e.2.2.2.1, e.2.2.2.2) = e := by rw [← hef]
    have w1' : sv_find (sv_fs V) f = some e := w1
    have ix : vp_in (nI i) 20 := vp_in_nI (show i < 20 by omega) (by decide)
    rw [hix]
    refine xw_iload_n dd_M_remove_11 rfl ?_
    refine xw_if_ge 19 dd_M_remove_12 (by decide) (fun hc => ?_) (fun hc => absurd (nI_pos' (by omega)) hc)
    refine xw_iconst 0 dd_M_remove_19 (by decide) ?_
    refine xw_iload_n dd_M_remove_20 rfl ?_
    refine xw_if_lt 36 dd_M_remove_21 (by decide) (fun hc => absurd hc (nI_pos (by omega))) (fun hc => ?_)
    refine xw_aloadR_n dd_M_remove_24 rfl ?_
    refine xw_iload_n dd_M_remove_25 rfl ?_
    refine xw_cl0 (ct_M_hasFiles H v1) (iv_M_remove_26 H.1) ok_M_hasFiles rfl rfl rfl ?_ (fun _ _ _ q => by cases q.1)
    rintro v h sz ⟨hv, rfl, rfl⟩
    cases hv
    by_cases hso : ((sv_fs V).find? (fun e => decide (e.2.2.1 = f))).isSome = true
    · rw [if_pos hso]
      refine xw_if_eq 36 dd_M_remove_29 (by decide) (fun hc => absurd hc (by decide)) (fun hc => ?_)
      refine xw_iconst 1 dd_M_remove_32 (by decide) ?_
      refine xw_goto 37 dd_M_remove_33 (by decide) ?_
      refine xw_iconst 0 dd_M_remove_37 (by decide) ?_
      refine xw_cl0 (ct_M_refused H) (iv_M_remove_38 H.1) ok_M_refused rfl rfl rfl ?_ (fun _ _ _ q => by cases q.1)
      rintro v h1 z1 ⟨hv, rfl, H1, fr1⟩
      cases hv
      by_cases hon : sv_on V = true
      · have hk : md_c (zb (¬ sv_on V = true)) 0 1 0 = 3 := by
          unfold md_c
          rw [if_pos (zb_z.mpr (fun q => q hon))]
          rfl
        have hr : sv_rem V f = (3, 0, V) := by
          unfold sv_rem
          rw [if_pos hon, w1']
          exact if_pos hso
        rw [hk] at H1 ⊢
        refine xw_if_eq 46 dd_M_remove_41 (by decide) (fun hc => absurd hc (by decide)) (fun hc => ?_)
        refine xw_iconst 0 dd_M_remove_44 (by decide) ?_
        exact xw_zret dd_M_remove_45 rfl rfl ⟨by rw [hr], rfl, ⟨_, A, H1, by rw [hr]; exact hV.thr, by rw [hr]; rfl, fun _ _ _ => rfl⟩, fr1⟩
      · have hk : md_c (zb (¬ sv_on V = true)) 0 1 0 = 1 := by
          unfold md_c
          rw [if_neg (fun q => zb_z.mp q hon)]
        have hr : sv_rem V f = (1, 0, V) := by
          unfold sv_rem
          rw [if_neg hon]
        rw [hk] at H1 ⊢
        refine xw_if_eq 46 dd_M_remove_41 (by decide) (fun hc => absurd hc (by decide)) (fun hc => ?_)
        refine xw_iconst 0 dd_M_remove_44 (by decide) ?_
        exact xw_zret dd_M_remove_45 rfl rfl ⟨by rw [hr], rfl, ⟨_, A, H1, by rw [hr]; exact hV.thr, by rw [hr]; rfl, fun _ _ _ => rfl⟩, fr1⟩
    · rw [if_neg hso]
      refine xw_if_eq 36 dd_M_remove_29 (by decide) (fun hc => ?_) (fun hc => absurd rfl hc)
      refine xw_iconst 0 dd_M_remove_36 (by decide) ?_
      refine xw_iconst 0 dd_M_remove_37 (by decide) ?_
      refine xw_cl0 (ct_M_refused H) (iv_M_remove_38 H.1) ok_M_refused rfl rfl rfl ?_ (fun _ _ _ q => by cases q.1)
      rintro v h1 z1 ⟨hv, rfl, H1, fr1⟩
      cases hv
      by_cases hon : sv_on V = true
      · have hk : md_c (zb (¬ sv_on V = true)) 0 0 0 = 0 := by
          unfold md_c
          rw [if_pos (zb_z.mpr (fun q => q hon))]
          rfl
        have hr : sv_rem V f = if (sv_chg V e 32).1 = true then if (sv_spend (sv_chg V e 32).2).1 = true then (0, 1, sv_setF (sv_spend (sv_chg V e 32).2).2 ((sv_fs (sv_spend (sv_chg V e 32).2).2).eraseP (fun e => decide (e.1 = f)))) else (0, 0, (sv_spend (sv_chg V e 32).2).2) else (0, 0, (sv_chg V e 32).2) := by
          unfold sv_rem
          rw [if_pos hon, w1']
          exact if_neg hso
        have hV1 : rV V (upd K 0 (nI 0)) A := hV.thr
        rw [hk] at H1 ⊢
        have cut : ∀ (V' : sv_V) (h9 : xa_H) (K' : Nat → Int32) (A' : Nat → Nat → Int32), sv_rem V f = (0, 0, V') → mo_at G h9 o K' A' → rV V' K' A' → K' 0 = nI 0 → (∀ i, 9 ≤ i → i ≤ 21 → A' i = A i) → frM o h h9 → xa_W G mm_M_remove 4 0 0 95 [some (.ref o), some (.int f), some (.int (nI i)), none] [] h9 z1 (mqp G h z1 o (sv_rem V f) A) := by
          intro V' h9 K' A' hr2 H9 V9 e9 a9 fr9
          refine xw_iconst 0 dd_M_remove_95 (by decide) ?_
          exact xw_zret dd_M_remove_96 rfl rfl ⟨by rw [hr2], rfl, ⟨K', A', H9, by rw [hr2]; exact V9, by rw [hr2]; exact e9, a9⟩, fr9⟩
        refine xw_if_eq 46 dd_M_remove_41 (by decide) (fun hc => ?_) (fun hc => absurd rfl hc)
        refine xw_aloadR_n dd_M_remove_46 rfl ?_
        refine xw_iload_n dd_M_remove_47 rfl ?_
        refine xw_cl0 (ct_M_opens H1 hV1 (by omega)) (iv_M_remove_48 H1.1) ok_M_opens rfl rfl rfl ?_ (fun _ _ _ q => by cases q.1)
        rintro v h2 z2 ⟨hv, rfl, ⟨K2, A2, H2, V2, e2, a2⟩, fr2⟩
        cases hv
        have of1 := op_fs V f
        by_cases ho : (sv_open V f).1 = true
        · rw [if_pos ho]
          have hroom := open_room (V := V) (f := f) hV.2.2.1.2.1 ho
          have k3' := V2.1.2.2 i e (by rw [of1.1]; exact he)
          refine xw_if_eq 95 dd_M_remove_51 (by decide) (fun hc => absurd hc (by decide)) (fun hc => ?_)
          refine xw_aloadR_n dd_M_remove_54 rfl ?_
          refine xw_iload_n dd_M_remove_55 rfl ?_
          refine xw_aloadR_n dd_M_remove_56 rfl ?_
          refine xw_get fl_M_13 dd_M_remove_57 H2.1 rfl ?_
          refine xw_iload_n dd_M_remove_60 rfl ?_
          refine xw_iald dd_M_remove_61 (H2.2.1 2 (by decide) (by decide)) ix ?_
          rw [nI_clamp (by omega), k3'.2.1]
          refine xw_aloadR_n dd_M_remove_62 rfl ?_
          refine xw_get fl_M_16 dd_M_remove_63 H2.1 rfl ?_
          refine xw_iload_n dd_M_remove_66 rfl ?_
          refine xw_iald dd_M_remove_67 (H2.2.1 3 (by decide) (by decide)) ix ?_
          rw [nI_clamp (by omega), k3'.2.2.1]
          refine xw_aloadR_n dd_M_remove_68 rfl ?_
          refine xw_get fl_M_19 dd_M_remove_69 H2.1 rfl ?_
          refine xw_iload_n dd_M_remove_72 rfl ?_
          refine xw_iald dd_M_remove_73 (H2.2.1 4 (by decide) (by decide)) ix ?_
          rw [nI_clamp (by omega), k3'.2.2.2.1]
          refine xw_aloadR_n dd_M_remove_74 rfl ?_
          refine xw_get fl_M_22 dd_M_remove_75 H2.1 rfl ?_
          refine xw_iload_n dd_M_remove_78 rfl ?_
          refine xw_iald dd_M_remove_79 (H2.2.1 5 (by decide) (by decide)) ix ?_
          rw [nI_clamp (by omega), k3'.2.2.2.2]
          refine xw_bipush 32 dd_M_remove_80 (by decide) ?_
          refine xw_cl0 (ct_M_noteChange H2 V2 (by omega) hroom) (iv_M_remove_82 H2.1) ok_M_noteChange rfl rfl rfl ?_ (fun _ _ _ q => by cases q.1)
          rintro v h3 z3 ⟨hv, rfl, ⟨K3, A3, H3, V3, e3, a3⟩, fr3⟩
          cases hv
          rw [hE] at V3 ⊢
          have nf := nt_fs (sv_open V f).2 e 32
          have hch : sv_chg V e 32 = sv_note (sv_open V f).2 e 32 := by
            unfold sv_chg
            rw [hef]
            exact if_pos ho
          by_cases hn : (sv_note (sv_open V f).2 e 32).1 = true
          · rw [if_pos hn]
            refine xw_if_eq 95 dd_M_remove_85 (by decide) (fun hc => absurd hc (by decide)) (fun hc => ?_)
            refine xw_aloadR_n dd_M_remove_88 rfl ?_
            refine xw_cl0 (ct_M_writes H3 V3) (iv_M_remove_89 H3.1) ok_M_writes rfl rfl rfl ?_ (fun _ _ _ q => by cases q.1)
            rintro v h4 z4 ⟨hv, rfl, ⟨K4, A4, H4, V4, e4, a4⟩, fr4⟩
            cases hv
            rw [← hch] at V4 hn ⊢
            have hfs4 : sv_fs (sv_spend (sv_chg V e 32).2).2 = sv_fs V := by rw [(sp_len _).2.2, hch, nf.1, of1.1]
            rw [if_pos hn] at hr
            by_cases hsp : (sv_spend (sv_chg V e 32).2).1 = true
            · rw [if_pos hsp] at hr ⊢
              rw [hfs4, ← sf_erase w4 he (decide_eq_true hef)] at hr
              have kc : K4 1 = nI (sv_fs V).length := by
                have := V4.1.1
                rw [hfs4] at this
                exact this
              refine xw_if_ne 97 dd_M_remove_92 (by decide) (fun hc => ?_) (fun hc => absurd hc (by decide))
              refine xw_aloadR_n dd_M_remove_97 rfl ?_
              refine xw_dup dd_M_remove_98 rfl ?_
              refine xw_get fl_M_84 dd_M_remove_99 H4.1 rfl ?_
              rw [kc]
              refine xw_iconst 1 dd_M_remove_102 (by decide) ?_
              refine xw_isub dd_M_remove_103 ?_
              rw [show nI (sv_fs V).length - 1 = nI ((sv_fs V).length - 1) from pk_sub (a := (sv_fs V).length) (b := 1) (by omega)]
              refine xw_putA fl_M_84 fz_M_84 (by decide) dd_M_remove_104 H4.1 rfl H.2.2 rfl rfl (fun h5 n5 f5 => ?_)
              obtain ⟨H5, fr5⟩ := H4.setK (K' := upd K4 1 (nI ((sv_fs V).length - 1))) n5 f5
              refine xw_iload_n dd_M_remove_107 rfl ?_
              refine xw_istore_n dd_M_remove_108 (by decide) ?_
              have V40 := V4.1.2.2
              rw [hfs4] at V40
              have eB : uB A4 A4 = A4 := funext (fun q => by unfold uB; split <;> rfl)
              refine rm_loop (h := h5) (K := K4) (A := A4) (e := e) (V' := V) (fs := sv_fs V) (i := i) H.2.2 k2 hi V40 (fun h9 A9 H9 F9 a9 fr9 => ?_) ((sv_fs V).length - 1 - i) i h5 A4 (by omega) (Nat.le_refl _) (by rw [eB]; exact H5) (fun q j _ _ => by rw [if_neg (by omega)]) frM.refl
              generalize (sv_spend (sv_chg V e 32).2).2 = V6 at V4 hfs4 hr
              obtain ⟨fs6, lt6, hd6, rg6, gs6, on6, lf6⟩ := V6
              obtain ⟨b1, b2, b3, b4, b5, b6⟩ := V4
              refine ⟨by rw [hr], rfl, ⟨_, A9, H9, ?_, ?_, fun j j1 j2 => (a9 j (by omega)).trans ((a4 j j1 j2).trans ((a3 j j1 j2).trans (a2 j j1 j2)))⟩, fr1.trans (fr2.trans (fr3.trans (fr4.trans (fr5.trans fr9))))⟩
              · rw [hr]
                exact ⟨F9, b2.cg rfl (a9 6 (by decide)), b3.cg rfl (a9 7 (by decide)) (a9 8 (by decide)), b4, b5, b6⟩
              · rw [hr]
                exact e4.trans (e3.trans e2)
            · rw [if_neg hsp] at hr ⊢
              refine xw_if_ne 97 dd_M_remove_92 (by decide) (fun hc => absurd rfl hc) (fun hc => ?_)
              exact cut _ h4 K4 A4 hr H4 V4 (e4.trans (e3.trans e2)) (fun j j1 j2 => (a4 j j1 j2).trans ((a3 j j1 j2).trans (a2 j j1 j2))) (fr1.trans (fr2.trans (fr3.trans fr4)))
          · rw [if_neg hn]
            rw [hch, if_neg hn] at hr
            refine xw_if_eq 95 dd_M_remove_85 (by decide) (fun hc => ?_) (fun hc => absurd rfl hc)
            exact cut _ h3 K3 A3 hr H3 V3 (e3.trans e2) (fun j j1 j2 => (a3 j j1 j2).trans (a2 j j1 j2)) (fr1.trans (fr2.trans fr3))
        · rw [if_neg ho]
          have hch : sv_chg V e 32 = (false, (sv_open V f).2) := by
            unfold sv_chg
            rw [hef]
            exact if_neg ho
          rw [hch] at hr
          refine xw_if_eq 95 dd_M_remove_51 (by decide) (fun hc => ?_) (fun hc => absurd rfl hc)
          exact cut _ h2 K2 A2 hr H2 V2 e2 a2 (fr1.trans fr2)
      · have hk : md_c (zb (¬ sv_on V = true)) 0 0 0 = 1 := by
          unfold md_c
          rw [if_neg (fun q => zb_z.mp q hon)]
        have hr : sv_rem V f = (1, 0, V) := by
          unfold sv_rem
          rw [if_neg hon]
        rw [hk] at H1 ⊢
        refine xw_if_eq 46 dd_M_remove_41 (by decide) (fun hc => absurd hc (by decide)) (fun hc => ?_)
        refine xw_iconst 0 dd_M_remove_44 (by decide) ?_
        exact xw_zret dd_M_remove_45 rfl rfl ⟨by rw [hr], rfl, ⟨_, A, H1, by rw [hr]; exact hV.thr, by rw [hr]; rfl, fun _ _ _ => rfl⟩, fr1⟩
end MY
