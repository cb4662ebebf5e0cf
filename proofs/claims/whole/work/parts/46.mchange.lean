/-! NotedVolumeModel: change (by program: wip/whole/mk46.py) -/
section MK
variable {G : xa_G} {h : xa_H} {sz o : Nat} {K : Nat → Int32} {A : Nat → Nat → Int32} {V : sv_V}
/-- a file is set anew in its place -/
theorem rF.mark {fs : List sv_E} {i : Nat} {e : sv_E} {w : Int32} (H : rF fs K A) (he : fs[i]? = some e) : rF (fs.set i (e.1, e.2.1, e.2.2.1, e.2.2.2.1, w)) K (uA A 5 (upd (A 5) i w)) := by
  have hi := (List.getElem?_eq_some_iff.mp he).1
  refine ⟨by rw [List.length_set]; exact H.1, by rw [List.length_set]; exact H.2.1, fun j q hq => ?_⟩
  rw [uA_n _ _ (by decide), uA_n _ _ (by decide), uA_n _ _ (by decide), uA_n _ _ (by decide), uA_s]
  rw [List.getElem?_set] at hq
  by_cases ej : i = j
  · subst ej
    rw [if_pos rfl, if_pos hi] at hq
    cases hq
    have := H.2.2 i e he
    exact ⟨this.1, this.2.1, this.2.2.1, this.2.2.2.1, pk_us⟩
  · rw [if_neg ej] at hq
    rw [pk_un (fun q => ej q.symm)]
    exact H.2.2 j q hq
theorem ct_M_change {f : Int32} (H : mo_at G h o K A) (hV : rV V K A) (hh : sv_hd V < 800000) (hsr : sv_srt (sv_fs V)) (h01 : ∀ e ∈ sv_fs V, e.2.1 = 0 ∨ e.2.1 = 1) : xa_T G mm_M_change 4 0 0 [.ref o, .int f] h sz (mqp G h sz o (sv_chn V f) A) := by
  have v1 := hV.1
  obtain ⟨k1, k2, k3⟩ := id v1
  refine xt_o ok_M_change rfl rfl ?_
  refine xw_aloadR_n dd_M_change_0 rfl ?_
  refine xw_iload_n dd_M_change_1 rfl ?_
  refine xw_cl0 (ct_M_placeOf H v1) (iv_M_change_2 H.1) ok_M_placeOf rfl rfl rfl ?_ (fun _ _ _ q => by cases q.1)
  rintro v h sz ⟨hv, rfl, rfl⟩
  cases hv
  refine xw_istore_n dd_M_change_5 (by decide) ?_
  refine xw_aloadR_n dd_M_change_6 rfl ?_
  refine xw_aloadR_n dd_M_change_7 rfl ?_
  refine xw_get fl_M_91 dd_M_change_8 H.1 rfl ?_
  rw [off_zb hV]
  rcases fx (fun e : sv_E => decide (e.1 = f)) (sv_fs V) with ⟨w1, w2⟩ | ⟨i, e, he, w1, w2, w3, -⟩
  · have hix : (sv_ix (fun e : sv_E => decide (e.1 = f)) (sv_fs V)) = -1 := by
      unfold sv_ix
      rw [w2]
    have w1' : sv_find (sv_fs V) f = none := w1
    rw [hix]
    refine xw_iload_n dd_M_change_11 rfl ?_
    refine xw_if_ge 19 dd_M_change_12 (by decide) (fun hc => absurd hc (by decide)) (fun hc => ?_)
    refine xw_iconst 1 dd_M_change_15 (by decide) ?_
    refine xw_goto 20 dd_M_change_16 (by decide) ?_
    refine xw_iload_n dd_M_change_20 rfl ?_
    refine xw_if_lt 38 dd_M_change_21 (by decide) (fun hc => ?_) (fun hc => absurd (by decide) hc)
    refine xw_iconst 0 dd_M_change_38 (by decide) ?_
    refine xw_iconst 0 dd_M_change_39 (by decide) ?_
    refine xw_cl0 (ct_M_refused H) (iv_M_change_40 H.1) ok_M_refused rfl rfl rfl ?_ (fun _ _ _ q => by cases q.1)
    rintro v h1 z1 ⟨hv, rfl, H1, fr1⟩
    cases hv
    have hr : sv_chn V f = (md_c (zb (¬ sv_on V = true)) 1 0 0, 0, V) ∧ md_c (zb (¬ sv_on V = true)) 1 0 0 ≠ 0 := by
      by_cases hon : sv_on V = true
      · have : md_c (zb (¬ sv_on V = true)) 1 0 0 = 2 := by
          unfold md_c
          rw [if_pos (zb_z.mpr (fun q => q hon))]
          rfl
        rw [this]
        refine ⟨?_, by decide⟩
        unfold sv_chn
        rw [if_pos hon, w1']
      · have : md_c (zb (¬ sv_on V = true)) 1 0 0 = 1 := by
          unfold md_c
          rw [if_neg (fun q => zb_z.mp q hon)]
        rw [this]
        refine ⟨?_, by decide⟩
        unfold sv_chn
        rw [if_neg hon]
    rw [if_neg hr.2]
    refine xw_if_eq 48 dd_M_change_43 (by decide) (fun hc => absurd hc (by decide)) (fun hc => ?_)
    refine xw_iconst 0 dd_M_change_46 (by decide) ?_
    refine xw_iret dd_M_change_47 rfl ⟨by rw [hr.1], rfl, ⟨_, A, H1, ?_, ?_, fun _ _ _ => rfl⟩, fr1⟩
    · rw [hr.1]
      exact hV.thr
    · rw [hr.1]
      rfl
  · have hi := (List.getElem?_eq_some_iff.mp he).1
    have hix : (sv_ix (fun e : sv_E => decide (e.1 = f)) (sv_fs V)) = nI i := by
      unfold sv_ix
      rw [w2]
    have hef : e.1 = f := by simpa using w3
    have w1' : sv_find (sv_fs V) f = some e := w1
    have ix : vp_in (nI i) 20 := vp_in_nI (show i < 20 by omega) (by decide)
    rw [hix]
    refine xw_iload_n dd_M_change_11 rfl ?_
    refine xw_if_ge 19 dd_M_change_12 (by decide) (fun hc => ?_) (fun hc => absurd (nI_pos' (by omega)) hc)
    refine xw_iconst 0 dd_M_change_19 (by decide) ?_
    refine xw_iload_n dd_M_change_20 rfl ?_
    refine xw_dia (pj := 39) (stj := [.int 0, .int (zb (¬ sv_on V = true)), .ref o]) (Lj := [some (.ref o), some (.int f), some (.int (nI i)), none]) (.int (zb (e.2.1 = 1))) ?_ (fun meet => ?_)
    · refine xw_iconst 0 dd_M_change_39 (by decide) ?_
      refine xw_cl0 (ct_M_refused H) (iv_M_change_40 H.1) ok_M_refused rfl rfl rfl ?_ (fun _ _ _ q => by cases q.1)
      rintro v h1 z1 ⟨hv, rfl, H1, fr1⟩
      cases hv
      by_cases hon : sv_on V = true
      · by_cases hso : e.2.1 = 1
        · have hk : md_c (zb (¬ sv_on V = true)) 0 (zb (e.2.1 = 1)) 0 = 3 := by
            unfold md_c
            rw [if_pos (zb_z.mpr (fun q => q hon)), if_pos rfl, if_neg (fun q => zb_z.mp q hso)]
          have hr : sv_chn V f = (3, 0, V) := by
            unfold sv_chn
            rw [if_pos hon, w1']
            exact if_pos hso
          rw [hk] at H1 ⊢
          refine xw_if_eq 48 dd_M_change_43 (by decide) (fun hc => absurd hc (by decide)) (fun hc => ?_)
          refine xw_iconst 0 dd_M_change_46 (by decide) ?_
          exact xw_iret dd_M_change_47 rfl ⟨by rw [hr], rfl, ⟨_, A, H1, by rw [hr]; exact hV.thr, by rw [hr]; rfl, fun _ _ _ => rfl⟩, fr1⟩
        · have hk : md_c (zb (¬ sv_on V = true)) 0 (zb (e.2.1 = 1)) 0 = 0 := by
            unfold md_c
            rw [if_pos (zb_z.mpr (fun q => q hon)), if_pos rfl, if_pos (zb_z.mpr hso)]
            rfl
          have hr : sv_chn V f = if (sv_do V (f, e.2.1, e.2.2.1, e.2.2.2.1, e.2.2.2.2 + 1) 2).1 = true then (0, e.2.2.2.2 + 1, (sv_do V (f, e.2.1, e.2.2.1, e.2.2.2.1, e.2.2.2.2 + 1) 2).2) else (0, -2, (sv_do V (f, e.2.1, e.2.2.1, e.2.2.2.1, e.2.2.2.2 + 1) 2).2) := by
            unfold sv_chn
            rw [if_pos hon, w1']
            exact if_neg hso
          have hs0 : e.2.1 = 0 := (h01 e (List.mem_of_getElem? he)).resolve_right hso
          have hV1 : rV V (upd K 0 (nI 0)) A := hV.thr
          rw [hk] at H1 ⊢
          have cut : ∀ (V' : sv_V) (h9 : xa_H) (K' : Nat → Int32) (A' : Nat → Nat → Int32), sv_do V (f, e.2.1, e.2.2.1, e.2.2.2.1, e.2.2.2.2 + 1) 2 = (false, V') → mo_at G h9 o K' A' → rV V' K' A' → K' 0 = nI 0 → (∀ i, 9 ≤ i → i ≤ 21 → A' i = A i) → frM o h h9 → xa_W G mm_M_change 4 0 0 95 [some (.ref o), some (.int f), some (.int (nI i)), some (.int (e.2.2.2.2 + 1))] [] h9 z1 (mqp G h z1 o (sv_chn V f) A) := by
            intro V' h9 K' A' hdo H9 V9 e9 a9 fr9
            have hr2 : sv_chn V f = (0, -2, V') := by
              rw [hr, hdo]
              rfl
            refine xw_bipush (-2) dd_M_change_95 (by decide) ?_
            exact xw_iret dd_M_change_97 rfl ⟨by rw [hr2], rfl, ⟨K', A', H9, by rw [hr2]; exact V9, by rw [hr2]; exact e9, a9⟩, fr9⟩
          refine xw_if_eq 48 dd_M_change_43 (by decide) (fun hc => ?_) (fun hc => absurd rfl hc)
          refine xw_aloadR_n dd_M_change_48 rfl ?_
          refine xw_get fl_M_22 dd_M_change_49 H1.1 rfl ?_
          refine xw_iload_n dd_M_change_52 rfl ?_
          refine xw_iald dd_M_change_53 (H1.2.1 5 (by decide) (by decide)) ix ?_
          rw [nI_clamp (by omega), (k3 i e he).2.2.2.2]
          refine xw_iconst 1 dd_M_change_54 (by decide) ?_
          refine xw_iadd dd_M_change_55 ?_
          refine xw_istore_n dd_M_change_56 (by decide) ?_
          refine xw_aloadR_n dd_M_change_57 rfl ?_
          refine xw_iload_n dd_M_change_58 rfl ?_
          refine xw_cl0 (ct_M_opens H1 hV1 (by omega)) (iv_M_change_59 H1.1) ok_M_opens rfl rfl rfl ?_ (fun _ _ _ q => by cases q.1)
          rintro v h2 z2 ⟨hv, rfl, ⟨K2, A2, H2, V2, e2, a2⟩, fr2⟩
          cases hv
          have of1 := op_fs V f
          by_cases ho : (sv_open V f).1 = true
          · rw [if_pos ho]
            have hroom := open_room (V := V) (f := f) hV.2.2.1.2.1 ho
            refine xw_if_eq 95 dd_M_change_62 (by decide) (fun hc => absurd hc (by decide)) (fun hc => ?_)
            have k3' := V2.1.2.2 i e (by rw [of1.1]; exact he)
            refine xw_aloadR_n dd_M_change_65 rfl ?_
            refine xw_iload_n dd_M_change_66 rfl ?_
            refine xw_iconst 0 dd_M_change_67 (by decide) ?_
            refine xw_aloadR_n dd_M_change_68 rfl ?_
            refine xw_get fl_M_16 dd_M_change_69 H2.1 rfl ?_
            refine xw_iload_n dd_M_change_72 rfl ?_
            refine xw_iald dd_M_change_73 (H2.2.1 3 (by decide) (by decide)) ix ?_
            rw [nI_clamp (by omega), k3'.2.2.1]
            refine xw_aloadR_n dd_M_change_74 rfl ?_
            refine xw_get fl_M_19 dd_M_change_75 H2.1 rfl ?_
            refine xw_iload_n dd_M_change_78 rfl ?_
            refine xw_iald dd_M_change_79 (H2.2.1 4 (by decide) (by decide)) ix ?_
            rw [nI_clamp (by omega), k3'.2.2.2.1]
            refine xw_iload_n dd_M_change_80 rfl ?_
            refine xw_iconst 2 dd_M_change_81 (by decide) ?_
            refine xw_cl0 (ct_M_noteChange H2 V2 (by omega) hroom) (iv_M_change_82 H2.1) ok_M_noteChange rfl rfl rfl ?_ (fun _ _ _ q => by cases q.1)
            rintro v h3 z3 ⟨hv, rfl, ⟨K3, A3, H3, V3, e3, a3⟩, fr3⟩
            cases hv
            rw [← hs0] at V3 ⊢
            have nf := nt_fs (sv_open V f).2 (f, e.2.1, e.2.2.1, e.2.2.2.1, e.2.2.2.2 + 1) 2
            have hch : sv_chg V (f, e.2.1, e.2.2.1, e.2.2.2.1, e.2.2.2.2 + 1) 2 = sv_note (sv_open V f).2 (f, e.2.1, e.2.2.1, e.2.2.2.1, e.2.2.2.2 + 1) 2 := by
              unfold sv_chg
              exact if_pos ho
            by_cases hn : (sv_note (sv_open V f).2 (f, e.2.1, e.2.2.1, e.2.2.2.1, e.2.2.2.2 + 1) 2).1 = true
            · rw [if_pos hn]
              refine xw_if_eq 95 dd_M_change_85 (by decide) (fun hc => absurd hc (by decide)) (fun hc => ?_)
              refine xw_aloadR_n dd_M_change_88 rfl ?_
              refine xw_cl0 (ct_M_writes H3 V3) (iv_M_change_89 H3.1) ok_M_writes rfl rfl rfl ?_ (fun _ _ _ q => by cases q.1)
              rintro v h4 z4 ⟨hv, rfl, ⟨K4, A4, H4, V4, e4, a4⟩, fr4⟩
              cases hv
              rw [← hch] at V4 hn ⊢
              have hfs4 : sv_fs (sv_spend (sv_chg V (f, e.2.1, e.2.2.1, e.2.2.2.1, e.2.2.2.2 + 1) 2).2).2 = sv_fs V := by rw [(sp_len _).2.2, hch, nf.1, of1.1]
              by_cases hsp : (sv_spend (sv_chg V (f, e.2.1, e.2.2.1, e.2.2.2.1, e.2.2.2.2 + 1) 2).2).1 = true
              · have hdo : sv_do V (f, e.2.1, e.2.2.1, e.2.2.2.1, e.2.2.2.2 + 1) 2 = (true, sv_setF (sv_spend (sv_chg V (f, e.2.1, e.2.2.1, e.2.2.2.1, e.2.2.2.2 + 1) 2).2).2 (sv_put (sv_fs (sv_spend (sv_chg V (f, e.2.1, e.2.2.1, e.2.2.2.1, e.2.2.2.2 + 1) 2).2).2) 20 (f, e.2.1, e.2.2.1, e.2.2.2.1, e.2.2.2.2 + 1))) := by
                  unfold sv_do
                  rw [if_pos hn, if_pos hsp]
                have hr2 : sv_chn V f = (0, e.2.2.2.2 + 1, sv_setF (sv_spend (sv_chg V (f, e.2.1, e.2.2.1, e.2.2.2.1, e.2.2.2.2 + 1) 2).2).2 (sv_put (sv_fs (sv_spend (sv_chg V (f, e.2.1, e.2.2.1, e.2.2.2.1, e.2.2.2.2 + 1) 2).2).2) 20 (f, e.2.1, e.2.2.1, e.2.2.2.1, e.2.2.2.2 + 1))) := by
                  rw [hr, hdo]
                  rfl
                rw [if_pos hsp]
                refine xw_if_ne 98 dd_M_change_92 (by decide) (fun hc => ?_) (fun hc => absurd hc (by decide))
                refine xw_aloadR_n dd_M_change_98 rfl ?_
                refine xw_get fl_M_22 dd_M_change_99 H4.1 rfl ?_
                refine xw_iload_n dd_M_change_102 rfl ?_
                refine xw_iload_n dd_M_change_103 rfl ?_
                refine xw_iastA dd_M_change_104 (H4.2.1 5 (by decide) (by decide)) ix (by have := H.2.2; omega) (fun h5 n5 f5 => ?_)
                rw [nI_clamp (by omega)] at n5
                obtain ⟨H5, fr5⟩ := H4.setA (i := 5) (by decide) n5 f5
                refine xw_iload_n dd_M_change_105 rfl ?_
                have hput : sv_put (sv_fs (sv_spend (sv_chg V (f, e.2.1, e.2.2.1, e.2.2.2.1, e.2.2.2.2 + 1) 2).2).2) 20 (f, e.2.1, e.2.2.1, e.2.2.2.1, e.2.2.2.2 + 1) = (sv_fs V).set i (e.1, e.2.1, e.2.2.1, e.2.2.2.1, e.2.2.2.2 + 1) := by
                  rw [hfs4, put_set hsr he (show f = e.1 from hef.symm), hef]
                have V5 : rV (sv_setF (sv_spend (sv_chg V (f, e.2.1, e.2.2.1, e.2.2.2.1, e.2.2.2.2 + 1) 2).2).2 (sv_put (sv_fs (sv_spend (sv_chg V (f, e.2.1, e.2.2.1, e.2.2.2.1, e.2.2.2.2 + 1) 2).2).2) 20 (f, e.2.1, e.2.2.1, e.2.2.2.1, e.2.2.2.2 + 1))) K4 (uA A4 5 (upd (A4 5) i (e.2.2.2.2 + 1))) := by
                  rw [hput]
                  generalize (sv_spend (sv_chg V (f, e.2.1, e.2.2.1, e.2.2.2.1, e.2.2.2.2 + 1) 2).2).2 = V6 at V4 hfs4 ⊢
                  obtain ⟨fs6, lt6, hd6, rg6, gs6, on6, lf6⟩ := V6
                  have hfs4 : fs6 = sv_fs V := hfs4
                  subst hfs4
                  obtain ⟨b1, b2, b3, b4, b5, b6⟩ := V4
                  exact ⟨rF.mark b1 he, b2.cg rfl (uA_n _ _ (by decide)), b3.cg rfl (uA_n _ _ (by decide)) (uA_n _ _ (by decide)), b4, b5, b6⟩
                exact xw_iret dd_M_change_106 rfl ⟨by rw [hr2], rfl, ⟨_, _, H5, by rw [hr2]; exact V5, by rw [hr2]; exact e4.trans (e3.trans e2), fun j j1 j2 => (uA_n _ _ (by omega)).trans ((a4 j j1 j2).trans ((a3 j j1 j2).trans (a2 j j1 j2)))⟩, fr1.trans (fr2.trans (fr3.trans (fr4.trans fr5)))⟩
              · rw [if_neg hsp]
                refine xw_if_ne 98 dd_M_change_92 (by decide) (fun hc => absurd rfl hc) (fun hc => ?_)
                refine cut _ h4 K4 A4 ?_ H4 V4 (e4.trans (e3.trans e2)) (fun j j1 j2 => (a4 j j1 j2).trans ((a3 j j1 j2).trans (a2 j j1 j2))) (fr1.trans (fr2.trans (fr3.trans fr4)))
                unfold sv_do
                rw [if_pos hn, if_neg hsp]
            · rw [if_neg hn]
              refine xw_if_eq 95 dd_M_change_85 (by decide) (fun hc => ?_) (fun hc => absurd hs0 hc)
              refine cut _ h3 K3 A3 ?_ H3 V3 (e3.trans e2) (fun j j1 j2 => (a3 j j1 j2).trans (a2 j j1 j2)) (fr1.trans (fr2.trans fr3))
              unfold sv_do
              rw [hch, if_neg hn]
          · rw [if_neg ho]
            refine xw_if_eq 95 dd_M_change_62 (by decide) (fun hc => ?_) (fun hc => absurd rfl hc)
            refine cut _ h2 K2 A2 ?_ H2 V2 e2 a2 (fr1.trans fr2)
            have hch : sv_chg V (f, e.2.1, e.2.2.1, e.2.2.2.1, e.2.2.2.2 + 1) 2 = (false, (sv_open V f).2) := by
              unfold sv_chg
              exact if_neg ho
            unfold sv_do
            rw [hch]
            rfl
      · have hk : md_c (zb (¬ sv_on V = true)) 0 (zb (e.2.1 = 1)) 0 = 1 := by
          unfold md_c
          rw [if_neg (fun q => zb_z.mp q hon)]
        have hr : sv_chn V f = (1, 0, V) := by
          unfold sv_chn
          rw [if_neg hon]
        rw [hk] at H1 ⊢
        refine xw_if_eq 48 dd_M_change_43 (by decide) (fun hc => absurd hc (by decide)) (fun hc => ?_)
        refine xw_iconst 0 dd_M_change_46 (by decide) ?_
        exact xw_iret dd_M_change_47 rfl ⟨by rw [hr], rfl, ⟨_, A, H1, by rw [hr]; exact hV.thr, by rw [hr]; rfl, fun _ _ _ => rfl⟩, fr1⟩
    · refine xw_if_lt 38 dd_M_change_21 (by decide) (fun hc => absurd hc (nI_pos (by omega))) (fun hc => ?_)
      refine xw_aloadR_n dd_M_change_24 rfl ?_
      refine xw_get fl_M_13 dd_M_change_25 H.1 rfl ?_
      refine xw_iload_n dd_M_change_28 rfl ?_
      refine xw_iald dd_M_change_29 (H.2.1 2 (by decide) (by decide)) ix ?_
      rw [nI_clamp (by omega), (k3 i e he).2.1]
      refine xw_iconst 1 dd_M_change_30 (by decide) ?_
      refine xw_icmp_ne 38 dd_M_change_31 (by decide) (fun hc2 => ?_) (fun hc2 => ?_)
      · refine xw_iconst 0 dd_M_change_38 (by decide) ?_
        exact meet _ (congrArg Value.int (zb_0 (c := e.2.1 = 1) hc2))
      · refine xw_iconst 1 dd_M_change_34 (by decide) ?_
        refine xw_goto 39 dd_M_change_35 (by decide) ?_
        exact meet _ (congrArg Value.int (zb_1 (c := e.2.1 = 1) hc2))
end MK
