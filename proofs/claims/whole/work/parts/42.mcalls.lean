/-! NotedVolumeModel: of, note, cutAfter, close, change (by program: wip/whole/mk42.py) -/
/-- a bit -/
def zb (c : Prop) [Decidable c] : Int32 := if c then 1 else 0
theorem zb_1 {c : Prop} [Decidable c] (h : c) : (1 : Int32) = zb c := (if_pos h).symm
theorem zb_0 {c : Prop} [Decidable c] (h : ¬ c) : (0 : Int32) = zb c := (if_neg h).symm
theorem zb_z {c : Prop} [Decidable c] : zb c = 0 ↔ ¬ c := by
  unfold zb
  by_cases h : c
  · rw [if_pos h]
    exact ⟨fun q => absurd q (by decide), fun q => absurd h q⟩
  · rw [if_neg h]
    exact ⟨fun _ => h, fun _ => rfl⟩
theorem md_zb {a b c d : Prop} [Decidable a] [Decidable b] [Decidable c] [Decidable d] : md_c (zb a) (zb b) (zb c) (zb d) = if a then 1 else if b then 2 else if c then 3 else if d then 4 else 0 := by
  unfold md_c
  by_cases ha : a
  · rw [if_neg (fun q => zb_z.mp q ha), if_pos ha]
  · rw [if_pos (zb_z.mpr ha), if_neg ha]
    by_cases hb : b
    · rw [if_neg (fun q => zb_z.mp q hb), if_pos hb]
    · rw [if_pos (zb_z.mpr hb), if_neg hb]
      by_cases hc : c
      · rw [if_neg (fun q => zb_z.mp q hc), if_pos hc]
      · rw [if_pos (zb_z.mpr hc), if_neg hc]
        by_cases hd : d
        · rw [if_neg (fun q => zb_z.mp q hd), if_pos hd]
        · rw [if_pos (zb_z.mpr hd), if_neg hd]
section MG
variable {G : xa_G} {h : xa_H} {sz o : Nat} {K : Nat → Int32} {A : Nat → Nat → Int32} {V : sv_V}
theorem off_zb (hV : rV V K A) : K 13 = zb (¬ sv_on V = true) := by
  rw [hV.2.2.2.2.1]
  unfold zb
  by_cases q : sv_on V = true
  · rw [if_pos q, if_neg (fun w => w q)]
  · rw [if_neg q, if_pos q]
theorem ct_M_cutAfter {n : Int32} (H : mo_at G h o K A) (hV : rV V K A) : xa_T G mm_M_cutAfter 1 0 0 [.ref o, .int n] h sz (fun o' h' z => o' = .returned none ∧ z = sz ∧ (∃ K' A', mo_at G h' o K' A' ∧ rV (sv_cut V n).2.2 K' A' ∧ K' 0 = nI (sv_cut V n).1 ∧ ∀ i, 9 ≤ i → i ≤ 21 → A' i = A i) ∧ frM o h h') := by
  obtain ⟨fs, lt, hd, rg, gs, on, lf⟩ := V
  refine xt_o ok_M_cutAfter rfl rfl ?_
  refine xw_aloadR_n dd_M_cutAfter_0 rfl ?_
  refine xw_iload_n dd_M_cutAfter_1 rfl ?_
  refine xw_iconst (-1) dd_M_cutAfter_2 (by decide) ?_
  refine xw_dia (pj := 11) (stj := [.ref o]) (Lj := [some (.ref o), some (.int n)]) (.int (zb (n < -1))) ?_ (fun meet => ?_)
  · refine xw_iconst 0 dd_M_cutAfter_11 (by decide) ?_
    refine xw_iconst 0 dd_M_cutAfter_12 (by decide) ?_
    refine xw_iconst 0 dd_M_cutAfter_13 (by decide) ?_
    refine xw_cl0 (ct_M_refused H) (iv_M_cutAfter_14 H.1) ok_M_refused rfl rfl rfl ?_ (fun _ _ _ q => by cases q.1)
    rintro v h1 z1 ⟨hv, rfl, H1, fr1⟩
    cases hv
    have hmd : md_c (zb (n < -1)) 0 0 0 = if n < -1 then 1 else 0 := by
      unfold md_c
      by_cases q : n < -1
      · rw [if_neg (fun w => zb_z.mp w q), if_pos q]
      · rw [if_pos (zb_z.mpr q), if_neg q]
        rfl
    rw [hmd] at H1 ⊢
    by_cases q : n < -1
    · have hr : sv_cut (fs, lt, hd, rg, gs, on, lf) n = (1, 0, (fs, lt, hd, rg, gs, on, lf)) := by
        unfold sv_cut
        rw [if_pos q]
      rw [if_pos q] at H1 ⊢
      refine xw_if_ne 25 dd_M_cutAfter_17 (by decide) (fun hc => ?_) (fun hc => absurd hc (by decide))
      refine xw_vret dd_M_cutAfter_25 rfl ⟨rfl, rfl, ⟨_, A, H1, ?_, ?_, fun _ _ _ => rfl⟩, fr1⟩
      · rw [hr]
        exact hV.thr
      · rw [hr]
        rfl
    · have hr : sv_cut (fs, lt, hd, rg, gs, on, lf) n = (0, 0, (fs, lt, hd, rg, gs, on, n)) := by
        unfold sv_cut
        rw [if_neg q]
      rw [if_neg q] at H1 ⊢
      refine xw_if_ne 25 dd_M_cutAfter_17 (by decide) (fun hc => absurd rfl hc) (fun hc => ?_)
      refine xw_aloadR_n dd_M_cutAfter_20 rfl ?_
      refine xw_iload_n dd_M_cutAfter_21 rfl ?_
      refine xw_putA fl_M_38 fz_M_38 (by decide) dd_M_cutAfter_22 H1.1 rfl H.2.2 rfl rfl (fun h2 n2 f2 => ?_)
      obtain ⟨H2, fr2⟩ := H1.setK (K' := upd (upd K 0 (nI 0)) 14 n) n2 f2
      obtain ⟨v1, v2, v3, v4, v5, v6⟩ := hV
      refine xw_vret dd_M_cutAfter_25 rfl ⟨rfl, rfl, ⟨_, A, H2, ?_, ?_, fun _ _ _ => rfl⟩, fr1.trans fr2⟩
      · rw [hr]
        exact ⟨v1.cg rfl (fun _ _ _ => rfl), v2.cg rfl rfl, v3.cg rfl rfl rfl, v4, v5, rfl⟩
      · rw [hr]
        rfl
  · refine xw_icmp_ge 10 dd_M_cutAfter_3 (by decide) (fun hc => ?_) (fun hc => ?_)
    · refine xw_iconst 0 dd_M_cutAfter_10 (by decide) ?_
      exact meet _ (congrArg Value.int (zb_0 (Int32.not_lt.mpr hc)))
    · refine xw_iconst 1 dd_M_cutAfter_6 (by decide) ?_
      refine xw_goto 11 dd_M_cutAfter_7 (by decide) ?_
      exact meet _ (congrArg Value.int (zb_1 (Int32.not_le.mp hc)))
theorem ct_M_close {f : Int32} (H : mo_at G h o K A) (hV : rV V K A) (hh : sv_hd V < 900000) : xa_T G mm_M_close 3 0 0 [.ref o, .int f] h sz (mqp G h sz o (sv_cls V f) A) := by
  have v3 := hV.2.2.1
  have hj3 : (sv_gs V).length ≤ 3 := v3.2.1
  refine xt_o ok_M_close rfl rfl ?_
  refine xw_aloadR_n dd_M_close_0 rfl ?_
  refine xw_iload_n dd_M_close_1 rfl ?_
  refine xw_cl0 (ct_M_gatheringOf H v3) (iv_M_close_2 H.1) ok_M_gatheringOf rfl rfl rfl ?_ (fun _ _ _ q => by cases q.1)
  rintro v h sz ⟨hv, rfl, rfl⟩
  cases hv
  refine xw_istore_n dd_M_close_5 (by decide) ?_
  refine xw_aloadR_n dd_M_close_6 rfl ?_
  refine xw_aloadR_n dd_M_close_7 rfl ?_
  refine xw_get fl_M_91 dd_M_close_8 H.1 rfl ?_
  rw [off_zb hV]
  refine xw_iload_n dd_M_close_11 rfl ?_
  refine xw_dia (pj := 20) (stj := [.int (zb (¬ sv_on V = true)), .ref o]) (Lj := [some (.ref o), some (.int f), some (.int (sv_ix (fun e : Int32 × Int32 => decide (e.1 = f)) (sv_gs V)))]) (.int (zb (sv_gOf (sv_gs V) f = none))) ?_ (fun meet => ?_)
  · refine xw_iconst 0 dd_M_close_20 (by decide) ?_
    refine xw_iconst 0 dd_M_close_21 (by decide) ?_
    refine xw_cl0 (ct_M_refused H) (iv_M_close_22 H.1) ok_M_refused rfl rfl rfl ?_ (fun _ _ _ q => by cases q.1)
    rintro v h1 z1 ⟨hv, rfl, H1, fr1⟩
    cases hv
    have hmd : md_c (zb (¬ sv_on V = true)) (zb (sv_gOf (sv_gs V) f = none)) 0 0 = if ¬ sv_on V = true then 1 else if sv_gOf (sv_gs V) f = none then 2 else 0 := by
      have := md_zb (a := ¬ sv_on V = true) (b := sv_gOf (sv_gs V) f = none) (c := False) (d := False)
      simpa [zb] using this
    have bad : ∀ k : Nat, k ≠ 0 → sv_cls V f = (k, 0, V) → mo_at G h1 o (upd K 0 (nI k)) A → xa_W G mm_M_close 3 0 0 40 [some (.ref o), some (.int f), some (.int (sv_ix (fun e : Int32 × Int32 => decide (e.1 = f)) (sv_gs V)))] [] h1 z1 (mqp G h z1 o (sv_cls V f) A) := by
      intro k hk hr H1
      refine xw_iconst 0 dd_M_close_40 (by decide) ?_
      refine xw_zret dd_M_close_41 rfl rfl ⟨by rw [hr], rfl, ⟨_, A, H1, ?_, ?_, fun _ _ _ => rfl⟩, fr1⟩
      · rw [hr]
        exact hV.thr
      · rw [hr]
        rfl
    by_cases hon : sv_on V = true
    · rcases fx (fun e : Int32 × Int32 => decide (e.1 = f)) (sv_gs V) with ⟨w1, w2⟩ | ⟨i, e, he, w1, w2, w3, w4⟩
      · have w1' : sv_gOf (sv_gs V) f = none := w1
        have hk : md_c (zb (¬ sv_on V = true)) (zb (sv_gOf (sv_gs V) f = none)) 0 0 = 2 := by rw [hmd, if_neg (show ¬ ¬ sv_on V = true from fun q => q hon), if_pos w1']
        rw [hk] at H1 ⊢
        refine xw_if_ne 40 dd_M_close_25 (by decide) (fun hc => bad 2 (by decide) (by unfold sv_cls; rw [if_pos hon, w1']) H1) (fun hc => absurd hc (by decide))
      · have w1' : sv_gOf (sv_gs V) f = some e := w1
        have hi := (List.getElem?_eq_some_iff.mp he).1
        have hef : e.1 = f := by simpa using w3
        have hix : sv_ix (fun e : Int32 × Int32 => decide (e.1 = f)) (sv_gs V) = nI i := by
          unfold sv_ix
          rw [w2]
        have hnn : ¬ sv_gOf (sv_gs V) f = none := by rw [w1']; exact fun q => by cases q
        have hk : md_c (zb (¬ sv_on V = true)) (zb (sv_gOf (sv_gs V) f = none)) 0 0 = 0 := by rw [hmd, if_neg (show ¬ ¬ sv_on V = true from fun q => q hon), if_neg hnn]
        rw [hk] at H1 ⊢
        rw [hix]
        refine xw_if_ne 40 dd_M_close_25 (by decide) (fun hc => absurd rfl hc) (fun hc => ?_)
        refine xw_aloadR_n dd_M_close_28 rfl ?_
        refine xw_iload_n dd_M_close_29 rfl ?_
        refine xw_cl0 (ct_M_closeGathering (j := i) H1 hV.thr hh he (by rw [hef]; exact w4)) (iv_M_close_30 H1.1) ok_M_closeGathering rfl rfl rfl ?_ (fun _ _ _ q => by cases q.1)
        rintro v h2 z2 ⟨hv, rfl, ⟨K2, A2, q1, q2, q3, q4⟩, fr2⟩
        cases hv
        have hr : sv_cls V f = (0, if (sv_closeG V e).1 = true then 1 else 0, (sv_closeG V e).2) := by
          unfold sv_cls
          rw [if_pos hon, w1']
        by_cases hs : (sv_closeG V e).1 = true
        · rw [if_pos hs] at hr ⊢
          refine xw_if_eq 40 dd_M_close_33 (by decide) (fun hc => absurd hc (by decide)) (fun hc => ?_)
          refine xw_iconst 1 dd_M_close_36 (by decide) ?_
          refine xw_goto 41 dd_M_close_37 (by decide) ?_
          exact xw_zret dd_M_close_41 rfl rfl ⟨by rw [hr], rfl, ⟨K2, A2, q1, by rw [hr]; exact q2, by rw [hr]; exact q3, q4⟩, fr1.trans fr2⟩
        · rw [if_neg hs] at hr ⊢
          refine xw_if_eq 40 dd_M_close_33 (by decide) (fun hc => ?_) (fun hc => absurd rfl hc)
          refine xw_iconst 0 dd_M_close_40 (by decide) ?_
          exact xw_zret dd_M_close_41 rfl rfl ⟨by rw [hr], rfl, ⟨K2, A2, q1, by rw [hr]; exact q2, by rw [hr]; exact q3, q4⟩, fr1.trans fr2⟩
    · have hk : md_c (zb (¬ sv_on V = true)) (zb (sv_gOf (sv_gs V) f = none)) 0 0 = 1 := by rw [hmd, if_pos hon]
      rw [hk] at H1 ⊢
      refine xw_if_ne 40 dd_M_close_25 (by decide) (fun hc => bad 1 (by decide) (by unfold sv_cls; rw [if_neg hon]) H1) (fun hc => absurd hc (by decide))
  · rcases fx (fun e : Int32 × Int32 => decide (e.1 = f)) (sv_gs V) with ⟨w1, w2⟩ | ⟨i, e, he, w1, w2, w3, w4⟩
    · have hix : sv_ix (fun e : Int32 × Int32 => decide (e.1 = f)) (sv_gs V) = -1 := by
        unfold sv_ix
        rw [w2]
      have w1' : sv_gOf (sv_gs V) f = none := w1
      rw [hix] at meet ⊢
      refine xw_if_ge 19 dd_M_close_12 (by decide) (fun hc => absurd hc (by decide)) (fun hc => ?_)
      refine xw_iconst 1 dd_M_close_15 (by decide) ?_
      refine xw_goto 20 dd_M_close_16 (by decide) ?_
      exact meet _ (by rw [zb_1 w1'])
    · have hi := (List.getElem?_eq_some_iff.mp he).1
      have hix : sv_ix (fun e : Int32 × Int32 => decide (e.1 = f)) (sv_gs V) = nI i := by
        unfold sv_ix
        rw [w2]
      have w1' : sv_gOf (sv_gs V) f = some e := w1
      rw [hix] at meet ⊢
      refine xw_if_ge 19 dd_M_close_12 (by decide) (fun hc => ?_) (fun hc => absurd (nI_pos' (by omega)) hc)
      refine xw_iconst 0 dd_M_close_19 (by decide) ?_
      exact meet _ (by rw [zb_0 (c := sv_gOf (sv_gs V) f = none) (by rw [w1']; exact fun q => by cases q)])
end MG
