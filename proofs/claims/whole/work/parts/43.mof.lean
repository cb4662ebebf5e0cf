/-! NotedVolumeModel: of (by program: wip/whole/mk43.py) -/
theorem le3 {w : Int32} : ¬ w ≤ 3 ↔ 4 ≤ w := by
  rw [Int32.le_iff_toInt_le, Int32.le_iff_toInt_le]
  have h3 : (3 : Int32).toInt = 3 := rfl
  have h4 : (4 : Int32).toInt = 4 := rfl
  omega
section MI
variable {G : xa_G} {h : xa_H} {sz o : Nat} {K : Nat → Int32} {A : Nat → Nat → Int32} {V : sv_V}
theorem ct_M_of {f w : Int32} (H : mo_at G h o K A) (hV : rV V K A) : xa_T G mm_M_of 1 0 0 [.ref o, .int f, .int w] h sz (mqp G h sz o (sv_of V f w) A) := by
  have v1 := hV.1
  obtain ⟨k1, k2, k3⟩ := id v1
  refine xt_o ok_M_of rfl rfl ?_
  refine xw_aloadR_n dd_M_of_0 rfl ?_
  refine xw_iload_n dd_M_of_1 rfl ?_
  refine xw_cl0 (ct_M_placeOf H v1) (iv_M_of_2 H.1) ok_M_placeOf rfl rfl rfl ?_ (fun _ _ _ q => by cases q.1)
  rintro v h sz ⟨hv, rfl, rfl⟩
  cases hv
  refine xw_istore_n dd_M_of_5 (by decide) ?_
  refine xw_aloadR_n dd_M_of_6 rfl ?_
  refine xw_iload_n dd_M_of_7 rfl ?_
  refine xw_dia (pj := 16) (stj := [.ref o]) (Lj := [some (.ref o), some (.int f), some (.int w), some (.int (sv_ix (fun e : sv_E => decide (e.1 = f)) (sv_fs V)))]) (.int (zb (sv_find (sv_fs V) f = none))) ?_ (fun meet => ?_)
  · refine xw_iload_n dd_M_of_16 rfl ?_
    refine xw_dia (pj := 30) (stj := [.int (zb (sv_find (sv_fs V) f = none)), .ref o]) (Lj := [some (.ref o), some (.int f), some (.int w), some (.int (sv_ix (fun e : sv_E => decide (e.1 = f)) (sv_fs V)))]) (.int (zb (w < 0 ∨ 4 ≤ w))) ?_ (fun meet => ?_)
    · refine xw_iconst 0 dd_M_of_30 (by decide) ?_
      refine xw_iconst 0 dd_M_of_31 (by decide) ?_
      refine xw_cl0 (ct_M_refused H) (iv_M_of_32 H.1) ok_M_refused rfl rfl rfl ?_ (fun _ _ _ q => by cases q.1)
      rintro v h1 z1 ⟨hv, rfl, H1, fr1⟩
      cases hv
      have hmd : md_c (zb (sv_find (sv_fs V) f = none)) (zb (w < 0 ∨ 4 ≤ w)) 0 0 = if sv_find (sv_fs V) f = none then 1 else if w < 0 ∨ 4 ≤ w then 2 else 0 := by
        have := md_zb (a := sv_find (sv_fs V) f = none) (b := w < 0 ∨ 4 ≤ w) (c := False) (d := False)
        simpa [zb] using this
      have bad : ∀ k : Nat, k ≠ 0 → sv_of V f w = (k, 0, V) → mo_at G h1 o (upd K 0 (nI k)) A → xa_W G mm_M_of 1 0 0 38 [some (.ref o), some (.int f), some (.int w), some (.int (sv_ix (fun e : sv_E => decide (e.1 = f)) (sv_fs V)))] [] h1 z1 (mqp G h z1 o (sv_of V f w) A) := by
        intro k hk hr H1
        refine xw_iconst 0 dd_M_of_38 (by decide) ?_
        refine xw_iret dd_M_of_39 rfl ⟨by rw [hr], rfl, ⟨_, A, H1, ?_, ?_, fun _ _ _ => rfl⟩, fr1⟩
        · rw [hr]
          exact hV.thr
        · rw [hr]
          rfl
      rcases fx (fun e : sv_E => decide (e.1 = f)) (sv_fs V) with ⟨w1, w2⟩ | ⟨i, e, he, w1, w2, w3, -⟩
      · have w1' : sv_find (sv_fs V) f = none := w1
        have hk : md_c (zb (sv_find (sv_fs V) f = none)) (zb (w < 0 ∨ 4 ≤ w)) 0 0 = 1 := by rw [hmd, if_pos w1']
        rw [hk] at H1 ⊢
        exact xw_if_eq 40 dd_M_of_35 (by decide) (fun hc => absurd hc (by decide)) (fun hc => bad 1 (by decide) (by unfold sv_of; rw [w1']) H1)
      · have w1' : sv_find (sv_fs V) f = some e := w1
        have hnn : ¬ sv_find (sv_fs V) f = none := by rw [w1']; exact fun q => by cases q
        by_cases hw : w < 0 ∨ 4 ≤ w
        · have hk : md_c (zb (sv_find (sv_fs V) f = none)) (zb (w < 0 ∨ 4 ≤ w)) 0 0 = 2 := by rw [hmd, if_neg hnn, if_pos hw]
          rw [hk] at H1 ⊢
          exact xw_if_eq 40 dd_M_of_35 (by decide) (fun hc => absurd hc (by decide)) (fun hc => bad 2 (by decide) (by unfold sv_of; rw [w1']; exact if_pos hw) H1)
        · have hk : md_c (zb (sv_find (sv_fs V) f = none)) (zb (w < 0 ∨ 4 ≤ w)) 0 0 = 0 := by rw [hmd, if_neg hnn, if_neg hw]
          rw [hk] at H1 ⊢
          have hi := (List.getElem?_eq_some_iff.mp he).1
          have hix : (sv_ix (fun e : sv_E => decide (e.1 = f)) (sv_fs V)) = nI i := by
            unfold sv_ix
            rw [w2]
          have hr : sv_of V f w = (0, sv_it e w.toNatClampNeg, V) := by
            unfold sv_of
            rw [w1']
            exact if_neg hw
          obtain ⟨j, hj, rfl⟩ := nI_of (fun q => hw (Or.inl q))
          have hj4 : j < 4 := (nI_ltI (b := 4) hj (by decide)).mp (Int32.not_le.mp (fun q => hw (Or.inr q)))
          rw [nI_clamp hj] at hr
          rw [hix]
          have fin : ∀ (q : Int32), q = sv_it e j → xa_W G mm_M_of 1 0 0 87 [some (.ref o), some (.int f), some (.int (nI j)), some (.int (nI i))] [.int q] h1 z1 (mqp G h z1 o (sv_of V f (nI j)) A) := by
            intro q hq
            refine xw_iret dd_M_of_87 rfl ⟨by rw [hr, hq], rfl, ⟨_, A, H1, ?_, ?_, fun _ _ _ => rfl⟩, fr1⟩
            · rw [hr]
              exact hV.thr
            · rw [hr]
              rfl
          refine xw_if_eq 40 dd_M_of_35 (by decide) (fun hc => ?_) (fun hc => absurd rfl hc)
          refine xw_iload_n dd_M_of_40 rfl ?_
          have ix : vp_in (nI i) 20 := vp_in_nI (show i < 20 by omega) (by decide)
          rcases (show j = 0 ∨ j = 1 ∨ j = 2 ∨ j = 3 by omega) with rfl | rfl | rfl | rfl
          · refine xw_if_ne 53 dd_M_of_41 (by decide) (fun hc => absurd rfl hc) (fun hc => ?_)
            refine xw_aloadR_n dd_M_of_44 rfl ?_
            refine xw_get fl_M_13 dd_M_of_45 H1.1 rfl ?_
            refine xw_iload_n dd_M_of_48 rfl ?_
            refine xw_iald dd_M_of_49 (H1.2.1 2 (by decide) (by decide)) ix ?_
            refine xw_goto 87 dd_M_of_50 (by decide) ?_
            exact fin _ (by rw [nI_clamp (by omega), (k3 i e he).2.1]; rfl)
          · refine xw_if_ne 53 dd_M_of_41 (by decide) (fun hc => ?_) (fun hc => absurd hc (by decide))
            refine xw_iload_n dd_M_of_53 rfl ?_
            refine xw_iconst 1 dd_M_of_54 (by decide) ?_
            refine xw_icmp_ne 67 dd_M_of_55 (by decide) (fun hc => absurd rfl hc) (fun hc => ?_)
            refine xw_aloadR_n dd_M_of_58 rfl ?_
            refine xw_get fl_M_16 dd_M_of_59 H1.1 rfl ?_
            refine xw_iload_n dd_M_of_62 rfl ?_
            refine xw_iald dd_M_of_63 (H1.2.1 3 (by decide) (by decide)) ix ?_
            refine xw_goto 87 dd_M_of_64 (by decide) ?_
            exact fin _ (by rw [nI_clamp (by omega), (k3 i e he).2.2.1]; rfl)
          · refine xw_if_ne 53 dd_M_of_41 (by decide) (fun hc => ?_) (fun hc => absurd hc (by decide))
            refine xw_iload_n dd_M_of_53 rfl ?_
            refine xw_iconst 1 dd_M_of_54 (by decide) ?_
            refine xw_icmp_ne 67 dd_M_of_55 (by decide) (fun hc => ?_) (fun hc => absurd hc (by decide))
            refine xw_iload_n dd_M_of_67 rfl ?_
            refine xw_iconst 2 dd_M_of_68 (by decide) ?_
            refine xw_icmp_ne 81 dd_M_of_69 (by decide) (fun hc => absurd rfl hc) (fun hc => ?_)
            refine xw_aloadR_n dd_M_of_72 rfl ?_
            refine xw_get fl_M_19 dd_M_of_73 H1.1 rfl ?_
            refine xw_iload_n dd_M_of_76 rfl ?_
            refine xw_iald dd_M_of_77 (H1.2.1 4 (by decide) (by decide)) ix ?_
            refine xw_goto 87 dd_M_of_78 (by decide) ?_
            exact fin _ (by rw [nI_clamp (by omega), (k3 i e he).2.2.2.1]; rfl)
          · refine xw_if_ne 53 dd_M_of_41 (by decide) (fun hc => ?_) (fun hc => absurd hc (by decide))
            refine xw_iload_n dd_M_of_53 rfl ?_
            refine xw_iconst 1 dd_M_of_54 (by decide) ?_
            refine xw_icmp_ne 67 dd_M_of_55 (by decide) (fun hc => ?_) (fun hc => absurd hc (by decide))
            refine xw_iload_n dd_M_of_67 rfl ?_
            refine xw_iconst 2 dd_M_of_68 (by decide) ?_
            refine xw_icmp_ne 81 dd_M_of_69 (by decide) (fun hc => ?_) (fun hc => absurd hc (by decide))
            refine xw_aloadR_n dd_M_of_81 rfl ?_
            refine xw_get fl_M_22 dd_M_of_82 H1.1 rfl ?_
            refine xw_iload_n dd_M_of_85 rfl ?_
            refine xw_iald dd_M_of_86 (H1.2.1 5 (by decide) (by decide)) ix ?_
            exact fin _ (by rw [nI_clamp (by omega), (k3 i e he).2.2.2.2]; rfl)
    · refine xw_if_lt 25 dd_M_of_17 (by decide) (fun hc => ?_) (fun hc => ?_)
      · refine xw_iconst 1 dd_M_of_25 (by decide) ?_
        refine xw_goto 30 dd_M_of_26 (by decide) ?_
        exact meet _ (congrArg Value.int (zb_1 (c := w < 0 ∨ 4 ≤ w) (Or.inl hc)))
      · refine xw_iload_n dd_M_of_20 rfl ?_
        refine xw_iconst 3 dd_M_of_21 (by decide) ?_
        refine xw_icmp_le 29 dd_M_of_22 (by decide) (fun hc2 => ?_) (fun hc2 => ?_)
        · refine xw_iconst 0 dd_M_of_29 (by decide) ?_
          exact meet _ (congrArg Value.int (zb_0 (c := w < 0 ∨ 4 ≤ w) (fun q => q.elim hc (fun q => le3.mpr q hc2))))
        · refine xw_iconst 1 dd_M_of_25 (by decide) ?_
          refine xw_goto 30 dd_M_of_26 (by decide) ?_
          exact meet _ (congrArg Value.int (zb_1 (c := w < 0 ∨ 4 ≤ w) (Or.inr (le3.mp hc2))))
  · rcases fx (fun e : sv_E => decide (e.1 = f)) (sv_fs V) with ⟨w1, w2⟩ | ⟨i, e, he, w1, w2, w3, -⟩
    · have hix : (sv_ix (fun e : sv_E => decide (e.1 = f)) (sv_fs V)) = -1 := by
        unfold sv_ix
        rw [w2]
      have w1' : sv_find (sv_fs V) f = none := w1
      rw [hix] at meet ⊢
      refine xw_if_ge 15 dd_M_of_8 (by decide) (fun hc => absurd hc (by decide)) (fun hc => ?_)
      refine xw_iconst 1 dd_M_of_11 (by decide) ?_
      refine xw_goto 16 dd_M_of_12 (by decide) ?_
      exact meet _ (congrArg Value.int (zb_1 (c := sv_find (sv_fs V) f = none) w1'))
    · have hi := (List.getElem?_eq_some_iff.mp he).1
      have hix : (sv_ix (fun e : sv_E => decide (e.1 = f)) (sv_fs V)) = nI i := by
        unfold sv_ix
        rw [w2]
      have w1' : sv_find (sv_fs V) f = some e := w1
      rw [hix] at meet ⊢
      refine xw_if_ge 15 dd_M_of_8 (by decide) (fun hc => ?_) (fun hc => absurd (nI_pos' (by omega)) hc)
      refine xw_iconst 0 dd_M_of_15 (by decide) ?_
      exact meet _ (congrArg Value.int (zb_0 (c := sv_find (sv_fs V) f = none) (by rw [w1']; exact fun q => by cases q)))
end MI
