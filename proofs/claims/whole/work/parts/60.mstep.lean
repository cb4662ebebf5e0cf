/-! NotedVolumeModel: copied, inStep (by program: wip/whole/mk60.py) -/
theorem rP.find {ms cs : List sv_E} (H : rP ms cs) {f : Int32} : (ms.find? (fun a : sv_E => decide (a.1 = f)) = none → sv_find cs f = none) ∧ ∀ a, ms.find? (fun a : sv_E => decide (a.1 = f)) = some a → sv_find cs f = some a := by
  constructor
  · intro h
    refine List.find?_eq_none.mpr (fun e he q => ?_)
    exact fx_none h e ((H.2 e).mpr he) (by simpa using q)
  · intro a h
    have ha : a.1 = f := by simpa using List.find?_some h
    have hm := List.mem_of_find?_eq_some h
    cases hc : sv_find cs f with
    | none => exact absurd ha (fx_none hc a ((H.2 a).mp hm))
    | some e =>
      obtain ⟨q1, q2⟩ := find_1 hc
      rw [dn_eq H.1 ((H.2 e).mpr q2) hm (q1.trans ha.symm)]
theorem all_in {l ms : List sv_E} : l.all (fun e => decide (e ∈ ms)) = true ↔ ∀ e ∈ l, e ∈ ms := by
  rw [List.all_eq_true]
  exact ⟨fun q e he => by simpa using q e he, fun q e he => by simpa using q e he⟩
section SF
variable {G : xa_G} {h : xa_H} {sz o : Nat} {K : Nat → Int32} {A : Nat → Nat → Int32} {V : sv_V} {S : Nat → sv_S}
theorem ct_M_copied {s f w : Int32} (H : mo_at G h o K A) (hV : rV V K A) (hS : rS S A) : xa_T G mm_M_copied 1 0 0 [.ref o, .int s, .int f, .int w] h sz (mqs G h sz o V (sw_copied S s f w) (some (.int (sw_copied S s f w).2.1))) := by
  have bad : ((s < 0 ∨ 3 ≤ s) ∨ (w < 0 ∨ 4 ≤ w)) → xa_W G mm_M_copied 1 0 0 16 [some (.ref o), some (.int s), some (.int f), some (.int w), none, none] [] h sz (mqs G h sz o V (sw_copied S s f w) (some (.int (sw_copied S s f w).2.1))) := by
    intro hb
    have hr : sw_copied S s f w = (1, 0, S) := by
      unfold sw_copied
      rw [if_pos hb]
    rw [hr]
    refine xw_iconst 1 dd_M_copied_16 (by decide) ?_
    refine xw_goto 21 dd_M_copied_17 (by decide) ?_
    refine xw_istore dd_M_copied_21 (by decide) ?_
    refine xw_iload dd_M_copied_23 rfl ?_
    refine xw_if_eq 32 dd_M_copied_25 (by decide) (fun hc => absurd hc (by decide)) (fun hc => ?_)
    refine xw_iconst (-1) dd_M_copied_28 (by decide) ?_
    refine xw_goto 38 dd_M_copied_29 (by decide) ?_
    refine xw_istore dd_M_copied_38 (by decide) ?_
    refine xw_aloadR_n dd_M_copied_40 rfl ?_
    refine xw_iload dd_M_copied_41 rfl ?_
    refine xw_iload dd_M_copied_43 rfl ?_
    refine xw_if_ge 52 dd_M_copied_45 (by decide) (fun hc => absurd hc (by decide)) (fun hc => ?_)
    refine xw_iconst 1 dd_M_copied_48 (by decide) ?_
    refine xw_goto 53 dd_M_copied_49 (by decide) ?_
    refine xw_iconst 0 dd_M_copied_53 (by decide) ?_
    refine xw_iconst 0 dd_M_copied_54 (by decide) ?_
    refine xw_cl0 (ct_M_refused H) (iv_M_copied_55 H.1) ok_M_refused rfl rfl rfl ?_ (fun _ _ _ q => by cases q.1)
    rintro v h1 z1 ⟨hv, rfl, H1, fr1⟩
    cases hv
    refine xw_if_eq 63 dd_M_copied_58 (by decide) (fun hc => absurd hc (by decide)) (fun hc => ?_)
    refine xw_iconst 0 dd_M_copied_61 (by decide) ?_
    exact xw_iret dd_M_copied_62 rfl ⟨rfl, rfl, ⟨_, A, H1, hV.thr, hS, rfl⟩, fr1⟩
  refine xt_o ok_M_copied rfl rfl ?_
  refine xw_iload_n dd_M_copied_0 rfl ?_
  refine xw_cl0 (ct_M_is) iv_M_copied_1 ok_M_is rfl rfl rfl ?_ (fun _ _ _ q => by cases q.1)
  rintro v h sz ⟨hv, rfl, rfl⟩
  cases hv
  by_cases hs : s < 0 ∨ 3 ≤ s
  · rw [show zb (¬ (s < 0 ∨ 3 ≤ s)) = 0 from (zb_0 (fun q => q hs)).symm]
    refine xw_if_eq 16 dd_M_copied_4 (by decide) (fun hc => bad (Or.inl hs)) (fun hc => absurd rfl hc)
  · rw [show zb (¬ (s < 0 ∨ 3 ≤ s)) = 1 from (zb_1 hs).symm]
    refine xw_if_eq 16 dd_M_copied_4 (by decide) (fun hc => absurd hc (by decide)) (fun hc => ?_)
    refine xw_iload_n dd_M_copied_7 rfl ?_
    refine xw_if_lt 16 dd_M_copied_8 (by decide) (fun hc => bad (Or.inr (Or.inl hc))) (fun hw0 => ?_)
    obtain ⟨j, hj, rfl⟩ := nI_of hw0
    refine xw_iload_n dd_M_copied_11 rfl ?_
    refine xw_iconst 3 dd_M_copied_12 (by decide) ?_
    refine xw_icmp_le 20 dd_M_copied_13 (by decide) (fun hw3 => ?_) (fun hw3 => bad (Or.inr (Or.inr (nI_le (a := 4) (b := j) (Nat.not_le.mp (fun q => hw3 (nI_le (b := 3) q (by decide)))) hj))))
    have hj3 : j ≤ 3 := (nI_leI (b := 3) hj (by decide)).mp hw3
    clear bad
    obtain ⟨k, hk, rfl⟩ := nI_of (fun q => hs (Or.inl q))
    have hk3 : k < 3 := (nI_ltI (b := 3) hk (by decide)).mp (Int32.not_le.mp (fun q => hs (Or.inr q)))
    have hsk : sk (nI k) = k := nI_clamp (by omega)
    have ix : vp_in (nI k) 3 := vp_in_nI hk3 (by decide)
    have hS1 := hS k hk3
    have hnb : ¬ ((nI k < 0 ∨ 3 ≤ nI k) ∨ (nI j < 0 ∨ 4 ≤ nI j)) := fun q => q.elim hs (fun q => q.elim hw0 (fun q => by
      have := (nI_leI (a := 4) (b := j) (by decide) hj).mp q
      omega))
    have hr : sw_copied S (nI k) f (nI j) = match sv_find (su_cp (S k)) f with
        | none => (2, 0, S)
        | some e => (0, sv_it e j, S) := by
      unfold sw_copied
      rw [if_neg hnb, hsk, nI_clamp (by omega)]
      cases sv_find (su_cp (S k)) f <;> rfl
    rw [hr]
    obtain ⟨o1, ms, c1, p1⟩ := hS1
    have hml := c1.2.1
    refine xw_iconst 0 dd_M_copied_20 (by decide) ?_
    refine xw_istore dd_M_copied_21 (by decide) ?_
    refine xw_iload dd_M_copied_23 rfl ?_
    refine xw_if_eq 32 dd_M_copied_25 (by decide) (fun hc => ?_) (fun hc => absurd rfl hc)
    refine xw_aloadR_n dd_M_copied_32 rfl ?_
    refine xw_iload_n dd_M_copied_33 rfl ?_
    refine xw_iload_n dd_M_copied_34 rfl ?_
    refine xw_cl0 (ct_M_copyPlace H hk3 c1) (iv_M_copied_35 H.1) ok_M_copyPlace rfl rfl rfl ?_ (fun _ _ _ q => by cases q.1)
    rintro v h sz ⟨hv, rfl, rfl⟩
    cases hv
    refine xw_istore dd_M_copied_38 (by decide) ?_
    refine xw_aloadR_n dd_M_copied_40 rfl ?_
    refine xw_iload dd_M_copied_41 rfl ?_
    refine xw_iload dd_M_copied_43 rfl ?_
    rcases fx (fun a : sv_E => decide (a.1 = f)) ms with ⟨u1, u2⟩ | ⟨i, a, hia, u1, u2, u3, -⟩
    · have hcx : cx k f ms = -1 := by
        unfold cx
        rw [u2]
      rw [hcx, p1.find.1 u1]
      refine xw_if_ge 52 dd_M_copied_45 (by decide) (fun hc => absurd hc (by decide)) (fun hc => ?_)
      refine xw_iconst 1 dd_M_copied_48 (by decide) ?_
      refine xw_goto 53 dd_M_copied_49 (by decide) ?_
      refine xw_iconst 0 dd_M_copied_53 (by decide) ?_
      refine xw_iconst 0 dd_M_copied_54 (by decide) ?_
      refine xw_cl0 (ct_M_refused H) (iv_M_copied_55 H.1) ok_M_refused rfl rfl rfl ?_ (fun _ _ _ q => by cases q.1)
      rintro v h1 z1 ⟨hv, rfl, H1, fr1⟩
      cases hv
      refine xw_if_eq 63 dd_M_copied_58 (by decide) (fun hc => absurd hc (by decide)) (fun hc => ?_)
      refine xw_iconst 0 dd_M_copied_61 (by decide) ?_
      exact xw_iret dd_M_copied_62 rfl ⟨rfl, rfl, ⟨_, A, H1, hV.thr, hS, rfl⟩, fr1⟩
    · have hi := (List.getElem?_eq_some_iff.mp hia).1
      have hcx : cx k f ms = nI (280 * k + i) := by
        unfold cx
        rw [u2]
      have ixi : vp_in (nI (280 * k + i)) 840 := vp_in_nI (show 280 * k + i < 840 by omega) (by decide)
      have k3 := c1.2.2 i a hia
      rw [hcx, p1.find.2 a u1]
      refine xw_if_ge 52 dd_M_copied_45 (by decide) (fun hc => ?_) (fun hc => absurd (nI_pos' (by omega)) hc)
      refine xw_iconst 0 dd_M_copied_52 (by decide) ?_
      refine xw_iconst 0 dd_M_copied_53 (by decide) ?_
      refine xw_iconst 0 dd_M_copied_54 (by decide) ?_
      refine xw_cl0 (ct_M_refused H) (iv_M_copied_55 H.1) ok_M_refused rfl rfl rfl ?_ (fun _ _ _ q => by cases q.1)
      rintro v h1 z1 ⟨hv, rfl, H1, fr1⟩
      cases hv
      refine xw_if_eq 63 dd_M_copied_58 (by decide) (fun hc => ?_) (fun hc => absurd rfl hc)
      refine xw_iload_n dd_M_copied_63 rfl ?_
      rcases (show j = 0 ∨ j = 1 ∨ j = 2 ∨ j = 3 by omega) with rfl | rfl | rfl | rfl
      · refine xw_if_ne 77 dd_M_copied_64 (by decide) (fun hc => absurd rfl hc) (fun hc => ?_)
        refine xw_aloadR_n dd_M_copied_67 rfl ?_
        refine xw_get fl_M_63 dd_M_copied_68 H1.1 rfl ?_
        refine xw_iload dd_M_copied_71 rfl ?_
        refine xw_iald dd_M_copied_73 (H1.2.1 16 (by decide) (by decide)) ixi ?_
        rw [nI_clamp (by omega), k3.2.1]
        refine xw_goto 114 dd_M_copied_74 (by decide) ?_
        exact xw_iret dd_M_copied_114 rfl ⟨rfl, rfl, ⟨_, A, H1, hV.thr, hS, rfl⟩, fr1⟩
      · refine xw_if_ne 77 dd_M_copied_64 (by decide) (fun hc => ?_) (fun hc => absurd hc (by decide))
        refine xw_iload_n dd_M_copied_77 rfl ?_
        refine xw_iconst 1 dd_M_copied_78 (by decide) ?_
        refine xw_icmp_ne 92 dd_M_copied_79 (by decide) (fun hc => absurd rfl hc) (fun hc => ?_)
        refine xw_aloadR_n dd_M_copied_82 rfl ?_
        refine xw_get fl_M_66 dd_M_copied_83 H1.1 rfl ?_
        refine xw_iload dd_M_copied_86 rfl ?_
        refine xw_iald dd_M_copied_88 (H1.2.1 17 (by decide) (by decide)) ixi ?_
        rw [nI_clamp (by omega), k3.2.2.1]
        refine xw_goto 114 dd_M_copied_89 (by decide) ?_
        exact xw_iret dd_M_copied_114 rfl ⟨rfl, rfl, ⟨_, A, H1, hV.thr, hS, rfl⟩, fr1⟩
      · refine xw_if_ne 77 dd_M_copied_64 (by decide) (fun hc => ?_) (fun hc => absurd hc (by decide))
        refine xw_iload_n dd_M_copied_77 rfl ?_
        refine xw_iconst 1 dd_M_copied_78 (by decide) ?_
        refine xw_icmp_ne 92 dd_M_copied_79 (by decide) (fun hc => ?_) (fun hc => absurd hc (by decide))
        refine xw_iload_n dd_M_copied_92 rfl ?_
        refine xw_iconst 2 dd_M_copied_93 (by decide) ?_
        refine xw_icmp_ne 107 dd_M_copied_94 (by decide) (fun hc => absurd rfl hc) (fun hc => ?_)
        refine xw_aloadR_n dd_M_copied_97 rfl ?_
        refine xw_get fl_M_69 dd_M_copied_98 H1.1 rfl ?_
        refine xw_iload dd_M_copied_101 rfl ?_
        refine xw_iald dd_M_copied_103 (H1.2.1 18 (by decide) (by decide)) ixi ?_
        rw [nI_clamp (by omega), k3.2.2.2.1]
        refine xw_goto 114 dd_M_copied_104 (by decide) ?_
        exact xw_iret dd_M_copied_114 rfl ⟨rfl, rfl, ⟨_, A, H1, hV.thr, hS, rfl⟩, fr1⟩
      · refine xw_if_ne 77 dd_M_copied_64 (by decide) (fun hc => ?_) (fun hc => absurd hc (by decide))
        refine xw_iload_n dd_M_copied_77 rfl ?_
        refine xw_iconst 1 dd_M_copied_78 (by decide) ?_
        refine xw_icmp_ne 92 dd_M_copied_79 (by decide) (fun hc => ?_) (fun hc => absurd hc (by decide))
        refine xw_iload_n dd_M_copied_92 rfl ?_
        refine xw_iconst 2 dd_M_copied_93 (by decide) ?_
        refine xw_icmp_ne 107 dd_M_copied_94 (by decide) (fun hc => ?_) (fun hc => absurd hc (by decide))
        refine xw_aloadR_n dd_M_copied_107 rfl ?_
        refine xw_get fl_M_72 dd_M_copied_108 H1.1 rfl ?_
        refine xw_iload dd_M_copied_111 rfl ?_
        refine xw_iald dd_M_copied_113 (H1.2.1 19 (by decide) (by decide)) ixi ?_
        rw [nI_clamp (by omega), k3.2.2.2.2]
        exact xw_iret dd_M_copied_114 rfl ⟨rfl, rfl, ⟨_, A, H1, hV.thr, hS, rfl⟩, fr1⟩
theorem ct_M_inStep {s : Int32} (H : mo_at G h o K A) (hV : rV V K A) (hS : rS S A) (hsr : sv_srt (sv_fs V)) (hi : ∀ s, s < 3 → iC (su_cp (S s))) : xa_T G mm_M_inStep 1 0 0 [.ref o, .int s] h sz (mqs G h sz o V (sw_step V S s) (some (.int (sw_step V S s).2.1))) := by
  refine xt_o ok_M_inStep rfl rfl ?_
  refine xw_aloadR_n dd_M_inStep_0 rfl ?_
  refine xw_iload_n dd_M_inStep_1 rfl ?_
  refine xw_cl0 (ct_M_is) iv_M_inStep_2 ok_M_is rfl rfl rfl ?_ (fun _ _ _ q => by cases q.1)
  rintro v h sz ⟨hv, rfl, rfl⟩
  cases hv
  by_cases hs : s < 0 ∨ 3 ≤ s
  · have hr : sw_step V S s = (1, 0, S) := by
      unfold sw_step
      rw [if_pos hs]
    rw [hr]
    rw [show zb (¬ (s < 0 ∨ 3 ≤ s)) = 0 from (zb_0 (fun q => q hs)).symm]
    refine xw_if_ne 12 dd_M_inStep_5 (by decide) (fun hc => absurd rfl hc) (fun hc => ?_)
    refine xw_iconst 1 dd_M_inStep_8 (by decide) ?_
    refine xw_goto 13 dd_M_inStep_9 (by decide) ?_
    refine xw_iconst 0 dd_M_inStep_13 (by decide) ?_
    refine xw_iconst 0 dd_M_inStep_14 (by decide) ?_
    refine xw_iconst 0 dd_M_inStep_15 (by decide) ?_
    refine xw_cl0 (ct_M_refused H) (iv_M_inStep_16 H.1) ok_M_refused rfl rfl rfl ?_ (fun _ _ _ q => by cases q.1)
    rintro v h1 z1 ⟨hv, rfl, H1, fr1⟩
    cases hv
    refine xw_if_ne 35 dd_M_inStep_19 (by decide) (fun hc => ?_) (fun hc => absurd hc (by decide))
    refine xw_iconst 0 dd_M_inStep_35 (by decide) ?_
    exact xw_zret dd_M_inStep_36 rfl rfl ⟨rfl, rfl, ⟨_, A, H1, hV.thr, hS, rfl⟩, fr1⟩
  · rw [show zb (¬ (s < 0 ∨ 3 ≤ s)) = 1 from (zb_1 hs).symm]
    obtain ⟨k, hk, rfl⟩ := nI_of (fun q => hs (Or.inl q))
    have hk3 : k < 3 := (nI_ltI (b := 3) hk (by decide)).mp (Int32.not_le.mp (fun q => hs (Or.inr q)))
    have hsk : sk (nI k) = k := nI_clamp (by omega)
    have ix : vp_in (nI k) 3 := vp_in_nI hk3 (by decide)
    have hS1 := hS k hk3
    have hr : sw_step V S (nI k) = (0, if su_cp (S k) = sv_fs V then 1 else 0, S) := by
      unfold sw_step
      rw [if_neg hs, hsk]
    rw [hr]
    obtain ⟨o1, ms, c1, p1⟩ := hS1
    have hml := c1.2.1
    have hlen := p1.len (hi k hk3).1
    have F1 : rF (sv_fs V) (upd K 0 (nI 0)) A := (hV.thr (w := nI 0)).1
    obtain ⟨k1, k2, k3⟩ := id F1
    refine xw_if_ne 12 dd_M_inStep_5 (by decide) (fun hc => ?_) (fun hc => absurd hc (by decide))
    refine xw_iconst 0 dd_M_inStep_12 (by decide) ?_
    refine xw_iconst 0 dd_M_inStep_13 (by decide) ?_
    refine xw_iconst 0 dd_M_inStep_14 (by decide) ?_
    refine xw_iconst 0 dd_M_inStep_15 (by decide) ?_
    refine xw_cl0 (ct_M_refused H) (iv_M_inStep_16 H.1) ok_M_refused rfl rfl rfl ?_ (fun _ _ _ q => by cases q.1)
    rintro v h1 z1 ⟨hv, rfl, H1, fr1⟩
    cases hv
    have H1' : mo_at G h1 o (upd K 0 (nI 0)) A := H1
    refine xw_if_ne 35 dd_M_inStep_19 (by decide) (fun hc => absurd rfl hc) (fun hc => ?_)
    refine xw_aloadR_n dd_M_inStep_22 rfl ?_
    refine xw_get fl_M_57 dd_M_inStep_23 H1'.1 rfl ?_
    refine xw_iload_n dd_M_inStep_26 rfl ?_
    refine xw_iald dd_M_inStep_27 (H1'.2.1 14 (by decide) (by decide)) ix ?_
    rw [nI_clamp (by omega), c1.1]
    refine xw_aloadR_n dd_M_inStep_28 rfl ?_
    refine xw_get fl_M_84 dd_M_inStep_29 H1'.1 rfl ?_
    rw [k1]
    refine xw_icmp_eq 37 dd_M_inStep_32 (by decide) (fun hc => ?_) (fun hc => ?_)
    · have heq : ms.length = (sv_fs V).length := (nI_eq (by omega) (by omega)).mp hc
      have hall : (((sv_fs V)).all (fun e => decide (e ∈ ms)) = true) ↔ su_cp (S k) = sv_fs V := by
        constructor
        · intro q
          exact srt_same hsr (hi k hk3).1 (by omega) (fun e he => (p1.2 e).mp (all_in.mp q e he))
        · intro q
          refine all_in.mpr (fun e he => ?_)
          rw [← q] at he
          exact (p1.2 e).mpr he
      have loop : ∀ (r i : Nat) (ov : Option Value), i + r = (sv_fs V).length → xa_W G mm_M_inStep 1 0 0 41 [some (.ref o), some (.int (nI k)), some (.int (zb (((sv_fs V).take i).all (fun e => decide (e ∈ ms)) = true))), some (.int (nI i)), ov] [] h1 z1 (mqs G h z1 o V (0, if su_cp (S k) = sv_fs V then 1 else 0, S) (some (.int (if su_cp (S k) = sv_fs V then 1 else 0)))) := by
        intro r
        induction r with
        | zero =>
          intro i ov hir
          refine xw_iload_n dd_M_inStep_41 rfl ?_
          refine xw_aloadR_n dd_M_inStep_42 rfl ?_
          refine xw_get fl_M_84 dd_M_inStep_43 H1'.1 rfl ?_
          rw [k1]
          refine xw_icmp_ge 147 dd_M_inStep_46 (by decide) (fun hc => ?_) (fun hc => absurd (nI_le (by omega) (by omega)) hc)
          refine xw_iload_n dd_M_inStep_147 rfl ?_
          have hv2 : zb (((sv_fs V).take i).all (fun e => decide (e ∈ ms)) = true) = if su_cp (S k) = sv_fs V then 1 else 0 := by
            unfold zb
            rw [List.take_of_length_le (by omega)]
            by_cases q : su_cp (S k) = sv_fs V
            · rw [if_pos q, if_pos (hall.mpr q)]
            · rw [if_neg q, if_neg (fun w => q (hall.mp w))]
          rw [hv2]
          exact xw_zret dd_M_inStep_148 rfl zbit ⟨rfl, rfl, ⟨_, A, H1, hV.thr, hS, rfl⟩, fr1⟩
        | succ r ih =>
          intro i ov hir
          have hil : i < (sv_fs V).length := by omega
          have he : (sv_fs V)[i]? = some (sv_fs V)[i] := List.getElem?_eq_getElem hil
          have ht : (sv_fs V).take (i + 1) = (sv_fs V).take i ++ [(sv_fs V)[i]] := by
            rw [List.take_add_one, he]
            rfl
          have ixi : vp_in (nI i) 20 := vp_in_nI (show i < 20 by omega) (by decide)
          have kk := k3 i _ he
          generalize (sv_fs V)[i] = e at he ht kk
          have step : ∀ (w c : Int32), w = zb (((sv_fs V).take (i + 1)).all (fun e => decide (e ∈ ms)) = true) → xa_W G mm_M_inStep 1 0 0 140 [some (.ref o), some (.int (nI k)), some (.int (zb (((sv_fs V).take i).all (fun e => decide (e ∈ ms)) = true))), some (.int (nI i)), some (.int c)] [.int w] h1 z1 (mqs G h z1 o V (0, if su_cp (S k) = sv_fs V then 1 else 0, S) (some (.int (if su_cp (S k) = sv_fs V then 1 else 0)))) := by
            intro w c hw
            rw [hw]
            refine xw_istore_n dd_M_inStep_140 (by decide) ?_
            refine xw_iinc dd_M_inStep_141 rfl (nI_1 i) (by decide) ?_
            refine xw_goto 41 dd_M_inStep_144 (by decide) ?_
            exact ih (i + 1) _ (by omega)
          have no : ∀ c : Int32, ¬ ((((sv_fs V).take i).all (fun e => decide (e ∈ ms)) = true) ∧ e ∈ ms) → xa_W G mm_M_inStep 1 0 0 139 [some (.ref o), some (.int (nI k)), some (.int (zb (((sv_fs V).take i).all (fun e => decide (e ∈ ms)) = true))), some (.int (nI i)), some (.int c)] [] h1 z1 (mqs G h z1 o V (0, if su_cp (S k) = sv_fs V then 1 else 0, S) (some (.int (if su_cp (S k) = sv_fs V then 1 else 0)))) := by
            intro c hn
            refine xw_iconst 0 dd_M_inStep_139 (by decide) ?_
            refine step 0 c (zb_0 (fun q => hn ?_))
            rw [ht] at q
            have q := all_in.mp q
            exact ⟨all_in.mpr (fun x hx => q x (List.mem_append_left _ hx)), q e (List.mem_append_right _ (List.mem_singleton.mpr rfl))⟩
          refine xw_iload_n dd_M_inStep_41 rfl ?_
          refine xw_aloadR_n dd_M_inStep_42 rfl ?_
          refine xw_get fl_M_84 dd_M_inStep_43 H1'.1 rfl ?_
          rw [k1]
          refine xw_icmp_ge 147 dd_M_inStep_46 (by decide) (fun hc => absurd hc (nI_ge (by omega) (by omega))) (fun hc => ?_)
          refine xw_aloadR_n dd_M_inStep_49 rfl ?_
          refine xw_iload_n dd_M_inStep_50 rfl ?_
          refine xw_aloadR_n dd_M_inStep_51 rfl ?_
          refine xw_get fl_M_7 dd_M_inStep_52 H1'.1 rfl ?_
          refine xw_iload_n dd_M_inStep_55 rfl ?_
          refine xw_iald dd_M_inStep_56 (H1'.2.1 1 (by decide) (by decide)) ixi ?_
          rw [nI_clamp (by omega), kk.1]
          refine xw_cl0 (ct_M_copyPlace H1' hk3 c1) (iv_M_inStep_57 H1'.1) ok_M_copyPlace rfl rfl rfl ?_ (fun _ _ _ q => by cases q.1)
          rintro v h1 z1 ⟨hv, rfl, rfl⟩
          cases hv
          refine xw_istore dd_M_inStep_60 (by decide) ?_
          refine xw_iload_n dd_M_inStep_62 rfl ?_
          by_cases hsame : (((sv_fs V).take i).all (fun e => decide (e ∈ ms)) = true)
          · refine xw_if_eq 139 dd_M_inStep_63 (by decide) (fun hc => absurd hsame (zb_z.mp hc)) (fun hc => ?_)
            refine xw_iload dd_M_inStep_66 rfl ?_
            rcases fx (fun a : sv_E => decide (a.1 = e.1)) ms with ⟨u1, u2⟩ | ⟨j, a, hja, u1, u2, u3, -⟩
            · have hcx : cx k e.1 ms = -1 := by
                unfold cx
                rw [u2]
              rw [hcx]
              exact xw_if_lt 139 dd_M_inStep_68 (by decide) (fun hc => no _ (fun q => fx_none u1 e q.2 rfl)) (fun hc => absurd (by decide) hc)
            · have hj := (List.getElem?_eq_some_iff.mp hja).1
              have hcx : cx k e.1 ms = nI (280 * k + j) := by
                unfold cx
                rw [u2]
              have ixj : vp_in (nI (280 * k + j)) 840 := vp_in_nI (show 280 * k + j < 840 by omega) (by decide)
              have kj := c1.2.2 j a hja
              have hae : a.1 = e.1 := by simpa using u3
              have hno : ¬ a = e → ¬ ((((sv_fs V).take i).all (fun e => decide (e ∈ ms)) = true) ∧ e ∈ ms) := fun q w => q (dn_eq p1.1 (List.mem_of_getElem? hja) w.2 hae)
              rw [hcx]
              refine xw_if_lt 139 dd_M_inStep_68 (by decide) (fun hc => absurd hc (nI_pos (by omega))) (fun hc => ?_)
              refine xw_aloadR_n dd_M_inStep_71 rfl ?_
              refine xw_get fl_M_63 dd_M_inStep_72 H1'.1 rfl ?_
              refine xw_iload dd_M_inStep_75 rfl ?_
              refine xw_iald dd_M_inStep_77 (H1'.2.1 16 (by decide) (by decide)) ixj ?_
              rw [nI_clamp (by omega), kj.2.1]
              refine xw_aloadR_n dd_M_inStep_78 rfl ?_
              refine xw_get fl_M_13 dd_M_inStep_79 H1'.1 rfl ?_
              refine xw_iload_n dd_M_inStep_82 rfl ?_
              refine xw_iald dd_M_inStep_83 (H1'.2.1 2 (by decide) (by decide)) ixi ?_
              rw [nI_clamp (by omega), kk.2.1]
              refine xw_icmp_ne 139 dd_M_inStep_84 (by decide) (fun hc => no _ (hno (fun w => hc (by rw [w])))) (fun q2 => ?_)
              refine xw_aloadR_n dd_M_inStep_87 rfl ?_
              refine xw_get fl_M_66 dd_M_inStep_88 H1'.1 rfl ?_
              refine xw_iload dd_M_inStep_91 rfl ?_
              refine xw_iald dd_M_inStep_93 (H1'.2.1 17 (by decide) (by decide)) ixj ?_
              rw [nI_clamp (by omega), kj.2.2.1]
              refine xw_aloadR_n dd_M_inStep_94 rfl ?_
              refine xw_get fl_M_16 dd_M_inStep_95 H1'.1 rfl ?_
              refine xw_iload_n dd_M_inStep_98 rfl ?_
              refine xw_iald dd_M_inStep_99 (H1'.2.1 3 (by decide) (by decide)) ixi ?_
              rw [nI_clamp (by omega), kk.2.2.1]
              refine xw_icmp_ne 139 dd_M_inStep_100 (by decide) (fun hc => no _ (hno (fun w => hc (by rw [w])))) (fun q3 => ?_)
              refine xw_aloadR_n dd_M_inStep_103 rfl ?_
              refine xw_get fl_M_69 dd_M_inStep_104 H1'.1 rfl ?_
              refine xw_iload dd_M_inStep_107 rfl ?_
              refine xw_iald dd_M_inStep_109 (H1'.2.1 18 (by decide) (by decide)) ixj ?_
              rw [nI_clamp (by omega), kj.2.2.2.1]
              refine xw_aloadR_n dd_M_inStep_110 rfl ?_
              refine xw_get fl_M_19 dd_M_inStep_111 H1'.1 rfl ?_
              refine xw_iload_n dd_M_inStep_114 rfl ?_
              refine xw_iald dd_M_inStep_115 (H1'.2.1 4 (by decide) (by decide)) ixi ?_
              rw [nI_clamp (by omega), kk.2.2.2.1]
              refine xw_icmp_ne 139 dd_M_inStep_116 (by decide) (fun hc => no _ (hno (fun w => hc (by rw [w])))) (fun q4 => ?_)
              refine xw_aloadR_n dd_M_inStep_119 rfl ?_
              refine xw_get fl_M_72 dd_M_inStep_120 H1'.1 rfl ?_
              refine xw_iload dd_M_inStep_123 rfl ?_
              refine xw_iald dd_M_inStep_125 (H1'.2.1 19 (by decide) (by decide)) ixj ?_
              rw [nI_clamp (by omega), kj.2.2.2.2]
              refine xw_aloadR_n dd_M_inStep_126 rfl ?_
              refine xw_get fl_M_22 dd_M_inStep_127 H1'.1 rfl ?_
              refine xw_iload_n dd_M_inStep_130 rfl ?_
              refine xw_iald dd_M_inStep_131 (H1'.2.1 5 (by decide) (by decide)) ixi ?_
              rw [nI_clamp (by omega), kk.2.2.2.2]
              refine xw_icmp_ne 139 dd_M_inStep_132 (by decide) (fun hc => no _ (hno (fun w => hc (by rw [w])))) (fun q5 => ?_)
              refine xw_iconst 1 dd_M_inStep_135 (by decide) ?_
              refine xw_goto 140 dd_M_inStep_136 (by decide) ?_
              refine step 1 _ (zb_1 ?_)
              rw [ht]
              refine all_in.mpr (fun x hx => ?_)
              rcases List.mem_append.mp hx with w | w
              · exact all_in.mp hsame x w
              · rw [List.mem_singleton] at w
                rw [w]
                have : a = e := by
                  obtain ⟨a1, a2, a3, a4, a5⟩ := a
                  obtain ⟨b1, b2, b3, b4, b5⟩ := e
                  have hae : a1 = b1 := hae
                  have q2 : a2 = b2 := q2
                  have q3 : a3 = b3 := q3
                  have q4 : a4 = b4 := q4
                  have q5 : a5 = b5 := q5
                  rw [hae, q2, q3, q4, q5]
                rw [← this]
                exact List.mem_of_getElem? hja
          · exact xw_if_eq 139 dd_M_inStep_63 (by decide) (fun hc => no _ (fun q => hsame q.1)) (fun hc => absurd (zb_z.mpr hsame) hc)
      refine xw_iconst 1 dd_M_inStep_37 (by decide) ?_
      refine xw_istore_n dd_M_inStep_38 (by decide) ?_
      refine xw_iconst 0 dd_M_inStep_39 (by decide) ?_
      refine xw_istore_n dd_M_inStep_40 (by decide) ?_
      have h0 : (1 : Int32) = zb (((sv_fs V).take 0).all (fun e => decide (e ∈ ms)) = true) := zb_1 rfl
      rw [h0]
      exact loop (sv_fs V).length 0 none (by omega)
    · have hne : ¬ su_cp (S k) = sv_fs V := fun q => hc (by rw [hlen, q])
      rw [if_neg hne]
      refine xw_iconst 0 dd_M_inStep_35 (by decide) ?_
      exact xw_zret dd_M_inStep_36 rfl rfl ⟨rfl, rfl, ⟨_, A, H1, hV.thr, hS, rfl⟩, fr1⟩
end SF
