/-! NotedVolumeModel: note (by program: wip/whole/mk44.py) -/
theorem le5 {w : Int32} : ¬ w ≤ 5 ↔ 6 ≤ w := by
  rw [Int32.le_iff_toInt_le, Int32.le_iff_toInt_le]
  have h3 : (5 : Int32).toInt = 5 := rfl
  have h4 : (6 : Int32).toInt = 6 := rfl
  omega
section MJ
variable {G : xa_G} {h : xa_H} {sz o : Nat} {K : Nat → Int32} {A : Nat → Nat → Int32} {V : sv_V}
theorem ct_M_note {s w : Int32} (H : mo_at G h o K A) (hV : rV V K A) : xa_T G mm_M_note 1 0 0 [.ref o, .int s, .int w] h sz (mqp G h sz o (sv_nte V s w) A) := by
  obtain ⟨n1, n2, n3, n4⟩ := hV.2.1
  refine xt_o ok_M_note rfl rfl ?_
  refine xw_aloadR_n dd_M_note_0 rfl ?_
  refine xw_iload_n dd_M_note_1 rfl ?_
  refine xw_aloadR_n dd_M_note_2 rfl ?_
  refine xw_cl0 (ct_M_tailNow H hV) (iv_M_note_3 H.1) ok_M_tailNow rfl rfl rfl ?_ (fun _ _ _ q => by cases q.1)
  rintro v h sz ⟨hv, rfl, rfl⟩
  cases hv
  refine xw_dia (pj := 22) (stj := [.ref o]) (Lj := [some (.ref o), some (.int s), some (.int w)]) (.int (zb (¬ (nI (rg_tl (sv_hd V)) ≤ s ∧ s < nI (sv_hd V))))) ?_ (fun meet => ?_)
  · refine xw_iload_n dd_M_note_22 rfl ?_
    refine xw_dia (pj := 36) (stj := [.int (zb (¬ (nI (rg_tl (sv_hd V)) ≤ s ∧ s < nI (sv_hd V)))), .ref o]) (Lj := [some (.ref o), some (.int s), some (.int w)]) (.int (zb (w < 0 ∨ 6 ≤ w))) ?_ (fun meet => ?_)
    · refine xw_iconst 0 dd_M_note_36 (by decide) ?_
      refine xw_iconst 0 dd_M_note_37 (by decide) ?_
      refine xw_cl0 (ct_M_refused H) (iv_M_note_38 H.1) ok_M_refused rfl rfl rfl ?_ (fun _ _ _ q => by cases q.1)
      rintro v h1 z1 ⟨hv, rfl, H1, fr1⟩
      cases hv
      have hmd : md_c (zb (¬ (nI (rg_tl (sv_hd V)) ≤ s ∧ s < nI (sv_hd V)))) (zb (w < 0 ∨ 6 ≤ w)) 0 0 = if ¬ (nI (rg_tl (sv_hd V)) ≤ s ∧ s < nI (sv_hd V)) then 1 else if w < 0 ∨ 6 ≤ w then 2 else 0 := by
        have := md_zb (a := ¬ (nI (rg_tl (sv_hd V)) ≤ s ∧ s < nI (sv_hd V))) (b := w < 0 ∨ 6 ≤ w) (c := False) (d := False)
        simpa [zb] using this
      have bad : ∀ k : Nat, k ≠ 0 → sv_nte V s w = (k, 0, V) → mo_at G h1 o (upd K 0 (nI k)) A → xa_W G mm_M_note 1 0 0 44 [some (.ref o), some (.int s), some (.int w)] [] h1 z1 (mqp G h z1 o (sv_nte V s w) A) := by
        intro k hk hr H1
        refine xw_iconst 0 dd_M_note_44 (by decide) ?_
        refine xw_iret dd_M_note_45 rfl ⟨by rw [hr], rfl, ⟨_, A, H1, ?_, ?_, fun _ _ _ => rfl⟩, fr1⟩
        · rw [hr]
          exact hV.thr
        · rw [hr]
          rfl
      by_cases hin : nI (rg_tl (sv_hd V)) ≤ s ∧ s < nI (sv_hd V)
      · have hnn : ¬ ¬ (nI (rg_tl (sv_hd V)) ≤ s ∧ s < nI (sv_hd V)) := fun q => q hin
        by_cases hw : w < 0 ∨ 6 ≤ w
        · have hk : md_c (zb (¬ (nI (rg_tl (sv_hd V)) ≤ s ∧ s < nI (sv_hd V)))) (zb (w < 0 ∨ 6 ≤ w)) 0 0 = 2 := by rw [hmd, if_neg hnn, if_pos hw]
          rw [hk] at H1 ⊢
          exact xw_if_eq 46 dd_M_note_41 (by decide) (fun hc => absurd hc (by decide)) (fun hc => bad 2 (by decide) (by unfold sv_nte; rw [if_pos hin, if_pos hw]) H1)
        · have hk : md_c (zb (¬ (nI (rg_tl (sv_hd V)) ≤ s ∧ s < nI (sv_hd V)))) (zb (w < 0 ∨ 6 ≤ w)) 0 0 = 0 := by rw [hmd, if_neg hnn, if_neg hw]
          rw [hk] at H1 ⊢
          have htl : rg_tl (sv_hd V) ≤ sv_hd V := by unfold rg_tl; split <;> omega
          have hs0 : ¬ s < 0 := by
            have q1 := Int32.le_iff_toInt_le.mp hin.1
            rw [nI_toInt (by omega)] at q1
            rw [Int32.lt_iff_toInt_lt, Int32.toInt_zero]
            omega
          obtain ⟨j, hj, rfl⟩ := nI_of hs0
          obtain ⟨k, hk2, rfl⟩ := nI_of (fun q => hw (Or.inl q))
          have hk6 : k < 6 := (nI_ltI (b := 6) hk2 (by decide)).mp (Int32.not_le.mp (fun q => hw (Or.inr q)))
          have hm : j % 16 < 16 := Nat.mod_lt _ (by decide)
          have hr : sv_nte V (nI j) (nI k) = (0, sv_rg V (j % 16) k, V) := by
            unfold sv_nte
            rw [if_pos hin, if_neg hw, nI_clamp hj, nI_clamp hk2]
          refine xw_if_eq 46 dd_M_note_41 (by decide) (fun hc => ?_) (fun hc => absurd rfl hc)
          refine xw_aloadR_n dd_M_note_46 rfl ?_
          refine xw_get fl_M_29 dd_M_note_47 H1.1 rfl ?_
          refine xw_bipush 6 dd_M_note_50 (by decide) ?_
          refine xw_iload_n dd_M_note_52 rfl ?_
          refine xw_bipush 16 dd_M_note_53 (by decide) ?_
          refine xw_irem dd_M_note_55 (by decide) ?_
          rw [show nI j - nI j / 16 * 16 = nI (j % 16) from pk_rem (a := j) (d := 16) hj (by decide) (by decide)]
          refine xw_imul dd_M_note_56 ?_
          rw [show (6 : Int32) * nI (j % 16) = nI (6 * (j % 16)) from pk_mul 6 (j % 16)]
          refine xw_iload_n dd_M_note_57 rfl ?_
          refine xw_iadd dd_M_note_58 ?_
          rw [nI_add]
          refine xw_iald dd_M_note_59 (H1.2.1 6 (by decide) (by decide)) (vp_in_nI (show 6 * (j % 16) + k < 96 by omega) (by decide)) ?_
          rw [nI_clamp (by omega), n4 _ _ hm hk6]
          refine xw_iret dd_M_note_60 rfl ⟨by rw [hr], rfl, ⟨_, A, H1, ?_, ?_, fun _ _ _ => rfl⟩, fr1⟩
          · rw [hr]
            exact hV.thr
          · rw [hr]
            rfl
      · have hk : md_c (zb (¬ (nI (rg_tl (sv_hd V)) ≤ s ∧ s < nI (sv_hd V)))) (zb (w < 0 ∨ 6 ≤ w)) 0 0 = 1 := by rw [hmd, if_pos hin]
        rw [hk] at H1 ⊢
        exact xw_if_eq 46 dd_M_note_41 (by decide) (fun hc => absurd hc (by decide)) (fun hc => bad 1 (by decide) (by unfold sv_nte; rw [if_neg hin]) H1)
    · refine xw_if_lt 31 dd_M_note_23 (by decide) (fun hc => ?_) (fun hc => ?_)
      · refine xw_iconst 1 dd_M_note_31 (by decide) ?_
        refine xw_goto 36 dd_M_note_32 (by decide) ?_
        exact meet _ (congrArg Value.int (zb_1 (c := w < 0 ∨ 6 ≤ w) (Or.inl hc)))
      · refine xw_iload_n dd_M_note_26 rfl ?_
        refine xw_iconst 5 dd_M_note_27 (by decide) ?_
        refine xw_icmp_le 35 dd_M_note_28 (by decide) (fun hc2 => ?_) (fun hc2 => ?_)
        · refine xw_iconst 0 dd_M_note_35 (by decide) ?_
          exact meet _ (congrArg Value.int (zb_0 (c := w < 0 ∨ 6 ≤ w) (fun q => q.elim hc (fun q => le5.mpr q hc2))))
        · refine xw_iconst 1 dd_M_note_31 (by decide) ?_
          refine xw_goto 36 dd_M_note_32 (by decide) ?_
          exact meet _ (congrArg Value.int (zb_1 (c := w < 0 ∨ 6 ≤ w) (Or.inr (le5.mp hc2))))
  · refine xw_icmp_lt 17 dd_M_note_6 (by decide) (fun hc => ?_) (fun hc => ?_)
    · refine xw_iconst 1 dd_M_note_17 (by decide) ?_
      refine xw_goto 22 dd_M_note_18 (by decide) ?_
      exact meet _ (congrArg Value.int (zb_1 (c := ¬ (nI (rg_tl (sv_hd V)) ≤ s ∧ s < nI (sv_hd V))) (fun q => Int32.not_lt.mpr q.1 hc)))
    · refine xw_iload_n dd_M_note_9 rfl ?_
      refine xw_aloadR_n dd_M_note_10 rfl ?_
      refine xw_get fl_M_25 dd_M_note_11 H.1 rfl ?_
      rw [n1]
      refine xw_icmp_lt 21 dd_M_note_14 (by decide) (fun hc2 => ?_) (fun hc2 => ?_)
      · refine xw_iconst 0 dd_M_note_21 (by decide) ?_
        exact meet _ (congrArg Value.int (zb_0 (c := ¬ (nI (rg_tl (sv_hd V)) ≤ s ∧ s < nI (sv_hd V))) (fun q => q ⟨Int32.not_lt.mp hc, hc2⟩)))
      · refine xw_iconst 1 dd_M_note_17 (by decide) ?_
        refine xw_goto 22 dd_M_note_18 (by decide) ?_
        exact meet _ (congrArg Value.int (zb_1 (c := ¬ (nI (rg_tl (sv_hd V)) ≤ s ∧ s < nI (sv_hd V))) (fun q => hc2 q.2)))
end MJ
