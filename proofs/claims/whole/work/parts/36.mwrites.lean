/-! NotedVolumeModel: what it writes (by program: wip/whole/mk36.py) -/
/-- the model's volume -/
def rV (V : sv_V) (K : Nat → Int32) (A : Nat → Nat → Int32) : Prop := rF (sv_fs V) K A ∧ rN (sv_hd V) (sv_rg V) K A ∧ rG (sv_gs V) K A ∧ K 7 = nI (sv_lt V) ∧ K 13 = (if sv_on V = true then 0 else 1) ∧ K 14 = sv_lf V
theorem rF.cg {fs : List sv_E} {K K' : Nat → Int32} {A A' : Nat → Nat → Int32} (H : rF fs K A) (hK : K' 1 = K 1) (hA : ∀ i, 1 ≤ i → i ≤ 5 → A' i = A i) : rF fs K' A' := by
  refine ⟨hK.trans H.1, H.2.1, fun i e he => ?_⟩
  rw [hA 1 (by omega) (by omega), hA 2 (by omega) (by omega), hA 3 (by omega) (by omega), hA 4 (by omega) (by omega), hA 5 (by omega) (by omega)]
  exact H.2.2 i e he
theorem rN.cg {hd : Nat} {rg : Nat → Nat → Int32} {K K' : Nat → Int32} {A A' : Nat → Nat → Int32} (H : rN hd rg K A) (hK : K' 8 = K 8) (hA : A' 6 = A 6) : rN hd rg K' A' := by
  refine ⟨hK.trans H.1, H.2.1, H.2.2.1, fun s k hs hk => ?_⟩
  rw [hA]
  exact H.2.2.2 s k hs hk
theorem rG.cg {gs : List (Int32 × Int32)} {K K' : Nat → Int32} {A A' : Nat → Nat → Int32} (H : rG gs K A) (hK : K' 10 = K 10) (h7 : A' 7 = A 7) (h8 : A' 8 = A 8) : rG gs K' A' := by
  refine ⟨hK.trans H.1, H.2.1, fun i e he => ?_⟩
  rw [h7, h8]
  exact H.2.2 i e he
/-- a method of the model ends: its volume is V', its subscribers as they were -/
def mqv (G : xa_G) (h : xa_H) (sz o : Nat) (V' : sv_V) (K : Nat → Int32) (A : Nat → Nat → Int32) (v : Option Value) : Outcome → xa_H → Nat → Prop := fun o' h' z => o' = .returned v ∧ z = sz ∧ (∃ K' A', mo_at G h' o K' A' ∧ rV V' K' A' ∧ K' 0 = K 0 ∧ ∀ i, 9 ≤ i → i ≤ 21 → A' i = A i) ∧ frM o h h'
section MW
variable {G : xa_G} {h : xa_H} {sz o : Nat} {K : Nat → Int32} {A : Nat → Nat → Int32} {V : sv_V}
/-- which reason counts -/
def md_c (a b c d : Int32) : Nat := if a = 0 then if b = 0 then if c = 0 then if d = 0 then 0 else 4 else 3 else 2 else 1
theorem ct_M_refused {a b c d : Int32} (H : mo_at G h o K A) : xa_T G mm_M_refused 0 0 0 [.ref o, .int a, .int b, .int c, .int d] h sz (fun o' h' z => o' = .returned (some (.int (if md_c a b c d = 0 then 0 else 1))) ∧ z = sz ∧ mo_at G h' o (upd K 0 (nI (md_c a b c d))) A ∧ frM o h h') := by
  have tail : ∀ n : Nat, n = md_c a b c d → xa_W G mm_M_refused 0 0 0 35 [some (.ref o), some (.int a), some (.int b), some (.int c), some (.int d)] [.int (nI n), .ref o] h sz (fun o' h' z => o' = .returned (some (.int (if md_c a b c d = 0 then 0 else 1))) ∧ z = sz ∧ mo_at G h' o (upd K 0 (nI (md_c a b c d))) A ∧ frM o h h') := by
    intro n hn
    have hlt : n ≤ 4 := by
      rw [hn]
      unfold md_c
      split
      · split
        · split
          · split <;> omega
          · omega
        · omega
      · omega
    rw [← hn]
    refine xw_putA fl_M_81 fz_M_81 (by decide) dd_M_refused_35 H.1 rfl H.2.2 rfl rfl (fun h1 n1 f1 => ?_)
    obtain ⟨H1, fr1⟩ := H.setK (K' := upd K 0 (nI n)) n1 f1
    refine xw_aloadR_n dd_M_refused_38 rfl ?_
    refine xw_get fl_M_81 dd_M_refused_39 n1 rfl ?_
    by_cases h0 : n = 0
    · subst h0
      refine xw_if_le 49 dd_M_refused_42 (by decide) (fun hc => ?_) (fun hc => absurd (by decide) hc)
      refine xw_iconst 0 dd_M_refused_49 (by decide) ?_
      exact xw_zret dd_M_refused_50 rfl rfl ⟨rfl, rfl, H1, fr1⟩
    · refine xw_if_le 49 dd_M_refused_42 (by decide) (fun hc => absurd hc (nI_nle (by omega) (by omega))) (fun hc => ?_)
      refine xw_iconst 1 dd_M_refused_45 (by decide) ?_
      refine xw_goto 50 dd_M_refused_46 (by decide) ?_
      exact xw_zret dd_M_refused_50 rfl rfl ⟨by rw [if_neg h0], rfl, H1, fr1⟩
  refine xt_o ok_M_refused rfl rfl ?_
  refine xw_aloadR_n dd_M_refused_0 rfl ?_
  refine xw_iload_n dd_M_refused_1 rfl ?_
  refine xw_if_eq 9 dd_M_refused_2 (by decide) (fun h1 => ?_) (fun h1 => ?_)
  · refine xw_iload_n dd_M_refused_9 rfl ?_
    refine xw_if_eq 17 dd_M_refused_10 (by decide) (fun h2 => ?_) (fun h2 => ?_)
    · refine xw_iload_n dd_M_refused_17 rfl ?_
      refine xw_if_eq 25 dd_M_refused_18 (by decide) (fun h3 => ?_) (fun h3 => ?_)
      · refine xw_iload dd_M_refused_25 rfl ?_
        refine xw_if_eq 34 dd_M_refused_27 (by decide) (fun h4 => ?_) (fun h4 => ?_)
        · refine xw_iconst 0 dd_M_refused_34 (by decide) ?_
          exact tail 0 (by unfold md_c; rw [if_pos h1, if_pos h2, if_pos h3, if_pos h4])
        · refine xw_iconst 4 dd_M_refused_30 (by decide) ?_
          refine xw_goto 35 dd_M_refused_31 (by decide) ?_
          exact tail 4 (by unfold md_c; rw [if_pos h1, if_pos h2, if_pos h3, if_neg h4])
      · refine xw_iconst 3 dd_M_refused_21 (by decide) ?_
        refine xw_goto 35 dd_M_refused_22 (by decide) ?_
        exact tail 3 (by unfold md_c; rw [if_pos h1, if_pos h2, if_neg h3])
    · refine xw_iconst 2 dd_M_refused_13 (by decide) ?_
      refine xw_goto 35 dd_M_refused_14 (by decide) ?_
      exact tail 2 (by unfold md_c; rw [if_pos h1, if_neg h2])
  · refine xw_iconst 1 dd_M_refused_5 (by decide) ?_
    refine xw_goto 35 dd_M_refused_6 (by decide) ?_
    exact tail 1 (by unfold md_c; rw [if_neg h1])
theorem ct_M_writes (H : mo_at G h o K A) (hV : rV V K A) : xa_T G mm_M_writes 0 0 0 [.ref o] h sz (mqv G h sz o (sv_spend V).2 K A (some (.int (if (sv_spend V).1 = true then 1 else 0)))) := by
  obtain ⟨fs, lt, hd, rg, gs, on, lf⟩ := V
  obtain ⟨v1, v2, v3, v4, v5, v6⟩ := hV
  have v6 : K 14 = lf := v6
  refine xt_o ok_M_writes rfl rfl ?_
  refine xw_aloadR_n dd_M_writes_0 rfl ?_
  refine xw_get fl_M_38 dd_M_writes_1 H.1 rfl ?_
  rw [v6]
  refine xw_if_ne 19 dd_M_writes_4 (by decide) (fun hc => ?_) (fun hc => ?_)
  · have hs : sv_spend (fs, lt, hd, rg, gs, on, lf) = (true, (fs, lt, hd, rg, gs, on, if 0 < lf then lf - 1 else lf)) := by
      unfold sv_spend
      simp only
      rw [if_neg hc]
    rw [hs]
    have fin : ∀ w : Int32, w = (if 0 < lf then lf - 1 else lf) → xa_W G mm_M_writes 0 0 0 40 [some (.ref o)] [.int w, .ref o] h sz (mqv G h sz o (fs, lt, hd, rg, gs, on, if 0 < lf then lf - 1 else lf) K A (some (.int 1))) := by
      intro w hw
      refine xw_putA fl_M_38 fz_M_38 (by decide) dd_M_writes_40 H.1 rfl H.2.2 rfl rfl (fun h1 n1 f1 => ?_)
      obtain ⟨H1, fr1⟩ := H.setK (K' := upd K 14 w) n1 f1
      refine xw_iconst 1 dd_M_writes_43 (by decide) ?_
      exact xw_zret dd_M_writes_44 rfl rfl ⟨rfl, rfl, ⟨_, A, H1, ⟨v1.cg rfl (fun _ _ _ => rfl), v2.cg rfl rfl, v3.cg rfl rfl rfl, v4, v5, hw⟩, rfl, fun _ _ _ => rfl⟩, fr1⟩
    refine xw_aloadR_n dd_M_writes_19 rfl ?_
    refine xw_aloadR_n dd_M_writes_20 rfl ?_
    refine xw_get fl_M_38 dd_M_writes_21 H.1 rfl ?_
    rw [v6]
    refine xw_if_le 36 dd_M_writes_24 (by decide) (fun hc2 => ?_) (fun hc2 => ?_)
    · refine xw_aloadR_n dd_M_writes_36 rfl ?_
      refine xw_get fl_M_38 dd_M_writes_37 H.1 rfl ?_
      rw [v6]
      exact fin lf (by rw [if_neg (Int32.not_lt.mpr hc2)])
    · refine xw_aloadR_n dd_M_writes_27 rfl ?_
      refine xw_get fl_M_38 dd_M_writes_28 H.1 rfl ?_
      rw [v6]
      refine xw_iconst 1 dd_M_writes_31 (by decide) ?_
      refine xw_isub dd_M_writes_32 ?_
      refine xw_goto 40 dd_M_writes_33 (by decide) ?_
      exact fin (lf - 1) (by rw [if_pos (Int32.not_le.mp hc2)])
  · have hs : sv_spend (fs, lt, hd, rg, gs, on, lf) = (false, (fs, lt, hd, rg, [], false, lf)) := by
      unfold sv_spend
      simp only
      rw [if_pos hc]
    rw [hs]
    refine xw_aloadR_n dd_M_writes_7 rfl ?_
    refine xw_iconst 1 dd_M_writes_8 (by decide) ?_
    refine xw_putA fl_M_91 fz_M_91 (by decide) dd_M_writes_9 H.1 rfl H.2.2 rfl rfl (fun h1 n1 f1 => ?_)
    obtain ⟨H1, fr1⟩ := H.setK (K' := upd K 13 1) n1 f1
    refine xw_aloadR_n dd_M_writes_12 rfl ?_
    refine xw_iconst 0 dd_M_writes_13 (by decide) ?_
    refine xw_putA fl_M_95 fz_M_95 (by decide) dd_M_writes_14 n1 rfl H.2.2 rfl rfl (fun h2 n2 f2 => ?_)
    obtain ⟨H2, fr2⟩ := H1.setK (K' := upd (upd K 13 1) 10 0) n2 f2
    refine xw_iconst 0 dd_M_writes_17 (by decide) ?_
    exact xw_zret dd_M_writes_18 rfl rfl ⟨rfl, rfl, ⟨_, A, H2, ⟨v1.cg rfl (fun _ _ _ => rfl), v2.cg rfl rfl, ⟨rfl, Nat.zero_le 3, fun i g hg => by
      have hg : ([] : List (Int32 × Int32))[i]? = some g := hg
      simp at hg⟩, v4, rfl, v6⟩, rfl, fun _ _ _ => rfl⟩, fr1.trans fr2⟩
theorem ct_M_writeNote {f s p nm mk r : Int32} (H : mo_at G h o K A) (hV : rV V K A) (hh : sv_hd V < 900000) : xa_T G mm_M_writeNote 0 0 0 [.ref o, .int f, .int s, .int p, .int nm, .int mk, .int r] h sz (mqv G h sz o (sv_app V (f, s, p, nm, mk) r) K A none) := by
  obtain ⟨fs, lt, hd, rg, gs, on, lf⟩ := V
  obtain ⟨v1, v2, v3, v4, v5, v6⟩ := hV
  have v20 : K 8 = nI hd := v2.1
  have hh : hd < 900000 := hh
  have hm : hd % 16 < 16 := Nat.mod_lt _ (by decide)
  refine xt_o ok_M_writeNote rfl rfl ?_
  refine xw_bipush 6 dd_M_writeNote_0 (by decide) ?_
  refine xw_aloadR_n dd_M_writeNote_2 rfl ?_
  refine xw_get fl_M_25 dd_M_writeNote_3 H.1 rfl ?_
  rw [v20]
  refine xw_bipush 16 dd_M_writeNote_6 (by decide) ?_
  refine xw_irem dd_M_writeNote_8 (by decide) ?_
  rw [show nI hd - nI hd / 16 * 16 = nI (hd % 16) from pk_rem (a := hd) (d := 16) (by omega) (by decide) (by decide)]
  refine xw_imul dd_M_writeNote_9 ?_
  rw [show (6 : Int32) * nI (hd % 16) = nI (6 * (hd % 16)) from pk_mul 6 (hd % 16)]
  refine xw_istore dd_M_writeNote_10 (by decide) ?_
  refine xw_aloadR_n dd_M_writeNote_12 rfl ?_
  refine xw_get fl_M_29 dd_M_writeNote_13 H.1 rfl ?_
  refine xw_iload dd_M_writeNote_16 rfl ?_
  refine xw_iload_n dd_M_writeNote_18 rfl ?_
  refine xw_iastA dd_M_writeNote_19 (H.2.1 6 (by decide) (by decide)) (vp_in_nI (show 6 * (hd % 16) + 0 < 96 by omega) (by decide)) (by have := H.2.2; omega) (fun h1 n1 f1 => ?_)
  rw [nI_clamp (by omega)] at n1
  obtain ⟨H1, fr1⟩ := H.setA (i := 6) (by decide) n1 f1
  refine xw_aloadR_n dd_M_writeNote_20 rfl ?_
  refine xw_get fl_M_29 dd_M_writeNote_21 H1.1 rfl ?_
  refine xw_iload dd_M_writeNote_24 rfl ?_
  refine xw_iconst 1 dd_M_writeNote_26 (by decide) ?_
  refine xw_iadd dd_M_writeNote_27 ?_
  rw [show nI (6 * (hd % 16)) + 1 = nI (6 * (hd % 16) + 1) from nI_add (6 * (hd % 16)) 1]
  refine xw_iload_n dd_M_writeNote_28 rfl ?_
  refine xw_iastA dd_M_writeNote_29 (H1.2.1 6 (by decide) (by decide)) (vp_in_nI (show 6 * (hd % 16) + 1 < 96 by omega) (by decide)) (by have := H.2.2; omega) (fun h2 n2 f2 => ?_)
  rw [nI_clamp (by omega)] at n2
  obtain ⟨H2, fr2⟩ := H1.setA (i := 6) (by decide) n2 f2
  refine xw_aloadR_n dd_M_writeNote_30 rfl ?_
  refine xw_get fl_M_29 dd_M_writeNote_31 H2.1 rfl ?_
  refine xw_iload dd_M_writeNote_34 rfl ?_
  refine xw_iconst 2 dd_M_writeNote_36 (by decide) ?_
  refine xw_iadd dd_M_writeNote_37 ?_
  rw [show nI (6 * (hd % 16)) + 2 = nI (6 * (hd % 16) + 2) from nI_add (6 * (hd % 16)) 2]
  refine xw_iload_n dd_M_writeNote_38 rfl ?_
  refine xw_iastA dd_M_writeNote_39 (H2.2.1 6 (by decide) (by decide)) (vp_in_nI (show 6 * (hd % 16) + 2 < 96 by omega) (by decide)) (by have := H.2.2; omega) (fun h3 n3 f3 => ?_)
  rw [nI_clamp (by omega)] at n3
  obtain ⟨H3, fr3⟩ := H2.setA (i := 6) (by decide) n3 f3
  refine xw_aloadR_n dd_M_writeNote_40 rfl ?_
  refine xw_get fl_M_29 dd_M_writeNote_41 H3.1 rfl ?_
  refine xw_iload dd_M_writeNote_44 rfl ?_
  refine xw_iconst 3 dd_M_writeNote_46 (by decide) ?_
  refine xw_iadd dd_M_writeNote_47 ?_
  rw [show nI (6 * (hd % 16)) + 3 = nI (6 * (hd % 16) + 3) from nI_add (6 * (hd % 16)) 3]
  refine xw_iload dd_M_writeNote_48 rfl ?_
  refine xw_iastA dd_M_writeNote_50 (H3.2.1 6 (by decide) (by decide)) (vp_in_nI (show 6 * (hd % 16) + 3 < 96 by omega) (by decide)) (by have := H.2.2; omega) (fun h4 n4 f4 => ?_)
  rw [nI_clamp (by omega)] at n4
  obtain ⟨H4, fr4⟩ := H3.setA (i := 6) (by decide) n4 f4
  refine xw_aloadR_n dd_M_writeNote_51 rfl ?_
  refine xw_get fl_M_29 dd_M_writeNote_52 H4.1 rfl ?_
  refine xw_iload dd_M_writeNote_55 rfl ?_
  refine xw_iconst 4 dd_M_writeNote_57 (by decide) ?_
  refine xw_iadd dd_M_writeNote_58 ?_
  rw [show nI (6 * (hd % 16)) + 4 = nI (6 * (hd % 16) + 4) from nI_add (6 * (hd % 16)) 4]
  refine xw_iload dd_M_writeNote_59 rfl ?_
  refine xw_iastA dd_M_writeNote_61 (H4.2.1 6 (by decide) (by decide)) (vp_in_nI (show 6 * (hd % 16) + 4 < 96 by omega) (by decide)) (by have := H.2.2; omega) (fun h5 n5 f5 => ?_)
  rw [nI_clamp (by omega)] at n5
  obtain ⟨H5, fr5⟩ := H4.setA (i := 6) (by decide) n5 f5
  refine xw_aloadR_n dd_M_writeNote_62 rfl ?_
  refine xw_get fl_M_29 dd_M_writeNote_63 H5.1 rfl ?_
  refine xw_iload dd_M_writeNote_66 rfl ?_
  refine xw_iconst 5 dd_M_writeNote_68 (by decide) ?_
  refine xw_iadd dd_M_writeNote_69 ?_
  rw [show nI (6 * (hd % 16)) + 5 = nI (6 * (hd % 16) + 5) from nI_add (6 * (hd % 16)) 5]
  refine xw_iload dd_M_writeNote_70 rfl ?_
  refine xw_iastA dd_M_writeNote_72 (H5.2.1 6 (by decide) (by decide)) (vp_in_nI (show 6 * (hd % 16) + 5 < 96 by omega) (by decide)) (by have := H.2.2; omega) (fun h6 n6 f6 => ?_)
  rw [nI_clamp (by omega)] at n6
  obtain ⟨H6, fr6⟩ := H5.setA (i := 6) (by decide) n6 f6
  refine xw_aloadR_n dd_M_writeNote_73 rfl ?_
  refine xw_dup dd_M_writeNote_74 rfl ?_
  refine xw_get fl_M_25 dd_M_writeNote_75 H6.1 rfl ?_
  rw [v20]
  refine xw_iconst 1 dd_M_writeNote_78 (by decide) ?_
  refine xw_iadd dd_M_writeNote_79 ?_
  rw [nI_1]
  refine xw_putA fl_M_25 fz_M_25 (by decide) dd_M_writeNote_80 H6.1 rfl H.2.2 rfl rfl (fun h7 n7 f7 => ?_)
  obtain ⟨H7, fr7⟩ := H6.setK (K' := upd K 8 (nI (hd + 1))) n7 f7
  refine xw_vret dd_M_writeNote_83 rfl ⟨rfl, rfl, ⟨_, _, H7, ⟨v1.cg rfl (fun i i1 i2 => ?_), ⟨rfl, by show 1 ≤ hd + 1; omega, by show hd + 1 < 1000000; omega, fun s' k hs hk => ?_⟩, v3.cg rfl ?_ ?_, v4, v5, v6⟩, rfl, fun i i1 i2 => ?_⟩, fr1.trans (fr2.trans (fr3.trans (fr4.trans (fr5.trans (fr6.trans fr7)))))⟩
  · rw [uA_n _ _ (by omega), uA_n _ _ (by omega), uA_n _ _ (by omega), uA_n _ _ (by omega), uA_n _ _ (by omega), uA_n _ _ (by omega)]
  · rw [uA_s, uA_s, uA_s, uA_s, uA_s, uA_s]
    show _ = (if s' = hd % 16 then sv_item (f, s, p, nm, mk) r else rg s') k
    by_cases e : s' = hd % 16
    · rw [if_pos e, e]
      rcases (show k = 0 ∨ k = 1 ∨ k = 2 ∨ k = 3 ∨ k = 4 ∨ k = 5 by omega) with rfl | rfl | rfl | rfl | rfl | rfl
      · rw [pk_un (by omega), pk_un (by omega), pk_un (by omega), pk_un (by omega), pk_un (by omega)]
        exact pk_us
      · rw [pk_un (by omega), pk_un (by omega), pk_un (by omega), pk_un (by omega)]
        exact pk_us
      · rw [pk_un (by omega), pk_un (by omega), pk_un (by omega)]
        exact pk_us
      · rw [pk_un (by omega), pk_un (by omega)]
        exact pk_us
      · rw [pk_un (by omega)]
        exact pk_us
      · exact pk_us
    · rw [if_neg e, pk_un (by omega), pk_un (by omega), pk_un (by omega), pk_un (by omega), pk_un (by omega), pk_un (by omega)]
      exact v2.2.2.2 s' k hs hk
  · rw [uA_n _ _ (by decide), uA_n _ _ (by decide), uA_n _ _ (by decide), uA_n _ _ (by decide), uA_n _ _ (by decide), uA_n _ _ (by decide)]
  · rw [uA_n _ _ (by decide), uA_n _ _ (by decide), uA_n _ _ (by decide), uA_n _ _ (by decide), uA_n _ _ (by decide), uA_n _ _ (by decide)]
  · rw [uA_n _ _ (by omega), uA_n _ _ (by omega), uA_n _ _ (by omega), uA_n _ _ (by omega), uA_n _ _ (by omega), uA_n _ _ (by omega)]
end MW
