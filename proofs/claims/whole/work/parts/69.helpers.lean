/-! the law: its state, its helpers (by program: wip/whole/mk69.py) -/
theorem xr_not (i : Nat) {w : Cond} (h : xv_U[i]? = some w) : w ∈ xv_U := List.mem_of_getElem? h
/-- what the law holds: the volume at x, the model behind it, its array of one long behind that, the script -/
def lgs (G : xa_G) (h : xa_H) (x b0 n : Nat) (xs : Nat → Int32) (V : sv_V) (S : Nat → sv_S) (K : Nat → Int32) (A : Nat → Nat → Int32) (f : Nat → Int64) : Prop := vs G h x V S ∧ mo_at G h (x + 20) K A ∧ h (x + 42) = some (.inl (1, (1, .inr (.inl f)))) ∧ h b0 = some (.inl (0, (n, .inl xs))) ∧ b0 < x ∧ G.2.2.1 ≤ x
section LA
variable {G : xa_G} {h h1 : xa_H} {sz x b0 n : Nat} {xs : Nat → Int32} {V : sv_V} {S : Nat → sv_S} {K : Nat → Int32} {A : Nat → Nat → Int32} {f : Nat → Int64}
theorem mo_tag {i : Nat} {g : Nat → Int32} : xt (mo_a i g) = 100 ∨ xt (mo_a i g) = 102 := by
  unfold mo_a
  split
  · exact Or.inr rfl
  · exact Or.inl rfl
/-- a call on the volume leaves the model as it was -/
theorem mo_at.byV (H : mo_at G h (x + 20) K A) (hf : frV x h h1) : mo_at G h1 (x + 20) K A := by
  refine ⟨hf _ _ H.1 (Or.inr ⟨Or.inl (Nat.le_refl _), Or.inl rfl⟩), fun i i1 i2 => hf _ _ (H.2.1 i i1 i2) (Or.inr ⟨Or.inl (by omega), Or.inr ?_⟩), H.2.2⟩
  rcases mo_tag (i := i) (g := A i) with q | q <;> rw [q] <;> omega
/-- a call on the model leaves the volume as it was -/
theorem vs.byM (H : vs G h x V S) (HM : mo_at G h (x + 20) K A) (hf : frM (x + 20) h h1) : vs G h1 x V S := by
  have keep : ∀ b e, h b = some e → (b < x + 20 ∨ (xt e ≠ 9 ∧ xt e ≠ 100 ∧ xt e ≠ 102)) → h1 b = some e := by
    intro b e hb hc
    by_cases q : b < x + 20 ∨ x + 20 + 21 < b
    · rw [hf b q]
      exact hb
    · exfalso
      by_cases q0 : b = x + 20
      · subst q0
        rw [HM.1] at hb
        cases hb
        rcases hc with w | w
        · omega
        · exact w.1 rfl
      · obtain ⟨i, rfl⟩ : ∃ i, b = x + 20 + i := ⟨b - (x + 20), by omega⟩
        have := HM.2.1 i (by omega) (by omega)
        rw [this] at hb
        cases hb
        rcases hc with w | w
        · omega
        · rcases mo_tag (i := i) (g := A i) with u | u
          · exact w.2.1 u
          · exact w.2.2 u
  obtain ⟨ar, cp, h1', ⟨ys, h2⟩, h3, h4, h5, h6, h7⟩ := H
  refine ⟨ar, cp, keep _ _ h1' (Or.inl (by omega)), ⟨ys, h2.kp (fun b e hb hc => keep b e hb (by omega))⟩, h3.kp (fun b e hb hc => keep b e hb (by omega)), h4.kp (fun b e hb hc => keep b e hb (by omega)), h5.kp (fun b e hb hc => keep b e hb (by omega)), fun s hs => (h6 s hs).kp (fun b e hb hc => keep b e hb (by omega)), h7⟩
theorem lgs.byV {V' : sv_V} {S' : Nat → sv_S} (H : lgs G h x b0 n xs V S K A f) (hv : vs G h1 x V' S') (hf : frV x h h1) : lgs G h1 x b0 n xs V' S' K A f :=
  ⟨hv, H.2.1.byV hf, hf _ _ H.2.2.1 (Or.inr ⟨Or.inl (by omega), Or.inr ⟨(by decide : (100 : Nat) ≤ 101), (by decide : (101 : Nat) ≤ 102)⟩⟩), hf _ _ H.2.2.2.1 (Or.inr ⟨Or.inr H.2.2.2.2.1, Or.inr ⟨(by decide : (100 : Nat) ≤ 100), (by decide : (100 : Nat) ≤ 102)⟩⟩), H.2.2.2.2⟩
theorem lgs.byM {K' : Nat → Int32} {A' : Nat → Nat → Int32} (H : lgs G h x b0 n xs V S K A f) (hm : mo_at G h1 (x + 20) K' A') (hf : frM (x + 20) h h1) : lgs G h1 x b0 n xs V S K' A' f :=
  ⟨H.1.byM H.2.1 hf, hm, (hf _ (Or.inr (by omega))).trans H.2.2.1, (hf _ (Or.inl (by have := H.2.2.2.2.1; omega))).trans H.2.2.2.1, H.2.2.2.2⟩
theorem lgs.byW {g : Nat → Int64} (H : lgs G h x b0 n xs V S K A f) : lgs G (xa_up h (x + 42) (.inl (1, (1, .inr (.inl g))))) x b0 n xs V S K A g := by
  have keep : ∀ b e, h b = some e → xt e ≠ 101 → xa_up h (x + 42) (.inl (1, (1, .inr (.inl g)))) b = some e := by
    intro b e hb hc
    refine (xa_up_ne h _ (fun q => ?_)).trans hb
    rw [q, H.2.2.1] at hb
    cases hb
    exact hc rfl
  obtain ⟨⟨ar, cp, h1', ⟨ys, h2⟩, h3, h4, h5, h6, h7⟩, HM, h8, h9, h10⟩ := H
  refine ⟨⟨ar, cp, keep _ _ h1' (by simp [xt]), ⟨ys, h2.kp (fun b e hb hc => keep b e hb (by omega))⟩, h3.kp (fun b e hb hc => keep b e hb (by omega)), h4.kp (fun b e hb hc => keep b e hb (by omega)), h5.kp (fun b e hb hc => keep b e hb (by omega)), fun s hs => (h6 s hs).kp (fun b e hb hc => keep b e hb (by omega)), h7⟩, ⟨keep _ _ HM.1 (by simp [xt]), fun i i1 i2 => keep _ _ (HM.2.1 i i1 i2) ?_, HM.2.2⟩, xa_up_eq _ _ _, keep _ _ h9 (by simp [xt]), h10⟩
  rcases mo_tag (i := i) (g := A i) with q | q <;> rw [q] <;> decide
/-- a helper ends: the code; where it is 0, the answer lies in the array of one long -/
def lqv (G : xa_G) (x b0 n : Nat) (xs : Nat → Int32) (K : Nat → Int32) (A : Nat → Nat → Int32) (c : Nat) (V : sv_V) (S : Nat → sv_S) : Outcome → xa_H → Nat → Prop := fun o h' _ => o = .returned (some (.int (nI c))) ∧ ∃ f, lgs G h' x b0 n xs V S K A f
def lq (G : xa_G) (x b0 n : Nat) (xs : Nat → Int32) (K : Nat → Int32) (A : Nat → Nat → Int32) (c : Nat) (v : Int64) (V : sv_V) (S : Nat → sv_S) : Outcome → xa_H → Nat → Prop := fun o h' _ => o = .returned (some (.int (nI c))) ∧ ∃ f, lgs G h' x b0 n xs V S K A f ∧ (c = 0 → f 0 = v)
theorem lc_make {a1 fl a3 : Int32} : (sv_mk V a1 fl a3).1 ≤ 4 := by
  have h1 := cd_fold_034 (sv_fs V) a1
  have h2 := cd_free_04 (sv_fs V) a1 a3 (-1)
  unfold sv_mk
  split
  · split <;> exact Nat.zero_le _
  · show mkc V a1 a3 ≤ 4
    unfold mkc
    repeat' split
    all_goals omega
theorem lc_change {a1 : Int32} : (sv_chn V a1).1 ≤ 3 := by
  unfold sv_chn
  repeat' split
  all_goals (first | exact Nat.zero_le _ | exact Nat.le_refl _ | (show (1 : Nat) ≤ _; decide) | (show (2 : Nat) ≤ _; decide) | (show (3 : Nat) ≤ _; decide))
theorem lc_rename {a1 a2 a3 : Int32} : (sv_ren V a1 a2 a3).1 ≤ 4 := by
  have h1 := cd_fold_034 (sv_fs V) a2
  have h2 := cd_free_04 (sv_fs V) a2 a3 a1
  unfold sv_ren
  split
  · split <;> exact Nat.zero_le _
  · show rnc V a1 a2 a3 ≤ 4
    unfold rnc
    repeat' split
    all_goals omega
theorem lc_remove {a1 : Int32} : (sv_rem V a1).1 ≤ 3 := by
  unfold sv_rem
  repeat' split
  all_goals (first | exact Nat.zero_le _ | exact Nat.le_refl _ | (show (1 : Nat) ≤ _; decide) | (show (2 : Nat) ≤ _; decide) | (show (3 : Nat) ≤ _; decide))
theorem lc_close {a1 : Int32} : (sv_cls V a1).1 ≤ 2 := by
  unfold sv_cls
  repeat' split
  all_goals (first | exact Nat.zero_le _ | exact Nat.le_refl _ | (show (1 : Nat) ≤ _; decide) | (show (2 : Nat) ≤ _; decide) | (show (3 : Nat) ≤ _; decide))
theorem lc_of {a1 a2 : Int32} : (sv_of V a1 a2).1 ≤ 2 := by
  unfold sv_of
  repeat' split
  all_goals (first | exact Nat.zero_le _ | exact Nat.le_refl _ | (show (1 : Nat) ≤ _; decide) | (show (2 : Nat) ≤ _; decide) | (show (3 : Nat) ≤ _; decide))
theorem lc_note {a1 a2 : Int32} : (sv_nte V a1 a2).1 ≤ 2 := by
  unfold sv_nte
  repeat' split
  all_goals (first | exact Nat.zero_le _ | exact Nat.le_refl _ | (show (1 : Nat) ≤ _; decide) | (show (2 : Nat) ≤ _; decide) | (show (3 : Nat) ≤ _; decide))
theorem lc_subscribe {a1 a2 : Int32} : (sw_subscribe V S a1 a2).1 ≤ 2 := by
  unfold sw_subscribe
  repeat' split
  all_goals (first | exact Nat.zero_le _ | exact Nat.le_refl _ | (show (1 : Nat) ≤ _; decide) | (show (2 : Nat) ≤ _; decide) | (show (3 : Nat) ≤ _; decide))
theorem lc_cursor {a1 : Int32} : (sw_cursor S a1).1 ≤ 1 := by
  unfold sw_cursor
  repeat' split
  all_goals (first | exact Nat.zero_le _ | exact Nat.le_refl _ | (show (1 : Nat) ≤ _; decide) | (show (2 : Nat) ≤ _; decide) | (show (3 : Nat) ≤ _; decide))
theorem lc_read {a1 : Int32} : (sw_read V S a1).1 ≤ 1 := by
  unfold sw_read
  repeat' split
  all_goals (first | exact Nat.zero_le _ | exact Nat.le_refl _ | (show (1 : Nat) ≤ _; decide) | (show (2 : Nat) ≤ _; decide) | (show (3 : Nat) ≤ _; decide))
theorem lc_list {a1 : Int32} : (sw_list V S a1).1 ≤ 1 := by
  unfold sw_list
  repeat' split
  all_goals (first | exact Nat.zero_le _ | exact Nat.le_refl _ | (show (1 : Nat) ≤ _; decide) | (show (2 : Nat) ≤ _; decide) | (show (3 : Nat) ≤ _; decide))
theorem lc_page {a1 : Int32} : (sw_page V S a1).1 ≤ 2 := by
  unfold sw_page
  repeat' split
  all_goals (first | exact Nat.zero_le _ | exact Nat.le_refl _ | (show (1 : Nat) ≤ _; decide) | (show (2 : Nat) ≤ _; decide) | (show (3 : Nat) ≤ _; decide))
theorem lc_shown {a1 a2 : Int32} : (sw_shown S a1 a2).1 ≤ 1 := by
  unfold sw_shown
  repeat' split
  all_goals (first | exact Nat.zero_le _ | exact Nat.le_refl _ | (show (1 : Nat) ≤ _; decide) | (show (2 : Nat) ≤ _; decide) | (show (3 : Nat) ≤ _; decide))
theorem lc_follow {a1 a2 : Int32} : (sw_follow V S a1 a2).1 ≤ 2 := by
  unfold sw_follow
  repeat' split
  all_goals (first | exact Nat.zero_le _ | exact Nat.le_refl _ | (show (1 : Nat) ≤ _; decide) | (show (2 : Nat) ≤ _; decide) | (show (3 : Nat) ≤ _; decide))
theorem lc_copied {a1 a2 a3 : Int32} : (sw_copied S a1 a2 a3).1 ≤ 2 := by
  unfold sw_copied
  repeat' split
  all_goals (first | exact Nat.zero_le _ | exact Nat.le_refl _ | (show (1 : Nat) ≤ _; decide) | (show (2 : Nat) ≤ _; decide) | (show (3 : Nat) ≤ _; decide))
theorem lc_inStep {a1 : Int32} : (sw_step V S a1).1 ≤ 1 := by
  unfold sw_step
  repeat' split
  all_goals (first | exact Nat.zero_le _ | exact Nat.le_refl _ | (show (1 : Nat) ≤ _; decide) | (show (2 : Nat) ≤ _; decide) | (show (3 : Nat) ≤ _; decide))
theorem lc_cutAfter {a1 : Int32} : (sv_cut V a1).1 ≤ 1 := by
  unfold sv_cut
  repeat' split
  all_goals (first | exact Nat.zero_le _ | exact Nat.le_refl _ | (show (1 : Nat) ≤ _; decide) | (show (2 : Nat) ≤ _; decide) | (show (3 : Nat) ≤ _; decide))
theorem ct_L_make {a1 a2 a3 : Int32} {fl : Int32} (hfl : fl = if a2 = 0 then 0 else 1) (H : lgs G h x b0 n xs V S K A f) (hh : sv_hd V < 700000) (hg : (sv_gs V).length ≤ 14) : xa_T G mm_L_make 13 200 4000 [.ref x, .int a1, .int a2, .int a3, .ref (x + 42)] h sz (lq G x b0 n xs K A (sv_mk V a1 fl a3).1 (sv_mk V a1 fl a3).2.1.toInt64 (sv_mk V a1 fl a3).2.2 S) := by
  refine xt_o ok_L_make rfl rfl ?_
  refine xw_aloadR dd_L_make_0 rfl ?_
  refine xw_iconst 0 dd_L_make_2 (by decide) ?_
  refine xw_aloadR_n dd_L_make_3 rfl ?_
  refine xw_iload_n dd_L_make_4 rfl ?_
  refine xw_iload_n dd_L_make_5 rfl ?_
  refine xw_iload_n dd_L_make_6 rfl ?_
  refine xw_less (kc' := 0 + 200) (ks' := 0 + 4000) (by decide) (by decide) ?_
  refine xw_cl (ct_V_make hfl H.1 (by omega) (by omega)) (iv_L_make_7 H.1.cell) ok_V_make rfl rfl rfl (fun v h1 z1 q => ?_) (fun a h1 z1 q => ?_)
  · obtain ⟨q1, q2, q3⟩ := q
    by_cases hc : (sv_mk V a1 fl a3).1 = 0
    · rw [if_pos hc] at q3
      cases q3
      have H1 := H.byV q1 q2
      refine xw_i2l dd_L_make_10 ?_
      refine xw_last dd_L_make_11 H1.2.2.1 (vp_in_nI (n := 0) (by decide) (by decide)) (by have := H1.2.2.2.2.2; omega) ?_
      refine xw_goto 31 dd_L_make_12 (by decide) ?_
      refine xw_iconst 0 dd_L_make_31 (by decide) ?_
      exact xw_iret dd_L_make_32 rfl ⟨by rw [hc]; rfl, _, H1.byW, fun _ => pk_uLs⟩
    · rw [if_neg hc] at q3
      obtain ⟨_, w, _⟩ := q3
      cases w
  · obtain ⟨q1, q2, q3⟩ := q
    by_cases hc : (sv_mk V a1 fl a3).1 = 0
    · rw [if_pos hc] at q3
      cases q3
    · rw [if_neg hc] at q3
      obtain ⟨a', w, q3⟩ := q3
      cases w
      have H1 := H.byV q1 q2
      have hle := lc_make (V := V) (a1 := a1) (a3 := a3) (fl := fl)
      rcases (show (sv_mk V a1 fl a3).1 = 1 ∨ (sv_mk V a1 fl a3).1 = 2 ∨ (sv_mk V a1 fl a3).1 = 3 ∨ (sv_mk V a1 fl a3).1 = 4 by omega) with e | e | e | e
      · rw [e] at q3
        have q3 : h1 a = some (.inr (10, [])) := q3
        refine xx_catch (ci := 10) [] (0, 12, 15, 13) [(0, 12, 19, 15), (0, 12, 23, 17), (0, 12, 27, 19)] rfl q3 rfl (fun _ hy => absurd hy List.not_mem_nil) ⟨by decide, by decide, by decide, _, cl_L_13, xr_not 3 rfl⟩ ?_
        refine xw_astoreR dd_L_make_15 (by decide) ?_
        refine xw_iconst 1 dd_L_make_17 (by decide) ?_
        exact xw_iret dd_L_make_18 rfl ⟨by rw [e]; rfl, _, H1, fun w => absurd w hc⟩
      · rw [e] at q3
        have q3 : h1 a = some (.inr (11, [])) := q3
        refine xx_catch (ci := 11) [(0, 12, 15, 13)] (0, 12, 19, 15) [(0, 12, 23, 17), (0, 12, 27, 19)] rfl q3 rfl (List.forall_mem_cons.mpr ⟨⟨by decide, by decide, by decide, _, cl_L_13, xr_not 23 rfl⟩, (fun _ hy => absurd hy List.not_mem_nil)⟩) ⟨by decide, by decide, by decide, _, cl_L_15, xr_not 4 rfl⟩ ?_
        refine xw_astoreR dd_L_make_19 (by decide) ?_
        refine xw_iconst 2 dd_L_make_21 (by decide) ?_
        exact xw_iret dd_L_make_22 rfl ⟨by rw [e]; rfl, _, H1, fun w => absurd w hc⟩
      · rw [e] at q3
        have q3 : h1 a = some (.inr (12, [])) := q3
        refine xx_catch (ci := 12) [(0, 12, 15, 13), (0, 12, 19, 15)] (0, 12, 23, 17) [(0, 12, 27, 19)] rfl q3 rfl (List.forall_mem_cons.mpr ⟨⟨by decide, by decide, by decide, _, cl_L_13, xr_not 27 rfl⟩, (List.forall_mem_cons.mpr ⟨⟨by decide, by decide, by decide, _, cl_L_15, xr_not 28 rfl⟩, (fun _ hy => absurd hy List.not_mem_nil)⟩)⟩) ⟨by decide, by decide, by decide, _, cl_L_17, xr_not 5 rfl⟩ ?_
        refine xw_astoreR dd_L_make_23 (by decide) ?_
        refine xw_iconst 3 dd_L_make_25 (by decide) ?_
        exact xw_iret dd_L_make_26 rfl ⟨by rw [e]; rfl, _, H1, fun w => absurd w hc⟩
      · rw [e] at q3
        have q3 : h1 a = some (.inr (13, [])) := q3
        refine xx_catch (ci := 13) [(0, 12, 15, 13), (0, 12, 19, 15), (0, 12, 23, 17)] (0, 12, 27, 19) [] rfl q3 rfl (List.forall_mem_cons.mpr ⟨⟨by decide, by decide, by decide, _, cl_L_13, xr_not 31 rfl⟩, (List.forall_mem_cons.mpr ⟨⟨by decide, by decide, by decide, _, cl_L_15, xr_not 32 rfl⟩, (List.forall_mem_cons.mpr ⟨⟨by decide, by decide, by decide, _, cl_L_17, xr_not 33 rfl⟩, (fun _ hy => absurd hy List.not_mem_nil)⟩)⟩)⟩) ⟨by decide, by decide, by decide, _, cl_L_19, xr_not 6 rfl⟩ ?_
        refine xw_astoreR dd_L_make_27 (by decide) ?_
        refine xw_iconst 4 dd_L_make_29 (by decide) ?_
        exact xw_iret dd_L_make_30 rfl ⟨by rw [e]; rfl, _, H1, fun w => absurd w hc⟩
theorem ct_L_change {a1 : Int32} (H : lgs G h x b0 n xs V S K A f) (hh : sv_hd V < 700000) (hg : (sv_gs V).length ≤ 14) : xa_T G mm_L_change 13 200 4000 [.ref x, .int a1, .ref (x + 42)] h sz (lq G x b0 n xs K A (sv_chn V a1).1 (sv_chn V a1).2.1.toInt64 (sv_chn V a1).2.2 S) := by
  refine xt_o ok_L_change rfl rfl ?_
  refine xw_aloadR_n dd_L_change_0 rfl ?_
  refine xw_iconst 0 dd_L_change_1 (by decide) ?_
  refine xw_aloadR_n dd_L_change_2 rfl ?_
  refine xw_iload_n dd_L_change_3 rfl ?_
  refine xw_less (kc' := 0 + 200) (ks' := 0 + 4000) (by decide) (by decide) ?_
  refine xw_cl (ct_V_change H.1 (by omega) (by omega)) (iv_L_change_4 H.1.cell) ok_V_change rfl rfl rfl (fun v h1 z1 q => ?_) (fun a h1 z1 q => ?_)
  · obtain ⟨q1, q2, q3⟩ := q
    by_cases hc : (sv_chn V a1).1 = 0
    · rw [if_pos hc] at q3
      cases q3
      have H1 := H.byV q1 q2
      refine xw_i2l dd_L_change_7 ?_
      refine xw_last dd_L_change_8 H1.2.2.1 (vp_in_nI (n := 0) (by decide) (by decide)) (by have := H1.2.2.2.2.2; omega) ?_
      refine xw_goto 21 dd_L_change_9 (by decide) ?_
      refine xw_iconst 0 dd_L_change_21 (by decide) ?_
      exact xw_iret dd_L_change_22 rfl ⟨by rw [hc]; rfl, _, H1.byW, fun _ => pk_uLs⟩
    · rw [if_neg hc] at q3
      obtain ⟨_, w, _⟩ := q3
      cases w
  · obtain ⟨q1, q2, q3⟩ := q
    by_cases hc : (sv_chn V a1).1 = 0
    · rw [if_pos hc] at q3
      cases q3
    · rw [if_neg hc] at q3
      obtain ⟨a', w, q3⟩ := q3
      cases w
      have H1 := H.byV q1 q2
      have hle := lc_change (V := V) (a1 := a1)
      rcases (show (sv_chn V a1).1 = 1 ∨ (sv_chn V a1).1 = 2 ∨ (sv_chn V a1).1 = 3 by omega) with e | e | e
      · rw [e] at q3
        have q3 : h1 a = some (.inr (10, [])) := q3
        refine xx_catch (ci := 10) [] (0, 9, 12, 13) [(0, 9, 15, 17), (0, 9, 18, 19)] rfl q3 rfl (fun _ hy => absurd hy List.not_mem_nil) ⟨by decide, by decide, by decide, _, cl_L_13, xr_not 3 rfl⟩ ?_
        refine xw_astoreR_n dd_L_change_12 (by decide) ?_
        refine xw_iconst 1 dd_L_change_13 (by decide) ?_
        exact xw_iret dd_L_change_14 rfl ⟨by rw [e]; rfl, _, H1, fun w => absurd w hc⟩
      · rw [e] at q3
        have q3 : h1 a = some (.inr (12, [])) := q3
        refine xx_catch (ci := 12) [(0, 9, 12, 13)] (0, 9, 15, 17) [(0, 9, 18, 19)] rfl q3 rfl (List.forall_mem_cons.mpr ⟨⟨by decide, by decide, by decide, _, cl_L_13, xr_not 27 rfl⟩, (fun _ hy => absurd hy List.not_mem_nil)⟩) ⟨by decide, by decide, by decide, _, cl_L_17, xr_not 5 rfl⟩ ?_
        refine xw_astoreR_n dd_L_change_15 (by decide) ?_
        refine xw_iconst 2 dd_L_change_16 (by decide) ?_
        exact xw_iret dd_L_change_17 rfl ⟨by rw [e]; rfl, _, H1, fun w => absurd w hc⟩
      · rw [e] at q3
        have q3 : h1 a = some (.inr (13, [])) := q3
        refine xx_catch (ci := 13) [(0, 9, 12, 13), (0, 9, 15, 17)] (0, 9, 18, 19) [] rfl q3 rfl (List.forall_mem_cons.mpr ⟨⟨by decide, by decide, by decide, _, cl_L_13, xr_not 31 rfl⟩, (List.forall_mem_cons.mpr ⟨⟨by decide, by decide, by decide, _, cl_L_17, xr_not 33 rfl⟩, (fun _ hy => absurd hy List.not_mem_nil)⟩)⟩) ⟨by decide, by decide, by decide, _, cl_L_19, xr_not 6 rfl⟩ ?_
        refine xw_astoreR_n dd_L_change_18 (by decide) ?_
        refine xw_iconst 3 dd_L_change_19 (by decide) ?_
        exact xw_iret dd_L_change_20 rfl ⟨by rw [e]; rfl, _, H1, fun w => absurd w hc⟩
theorem ct_L_rename {a1 a2 a3 : Int32} (H : lgs G h x b0 n xs V S K A f) (hh : sv_hd V < 700000) (hg : (sv_gs V).length ≤ 14) : xa_T G mm_L_rename 13 200 4000 [.ref x, .int a1, .int a2, .int a3, .ref (x + 42)] h sz (lq G x b0 n xs K A (sv_ren V a1 a2 a3).1 (if (sv_ren V a1 a2 a3).2.1 = 0 then 0 else 1) (sv_ren V a1 a2 a3).2.2 S) := by
  refine xt_o ok_L_rename rfl rfl ?_
  refine xw_aloadR dd_L_rename_0 rfl ?_
  refine xw_iconst 0 dd_L_rename_2 (by decide) ?_
  refine xw_aloadR_n dd_L_rename_3 rfl ?_
  refine xw_iload_n dd_L_rename_4 rfl ?_
  refine xw_iload_n dd_L_rename_5 rfl ?_
  refine xw_iload_n dd_L_rename_6 rfl ?_
  refine xw_less (kc' := 0 + 200) (ks' := 0 + 4000) (by decide) (by decide) ?_
  refine xw_cl (ct_V_rename H.1 hh hg) (iv_L_rename_7 H.1.cell) ok_V_rename rfl rfl rfl (fun v h1 z1 q => ?_) (fun a h1 z1 q => ?_)
  · obtain ⟨q1, q2, q3⟩ := q
    by_cases hc : (sv_ren V a1 a2 a3).1 = 0
    · rw [if_pos hc] at q3
      cases q3
      have H1 := H.byV q1 q2
      have fin : ∀ w : Int64, w = (if (sv_ren V a1 a2 a3).2.1 = 0 then 0 else 1) → xa_W G mm_L_rename 13 0 0 18 ([.ref x, .int a1, .int a2, .int a3, .ref (x + 42)].map some ++ [none]) [.long w, .int 0, .ref (x + 42)] h1 z1 (lq G x b0 n xs K A (sv_ren V a1 a2 a3).1 (if (sv_ren V a1 a2 a3).2.1 = 0 then 0 else 1) (sv_ren V a1 a2 a3).2.2 S) := by
        intro w hw
        refine xw_last dd_L_rename_18 H1.2.2.1 (vp_in_nI (n := 0) (by decide) (by decide)) (by have := H1.2.2.2.2.2; omega) ?_
        refine xw_goto 38 dd_L_rename_19 (by decide) ?_
        refine xw_iconst 0 dd_L_rename_38 (by decide) ?_
        refine xw_iret dd_L_rename_39 rfl ⟨by rw [hc]; rfl, _, H1.byW, fun _ => ?_⟩
        rw [← hw]
        exact pk_uLs
      refine xw_if_eq 17 dd_L_rename_10 (by decide) (fun hz => ?_) (fun hz => ?_)
      · refine xw_lconst 0 dd_L_rename_17 (by decide) ?_
        exact fin 0 (by rw [if_pos hz])
      · refine xw_lconst 1 dd_L_rename_13 (by decide) ?_
        refine xw_goto 18 dd_L_rename_14 (by decide) ?_
        exact fin 1 (by rw [if_neg hz])
    · rw [if_neg hc] at q3
      obtain ⟨_, w, _⟩ := q3
      cases w
  · obtain ⟨q1, q2, q3⟩ := q
    by_cases hc : (sv_ren V a1 a2 a3).1 = 0
    · rw [if_pos hc] at q3
      cases q3
    · rw [if_neg hc] at q3
      obtain ⟨a', w, q3⟩ := q3
      cases w
      have H1 := H.byV q1 q2
      have hle := lc_rename (V := V) (a1 := a1) (a2 := a2) (a3 := a3)
      rcases (show (sv_ren V a1 a2 a3).1 = 1 ∨ (sv_ren V a1 a2 a3).1 = 2 ∨ (sv_ren V a1 a2 a3).1 = 3 ∨ (sv_ren V a1 a2 a3).1 = 4 by omega) with e | e | e | e
      · rw [e] at q3
        have q3 : h1 a = some (.inr (10, [])) := q3
        refine xx_catch (ci := 10) [] (0, 19, 22, 13) [(0, 19, 26, 15), (0, 19, 30, 17), (0, 19, 34, 19)] rfl q3 rfl (fun _ hy => absurd hy List.not_mem_nil) ⟨by decide, by decide, by decide, _, cl_L_13, xr_not 3 rfl⟩ ?_
        refine xw_astoreR dd_L_rename_22 (by decide) ?_
        refine xw_iconst 1 dd_L_rename_24 (by decide) ?_
        exact xw_iret dd_L_rename_25 rfl ⟨by rw [e]; rfl, _, H1, fun w => absurd w hc⟩
      · rw [e] at q3
        have q3 : h1 a = some (.inr (11, [])) := q3
        refine xx_catch (ci := 11) [(0, 19, 22, 13)] (0, 19, 26, 15) [(0, 19, 30, 17), (0, 19, 34, 19)] rfl q3 rfl (List.forall_mem_cons.mpr ⟨⟨by decide, by decide, by decide, _, cl_L_13, xr_not 23 rfl⟩, (fun _ hy => absurd hy List.not_mem_nil)⟩) ⟨by decide, by decide, by decide, _, cl_L_15, xr_not 4 rfl⟩ ?_
        refine xw_astoreR dd_L_rename_26 (by decide) ?_
        refine xw_iconst 2 dd_L_rename_28 (by decide) ?_
        exact xw_iret dd_L_rename_29 rfl ⟨by rw [e]; rfl, _, H1, fun w => absurd w hc⟩
      · rw [e] at q3
        have q3 : h1 a = some (.inr (12, [])) := q3
        refine xx_catch (ci := 12) [(0, 19, 22, 13), (0, 19, 26, 15)] (0, 19, 30, 17) [(0, 19, 34, 19)] rfl q3 rfl (List.forall_mem_cons.mpr ⟨⟨by decide, by decide, by decide, _, cl_L_13, xr_not 27 rfl⟩, (List.forall_mem_cons.mpr ⟨⟨by decide, by decide, by decide, _, cl_L_15, xr_not 28 rfl⟩, (fun _ hy => absurd hy List.not_mem_nil)⟩)⟩) ⟨by decide, by decide, by decide, _, cl_L_17, xr_not 5 rfl⟩ ?_
        refine xw_astoreR dd_L_rename_30 (by decide) ?_
        refine xw_iconst 3 dd_L_rename_32 (by decide) ?_
        exact xw_iret dd_L_rename_33 rfl ⟨by rw [e]; rfl, _, H1, fun w => absurd w hc⟩
      · rw [e] at q3
        have q3 : h1 a = some (.inr (13, [])) := q3
        refine xx_catch (ci := 13) [(0, 19, 22, 13), (0, 19, 26, 15), (0, 19, 30, 17)] (0, 19, 34, 19) [] rfl q3 rfl (List.forall_mem_cons.mpr ⟨⟨by decide, by decide, by decide, _, cl_L_13, xr_not 31 rfl⟩, (List.forall_mem_cons.mpr ⟨⟨by decide, by decide, by decide, _, cl_L_15, xr_not 32 rfl⟩, (List.forall_mem_cons.mpr ⟨⟨by decide, by decide, by decide, _, cl_L_17, xr_not 33 rfl⟩, (fun _ hy => absurd hy List.not_mem_nil)⟩)⟩)⟩) ⟨by decide, by decide, by decide, _, cl_L_19, xr_not 6 rfl⟩ ?_
        refine xw_astoreR dd_L_rename_34 (by decide) ?_
        refine xw_iconst 4 dd_L_rename_36 (by decide) ?_
        exact xw_iret dd_L_rename_37 rfl ⟨by rw [e]; rfl, _, H1, fun w => absurd w hc⟩
theorem ct_L_remove {a1 : Int32} (H : lgs G h x b0 n xs V S K A f) (hh : sv_hd V < 700000) (hg : (sv_gs V).length ≤ 14) : xa_T G mm_L_remove 13 200 4000 [.ref x, .int a1, .ref (x + 42)] h sz (lq G x b0 n xs K A (sv_rem V a1).1 (if (sv_rem V a1).2.1 = 0 then 0 else 1) (sv_rem V a1).2.2 S) := by
  refine xt_o ok_L_remove rfl rfl ?_
  refine xw_aloadR_n dd_L_remove_0 rfl ?_
  refine xw_iconst 0 dd_L_remove_1 (by decide) ?_
  refine xw_aloadR_n dd_L_remove_2 rfl ?_
  refine xw_iload_n dd_L_remove_3 rfl ?_
  refine xw_less (kc' := 0 + 200) (ks' := 0 + 4000) (by decide) (by decide) ?_
  refine xw_cl (ct_V_remove H.1 (by omega) (by omega)) (iv_L_remove_4 H.1.cell) ok_V_remove rfl rfl rfl (fun v h1 z1 q => ?_) (fun a h1 z1 q => ?_)
  · obtain ⟨q1, q2, q3⟩ := q
    by_cases hc : (sv_rem V a1).1 = 0
    · rw [if_pos hc] at q3
      cases q3
      have H1 := H.byV q1 q2
      have fin : ∀ w : Int64, w = (if (sv_rem V a1).2.1 = 0 then 0 else 1) → xa_W G mm_L_remove 13 0 0 15 ([.ref x, .int a1, .ref (x + 42)].map some ++ [none]) [.long w, .int 0, .ref (x + 42)] h1 z1 (lq G x b0 n xs K A (sv_rem V a1).1 (if (sv_rem V a1).2.1 = 0 then 0 else 1) (sv_rem V a1).2.2 S) := by
        intro w hw
        refine xw_last dd_L_remove_15 H1.2.2.1 (vp_in_nI (n := 0) (by decide) (by decide)) (by have := H1.2.2.2.2.2; omega) ?_
        refine xw_goto 28 dd_L_remove_16 (by decide) ?_
        refine xw_iconst 0 dd_L_remove_28 (by decide) ?_
        refine xw_iret dd_L_remove_29 rfl ⟨by rw [hc]; rfl, _, H1.byW, fun _ => ?_⟩
        rw [← hw]
        exact pk_uLs
      refine xw_if_eq 14 dd_L_remove_7 (by decide) (fun hz => ?_) (fun hz => ?_)
      · refine xw_lconst 0 dd_L_remove_14 (by decide) ?_
        exact fin 0 (by rw [if_pos hz])
      · refine xw_lconst 1 dd_L_remove_10 (by decide) ?_
        refine xw_goto 15 dd_L_remove_11 (by decide) ?_
        exact fin 1 (by rw [if_neg hz])
    · rw [if_neg hc] at q3
      obtain ⟨_, w, _⟩ := q3
      cases w
  · obtain ⟨q1, q2, q3⟩ := q
    by_cases hc : (sv_rem V a1).1 = 0
    · rw [if_pos hc] at q3
      cases q3
    · rw [if_neg hc] at q3
      obtain ⟨a', w, q3⟩ := q3
      cases w
      have H1 := H.byV q1 q2
      have hle := lc_remove (V := V) (a1 := a1)
      rcases (show (sv_rem V a1).1 = 1 ∨ (sv_rem V a1).1 = 2 ∨ (sv_rem V a1).1 = 3 by omega) with e | e | e
      · rw [e] at q3
        have q3 : h1 a = some (.inr (10, [])) := q3
        refine xx_catch (ci := 10) [] (0, 16, 19, 13) [(0, 16, 22, 17), (0, 16, 25, 19)] rfl q3 rfl (fun _ hy => absurd hy List.not_mem_nil) ⟨by decide, by decide, by decide, _, cl_L_13, xr_not 3 rfl⟩ ?_
        refine xw_astoreR_n dd_L_remove_19 (by decide) ?_
        refine xw_iconst 1 dd_L_remove_20 (by decide) ?_
        exact xw_iret dd_L_remove_21 rfl ⟨by rw [e]; rfl, _, H1, fun w => absurd w hc⟩
      · rw [e] at q3
        have q3 : h1 a = some (.inr (12, [])) := q3
        refine xx_catch (ci := 12) [(0, 16, 19, 13)] (0, 16, 22, 17) [(0, 16, 25, 19)] rfl q3 rfl (List.forall_mem_cons.mpr ⟨⟨by decide, by decide, by decide, _, cl_L_13, xr_not 27 rfl⟩, (fun _ hy => absurd hy List.not_mem_nil)⟩) ⟨by decide, by decide, by decide, _, cl_L_17, xr_not 5 rfl⟩ ?_
        refine xw_astoreR_n dd_L_remove_22 (by decide) ?_
        refine xw_iconst 2 dd_L_remove_23 (by decide) ?_
        exact xw_iret dd_L_remove_24 rfl ⟨by rw [e]; rfl, _, H1, fun w => absurd w hc⟩
      · rw [e] at q3
        have q3 : h1 a = some (.inr (13, [])) := q3
        refine xx_catch (ci := 13) [(0, 16, 19, 13), (0, 16, 22, 17)] (0, 16, 25, 19) [] rfl q3 rfl (List.forall_mem_cons.mpr ⟨⟨by decide, by decide, by decide, _, cl_L_13, xr_not 31 rfl⟩, (List.forall_mem_cons.mpr ⟨⟨by decide, by decide, by decide, _, cl_L_17, xr_not 33 rfl⟩, (fun _ hy => absurd hy List.not_mem_nil)⟩)⟩) ⟨by decide, by decide, by decide, _, cl_L_19, xr_not 6 rfl⟩ ?_
        refine xw_astoreR_n dd_L_remove_25 (by decide) ?_
        refine xw_iconst 3 dd_L_remove_26 (by decide) ?_
        exact xw_iret dd_L_remove_27 rfl ⟨by rw [e]; rfl, _, H1, fun w => absurd w hc⟩
theorem ct_L_close {a1 : Int32} (H : lgs G h x b0 n xs V S K A f) (hh : sv_hd V < 700000) (hg : (sv_gs V).length ≤ 14) : xa_T G mm_L_close 13 200 4000 [.ref x, .int a1, .ref (x + 42)] h sz (lq G x b0 n xs K A (sv_cls V a1).1 (if (sv_cls V a1).2.1 = 0 then 0 else 1) (sv_cls V a1).2.2 S) := by
  refine xt_o ok_L_close rfl rfl ?_
  refine xw_aloadR_n dd_L_close_0 rfl ?_
  refine xw_iconst 0 dd_L_close_1 (by decide) ?_
  refine xw_aloadR_n dd_L_close_2 rfl ?_
  refine xw_iload_n dd_L_close_3 rfl ?_
  refine xw_less (kc' := 0 + 200) (ks' := 0 + 4000) (by decide) (by decide) ?_
  refine xw_cl (ct_V_close H.1 (by omega)) (iv_L_close_4 H.1.cell) ok_V_close rfl rfl rfl (fun v h1 z1 q => ?_) (fun a h1 z1 q => ?_)
  · obtain ⟨q1, q2, q3⟩ := q
    by_cases hc : (sv_cls V a1).1 = 0
    · rw [if_pos hc] at q3
      cases q3
      have H1 := H.byV q1 q2
      have fin : ∀ w : Int64, w = (if (sv_cls V a1).2.1 = 0 then 0 else 1) → xa_W G mm_L_close 13 0 0 15 ([.ref x, .int a1, .ref (x + 42)].map some ++ [none]) [.long w, .int 0, .ref (x + 42)] h1 z1 (lq G x b0 n xs K A (sv_cls V a1).1 (if (sv_cls V a1).2.1 = 0 then 0 else 1) (sv_cls V a1).2.2 S) := by
        intro w hw
        refine xw_last dd_L_close_15 H1.2.2.1 (vp_in_nI (n := 0) (by decide) (by decide)) (by have := H1.2.2.2.2.2; omega) ?_
        refine xw_goto 25 dd_L_close_16 (by decide) ?_
        refine xw_iconst 0 dd_L_close_25 (by decide) ?_
        refine xw_iret dd_L_close_26 rfl ⟨by rw [hc]; rfl, _, H1.byW, fun _ => ?_⟩
        rw [← hw]
        exact pk_uLs
      refine xw_if_eq 14 dd_L_close_7 (by decide) (fun hz => ?_) (fun hz => ?_)
      · refine xw_lconst 0 dd_L_close_14 (by decide) ?_
        exact fin 0 (by rw [if_pos hz])
      · refine xw_lconst 1 dd_L_close_10 (by decide) ?_
        refine xw_goto 15 dd_L_close_11 (by decide) ?_
        exact fin 1 (by rw [if_neg hz])
    · rw [if_neg hc] at q3
      obtain ⟨_, w, _⟩ := q3
      cases w
  · obtain ⟨q1, q2, q3⟩ := q
    by_cases hc : (sv_cls V a1).1 = 0
    · rw [if_pos hc] at q3
      cases q3
    · rw [if_neg hc] at q3
      obtain ⟨a', w, q3⟩ := q3
      cases w
      have H1 := H.byV q1 q2
      have hle := lc_close (V := V) (a1 := a1)
      rcases (show (sv_cls V a1).1 = 1 ∨ (sv_cls V a1).1 = 2 by omega) with e | e
      · rw [e] at q3
        have q3 : h1 a = some (.inr (10, [])) := q3
        refine xx_catch (ci := 10) [] (0, 16, 19, 13) [(0, 16, 22, 17)] rfl q3 rfl (fun _ hy => absurd hy List.not_mem_nil) ⟨by decide, by decide, by decide, _, cl_L_13, xr_not 3 rfl⟩ ?_
        refine xw_astoreR_n dd_L_close_19 (by decide) ?_
        refine xw_iconst 1 dd_L_close_20 (by decide) ?_
        exact xw_iret dd_L_close_21 rfl ⟨by rw [e]; rfl, _, H1, fun w => absurd w hc⟩
      · rw [e] at q3
        have q3 : h1 a = some (.inr (12, [])) := q3
        refine xx_catch (ci := 12) [(0, 16, 19, 13)] (0, 16, 22, 17) [] rfl q3 rfl (List.forall_mem_cons.mpr ⟨⟨by decide, by decide, by decide, _, cl_L_13, xr_not 27 rfl⟩, (fun _ hy => absurd hy List.not_mem_nil)⟩) ⟨by decide, by decide, by decide, _, cl_L_17, xr_not 5 rfl⟩ ?_
        refine xw_astoreR_n dd_L_close_22 (by decide) ?_
        refine xw_iconst 2 dd_L_close_23 (by decide) ?_
        exact xw_iret dd_L_close_24 rfl ⟨by rw [e]; rfl, _, H1, fun w => absurd w hc⟩
theorem ct_L_of {a1 a2 : Int32} (H : lgs G h x b0 n xs V S K A f) : xa_T G mm_L_of 13 200 4000 [.ref x, .int a1, .int a2, .ref (x + 42)] h sz (lq G x b0 n xs K A (sv_of V a1 a2).1 (sv_of V a1 a2).2.1.toInt64 (sv_of V a1 a2).2.2 S) := by
  refine xt_o ok_L_of rfl rfl ?_
  refine xw_aloadR_n dd_L_of_0 rfl ?_
  refine xw_iconst 0 dd_L_of_1 (by decide) ?_
  refine xw_aloadR_n dd_L_of_2 rfl ?_
  refine xw_iload_n dd_L_of_3 rfl ?_
  refine xw_iload_n dd_L_of_4 rfl ?_
  refine xw_less (kc' := 0 + 200) (ks' := 0 + 4000) (by decide) (by decide) ?_
  refine xw_cl (ct_V_of H.1) (iv_L_of_5 H.1.cell) ok_V_of rfl rfl rfl (fun v h1 z1 q => ?_) (fun a h1 z1 q => ?_)
  · obtain ⟨q1, q2, q3⟩ := q
    by_cases hc : (sv_of V a1 a2).1 = 0
    · rw [if_pos hc] at q3
      cases q3
      have H1 := H.byV q1 q2
      refine xw_i2l dd_L_of_8 ?_
      refine xw_last dd_L_of_9 H1.2.2.1 (vp_in_nI (n := 0) (by decide) (by decide)) (by have := H1.2.2.2.2.2; omega) ?_
      refine xw_goto 21 dd_L_of_10 (by decide) ?_
      refine xw_iconst 0 dd_L_of_21 (by decide) ?_
      exact xw_iret dd_L_of_22 rfl ⟨by rw [hc]; rfl, _, H1.byW, fun _ => pk_uLs⟩
    · rw [if_neg hc] at q3
      obtain ⟨_, w, _⟩ := q3
      cases w
  · obtain ⟨q1, q2, q3⟩ := q
    by_cases hc : (sv_of V a1 a2).1 = 0
    · rw [if_pos hc] at q3
      cases q3
    · rw [if_neg hc] at q3
      obtain ⟨a', w, q3⟩ := q3
      cases w
      have H1 := H.byV q1 q2
      have hle := lc_of (V := V) (a1 := a1) (a2 := a2)
      rcases (show (sv_of V a1 a2).1 = 1 ∨ (sv_of V a1 a2).1 = 2 by omega) with e | e
      · rw [e] at q3
        have q3 : h1 a = some (.inr (12, [])) := q3
        refine xx_catch (ci := 12) [] (0, 10, 13, 17) [(0, 10, 17, 40)] rfl q3 rfl (fun _ hy => absurd hy List.not_mem_nil) ⟨by decide, by decide, by decide, _, cl_L_17, xr_not 5 rfl⟩ ?_
        refine xw_astoreR dd_L_of_13 (by decide) ?_
        refine xw_iconst 1 dd_L_of_15 (by decide) ?_
        exact xw_iret dd_L_of_16 rfl ⟨by rw [e]; rfl, _, H1, fun w => absurd w hc⟩
      · rw [e] at q3
        have q3 : h1 a = some (.inr (14, [])) := q3
        refine xx_catch (ci := 14) [(0, 10, 13, 17)] (0, 10, 17, 40) [] rfl q3 rfl (List.forall_mem_cons.mpr ⟨⟨by decide, by decide, by decide, _, cl_L_17, xr_not 37 rfl⟩, (fun _ hy => absurd hy List.not_mem_nil)⟩) ⟨by decide, by decide, by decide, _, cl_L_40, xr_not 7 rfl⟩ ?_
        refine xw_astoreR dd_L_of_17 (by decide) ?_
        refine xw_iconst 2 dd_L_of_19 (by decide) ?_
        exact xw_iret dd_L_of_20 rfl ⟨by rw [e]; rfl, _, H1, fun w => absurd w hc⟩
theorem ct_L_note {a1 a2 : Int32} (H : lgs G h x b0 n xs V S K A f) : xa_T G mm_L_note 13 200 4000 [.ref x, .int a1, .int a2, .ref (x + 42)] h sz (lq G x b0 n xs K A (sv_nte V a1 a2).1 (sv_nte V a1 a2).2.1.toInt64 (sv_nte V a1 a2).2.2 S) := by
  refine xt_o ok_L_note rfl rfl ?_
  refine xw_aloadR_n dd_L_note_0 rfl ?_
  refine xw_iconst 0 dd_L_note_1 (by decide) ?_
  refine xw_aloadR_n dd_L_note_2 rfl ?_
  refine xw_iload_n dd_L_note_3 rfl ?_
  refine xw_iload_n dd_L_note_4 rfl ?_
  refine xw_less (kc' := 0 + 200) (ks' := 0 + 4000) (by decide) (by decide) ?_
  refine xw_cl (ct_V_note H.1) (iv_L_note_5 H.1.cell) ok_V_note rfl rfl rfl (fun v h1 z1 q => ?_) (fun a h1 z1 q => ?_)
  · obtain ⟨q1, q2, q3⟩ := q
    by_cases hc : (sv_nte V a1 a2).1 = 0
    · rw [if_pos hc] at q3
      cases q3
      have H1 := H.byV q1 q2
      refine xw_i2l dd_L_note_8 ?_
      refine xw_last dd_L_note_9 H1.2.2.1 (vp_in_nI (n := 0) (by decide) (by decide)) (by have := H1.2.2.2.2.2; omega) ?_
      refine xw_goto 21 dd_L_note_10 (by decide) ?_
      refine xw_iconst 0 dd_L_note_21 (by decide) ?_
      exact xw_iret dd_L_note_22 rfl ⟨by rw [hc]; rfl, _, H1.byW, fun _ => pk_uLs⟩
    · rw [if_neg hc] at q3
      obtain ⟨_, w, _⟩ := q3
      cases w
  · obtain ⟨q1, q2, q3⟩ := q
    by_cases hc : (sv_nte V a1 a2).1 = 0
    · rw [if_pos hc] at q3
      cases q3
    · rw [if_neg hc] at q3
      obtain ⟨a', w, q3⟩ := q3
      cases w
      have H1 := H.byV q1 q2
      have hle := lc_note (V := V) (a1 := a1) (a2 := a2)
      rcases (show (sv_nte V a1 a2).1 = 1 ∨ (sv_nte V a1 a2).1 = 2 by omega) with e | e
      · rw [e] at q3
        have q3 : h1 a = some (.inr (12, [])) := q3
        refine xx_catch (ci := 12) [] (0, 10, 13, 17) [(0, 10, 17, 40)] rfl q3 rfl (fun _ hy => absurd hy List.not_mem_nil) ⟨by decide, by decide, by decide, _, cl_L_17, xr_not 5 rfl⟩ ?_
        refine xw_astoreR dd_L_note_13 (by decide) ?_
        refine xw_iconst 1 dd_L_note_15 (by decide) ?_
        exact xw_iret dd_L_note_16 rfl ⟨by rw [e]; rfl, _, H1, fun w => absurd w hc⟩
      · rw [e] at q3
        have q3 : h1 a = some (.inr (14, [])) := q3
        refine xx_catch (ci := 14) [(0, 10, 13, 17)] (0, 10, 17, 40) [] rfl q3 rfl (List.forall_mem_cons.mpr ⟨⟨by decide, by decide, by decide, _, cl_L_17, xr_not 37 rfl⟩, (fun _ hy => absurd hy List.not_mem_nil)⟩) ⟨by decide, by decide, by decide, _, cl_L_40, xr_not 7 rfl⟩ ?_
        refine xw_astoreR dd_L_note_17 (by decide) ?_
        refine xw_iconst 2 dd_L_note_19 (by decide) ?_
        exact xw_iret dd_L_note_20 rfl ⟨by rw [e]; rfl, _, H1, fun w => absurd w hc⟩
theorem ct_L_subscribe {a1 a2 : Int32} (H : lgs G h x b0 n xs V S K A f) : xa_T G mm_L_subscribe 13 200 4000 [.ref x, .int a1, .int a2] h sz (lqv G x b0 n xs K A (sw_subscribe V S a1 a2).1 V (sw_subscribe V S a1 a2).2.2) := by
  refine xt_o ok_L_subscribe rfl rfl ?_
  refine xw_aloadR_n dd_L_subscribe_0 rfl ?_
  refine xw_iload_n dd_L_subscribe_1 rfl ?_
  refine xw_iload_n dd_L_subscribe_2 rfl ?_
  refine xw_less (kc' := 0 + 200) (ks' := 0 + 4000) (by decide) (by decide) ?_
  refine xw_cl (ct_V_subscribe H.1) (iv_L_subscribe_3 H.1.cell) ok_V_subscribe rfl rfl rfl (fun v h1 z1 q => ?_) (fun a h1 z1 q => ?_)
  · obtain ⟨q1, q2, q3⟩ := q
    by_cases hc : (sw_subscribe V S a1 a2).1 = 0
    · rw [if_pos hc] at q3
      cases q3
      have H1 := H.byV q1 q2
      refine xw_goto 15 dd_L_subscribe_6 (by decide) ?_
      refine xw_iconst 0 dd_L_subscribe_15 (by decide) ?_
      exact xw_iret dd_L_subscribe_16 rfl ⟨by rw [hc]; rfl, _, H1⟩
    · rw [if_neg hc] at q3
      obtain ⟨_, w, _⟩ := q3
      cases w
  · obtain ⟨q1, q2, q3⟩ := q
    by_cases hc : (sw_subscribe V S a1 a2).1 = 0
    · rw [if_pos hc] at q3
      cases q3
    · rw [if_neg hc] at q3
      obtain ⟨a', w, q3⟩ := q3
      cases w
      have H1 := H.byV q1 q2
      have hle := lc_subscribe (V := V) (S := S) (a1 := a1) (a2 := a2)
      rcases (show (sw_subscribe V S a1 a2).1 = 1 ∨ (sw_subscribe V S a1 a2).1 = 2 by omega) with e | e
      · rw [e] at q3
        have q3 : h1 a = some (.inr (14, [])) := q3
        refine xx_catch (ci := 14) [] (0, 6, 9, 40) [(0, 6, 12, 15)] rfl q3 rfl (fun _ hy => absurd hy List.not_mem_nil) ⟨by decide, by decide, by decide, _, cl_L_40, xr_not 7 rfl⟩ ?_
        refine xw_astoreR_n dd_L_subscribe_9 (by decide) ?_
        refine xw_iconst 1 dd_L_subscribe_10 (by decide) ?_
        exact xw_iret dd_L_subscribe_11 rfl ⟨by rw [e]; rfl, _, H1⟩
      · rw [e] at q3
        have q3 : h1 a = some (.inr (11, [])) := q3
        refine xx_catch (ci := 11) [(0, 6, 9, 40)] (0, 6, 12, 15) [] rfl q3 rfl (List.forall_mem_cons.mpr ⟨⟨by decide, by decide, by decide, _, cl_L_40, xr_not 26 rfl⟩, (fun _ hy => absurd hy List.not_mem_nil)⟩) ⟨by decide, by decide, by decide, _, cl_L_15, xr_not 4 rfl⟩ ?_
        refine xw_astoreR_n dd_L_subscribe_12 (by decide) ?_
        refine xw_iconst 2 dd_L_subscribe_13 (by decide) ?_
        exact xw_iret dd_L_subscribe_14 rfl ⟨by rw [e]; rfl, _, H1⟩
theorem ct_L_cursor {a1 : Int32} (H : lgs G h x b0 n xs V S K A f) : xa_T G mm_L_cursor 13 200 4000 [.ref x, .int a1, .ref (x + 42)] h sz (lq G x b0 n xs K A (sw_cursor S a1).1 (sw_cursor S a1).2.1.toInt64 V (sw_cursor S a1).2.2) := by
  refine xt_o ok_L_cursor rfl rfl ?_
  refine xw_aloadR_n dd_L_cursor_0 rfl ?_
  refine xw_iconst 0 dd_L_cursor_1 (by decide) ?_
  refine xw_aloadR_n dd_L_cursor_2 rfl ?_
  refine xw_iload_n dd_L_cursor_3 rfl ?_
  refine xw_less (kc' := 0 + 200) (ks' := 0 + 4000) (by decide) (by decide) ?_
  refine xw_cl (ct_V_cursor H.1) (iv_L_cursor_4 H.1.cell) ok_V_cursor rfl rfl rfl (fun v h1 z1 q => ?_) (fun a h1 z1 q => ?_)
  · obtain ⟨q1, q2, q3⟩ := q
    by_cases hc : (sw_cursor S a1).1 = 0
    · rw [if_pos hc] at q3
      cases q3
      have H1 := H.byV q1 q2
      refine xw_i2l dd_L_cursor_7 ?_
      refine xw_last dd_L_cursor_8 H1.2.2.1 (vp_in_nI (n := 0) (by decide) (by decide)) (by have := H1.2.2.2.2.2; omega) ?_
      refine xw_goto 15 dd_L_cursor_9 (by decide) ?_
      refine xw_iconst 0 dd_L_cursor_15 (by decide) ?_
      exact xw_iret dd_L_cursor_16 rfl ⟨by rw [hc]; rfl, _, H1.byW, fun _ => pk_uLs⟩
    · rw [if_neg hc] at q3
      obtain ⟨_, w, _⟩ := q3
      cases w
  · obtain ⟨q1, q2, q3⟩ := q
    by_cases hc : (sw_cursor S a1).1 = 0
    · rw [if_pos hc] at q3
      cases q3
    · rw [if_neg hc] at q3
      obtain ⟨a', w, q3⟩ := q3
      cases w
      have H1 := H.byV q1 q2
      have hle := lc_cursor (S := S) (a1 := a1)
      have e : (sw_cursor S a1).1 = 1 := by omega
      rw [e] at q3
      have q3 : h1 a = some (.inr (14, [])) := q3
      refine xx_catch (ci := 14) [] (0, 9, 12, 40) [] rfl q3 rfl (fun _ hy => absurd hy List.not_mem_nil) ⟨by decide, by decide, by decide, _, cl_L_40, xr_not 7 rfl⟩ ?_
      refine xw_astoreR_n dd_L_cursor_12 (by decide) ?_
      refine xw_iconst 1 dd_L_cursor_13 (by decide) ?_
      exact xw_iret dd_L_cursor_14 rfl ⟨by rw [e]; rfl, _, H1, fun w => absurd w hc⟩
theorem ct_L_read {a1 : Int32} (H : lgs G h x b0 n xs V S K A f) : xa_T G mm_L_read 13 200 4000 [.ref x, .int a1, .ref (x + 42)] h sz (lq G x b0 n xs K A (sw_read V S a1).1 (sw_read V S a1).2.1.toInt64 V (sw_read V S a1).2.2) := by
  refine xt_o ok_L_read rfl rfl ?_
  refine xw_aloadR_n dd_L_read_0 rfl ?_
  refine xw_iconst 0 dd_L_read_1 (by decide) ?_
  refine xw_aloadR_n dd_L_read_2 rfl ?_
  refine xw_iload_n dd_L_read_3 rfl ?_
  refine xw_less (kc' := 0 + 200) (ks' := 0 + 4000) (by decide) (by decide) ?_
  refine xw_cl (ct_V_read H.1) (iv_L_read_4 H.1.cell) ok_V_read rfl rfl rfl (fun v h1 z1 q => ?_) (fun a h1 z1 q => ?_)
  · obtain ⟨q1, q2, q3⟩ := q
    by_cases hc : (sw_read V S a1).1 = 0
    · rw [if_pos hc] at q3
      cases q3
      have H1 := H.byV q1 q2
      refine xw_i2l dd_L_read_7 ?_
      refine xw_last dd_L_read_8 H1.2.2.1 (vp_in_nI (n := 0) (by decide) (by decide)) (by have := H1.2.2.2.2.2; omega) ?_
      refine xw_goto 15 dd_L_read_9 (by decide) ?_
      refine xw_iconst 0 dd_L_read_15 (by decide) ?_
      exact xw_iret dd_L_read_16 rfl ⟨by rw [hc]; rfl, _, H1.byW, fun _ => pk_uLs⟩
    · rw [if_neg hc] at q3
      obtain ⟨_, w, _⟩ := q3
      cases w
  · obtain ⟨q1, q2, q3⟩ := q
    by_cases hc : (sw_read V S a1).1 = 0
    · rw [if_pos hc] at q3
      cases q3
    · rw [if_neg hc] at q3
      obtain ⟨a', w, q3⟩ := q3
      cases w
      have H1 := H.byV q1 q2
      have hle := lc_read (V := V) (S := S) (a1 := a1)
      have e : (sw_read V S a1).1 = 1 := by omega
      rw [e] at q3
      have q3 : h1 a = some (.inr (14, [])) := q3
      refine xx_catch (ci := 14) [] (0, 9, 12, 40) [] rfl q3 rfl (fun _ hy => absurd hy List.not_mem_nil) ⟨by decide, by decide, by decide, _, cl_L_40, xr_not 7 rfl⟩ ?_
      refine xw_astoreR_n dd_L_read_12 (by decide) ?_
      refine xw_iconst 1 dd_L_read_13 (by decide) ?_
      exact xw_iret dd_L_read_14 rfl ⟨by rw [e]; rfl, _, H1, fun w => absurd w hc⟩
theorem ct_L_list {a1 : Int32} (H : lgs G h x b0 n xs V S K A f) : xa_T G mm_L_list 13 200 4000 [.ref x, .int a1] h sz (lqv G x b0 n xs K A (sw_list V S a1).1 V (sw_list V S a1).2.2) := by
  refine xt_o ok_L_list rfl rfl ?_
  refine xw_aloadR_n dd_L_list_0 rfl ?_
  refine xw_iload_n dd_L_list_1 rfl ?_
  refine xw_less (kc' := 0 + 200) (ks' := 0 + 4000) (by decide) (by decide) ?_
  refine xw_cl (ct_V_list H.1) (iv_L_list_2 H.1.cell) ok_V_list rfl rfl rfl (fun v h1 z1 q => ?_) (fun a h1 z1 q => ?_)
  · obtain ⟨q1, q2, q3⟩ := q
    by_cases hc : (sw_list V S a1).1 = 0
    · rw [if_pos hc] at q3
      cases q3
      have H1 := H.byV q1 q2
      refine xw_goto 11 dd_L_list_5 (by decide) ?_
      refine xw_iconst 0 dd_L_list_11 (by decide) ?_
      exact xw_iret dd_L_list_12 rfl ⟨by rw [hc]; rfl, _, H1⟩
    · rw [if_neg hc] at q3
      obtain ⟨_, w, _⟩ := q3
      cases w
  · obtain ⟨q1, q2, q3⟩ := q
    by_cases hc : (sw_list V S a1).1 = 0
    · rw [if_pos hc] at q3
      cases q3
    · rw [if_neg hc] at q3
      obtain ⟨a', w, q3⟩ := q3
      cases w
      have H1 := H.byV q1 q2
      have hle := lc_list (V := V) (S := S) (a1 := a1)
      have e : (sw_list V S a1).1 = 1 := by omega
      rw [e] at q3
      have q3 : h1 a = some (.inr (14, [])) := q3
      refine xx_catch (ci := 14) [] (0, 5, 8, 40) [] rfl q3 rfl (fun _ hy => absurd hy List.not_mem_nil) ⟨by decide, by decide, by decide, _, cl_L_40, xr_not 7 rfl⟩ ?_
      refine xw_astoreR_n dd_L_list_8 (by decide) ?_
      refine xw_iconst 1 dd_L_list_9 (by decide) ?_
      exact xw_iret dd_L_list_10 rfl ⟨by rw [e]; rfl, _, H1⟩
theorem ct_L_page {a1 : Int32} (H : lgs G h x b0 n xs V S K A f) : xa_T G mm_L_page 13 200 4000 [.ref x, .int a1, .ref (x + 42)] h sz (lq G x b0 n xs K A (sw_page V S a1).1 (sw_page V S a1).2.1.toInt64 V (sw_page V S a1).2.2) := by
  refine xt_o ok_L_page rfl rfl ?_
  refine xw_aloadR_n dd_L_page_0 rfl ?_
  refine xw_iconst 0 dd_L_page_1 (by decide) ?_
  refine xw_aloadR_n dd_L_page_2 rfl ?_
  refine xw_iload_n dd_L_page_3 rfl ?_
  refine xw_less (kc' := 0 + 200) (ks' := 0 + 4000) (by decide) (by decide) ?_
  refine xw_cl (ct_V_page H.1) (iv_L_page_4 H.1.cell) ok_V_page rfl rfl rfl (fun v h1 z1 q => ?_) (fun a h1 z1 q => ?_)
  · obtain ⟨q1, q2, q3⟩ := q
    by_cases hc : (sw_page V S a1).1 = 0
    · rw [if_pos hc] at q3
      cases q3
      have H1 := H.byV q1 q2
      refine xw_i2l dd_L_page_7 ?_
      refine xw_last dd_L_page_8 H1.2.2.1 (vp_in_nI (n := 0) (by decide) (by decide)) (by have := H1.2.2.2.2.2; omega) ?_
      refine xw_goto 18 dd_L_page_9 (by decide) ?_
      refine xw_iconst 0 dd_L_page_18 (by decide) ?_
      exact xw_iret dd_L_page_19 rfl ⟨by rw [hc]; rfl, _, H1.byW, fun _ => pk_uLs⟩
    · rw [if_neg hc] at q3
      obtain ⟨_, w, _⟩ := q3
      cases w
  · obtain ⟨q1, q2, q3⟩ := q
    by_cases hc : (sw_page V S a1).1 = 0
    · rw [if_pos hc] at q3
      cases q3
    · rw [if_neg hc] at q3
      obtain ⟨a', w, q3⟩ := q3
      cases w
      have H1 := H.byV q1 q2
      have hle := lc_page (V := V) (S := S) (a1 := a1)
      rcases (show (sw_page V S a1).1 = 1 ∨ (sw_page V S a1).1 = 2 by omega) with e | e
      · rw [e] at q3
        have q3 : h1 a = some (.inr (14, [])) := q3
        refine xx_catch (ci := 14) [] (0, 9, 12, 40) [(0, 9, 15, 13)] rfl q3 rfl (fun _ hy => absurd hy List.not_mem_nil) ⟨by decide, by decide, by decide, _, cl_L_40, xr_not 7 rfl⟩ ?_
        refine xw_astoreR_n dd_L_page_12 (by decide) ?_
        refine xw_iconst 1 dd_L_page_13 (by decide) ?_
        exact xw_iret dd_L_page_14 rfl ⟨by rw [e]; rfl, _, H1, fun w => absurd w hc⟩
      · rw [e] at q3
        have q3 : h1 a = some (.inr (10, [])) := q3
        refine xx_catch (ci := 10) [(0, 9, 12, 40)] (0, 9, 15, 13) [] rfl q3 rfl (List.forall_mem_cons.mpr ⟨⟨by decide, by decide, by decide, _, cl_L_40, xr_not 22 rfl⟩, (fun _ hy => absurd hy List.not_mem_nil)⟩) ⟨by decide, by decide, by decide, _, cl_L_13, xr_not 3 rfl⟩ ?_
        refine xw_astoreR_n dd_L_page_15 (by decide) ?_
        refine xw_iconst 2 dd_L_page_16 (by decide) ?_
        exact xw_iret dd_L_page_17 rfl ⟨by rw [e]; rfl, _, H1, fun w => absurd w hc⟩
theorem ct_L_shown {a1 a2 : Int32} (H : lgs G h x b0 n xs V S K A f) : xa_T G mm_L_shown 13 200 4000 [.ref x, .int a1, .int a2, .ref (x + 42)] h sz (lq G x b0 n xs K A (sw_shown S a1 a2).1 (sw_shown S a1 a2).2.1.toInt64 V (sw_shown S a1 a2).2.2) := by
  refine xt_o ok_L_shown rfl rfl ?_
  refine xw_aloadR_n dd_L_shown_0 rfl ?_
  refine xw_iconst 0 dd_L_shown_1 (by decide) ?_
  refine xw_aloadR_n dd_L_shown_2 rfl ?_
  refine xw_iload_n dd_L_shown_3 rfl ?_
  refine xw_iload_n dd_L_shown_4 rfl ?_
  refine xw_less (kc' := 0 + 200) (ks' := 0 + 4000) (by decide) (by decide) ?_
  refine xw_cl (ct_V_shown H.1) (iv_L_shown_5 H.1.cell) ok_V_shown rfl rfl rfl (fun v h1 z1 q => ?_) (fun a h1 z1 q => ?_)
  · obtain ⟨q1, q2, q3⟩ := q
    by_cases hc : (sw_shown S a1 a2).1 = 0
    · rw [if_pos hc] at q3
      cases q3
      have H1 := H.byV q1 q2
      refine xw_i2l dd_L_shown_8 ?_
      refine xw_last dd_L_shown_9 H1.2.2.1 (vp_in_nI (n := 0) (by decide) (by decide)) (by have := H1.2.2.2.2.2; omega) ?_
      refine xw_goto 17 dd_L_shown_10 (by decide) ?_
      refine xw_iconst 0 dd_L_shown_17 (by decide) ?_
      exact xw_iret dd_L_shown_18 rfl ⟨by rw [hc]; rfl, _, H1.byW, fun _ => pk_uLs⟩
    · rw [if_neg hc] at q3
      obtain ⟨_, w, _⟩ := q3
      cases w
  · obtain ⟨q1, q2, q3⟩ := q
    by_cases hc : (sw_shown S a1 a2).1 = 0
    · rw [if_pos hc] at q3
      cases q3
    · rw [if_neg hc] at q3
      obtain ⟨a', w, q3⟩ := q3
      cases w
      have H1 := H.byV q1 q2
      have hle := lc_shown (S := S) (a1 := a1) (a2 := a2)
      have e : (sw_shown S a1 a2).1 = 1 := by omega
      rw [e] at q3
      have q3 : h1 a = some (.inr (14, [])) := q3
      refine xx_catch (ci := 14) [] (0, 10, 13, 40) [] rfl q3 rfl (fun _ hy => absurd hy List.not_mem_nil) ⟨by decide, by decide, by decide, _, cl_L_40, xr_not 7 rfl⟩ ?_
      refine xw_astoreR dd_L_shown_13 (by decide) ?_
      refine xw_iconst 1 dd_L_shown_15 (by decide) ?_
      exact xw_iret dd_L_shown_16 rfl ⟨by rw [e]; rfl, _, H1, fun w => absurd w hc⟩
theorem ct_L_follow {a1 a2 : Int32} (H : lgs G h x b0 n xs V S K A f) : xa_T G mm_L_follow 13 200 4000 [.ref x, .int a1, .int a2, .ref (x + 42)] h sz (lq G x b0 n xs K A (sw_follow V S a1 a2).1 (sw_follow V S a1 a2).2.1.toInt64 V (sw_follow V S a1 a2).2.2) := by
  refine xt_o ok_L_follow rfl rfl ?_
  refine xw_aloadR_n dd_L_follow_0 rfl ?_
  refine xw_iconst 0 dd_L_follow_1 (by decide) ?_
  refine xw_aloadR_n dd_L_follow_2 rfl ?_
  refine xw_iload_n dd_L_follow_3 rfl ?_
  refine xw_iload_n dd_L_follow_4 rfl ?_
  refine xw_less (kc' := 0 + 200) (ks' := 0 + 4000) (by decide) (by decide) ?_
  refine xw_cl (ct_V_follow H.1) (iv_L_follow_5 H.1.cell) ok_V_follow rfl rfl rfl (fun v h1 z1 q => ?_) (fun a h1 z1 q => ?_)
  · obtain ⟨q1, q2, q3⟩ := q
    by_cases hc : (sw_follow V S a1 a2).1 = 0
    · rw [if_pos hc] at q3
      cases q3
      have H1 := H.byV q1 q2
      refine xw_i2l dd_L_follow_8 ?_
      refine xw_last dd_L_follow_9 H1.2.2.1 (vp_in_nI (n := 0) (by decide) (by decide)) (by have := H1.2.2.2.2.2; omega) ?_
      refine xw_goto 21 dd_L_follow_10 (by decide) ?_
      refine xw_iconst 0 dd_L_follow_21 (by decide) ?_
      exact xw_iret dd_L_follow_22 rfl ⟨by rw [hc]; rfl, _, H1.byW, fun _ => pk_uLs⟩
    · rw [if_neg hc] at q3
      obtain ⟨_, w, _⟩ := q3
      cases w
  · obtain ⟨q1, q2, q3⟩ := q
    by_cases hc : (sw_follow V S a1 a2).1 = 0
    · rw [if_pos hc] at q3
      cases q3
    · rw [if_neg hc] at q3
      obtain ⟨a', w, q3⟩ := q3
      cases w
      have H1 := H.byV q1 q2
      have hle := lc_follow (V := V) (S := S) (a1 := a1) (a2 := a2)
      rcases (show (sw_follow V S a1 a2).1 = 1 ∨ (sw_follow V S a1 a2).1 = 2 by omega) with e | e
      · rw [e] at q3
        have q3 : h1 a = some (.inr (14, [])) := q3
        refine xx_catch (ci := 14) [] (0, 10, 13, 40) [(0, 10, 17, 15)] rfl q3 rfl (fun _ hy => absurd hy List.not_mem_nil) ⟨by decide, by decide, by decide, _, cl_L_40, xr_not 7 rfl⟩ ?_
        refine xw_astoreR dd_L_follow_13 (by decide) ?_
        refine xw_iconst 1 dd_L_follow_15 (by decide) ?_
        exact xw_iret dd_L_follow_16 rfl ⟨by rw [e]; rfl, _, H1, fun w => absurd w hc⟩
      · rw [e] at q3
        have q3 : h1 a = some (.inr (11, [])) := q3
        refine xx_catch (ci := 11) [(0, 10, 13, 40)] (0, 10, 17, 15) [] rfl q3 rfl (List.forall_mem_cons.mpr ⟨⟨by decide, by decide, by decide, _, cl_L_40, xr_not 26 rfl⟩, (fun _ hy => absurd hy List.not_mem_nil)⟩) ⟨by decide, by decide, by decide, _, cl_L_15, xr_not 4 rfl⟩ ?_
        refine xw_astoreR dd_L_follow_17 (by decide) ?_
        refine xw_iconst 2 dd_L_follow_19 (by decide) ?_
        exact xw_iret dd_L_follow_20 rfl ⟨by rw [e]; rfl, _, H1, fun w => absurd w hc⟩
theorem ct_L_copied {a1 a2 a3 : Int32} (H : lgs G h x b0 n xs V S K A f) : xa_T G mm_L_copied 13 200 4000 [.ref x, .int a1, .int a2, .int a3, .ref (x + 42)] h sz (lq G x b0 n xs K A (sw_copied S a1 a2 a3).1 (sw_copied S a1 a2 a3).2.1.toInt64 V (sw_copied S a1 a2 a3).2.2) := by
  refine xt_o ok_L_copied rfl rfl ?_
  refine xw_aloadR dd_L_copied_0 rfl ?_
  refine xw_iconst 0 dd_L_copied_2 (by decide) ?_
  refine xw_aloadR_n dd_L_copied_3 rfl ?_
  refine xw_iload_n dd_L_copied_4 rfl ?_
  refine xw_iload_n dd_L_copied_5 rfl ?_
  refine xw_iload_n dd_L_copied_6 rfl ?_
  refine xw_less (kc' := 0 + 200) (ks' := 0 + 4000) (by decide) (by decide) ?_
  refine xw_cl (ct_V_copied H.1) (iv_L_copied_7 H.1.cell) ok_V_copied rfl rfl rfl (fun v h1 z1 q => ?_) (fun a h1 z1 q => ?_)
  · obtain ⟨q1, q2, q3⟩ := q
    by_cases hc : (sw_copied S a1 a2 a3).1 = 0
    · rw [if_pos hc] at q3
      cases q3
      have H1 := H.byV q1 q2
      refine xw_i2l dd_L_copied_10 ?_
      refine xw_last dd_L_copied_11 H1.2.2.1 (vp_in_nI (n := 0) (by decide) (by decide)) (by have := H1.2.2.2.2.2; omega) ?_
      refine xw_goto 23 dd_L_copied_12 (by decide) ?_
      refine xw_iconst 0 dd_L_copied_23 (by decide) ?_
      exact xw_iret dd_L_copied_24 rfl ⟨by rw [hc]; rfl, _, H1.byW, fun _ => pk_uLs⟩
    · rw [if_neg hc] at q3
      obtain ⟨_, w, _⟩ := q3
      cases w
  · obtain ⟨q1, q2, q3⟩ := q
    by_cases hc : (sw_copied S a1 a2 a3).1 = 0
    · rw [if_pos hc] at q3
      cases q3
    · rw [if_neg hc] at q3
      obtain ⟨a', w, q3⟩ := q3
      cases w
      have H1 := H.byV q1 q2
      have hle := lc_copied (S := S) (a1 := a1) (a2 := a2) (a3 := a3)
      rcases (show (sw_copied S a1 a2 a3).1 = 1 ∨ (sw_copied S a1 a2 a3).1 = 2 by omega) with e | e
      · rw [e] at q3
        have q3 : h1 a = some (.inr (14, [])) := q3
        refine xx_catch (ci := 14) [] (0, 12, 15, 40) [(0, 12, 19, 17)] rfl q3 rfl (fun _ hy => absurd hy List.not_mem_nil) ⟨by decide, by decide, by decide, _, cl_L_40, xr_not 7 rfl⟩ ?_
        refine xw_astoreR dd_L_copied_15 (by decide) ?_
        refine xw_iconst 1 dd_L_copied_17 (by decide) ?_
        exact xw_iret dd_L_copied_18 rfl ⟨by rw [e]; rfl, _, H1, fun w => absurd w hc⟩
      · rw [e] at q3
        have q3 : h1 a = some (.inr (12, [])) := q3
        refine xx_catch (ci := 12) [(0, 12, 15, 40)] (0, 12, 19, 17) [] rfl q3 rfl (List.forall_mem_cons.mpr ⟨⟨by decide, by decide, by decide, _, cl_L_40, xr_not 30 rfl⟩, (fun _ hy => absurd hy List.not_mem_nil)⟩) ⟨by decide, by decide, by decide, _, cl_L_17, xr_not 5 rfl⟩ ?_
        refine xw_astoreR dd_L_copied_19 (by decide) ?_
        refine xw_iconst 2 dd_L_copied_21 (by decide) ?_
        exact xw_iret dd_L_copied_22 rfl ⟨by rw [e]; rfl, _, H1, fun w => absurd w hc⟩
theorem ct_L_inStep {a1 : Int32} (H : lgs G h x b0 n xs V S K A f) : xa_T G mm_L_inStep 13 200 4000 [.ref x, .int a1, .ref (x + 42)] h sz (lq G x b0 n xs K A (sw_step V S a1).1 (if (sw_step V S a1).2.1 = 0 then 0 else 1) V (sw_step V S a1).2.2) := by
  refine xt_o ok_L_inStep rfl rfl ?_
  refine xw_aloadR_n dd_L_inStep_0 rfl ?_
  refine xw_iconst 0 dd_L_inStep_1 (by decide) ?_
  refine xw_aloadR_n dd_L_inStep_2 rfl ?_
  refine xw_iload_n dd_L_inStep_3 rfl ?_
  refine xw_less (kc' := 0 + 200) (ks' := 0 + 4000) (by decide) (by decide) ?_
  refine xw_cl (ct_V_inStep H.1) (iv_L_inStep_4 H.1.cell) ok_V_inStep rfl rfl rfl (fun v h1 z1 q => ?_) (fun a h1 z1 q => ?_)
  · obtain ⟨q1, q2, q3⟩ := q
    by_cases hc : (sw_step V S a1).1 = 0
    · rw [if_pos hc] at q3
      cases q3
      have H1 := H.byV q1 q2
      have fin : ∀ w : Int64, w = (if (sw_step V S a1).2.1 = 0 then 0 else 1) → xa_W G mm_L_inStep 13 0 0 15 ([.ref x, .int a1, .ref (x + 42)].map some ++ [none]) [.long w, .int 0, .ref (x + 42)] h1 z1 (lq G x b0 n xs K A (sw_step V S a1).1 (if (sw_step V S a1).2.1 = 0 then 0 else 1) V (sw_step V S a1).2.2) := by
        intro w hw
        refine xw_last dd_L_inStep_15 H1.2.2.1 (vp_in_nI (n := 0) (by decide) (by decide)) (by have := H1.2.2.2.2.2; omega) ?_
        refine xw_goto 22 dd_L_inStep_16 (by decide) ?_
        refine xw_iconst 0 dd_L_inStep_22 (by decide) ?_
        refine xw_iret dd_L_inStep_23 rfl ⟨by rw [hc]; rfl, _, H1.byW, fun _ => ?_⟩
        rw [← hw]
        exact pk_uLs
      refine xw_if_eq 14 dd_L_inStep_7 (by decide) (fun hz => ?_) (fun hz => ?_)
      · refine xw_lconst 0 dd_L_inStep_14 (by decide) ?_
        exact fin 0 (by rw [if_pos hz])
      · refine xw_lconst 1 dd_L_inStep_10 (by decide) ?_
        refine xw_goto 15 dd_L_inStep_11 (by decide) ?_
        exact fin 1 (by rw [if_neg hz])
    · rw [if_neg hc] at q3
      obtain ⟨_, w, _⟩ := q3
      cases w
  · obtain ⟨q1, q2, q3⟩ := q
    by_cases hc : (sw_step V S a1).1 = 0
    · rw [if_pos hc] at q3
      cases q3
    · rw [if_neg hc] at q3
      obtain ⟨a', w, q3⟩ := q3
      cases w
      have H1 := H.byV q1 q2
      have hle := lc_inStep (V := V) (S := S) (a1 := a1)
      have e : (sw_step V S a1).1 = 1 := by omega
      rw [e] at q3
      have q3 : h1 a = some (.inr (14, [])) := q3
      refine xx_catch (ci := 14) [] (0, 16, 19, 40) [] rfl q3 rfl (fun _ hy => absurd hy List.not_mem_nil) ⟨by decide, by decide, by decide, _, cl_L_40, xr_not 7 rfl⟩ ?_
      refine xw_astoreR_n dd_L_inStep_19 (by decide) ?_
      refine xw_iconst 1 dd_L_inStep_20 (by decide) ?_
      exact xw_iret dd_L_inStep_21 rfl ⟨by rw [e]; rfl, _, H1, fun w => absurd w hc⟩
theorem ct_L_cutAfter {a1 : Int32} (H : lgs G h x b0 n xs V S K A f) : xa_T G mm_L_cutAfter 13 200 4000 [.ref x, .int a1] h sz (lqv G x b0 n xs K A (sv_cut V a1).1 (sv_cut V a1).2.2 S) := by
  refine xt_o ok_L_cutAfter rfl rfl ?_
  refine xw_aloadR_n dd_L_cutAfter_0 rfl ?_
  refine xw_iload_n dd_L_cutAfter_1 rfl ?_
  refine xw_less (kc' := 0 + 200) (ks' := 0 + 4000) (by decide) (by decide) ?_
  refine xw_cl (ct_V_cutAfter H.1) (iv_L_cutAfter_2 H.1.cell) ok_V_cutAfter rfl rfl rfl (fun v h1 z1 q => ?_) (fun a h1 z1 q => ?_)
  · obtain ⟨q1, q2, q3⟩ := q
    by_cases hc : (sv_cut V a1).1 = 0
    · rw [if_pos hc] at q3
      cases q3
      have H1 := H.byV q1 q2
      refine xw_goto 11 dd_L_cutAfter_5 (by decide) ?_
      refine xw_iconst 0 dd_L_cutAfter_11 (by decide) ?_
      exact xw_iret dd_L_cutAfter_12 rfl ⟨by rw [hc]; rfl, _, H1⟩
    · rw [if_neg hc] at q3
      obtain ⟨_, w, _⟩ := q3
      cases w
  · obtain ⟨q1, q2, q3⟩ := q
    by_cases hc : (sv_cut V a1).1 = 0
    · rw [if_pos hc] at q3
      cases q3
    · rw [if_neg hc] at q3
      obtain ⟨a', w, q3⟩ := q3
      cases w
      have H1 := H.byV q1 q2
      have hle := lc_cutAfter (V := V) (a1 := a1)
      have e : (sv_cut V a1).1 = 1 := by omega
      rw [e] at q3
      have q3 : h1 a = some (.inr (11, [])) := q3
      refine xx_catch (ci := 11) [] (0, 5, 8, 15) [] rfl q3 rfl (fun _ hy => absurd hy List.not_mem_nil) ⟨by decide, by decide, by decide, _, cl_L_15, xr_not 4 rfl⟩ ?_
      refine xw_astoreR_n dd_L_cutAfter_8 (by decide) ?_
      refine xw_iconst 1 dd_L_cutAfter_9 (by decide) ?_
      exact xw_iret dd_L_cutAfter_10 rfl ⟨by rw [e]; rfl, _, H1⟩
end LA
