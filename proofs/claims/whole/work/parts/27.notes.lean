/-! NotedVolume: notes (by program: wip/whole/mk27.py) -/
theorem rn_app {h h1 : xa_H} {f : Nat → Option Nat} {hd sz ye : Nat} {rg : Nat → Nat → Int32} {e : sv_E} {r : Int32} (hN : rn_at h f hd rg) (hk : ∀ b e, h b = some e → (xt e = 3 ∨ xt e = 1) → h1 b = some e) (hn : h1 sz = some (nt_c ye r)) (hye : h1 ye = some (en_c e)) : rn_at h1 (va_up f (hd % 16) (some sz)) (hd + 1) (fun i => if i = hd % 16 then sv_item e r else rg i) := by
  intro s h2 h3
  by_cases es : s = hd
  · subst es
    exact ⟨sz, ye, e, r, va_up_self .., hn, hye, if_pos rfl⟩
  · have hm : s % 16 ≠ hd % 16 := by
      unfold rg_tl at h2
      split at h2 <;> omega
    have ht : rg_tl hd ≤ s := by
      unfold rg_tl at h2 ⊢
      split at h2 <;> split <;> omega
    obtain ⟨y, ey, e', r', w1, w2, w3, w4⟩ := hN s ht (by omega)
    exact ⟨y, ey, e', r', by rw [va_up_ne _ _ hm]; exact w1, hk _ _ w2 (Or.inl rfl), hk _ _ w3 (Or.inr rfl), (if_neg hm).trans w4⟩
section VN
variable {G : xa_G} {h h1 : xa_H} {sz x : Nat} {V : sv_V} {S : Nat → sv_S} {ar cp : Nat → Nat}
theorem vo_at.app {ye : Nat} {e : sv_E} {r : Int32} {f : Nat → Option Nat} (H : vo_at G h x V S ar cp) (hdm : xd_h h sz) (hR : rg_at h1 (x + 3) (x + 4) (sv_hd V + 1) (va_up f (sv_hd V % 16) (some sz))) (hR0 : rg_at h (x + 3) (x + 4) (sv_hd V) f) (hN : rn_at h f (sv_hd V) (sv_rg V)) (hn : h1 sz = some (nt_c ye r)) (hye : h ye = some (en_c e)) (hf : ∀ b, b ≠ x + 3 → b ≠ x + 4 → b ≠ sz → h1 b = h b) : vo_at G h1 x (sv_app V e r) S ar cp ∧ ∀ b e, h b = some e → ¬ ((xt e = 4 ∧ b = x + 3) ∨ (xt e = 104 ∧ b = x + 4)) → h1 b = some e := by
  obtain ⟨fs, lt, hd, rg, gs, on, lf⟩ := V
  have hk : ∀ b e, h b = some e → ¬ ((xt e = 4 ∧ b = x + 3) ∨ (xt e = 104 ∧ b = x + 4)) → h1 b = some e := by
    intro b e hb hne
    refine (hf b (fun q => hne (Or.inl ⟨?_, q⟩)) (fun q => hne (Or.inr ⟨?_, q⟩)) (by have := hdm _ _ hb; omega)).trans hb
    · subst q
      rw [hR0.1] at hb
      cases hb
      rfl
    · subst q
      rw [hR0.2.1] at hb
      cases hb
      rfl
  refine ⟨H.setR (hd' := hd + 1) ⟨_, hR, rn_app hN (fun b e hb hc => hk b e hb (by omega)) hn (hk _ _ hye (by simp [xt]))⟩ (by omega) hk, hk⟩
theorem sp_len (V : sv_V) : (sv_gs (sv_spend V).2).length ≤ (sv_gs V).length ∧ sv_hd (sv_spend V).2 = sv_hd V ∧ sv_fs (sv_spend V).2 = sv_fs V := by
  obtain ⟨fs, lt, hd, rg, gs, on, lf⟩ := V
  unfold sv_spend
  simp only
  split
  · exact ⟨Nat.zero_le _, rfl, rfl⟩
  · exact ⟨Nat.le_refl _, rfl, rfl⟩
theorem eg_len (V : sv_V) (g : Int32 × Int32) : (sv_gs (sv_endG V g)).length ≤ (sv_gs V).length ∧ sv_hd (sv_endG V g) = sv_hd V + 1 ∧ sv_fs (sv_endG V g) = sv_fs V := ⟨st_len (sv_gs V) g.1, rfl, rfl⟩
theorem cg_len (V : sv_V) (g : Int32 × Int32) : (sv_gs (sv_closeG V g).2).length ≤ (sv_gs V).length ∧ sv_hd (sv_closeG V g).2 ≤ sv_hd V + 1 ∧ sv_fs (sv_closeG V g).2 = sv_fs V := by
  have h1 := sp_len V
  have h2 := eg_len (sv_spend V).2 g
  unfold sv_closeG
  split
  · refine ⟨?_, ?_, ?_⟩
    · show (sv_gs (sv_endG (sv_spend V).2 g)).length ≤ _; omega
    · show sv_hd (sv_endG (sv_spend V).2 g) ≤ _; omega
    · show sv_fs (sv_endG (sv_spend V).2 g) = _; rw [h2.2.2, h1.2.2]
  · refine ⟨?_, ?_, ?_⟩
    · show (sv_gs (sv_spend V).2).length ≤ _; omega
    · show sv_hd (sv_spend V).2 ≤ _; omega
    · exact h1.2.2
theorem sv_open_way (V : sv_V) (f : Int32) : sv_open V f = match sv_way (sv_gs V) f with
    | none => (true, V)
    | some g => sv_closeG V g := by
  unfold sv_open sv_way
  split
  · rfl
  · rfl
/-- an end of a call on the volume that the subscribers don't see -/
abbrev vq (G : xa_G) (h : xa_H) (x : Nat) (V : sv_V) (S : Nat → sv_S) (v : Option Value) : Outcome → xa_H → Nat → Prop := fun o h' _ => o = .returned v ∧ vs G h' x V S ∧ frV x h h'
theorem ct_V_endGathering {y : Nat} {g : Int32 × Int32} (H : vs G h x V S) (hy : h y = some (gt_d g)) (hh : sv_hd V < 900000) : xa_T G mm_V_endGathering 4 2 7 [.ref x, .ref y] h sz (vq G h x (sv_endG V g) S none) := by
  obtain ⟨ar, cp, H⟩ := H
  obtain ⟨h1, ⟨xs, h2⟩, h3, h4, h5, h6, h7⟩ := id H
  refine xt_o ok_V_endGathering rfl rfl ?_
  refine xw_dom (fun hdm hBz => ?_)
  have tail : ∀ (h9 : xa_H) (z9 ye : Nat), vo_at G h9 x V S ar cp → (∀ b e, h b = some e → h9 b = some e) → h9 ye = some (en_c ((sv_find (sv_fs V) g.1).getD (g.1, 0, 0, 0, 0))) → xa_W G mm_V_endGathering 4 1 2 31 [some (.ref x), some (.ref y), some (.int g.1), some (.ref ye)] [] h9 z9 (vq G h x (sv_endG V g) S none) := by
    intro h9 z9 ye H9 hk9 hye
    obtain ⟨g1, ⟨ys, g2⟩, ⟨f, g3a, g3b⟩, g4, g5, g6, g7⟩ := id H9
    refine xw_dom (fun hdm9 _ => ?_)
    refine xw_aloadR_n dd_V_endGathering_31 rfl ?_
    refine xw_get fl_V_21 dd_V_endGathering_32 g1 rfl ?_
    refine xw_aloadR_n dd_V_endGathering_35 rfl ?_
    refine xw_aloadR_n dd_V_endGathering_36 rfl ?_
    refine xw_get fl_V_281 dd_V_endGathering_37 (hk9 _ _ hy) rfl ?_
    refine xw_bipush 64 dd_V_endGathering_40 (by decide) ?_
    refine xw_ior dd_V_endGathering_42 ?_
    refine xw_less (kc' := 0 + 1) (ks' := 0 + 2) (by decide) (by decide) ?_
    have hBx := g7.1
    refine xw_cl (ct_R_append g3a (by omega) (by omega) hh) (iv_V_endGathering_43 g3a.1) ok_R_append rfl rfl rfl ?_ (fun _ _ _ q => by cases q.1)
    rintro v h10 z10 ⟨hv, rfl, u1, u2, u3⟩
    cases hv
    obtain ⟨H10, hk10⟩ := H9.app hdm9 u1 g3a g3b u2 hye u3
    obtain ⟨fs, lt, hd, rg, gs, on, lf⟩ := V
    obtain ⟨w1, ⟨ws, w2⟩, w3, w4, w5, w6, w7⟩ := id H10
    refine xw_dom (fun hdm10 _ => ?_)
    refine xw_aloadR_n dd_V_endGathering_46 rfl ?_
    refine xw_get fl_V_28 dd_V_endGathering_47 w1 rfl ?_
    refine xw_iload_n dd_V_endGathering_50 rfl ?_
    obtain ⟨_, ⟨hT, ⟨-, -, gg, ⟨⟨_, c3⟩, c4, -⟩, -⟩, -⟩⟩ := id w4
    refine xw_cl0 (ct_H_take w4) (iv_V_endGathering_51 hT) ok_H_take rfl rfl rfl ?_ (fun _ _ _ q => by cases q.1)
    rintro v h11 z11 ⟨hv, rfl, q1, q2⟩
    cases hv
    have hk11 : ∀ b e, h10 b = some e → ¬ ((xt e = 8 ∧ b = x + 6) ∨ (xt e = 103 ∧ b = ar 1 ∧ cp 1 ≠ 0) ∨ xt e = 5) → h11 b = some e := fun b e hb hn => (q2 b (fun w => by
        subst w
        rw [c3] at hb
        cases hb
        exact hn (Or.inl ⟨rfl, rfl⟩)) (by
        by_cases w : cp 1 = 0
        · exact Or.inr w
        · refine Or.inl (fun w2 => hn (Or.inr (Or.inl ⟨?_, w2, w⟩)))
          subst w2
          rw [c4] at hb
          cases hb
          rfl)).trans hb
    have H11 := H10.setG hdm10 q1 (Or.inl ⟨rfl, rfl⟩) w7.2.2.1 hk11
    refine xw_vret dd_V_endGathering_54 rfl ⟨rfl, ⟨_, _, H11⟩, fun b e hb hp => ?_⟩
    exact hk11 b e (hk10 b e (hk9 b e hb) (by omega)) (by omega)
  refine xw_aloadR_n dd_V_endGathering_0 rfl ?_
  refine xw_get fl_V_276 dd_V_endGathering_1 hy rfl ?_
  refine xw_istore_n dd_V_endGathering_4 (by decide) ?_
  refine xw_aloadR_n dd_V_endGathering_5 rfl ?_
  refine xw_get fl_V_14 dd_V_endGathering_6 h1 rfl ?_
  refine xw_iload_n dd_V_endGathering_9 rfl ?_
  refine xw_cl0 (ct_F_entryOf h2) (iv_V_endGathering_10 h2.1) ok_F_entryOf rfl rfl rfl ?_ (fun _ _ _ q => by cases q.2.2.choose_spec.1)
  rintro v h sz ⟨rfl, rfl, r, hv, hr⟩
  cases hv
  rcases hr with ⟨w1, rfl⟩ | ⟨e, ye, w1, rfl, w3⟩
  · refine xw_astore_n (r := none) dd_V_endGathering_13 (by decide) ?_
    refine xw_aload_n (r := none) dd_V_endGathering_14 rfl ?_
    refine xw_ifnonnullN dd_V_endGathering_15 ?_
    refine xw_less (kc' := 1 + 1) (ks' := 2 + 5) (by decide) (by decide) ?_
    refine xw_newA nw_V_74 dd_V_endGathering_18 (fun h8 n8 f8 => ?_)
    refine xw_dup dd_V_endGathering_21 rfl ?_
    refine xw_iload_n dd_V_endGathering_22 rfl ?_
    refine xw_iconst 0 dd_V_endGathering_23 (by decide) ?_
    refine xw_iconst 0 dd_V_endGathering_24 (by decide) ?_
    refine xw_iconst 0 dd_V_endGathering_25 (by decide) ?_
    refine xw_iconst 0 dd_V_endGathering_26 (by decide) ?_
    refine xw_cl0 (ct_E_init n8 hBz) iv_V_endGathering_27 ok_E_init rfl rfl rfl ?_ (fun _ _ _ q => by cases q.1)
    rintro v h9 z9 ⟨hv, rfl, n9, f9⟩
    cases hv
    refine xw_astoreR_n dd_V_endGathering_30 (by decide) ?_
    have hk9 : ∀ b e, h b = some e → h9 b = some e := fun b e hb => by
      have := hdm _ _ hb
      exact (f9 b (by omega)).trans ((f8 b (by omega)).trans hb)
    refine tail h9 (sz + 1) sz (H.kp0 hk9) hk9 ?_
    have e0 : sv_find (sv_fs V) g.1 = none := w1
    rw [e0]
    exact n9
  · refine xw_astore_n (r := some ye) dd_V_endGathering_13 (by decide) ?_
    refine xw_aloadR_n dd_V_endGathering_14 rfl ?_
    refine xw_ifnonnullR 31 dd_V_endGathering_15 (by decide) ?_
    refine xw_less (kc' := 1) (ks' := 2) (by decide) (by decide) ?_
    refine tail h sz ye H (fun _ _ hb => hb) ?_
    have e0 : sv_find (sv_fs V) g.1 = some e := w1
    rw [e0]
    exact w3
theorem vs.cell (H : vs G h x V S) : h x = some (vo_c x (sv_lt V) (sv_on V) (sv_lf V)) := by
  obtain ⟨_, _, H, -⟩ := H
  exact H
theorem ct_V_writeClosingNote {y : Nat} {g : Int32 × Int32} (H : vs G h x V S) (hy : h y = some (gt_d g)) (hh : sv_hd V < 900000) : xa_T G mm_V_writeClosingNote 5 2 7 [.ref x, .ref y] h sz (vq G h x (sv_closeG V g).2 S (some (.int (if (sv_closeG V g).1 = true then 1 else 0)))) := by
  obtain ⟨ar, cp, H⟩ := H
  refine xt_o ok_V_writeClosingNote rfl rfl ?_
  refine xw_aloadR_n dd_V_writeClosingNote_0 rfl ?_
  refine xw_cl0 (ct_V_spendWrite H) (iv_V_writeClosingNote_1 H.1) ok_V_spendWrite rfl rfl rfl ?_ (fun _ _ _ q => by cases q.1)
  rintro v h1 z1 ⟨hv, rfl, u1, u2⟩
  cases hv
  by_cases hs : (sv_spend V).1 = true
  · have hc : sv_closeG V g = (true, sv_endG (sv_spend V).2 g) := by
      unfold sv_closeG
      rw [if_pos hs]
    rw [hc, if_pos hs]
    refine xw_if_ne 9 dd_V_writeClosingNote_4 (by decide) (fun hc => ?_) (fun hc => absurd hc (by decide))
    refine xw_aloadR_n dd_V_writeClosingNote_9 rfl ?_
    refine xw_aloadR_n dd_V_writeClosingNote_10 rfl ?_
    refine xw_less (kc' := 0 + 2) (ks' := 0 + 7) (by decide) (by decide) ?_
    refine xw_cl (ct_V_endGathering ⟨ar, cp, u1⟩ (u2 _ _ hy (by simp [xt])) (by rw [(sp_len V).2.1]; exact hh)) (iv_V_writeClosingNote_11 u1.1) ok_V_endGathering rfl rfl rfl ?_ (fun _ _ _ q => by cases q.1)
    rintro v h2 z2 ⟨hv, q1, q2⟩
    cases hv
    refine xw_iconst 1 dd_V_writeClosingNote_14 (by decide) ?_
    exact xw_zret dd_V_writeClosingNote_15 rfl rfl ⟨rfl, q1, fun b e hb hp => q2 b e (u2 b e hb (by have := u1.2.2.2.2.2.2.1; omega)) hp⟩
  · have hc : sv_closeG V g = (false, (sv_spend V).2) := by
      unfold sv_closeG
      rw [if_neg hs]
    rw [hc, if_neg hs]
    refine xw_if_ne 9 dd_V_writeClosingNote_4 (by decide) (fun hc => absurd rfl hc) (fun hc => ?_)
    refine xw_iconst 0 dd_V_writeClosingNote_7 (by decide) ?_
    exact xw_zret dd_V_writeClosingNote_8 rfl rfl ⟨rfl, ⟨ar, cp, u1⟩, fun b e hb hp => u2 b e hb (by omega)⟩
theorem ct_V_writeChangeNote {ye : Nat} {e : sv_E} {r : Int32} (H : vs G h x V S) (hye : h ye = some (en_c e)) (hh : sv_hd V < 800000) (hg : (sv_gs V).length ≤ 15) : xa_T G mm_V_writeChangeNote 8 5 33 [.ref x, .ref ye, .int r] h sz (vq G h x (sv_chg V e r).2 S (some (.int (if (sv_chg V e r).1 = true then 1 else 0)))) := by
  obtain ⟨ar, cp, H⟩ := H
  obtain ⟨h1, ⟨xs, h2⟩, h3, h4, h5, h6, h7⟩ := id H
  have tail : ∀ (h9 : xa_H) (z9 : Nat) (V1 : sv_V) (ov : Value), sv_open V e.1 = (true, V1) → vs G h9 x V1 S → frV x h h9 → sv_hd V1 ≤ sv_hd V + 1 → (sv_gs V1).length ≤ 15 → xa_W G mm_V_writeChangeNote 8 3 26 26 [some (.ref x), some (.ref ye), some (.int r), some ov] [] h9 z9 (vq G h x (sv_chg V e r).2 S (some (.int (if (sv_chg V e r).1 = true then 1 else 0)))) := by
    intro h9 z9 V1 ov ho H9 hf9 hh1 hg1
    have hchg : sv_chg V e r = sv_note V1 e r := by
      unfold sv_chg
      rw [ho]
      rfl
    rw [hchg]
    obtain ⟨ar9, cp9, H9⟩ := H9
    refine xw_aloadR_n dd_V_writeChangeNote_26 rfl ?_
    refine xw_cl0 (ct_V_spendWrite H9) (iv_V_writeChangeNote_27 H9.1) ok_V_spendWrite rfl rfl rfl ?_ (fun _ _ _ q => by cases q.1)
    rintro v h10 z10 ⟨hv, rfl, u1, u2⟩
    cases hv
    have hf10 : frV x h h10 := fun b e hb hp => u2 b e (hf9 b e hb hp) (by omega)
    have sl := sp_len V1
    by_cases hs : (sv_spend V1).1 = true
    · have hc : sv_note V1 e r = (true, sv_app (sv_setG (sv_spend V1).2 (sv_gather (sv_gs (sv_spend V1).2) e.1 r).2) e (sv_gather (sv_gs (sv_spend V1).2) e.1 r).1) := by
        unfold sv_note
        rw [if_pos hs]
      rw [hc, if_pos hs]
      have hye10 := hf10 _ _ hye (Or.inl rfl)
      generalize (sv_spend V1).2 = V2 at u1 sl ⊢
      obtain ⟨fs, lt, hd, rg, gs, on, lf⟩ := V2
      have sl1 : gs.length ≤ 15 := by
        have : gs.length ≤ (sv_gs V1).length := sl.1
        omega
      have sl2 : hd < 900000 := by
        have : hd = sv_hd V1 := sl.2.1
        omega
      obtain ⟨g1, ⟨ys, g2⟩, g3, g4, g5, g6, g7⟩ := id u1
      have hBx := g7.1
      refine xw_if_ne 35 dd_V_writeChangeNote_30 (by decide) (fun hc => ?_) (fun hc => absurd hc (by decide))
      refine xw_aloadR_n dd_V_writeChangeNote_35 rfl ?_
      refine xw_get fl_V_21 dd_V_writeChangeNote_36 g1 rfl ?_
      refine xw_aloadR_n dd_V_writeChangeNote_39 rfl ?_
      refine xw_aloadR_n dd_V_writeChangeNote_40 rfl ?_
      refine xw_get fl_V_28 dd_V_writeChangeNote_41 g1 rfl ?_
      refine xw_aloadR_n dd_V_writeChangeNote_44 rfl ?_
      refine xw_get fl_V_83 dd_V_writeChangeNote_45 hye10 rfl ?_
      refine xw_iload_n dd_V_writeChangeNote_48 rfl ?_
      refine xw_dom (fun hdm10 _ => ?_)
      obtain ⟨_, ⟨hT, ⟨-, -, gg, ⟨⟨_, c3⟩, c4, -⟩, -⟩, -⟩⟩ := id g4
      refine xw_less (kc' := 1 + 2) (ks' := 2 + 24) (by decide) (by decide) ?_
      refine xw_cl (ct_H_gather g4 sl1 g7.2.2.1) (iv_V_writeChangeNote_49 hT) ok_H_gather rfl rfl rfl ?_ (fun _ _ _ q => by cases q.1)
      rintro v h11 z11 ⟨hv, ⟨ea', cap', q1, q2, q3⟩, q4, q5⟩
      cases hv
      have hk11 : ∀ b e, h10 b = some e → ¬ ((xt e = 8 ∧ b = x + 6) ∨ (xt e = 103 ∧ b = ar9 1 ∧ cp9 1 ≠ 0) ∨ xt e = 5) → h11 b = some e := fun b e hb hn => q5 b e hb ⟨fun w => by
          subst w
          rw [c3] at hb
          cases hb
          exact hn (Or.inl ⟨rfl, rfl⟩), by
          by_cases w : cp9 1 = 0
          · exact Or.inr w
          · refine Or.inl (fun w2 => hn (Or.inr (Or.inl ⟨?_, w2, w⟩)))
            subst w2
            rw [c4] at hb
            cases hb
            rfl, fun q w => hn (Or.inr (Or.inr (by rw [w]; rfl)))⟩
      have H11 := u1.setG hdm10 q1 q3 q2 hk11
      obtain ⟨w1, ⟨ws, w2⟩, ⟨f, w3a, w3b⟩, w4, w5, w6, w7⟩ := id H11
      have hye11 := hk11 _ _ hye10 (by simp [xt])
      refine xw_dom (fun hdm11 _ => ?_)
      refine xw_less (kc' := 0 + 1) (ks' := 0 + 2) (by decide) (by decide) ?_
      refine xw_cl (ct_R_append w3a (by omega) (by omega) sl2) (iv_V_writeChangeNote_52 w3a.1) ok_R_append rfl rfl rfl ?_ (fun _ _ _ q => by cases q.1)
      rintro v h12 z12 ⟨hv, rfl, t1, t2, t3⟩
      cases hv
      obtain ⟨H12, hk12⟩ := H11.app hdm11 t1 w3a w3b t2 hye11 t3
      refine xw_iconst 1 dd_V_writeChangeNote_55 (by decide) ?_
      exact xw_zret dd_V_writeChangeNote_56 rfl rfl ⟨rfl, ⟨_, _, H12⟩, fun b e hb hp => hk12 b e (hk11 b e (hf10 b e hb hp) (by omega)) (by omega)⟩
    · have hc : sv_note V1 e r = (false, (sv_spend V1).2) := by
        unfold sv_note
        rw [if_neg hs]
      rw [hc, if_neg hs]
      refine xw_if_ne 35 dd_V_writeChangeNote_30 (by decide) (fun hc => absurd rfl hc) (fun hc => ?_)
      refine xw_iconst 0 dd_V_writeChangeNote_33 (by decide) ?_
      exact xw_zret dd_V_writeChangeNote_34 rfl rfl ⟨rfl, ⟨_, _, u1⟩, hf10⟩
  refine xt_o ok_V_writeChangeNote rfl rfl ?_
  refine xw_aloadR_n dd_V_writeChangeNote_0 rfl ?_
  refine xw_get fl_V_28 dd_V_writeChangeNote_1 h1 rfl ?_
  refine xw_aloadR_n dd_V_writeChangeNote_4 rfl ?_
  refine xw_get fl_V_83 dd_V_writeChangeNote_5 hye rfl ?_
  obtain ⟨_, hT, -⟩ := id h4
  refine xw_cl0 (ct_H_inTheWayOf h4) (iv_V_writeChangeNote_8 hT) ok_H_inTheWayOf rfl rfl rfl ?_ (fun _ _ _ q => by cases q.2.2.choose_spec.1)
  rintro v h sz ⟨rfl, rfl, rr, hv, hr⟩
  cases hv
  have how := sv_open_way V e.1
  rcases hr with ⟨w1, rfl⟩ | ⟨g, y, w1, rfl, w3⟩
  · rw [w1] at how
    refine xw_astore_n (r := none) dd_V_writeChangeNote_11 (by decide) ?_
    refine xw_aload_n (r := none) dd_V_writeChangeNote_12 rfl ?_
    refine xw_ifnullN 26 dd_V_writeChangeNote_13 (by decide) ?_
    refine xw_less (kc' := 3) (ks' := 26) (by decide) (by decide) ?_
    exact tail h sz V .null how ⟨ar, cp, H⟩ frV.refl (by omega) hg
  · rw [w1] at how
    refine xw_astore_n (r := some y) dd_V_writeChangeNote_11 (by decide) ?_
    refine xw_aloadR_n dd_V_writeChangeNote_12 rfl ?_
    refine xw_ifnullR dd_V_writeChangeNote_13 ?_
    refine xw_aloadR_n dd_V_writeChangeNote_16 rfl ?_
    refine xw_aloadR_n dd_V_writeChangeNote_17 rfl ?_
    refine xw_less (kc' := 3 + 2) (ks' := 26 + 7) (by decide) (by decide) ?_
    refine xw_cl (ct_V_writeClosingNote ⟨ar, cp, H⟩ w3 (by omega)) (iv_V_writeChangeNote_18 h1) ok_V_writeClosingNote rfl rfl rfl ?_ (fun _ _ _ q => by cases q.1)
    rintro v h2 z2 ⟨hv, q1, q2⟩
    cases hv
    have cl := cg_len V g
    by_cases hs : (sv_closeG V g).1 = true
    · rw [if_pos hs]
      refine xw_if_ne 26 dd_V_writeChangeNote_21 (by decide) (fun hc => ?_) (fun hc => absurd hc (by decide))
      refine tail h2 z2 (sv_closeG V g).2 (.ref y) ?_ q1 q2 cl.2.1 (by omega)
      rw [how]
      exact Prod.ext hs rfl
    · rw [if_neg hs]
      have hs' : (sv_closeG V g).1 = false := by simpa using hs
      have hchg : sv_chg V e r = (false, (sv_closeG V g).2) := by
        unfold sv_chg
        rw [how]
        simp only [hs']
        rfl
      rw [hchg]
      refine xw_if_ne 26 dd_V_writeChangeNote_21 (by decide) (fun hc => absurd rfl hc) (fun hc => ?_)
      refine xw_less (kc' := 0) (ks' := 0) (by decide) (by decide) ?_
      refine xw_iconst 0 dd_V_writeChangeNote_24 (by decide) ?_
      exact xw_zret dd_V_writeChangeNote_25 rfl rfl ⟨rfl, q1, q2⟩
def sv_setF (V : sv_V) (fs' : List sv_E) : sv_V := match V with
  | (_, lt, hd, rg, gs, on, lf) => (fs', lt, hd, rg, gs, on, lf)
/-- the last note of a change, then the change -/
def sv_do (V : sv_V) (e : sv_E) (r : Int32) : Bool × sv_V := if (sv_chg V e r).1 = true then if (sv_spend (sv_chg V e r).2).1 = true then (true, sv_setF (sv_spend (sv_chg V e r).2).2 (sv_put (sv_fs (sv_spend (sv_chg V e r).2).2) 20 e)) else (false, (sv_spend (sv_chg V e r).2).2) else (false, (sv_chg V e r).2)
theorem gro28 {fs : List sv_E} {cap : Nat} {e : sv_E} (h : cap ≤ 28) : (if sv_gro fs 20 cap e = true then al_cap cap else 0) ≤ 28 ∧ (if sv_gro fs 20 cap e = true then al_cap cap else cap) ≤ 28 := by
  by_cases hg : sv_gro fs 20 cap e = true
  · rw [if_pos hg, if_pos hg]
    unfold sv_gro at hg
    simp at hg
    unfold al_cap
    split <;> omega
  · rw [if_neg hg, if_neg hg]
    omega
theorem vs_putF {ye z : Nat} {e : sv_E} {o : Outcome} {xs : List Nat} (H : vo_at G h x V S ar cp) (hdm : xd_h h sz) (h2 : ft_at G h (x + 1) (x + 2) (ar 0) (cp 0) (nI 20) xs (sv_fs V)) (q : xq_fp G h sz (x + 1) (x + 2) (ar 0) (cp 0) (nI 20) (sv_put (sv_fs V) 20 e) (sv_gro (sv_fs V) 20 (cp 0) e) o h1 z) : vs G h1 x (sv_setF V (sv_put (sv_fs V) 20 e)) S ∧ frV x h h1 := by
  obtain ⟨fs, lt, hd, rg, gs, on, lf⟩ := V
  obtain ⟨q1, ⟨xs', q2⟩, q3, q4, q5⟩ := q
  obtain ⟨-, ⟨-, -, gg, ⟨⟨_, c3⟩, c4, -⟩, -⟩, -⟩ := h2
  have hk : ∀ b e, h b = some e → ¬ ((xt e = 8 ∧ b = x + 2) ∨ (xt e = 103 ∧ b = ar 0 ∧ cp 0 ≠ 0)) → h1 b = some e := fun b e hb hn => (q4 b (fun w => by
      subst w
      rw [c3] at hb
      cases hb
      exact hn (Or.inl ⟨rfl, rfl⟩)) (by
      by_cases w : cp 0 = 0
      · exact Or.inr w
      · refine Or.inl (fun w2 => hn (Or.inr ⟨?_, w2, w⟩))
        subst w2
        rw [c4] at hb
        cases hb
        rfl) (by have := hdm _ _ hb; omega)).trans hb
  refine ⟨⟨_, _, H.setF hdm q2 ?_ (gro28 H.2.2.2.2.2.2.2.1).2 hk⟩, fun b e hb hp => hk b e hb (by omega)⟩
  unfold er
  split
  · exact Or.inr (Nat.le_refl _)
  · exact Or.inl ⟨rfl, rfl⟩
theorem ct_V_noteAndDo {ye : Nat} {e : sv_E} {r : Int32} (H : vs G h x V S) (hye : h ye = some (en_c e)) (hh : sv_hd V < 800000) (hg : (sv_gs V).length ≤ 15) : xa_T G mm_V_noteAndDo 9 6 61 [.ref x, .ref ye, .int r] h sz (vq G h x (sv_do V e r).2 S (some (.int (if (sv_do V e r).1 = true then 1 else 0)))) := by
  refine xt_o ok_V_noteAndDo rfl rfl ?_
  refine xw_aloadR_n dd_V_noteAndDo_0 rfl ?_
  refine xw_aloadR_n dd_V_noteAndDo_1 rfl ?_
  refine xw_iload_n dd_V_noteAndDo_2 rfl ?_
  refine xw_less (kc' := 1 + 5) (ks' := 28 + 33) (by decide) (by decide) ?_
  refine xw_cl (ct_V_writeChangeNote H hye hh hg) (iv_V_noteAndDo_3 H.cell) ok_V_writeChangeNote rfl rfl rfl ?_ (fun _ _ _ q => by cases q.1)
  rintro v h1 z1 ⟨hv, q1, q2⟩
  cases hv
  by_cases hc : (sv_chg V e r).1 = true
  · rw [if_pos hc]
    refine xw_if_eq 16 dd_V_noteAndDo_6 (by decide) (fun hq => absurd hq (by decide)) (fun hq => ?_)
    obtain ⟨ar, cp, H1⟩ := q1
    refine xw_aloadR_n dd_V_noteAndDo_9 rfl ?_
    refine xw_cl0 (ct_V_spendWrite H1) (iv_V_noteAndDo_10 H1.1) ok_V_spendWrite rfl rfl rfl ?_ (fun _ _ _ q => by cases q.1)
    rintro v h2 z2 ⟨hv, rfl, u1, u2⟩
    cases hv
    have hf2 : frV x h h2 := fun b e hb hp => u2 b e (q2 b e hb hp) (by omega)
    by_cases hs : (sv_spend (sv_chg V e r).2).1 = true
    · have hd : sv_do V e r = (true, sv_setF (sv_spend (sv_chg V e r).2).2 (sv_put (sv_fs (sv_spend (sv_chg V e r).2).2) 20 e)) := by
        unfold sv_do
        rw [if_pos hc, if_pos hs]
      rw [hd, if_pos hs]
      refine xw_if_ne 18 dd_V_noteAndDo_13 (by decide) (fun hq => ?_) (fun hq => absurd hq (by decide))
      obtain ⟨g1, ⟨ys, g2⟩, g3, g4, g5, g6, g7⟩ := id u1
      refine xw_aloadR_n dd_V_noteAndDo_18 rfl ?_
      refine xw_get fl_V_14 dd_V_noteAndDo_19 g1 rfl ?_
      refine xw_aloadR_n dd_V_noteAndDo_22 rfl ?_
      refine xw_dom (fun hdm2 _ => ?_)
      refine xw_less (kc' := 0 + 1) (ks' := 0 + (if sv_gro (sv_fs (sv_spend (sv_chg V e r).2).2) 20 (cp 0) e = true then al_cap (cp 0) else 0)) (by decide) (by have := (gro28 (fs := sv_fs (sv_spend (sv_chg V e r).2).2) (e := e) g7.2.1).1; omega) ?_
      refine xw_cl (ct_F_put g2 (hf2 _ _ hye (Or.inl rfl)) (by decide) (by have := g7.2.1; omega)) (iv_V_noteAndDo_23 g2.1) ok_F_put rfl rfl rfl ?_ (fun _ _ _ q => by cases q.1)
      rintro v h3 z3 q
      have hv := q.1
      cases hv
      obtain ⟨t1, t2⟩ := vs_putF (ye := ye) u1 hdm2 g2 q
      refine xw_iconst 1 dd_V_noteAndDo_26 (by decide) ?_
      exact xw_zret dd_V_noteAndDo_27 rfl rfl ⟨rfl, t1, hf2.trans t2⟩
    · have hd : sv_do V e r = (false, (sv_spend (sv_chg V e r).2).2) := by
        unfold sv_do
        rw [if_pos hc, if_neg hs]
      rw [hd, if_neg hs]
      refine xw_if_ne 18 dd_V_noteAndDo_13 (by decide) (fun hq => absurd rfl hq) (fun hq => ?_)
      refine xw_iconst 0 dd_V_noteAndDo_16 (by decide) ?_
      exact xw_zret dd_V_noteAndDo_17 rfl rfl ⟨rfl, ⟨_, _, u1⟩, hf2⟩
  · have hd : sv_do V e r = (false, (sv_chg V e r).2) := by
      unfold sv_do
      rw [if_neg hc]
    rw [hd, if_neg hc]
    refine xw_if_eq 16 dd_V_noteAndDo_6 (by decide) (fun hq => ?_) (fun hq => absurd rfl hq)
    refine xw_iconst 0 dd_V_noteAndDo_16 (by decide) ?_
    exact xw_zret dd_V_noteAndDo_17 rfl rfl ⟨rfl, q1, q2⟩
end VN
