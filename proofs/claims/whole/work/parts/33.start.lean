/-! NotedVolume: start, the constructor (by program: wip/whole/mk33.py) -/
theorem rcs_len (rg : Nat → Nat → Int32) : ∀ (k s : Nat) (gs : List (Int32 × Int32)), (sv_rcs rg k s gs).length ≤ gs.length + k
  | 0, _, _ => Nat.le_refl _
  | k + 1, s, gs => by
    have h1 : (sv_rc rg gs s).length ≤ gs.length + 1 := by
      unfold sv_rc
      split
      · exact sg_len ..
      · have := st_len gs (rg (s % 16) 0)
        omega
    have h2 := rcs_len rg k (s + 1) (sv_rc rg gs s)
    show (sv_rcs rg k (s + 1) (sv_rc rg gs s)).length ≤ _
    omega
theorem rec_len (hd : Nat) (rg : Nat → Nat → Int32) : (sv_recall hd rg).length ≤ 16 := by
  have h1 := rcs_len rg (hd - rg_tl hd) (rg_tl hd) []
  unfold sv_recall
  have h2 : hd - rg_tl hd ≤ 16 := by
    unfold rg_tl
    split <;> omega
  have h3 : ([] : List (Int32 × Int32)).length = 0 := rfl
  omega
def sv_ends : Nat → sv_V → sv_V
  | 0, V => V
  | k + 1, V => match (sv_gs V).head? with
    | none => sv_ends k V
    | some g => sv_ends k (sv_endG V g)
def sv_back (V : sv_V) : sv_V := match V with
  | (fs, lt, hd, rg, _, _, _) => (fs, lt, hd, rg, sv_recall hd rg, true, -1)
def sv_start (V : sv_V) : Int32 × sv_V := if sv_on V = true then (-1, V) else (nI (sv_recall (sv_hd V) (sv_rg V)).length, sv_ends (sv_recall (sv_hd V) (sv_rg V)).length (sv_back V))
section VT
variable {G : xa_G} {h : xa_H} {sz x : Nat} {V : sv_V} {S : Nat → sv_S}
theorem ct_V_start (H : vs G h x V S) (hh : sv_hd V < 800000) : xa_T G mm_V_start 12 200 4000 [.ref x] h sz (vq G h x (sv_start V).2 S (some (.int (sv_start V).1))) := by
  have h1 := H.cell
  refine xt_o ok_V_start rfl rfl ?_
  refine xw_aloadR_n dd_V_start_0 rfl ?_
  refine xw_get fl_V_43 dd_V_start_1 h1 rfl ?_
  by_cases hon : sv_on V = true
  · have hr : sv_start V = (-1, V) := by
      unfold sv_start
      rw [if_pos hon]
    rw [hr, if_pos hon]
    refine xw_if_eq 9 dd_V_start_4 (by decide) (fun hc => absurd hc (by decide)) (fun hc => ?_)
    refine xw_iconst (-1) dd_V_start_7 (by decide) ?_
    exact xw_iret dd_V_start_8 rfl ⟨rfl, H, frV.refl⟩
  · have hr : sv_start V = (nI (sv_recall (sv_hd V) (sv_rg V)).length, sv_ends (sv_recall (sv_hd V) (sv_rg V)).length (sv_back V)) := by
      unfold sv_start
      rw [if_neg hon]
    rw [hr, if_neg hon]
    refine xw_if_eq 9 dd_V_start_4 (by decide) (fun hc => ?_) (fun hc => absurd rfl hc)
    obtain ⟨ar, cp, H⟩ := H
    obtain ⟨fs, lt, hd, rg, gs, on, lf⟩ := V
    have hB := H.2.2.2.2.2.2.1
    refine xw_aloadR_n dd_V_start_9 rfl ?_
    refine xw_iconst 1 dd_V_start_10 (by decide) ?_
    refine xw_putA fl_V_43 fz_V_43 (by decide) dd_V_start_11 h1 rfl hB rfl rfl (fun h2 n2 f2 => ?_)
    refine xw_aloadR_n dd_V_start_14 rfl ?_
    refine xw_iconst (-1) dd_V_start_15 (by decide) ?_
    refine xw_putA fl_V_47 fz_V_47 (by decide) dd_V_start_16 n2 rfl hB rfl rfl (fun h3 n3 f3 => ?_)
    have hk3 : ∀ b e, h b = some e → ¬ (xt e = 0 ∧ b = x) → h3 b = some e := fun b e hb hn => by
      have hbx : b ≠ x := fun q => hn ⟨by subst q; rw [h1] at hb; cases hb; rfl, q⟩
      exact (f3 b hbx).trans ((f2 b hbx).trans hb)
    have H3 : vo_at G h3 x (fs, lt, hd, rg, gs, true, -1) S ar cp := H.setX n3 hk3
    have fr3 : frV x h h3 := fun b e hb hp => hk3 b e hb (by omega)
    obtain ⟨g1, ⟨ys, g2⟩, ⟨f, g3, g3'⟩, g4, g5, g6, g7⟩ := id H3
    obtain ⟨_, ⟨hT, ⟨-, -, gg, ⟨⟨_, c3⟩, c4, -⟩, -⟩, -⟩⟩ := id g4
    refine xw_aloadR_n dd_V_start_19 rfl ?_
    refine xw_get fl_V_28 dd_V_start_20 n3 rfl ?_
    refine xw_aloadR_n dd_V_start_23 rfl ?_
    refine xw_get fl_V_21 dd_V_start_24 n3 rfl ?_
    refine xw_dom (fun hdm3 _ => ?_)
    refine xw_less (kc' := 100 + 32) (ks' := 1000 + 384) (by decide) (by decide) ?_
    refine xw_cl (ct_H_recall g4 g7.2.2.1 g3 g3' (xt_ne g3.2.1 c4 (by simp [xt]))) (iv_V_start_27 hT) ok_H_recall rfl rfl rfl ?_ (fun _ _ _ q => by cases q.1)
    rintro v h4 z4 ⟨hv, ⟨ea', cap', q1, q2, q3⟩, q4, q5⟩
    cases hv
    have hk4 : ∀ b e, h3 b = some e → ¬ ((xt e = 8 ∧ b = x + 6) ∨ (xt e = 103 ∧ b = ar 1 ∧ cp 1 ≠ 0) ∨ xt e = 5) → h4 b = some e := fun b e hb hn => q5 b e hb ⟨fun w => by
        subst w
        rw [c3] at hb
        cases hb
        exact hn (Or.inl ⟨rfl, rfl⟩), by
        by_cases w : cp 1 = 0
        · exact Or.inr w
        · refine Or.inl (fun w2 => hn (Or.inr (Or.inl ⟨?_, w2, w⟩)))
          subst w2
          rw [c4] at hb
          cases hb
          rfl, fun q w => hn (Or.inr (Or.inr (by rw [w]; rfl)))⟩
    have H4 : vs G h4 x (fs, lt, hd, rg, sv_recall hd rg, true, -1) S := ⟨_, _, H3.setG hdm3 q1 q3 q2 hk4⟩
    have fr4 : frV x h h4 := fr3.trans (fun b e hb hp => hk4 b e hb (by omega))
    obtain ⟨_, hT4, -⟩ := id q1
    refine xw_aloadR_n dd_V_start_30 rfl ?_
    refine xw_get fl_V_28 dd_V_start_31 H4.cell rfl ?_
    refine xw_cl0 (ct_H_count q1) (iv_V_start_34 hT4) ok_H_count rfl rfl rfl ?_ (fun _ _ _ q => by cases q.1)
    rintro v h4 z4 ⟨hv, rfl, rfl⟩
    cases hv
    refine xw_istore_n dd_V_start_37 (by decide) ?_
    refine xw_iconst 0 dd_V_start_38 (by decide) ?_
    refine xw_istore_n dd_V_start_39 (by decide) ?_
    have hlen := rec_len hd rg
    have loop : ∀ (j i : Nat) (h9 : xa_H) (z9 : Nat) (V1 : sv_V) (ov : Option Value), i + j = (sv_recall hd rg).length → vs G h9 x V1 S → frV x h h9 → sv_hd V1 ≤ hd + i → sv_ends j V1 = sv_ends (sv_recall hd rg).length (fs, lt, hd, rg, sv_recall hd rg, true, -1) → xa_W G mm_V_start 12 (2 * j) (7 * j) 40 [some (.ref x), some (.int (nI (sv_recall hd rg).length)), some (.int (nI i)), ov] [] h9 z9 (vq G h x (sv_ends (sv_recall hd rg).length (fs, lt, hd, rg, sv_recall hd rg, true, -1)) S (some (.int (nI (sv_recall hd rg).length)))) := by
      intro j
      induction j with
      | zero =>
        intro i h9 z9 V1 ov hij H9 f9 hh1 he
        refine xw_iload_n dd_V_start_40 rfl ?_
        refine xw_iload_n dd_V_start_41 rfl ?_
        refine xw_icmp_ge 68 dd_V_start_42 (by decide) (fun hc => ?_) (fun hc => absurd (nI_le (by omega) (by omega)) hc)
        refine xw_iload_n dd_V_start_68 rfl ?_
        have he : V1 = sv_ends (sv_recall hd rg).length (fs, lt, hd, rg, sv_recall hd rg, true, -1) := he
        rw [← he]
        exact xw_iret dd_V_start_69 rfl ⟨rfl, H9, f9⟩
      | succ j ih =>
        intro i h9 z9 V1 ov hij H9 f9 hh1 he
        obtain ⟨ar9, cp9, H9'⟩ := id H9
        obtain ⟨t1, -, -, t4, -⟩ := H9'
        obtain ⟨_, hT9, -⟩ := id t4
        refine xw_iload_n dd_V_start_40 rfl ?_
        refine xw_iload_n dd_V_start_41 rfl ?_
        refine xw_icmp_ge 68 dd_V_start_42 (by decide) (fun hc => absurd hc (nI_ge (by omega) (by omega))) (fun hc => ?_)
        refine xw_aloadR_n dd_V_start_45 rfl ?_
        refine xw_get fl_V_28 dd_V_start_46 t1 rfl ?_
        refine xw_cl0 (ct_H_first t4) (iv_V_start_49 hT9) ok_H_first rfl rfl rfl ?_ (fun _ _ _ q => by cases q.2.2.choose_spec.1)
        rintro v h9 z9 ⟨rfl, rfl, r, hv, hr⟩
        cases hv
        rw [sv_ends] at he
        rcases hr with ⟨w1, rfl⟩ | ⟨g, y, w1, rfl, w3⟩
        · rw [w1] at he
          refine xw_astore_n (r := none) dd_V_start_52 (by decide) ?_
          refine xw_aload_n (r := none) dd_V_start_53 rfl ?_
          refine xw_ifnullN 62 dd_V_start_54 (by decide) ?_
          refine xw_iinc dd_V_start_62 rfl (nI_1 i) (by decide) ?_
          refine xw_goto 40 dd_V_start_65 (by decide) ?_
          refine xw_less (kc' := 2 * j) (ks' := 7 * j) (by omega) (by omega) ?_
          exact ih (i + 1) h9 z9 V1 _ (by omega) H9 f9 (by omega) he
        · rw [w1] at he
          refine xw_astore_n (r := some y) dd_V_start_52 (by decide) ?_
          refine xw_aloadR_n dd_V_start_53 rfl ?_
          refine xw_ifnullR dd_V_start_54 ?_
          refine xw_aloadR_n dd_V_start_57 rfl ?_
          refine xw_aloadR_n dd_V_start_58 rfl ?_
          refine xw_less (kc' := 2 * j + 2) (ks' := 7 * j + 7) (by omega) (by omega) ?_
          have hh' : hd < 800000 := hh
          refine xw_cl (ct_V_endGathering H9 w3 (by omega)) (iv_V_start_59 t1) ok_V_endGathering rfl rfl rfl ?_ (fun _ _ _ q => by cases q.1)
          rintro v h10 z10 ⟨hv, u1, u2⟩
          cases hv
          refine xw_iinc dd_V_start_62 rfl (nI_1 i) (by decide) ?_
          refine xw_goto 40 dd_V_start_65 (by decide) ?_
          exact ih (i + 1) h10 z10 (sv_endG V1 g) _ (by omega) u1 (f9.trans u2) (by rw [(eg_len V1 g).2.1]; omega) he
    refine xw_less (kc' := 2 * (sv_recall hd rg).length) (ks' := 7 * (sv_recall hd rg).length) (by omega) (by omega) ?_
    exact loop _ 0 h4 z4 _ _ (by omega) H4 fr4 (by show hd ≤ hd + 0; omega) rfl
/-- what a new volume is -/
def sv_V0 : sv_V := ([], 0, 1, (fun _ _ => 0), [], true, -1)
def sv_S0 : sv_S := ([], 0, (fun i => if i < 4 then -1 else 0), 1, 127, false, 0)
theorem ct_V_init {f : Nat → Option Nat} (hx : h x = some (.inr (0, [.null, .null, .null, .null, .int 0, .int 0, .int 0]))) (hB : G.2.2.1 ≤ x) (hu : h G.2.2.2.1 = some (xr_q 3 0 f)) (hux : G.2.2.2.1 < x) : xa_T G mm_V_init 6 19 75 [.ref x] h (x + 1) (fun o h' z => o = .returned none ∧ z = x + 20 ∧ vs G h' x sv_V0 (fun _ => sv_S0) ∧ ∀ b, b < x → h' b = h b) := by
  refine xt_o ok_V_init rfl rfl ?_
  refine xw_dom (fun hd hBz => ?_)
  refine xw_aloadR_n dd_V_init_0 rfl ?_
  refine xw_objInit ol_V_1 wo_in wo_co (by decide) (by decide) dd_V_init_1 ?_
  refine xw_aloadR_n dd_V_init_4 rfl ?_
  refine xw_less (kc' := 18 + 1) (ks' := 73 + 2) (by decide) (by decide) ?_
  refine xw_newA nw_V_7 dd_V_init_5 (fun h1 n1 f1 => ?_)
  refine xw_dup dd_V_init_8 rfl ?_
  refine xw_bipush 20 dd_V_init_9 (by decide) ?_
  refine xw_less (kc' := 17 + 1) (ks' := 70 + 3) (by decide) (by decide) ?_
  refine xw_cl (ct_F_init n1 (by omega) ((f1 _ (by omega)).trans hu)) iv_V_init_11 ok_F_init rfl rfl rfl ?_ (fun _ _ _ q => by cases q.1)
  rintro v h2 z2 ⟨hv, rfl, q2, f2⟩
  cases hv
  refine xw_putA fl_V_14 fz_V_14 (by decide) dd_V_init_14 ((f2 x (by omega) (by omega)).trans ((f1 x (by omega)).trans hx)) rfl hB rfl rfl (fun h3 n3 f3 => ?_)
  refine xw_aloadR_n dd_V_init_17 rfl ?_
  refine xw_less (kc' := 16 + 1) (ks' := 68 + 2) (by decide) (by decide) ?_
  refine xw_newA nw_V_18 dd_V_init_18 (fun h4 n4 f4 => ?_)
  refine xw_dup dd_V_init_21 rfl ?_
  refine xw_less (kc' := 15 + 1) (ks' := 52 + 16) (by decide) (by decide) ?_
  refine xw_cl (ct_R_init n4 (by omega)) iv_V_init_22 ok_R_init rfl rfl rfl ?_ (fun _ _ _ q => by cases q.1)
  rintro v h5 z5 ⟨hv, rfl, q5, f5⟩
  cases hv
  refine xw_putA fl_V_21 fz_V_21 (by decide) dd_V_init_25 ((f5 x (by omega) (by omega)).trans ((f4 x (by omega)).trans n3)) rfl hB rfl rfl (fun h6 n6 f6 => ?_)
  refine xw_aloadR_n dd_V_init_28 rfl ?_
  refine xw_less (kc' := 14 + 1) (ks' := 51 + 1) (by decide) (by decide) ?_
  refine xw_newA nw_V_25 dd_V_init_29 (fun h7 n7 f7 => ?_)
  refine xw_dup dd_V_init_32 rfl ?_
  refine xw_less (kc' := 13 + 1) (ks' := 48 + 3) (by decide) (by decide) ?_
  have ku7 : h7 G.2.2.2.1 = some (xr_q 3 0 f) := by
    rw [f7 _ (by omega), f6 _ (by omega), f5 _ (by omega) (by omega), f4 _ (by omega), f3 _ (by omega), f2 _ (by omega) (by omega), f1 _ (by omega)]
    exact hu
  refine xw_cl (ct_H_init n7 (by omega) ku7) iv_V_init_33 ok_H_init rfl rfl rfl ?_ (fun _ _ _ q => by cases q.1)
  rintro v h8 z8 ⟨hv, rfl, q8, f8⟩
  cases hv
  refine xw_putA fl_V_28 fz_V_28 (by decide) dd_V_init_36 ((f8 x (by omega) (by omega)).trans ((f7 x (by omega)).trans n6)) rfl hB rfl rfl (fun h9 n9 f9 => ?_)
  refine xw_aloadR_n dd_V_init_39 rfl ?_
  refine xw_iconst 3 dd_V_init_40 (by decide) ?_
  refine xw_less (kc' := 12 + 1) (ks' := 45 + 3) (by decide) (by decide) ?_
  refine xw_anewA (t := 5) (N := 3) rfl an_V_32 (by decide) dd_V_init_41 (by decide) (by decide) (by decide) (fun h10 n10 f10 => ?_)
  refine xw_putA fl_V_34 fz_V_34 (by decide) dd_V_init_44 ((f10 x (by omega)).trans n9) rfl hB rfl rfl (fun h11 n11 f11 => ?_)
  have lw : ∀ b, b < x → h11 b = h b := fun b hb => by
    rw [f11 b (by omega), f10 b (by omega), f9 b (by omega), f8 b (by omega) (by omega), f7 b (by omega), f6 b (by omega), f5 b (by omega) (by omega), f4 b (by omega), f3 b (by omega), f2 b (by omega) (by omega), f1 b (by omega)]
  have ku11 : h11 G.2.2.2.1 = some (xr_q 3 0 f) := (lw _ hux).trans hu
  have F11 : ft_at G h11 (x + 1) (x + 2) G.2.2.2.1 0 (nI 20) [] [] := by
    obtain ⟨w0, ⟨w1, w2, g, ⟨⟨mc, w3⟩, w4, w5, w6⟩, w7⟩, -⟩ := q2
    have k : ∀ b, b = x + 1 ∨ b = x + 2 → h11 b = h2 b := fun b hb => by
      rw [f11 b (by omega), f10 b (by omega), f9 b (by omega), f8 b (by omega) (by omega), f7 b (by omega), f6 b (by omega), f5 b (by omega) (by omega), f4 b (by omega), f3 b (by omega)]
    exact ⟨(k _ (Or.inl rfl)).trans w0, ⟨w1, w2, f, ⟨⟨mc, (k _ (Or.inr rfl)).trans w3⟩, ku11, w5, w6⟩, fun i y hy => by simp at hy⟩, rfl⟩
  have R11 : rg_at h11 (x + 3) (x + 4) 1 (fun _ => none) := by
    have k : ∀ b, b = x + 3 ∨ b = x + 4 → h11 b = h5 b := fun b hb => by
      rw [f11 b (by omega), f10 b (by omega), f9 b (by omega), f8 b (by omega) (by omega), f7 b (by omega), f6 b (by omega)]
    exact ⟨(k _ (Or.inl rfl)).trans q5.1, (k _ (Or.inr rfl)).trans q5.2.1, q5.2.2⟩
  have H11 : gh_at G h11 (x + 5) (x + 6) G.2.2.2.1 0 [] := by
    obtain ⟨xs, w0, ⟨w1, w2, g, ⟨⟨mc, w3⟩, w4, w5, w6⟩, w7⟩, w8, -⟩ := q8
    have hxs : xs = [] := by
      have := gt_l.len w8
      exact List.eq_nil_of_length_eq_zero (by simpa using this)
    subst hxs
    have k : ∀ b, b = x + 5 ∨ b = x + 6 → h11 b = h8 b := fun b hb => by
      rw [f11 b (by omega), f10 b (by omega), f9 b (by omega)]
    exact ⟨[], (k _ (Or.inl rfl)).trans w0, ⟨w1, w2, f, ⟨⟨mc, (k _ (Or.inr rfl)).trans w3⟩, ku11, w5, w6⟩, fun i y hy => by simp at hy⟩, rfl, List.nodup_nil, fun y hy => by simp at hy⟩
  refine xw_iconst 0 dd_V_init_47 (by decide) ?_
  refine xw_istore_n dd_V_init_48 (by decide) ?_
  have loop : ∀ (j i : Nat) (h12 : xa_H) (g : Nat → Option Nat), i + j = 3 → h12 x = h11 x → h12 (x + 7) = some (xr_q 5 3 g) → (∀ s, s < i → g s = some (x + 8 + 4 * s)) → (∀ s, s < i → su_at G h12 (x + 8 + 4 * s) (x + 9 + 4 * s) (x + 10 + 4 * s) G.2.2.2.1 (x + 11 + 4 * s) sv_S0) → (∀ b, b < x + 7 → h12 b = h11 b) → xa_W G mm_V_init 6 (4 * j) (15 * j) 49 [some (.ref x), some (.int (nI i))] [] h12 (x + 8 + 4 * i) (fun o h' z => o = .returned none ∧ z = x + 20 ∧ vs G h' x sv_V0 (fun _ => sv_S0) ∧ ∀ b, b < x → h' b = h b) := by
    intro j
    induction j with
    | zero =>
      intro i h12 g hij k0 k1 k2 k3 k4
      have : i = 3 := by omega
      subst this
      refine xw_iload_n dd_V_init_49 rfl ?_
      refine xw_iconst 3 dd_V_init_50 (by decide) ?_
      refine xw_icmp_ge 73 dd_V_init_51 (by decide) (fun hc => ?_) (fun hc => absurd (by decide) hc)
      refine xw_aloadR_n dd_V_init_73 rfl ?_
      refine xw_iconst 1 dd_V_init_74 (by decide) ?_
      refine xw_putA fl_V_39 fz_V_39 (by decide) dd_V_init_75 (k0.trans n11) rfl hB rfl rfl (fun h13 n13 f13 => ?_)
      refine xw_aloadR_n dd_V_init_78 rfl ?_
      refine xw_iconst 1 dd_V_init_79 (by decide) ?_
      refine xw_putA fl_V_43 fz_V_43 (by decide) dd_V_init_80 n13 rfl hB rfl rfl (fun h14 n14 f14 => ?_)
      refine xw_aloadR_n dd_V_init_83 rfl ?_
      refine xw_iconst (-1) dd_V_init_84 (by decide) ?_
      refine xw_putA fl_V_47 fz_V_47 (by decide) dd_V_init_85 n14 rfl hB rfl rfl (fun h15 n15 f15 => ?_)
      have g15 : ∀ b, b ≠ x → h15 b = h12 b := fun b hb => (f15 b hb).trans ((f14 b hb).trans (f13 b hb))
      have a15 : ∀ b, b < x + 7 → b ≠ x → h15 b = h11 b := fun b hb hb2 => (g15 b hb2).trans (k4 b hb)
      refine xw_vret dd_V_init_88 rfl ⟨rfl, by omega, ⟨fun _ => G.2.2.2.1, fun _ => 0, n15, ⟨[], ?_⟩, ⟨fun _ => none, ?_, ?_⟩, ?_, ⟨g, (g15 _ (by omega)).trans k1, k2⟩, fun s hs => ?_, hB, by decide, by decide, fun s hs => ⟨rfl, show (0 : Nat) ≤ 766 by decide, Nat.le_refl _⟩, fun _ _ _ _ _ => Or.inr rfl⟩, fun b hb => (a15 b (by omega) (by omega)).trans (lw b hb)⟩
      · obtain ⟨w0, ⟨w1, w2, g', ⟨⟨mc, w3⟩, w4, w5, w6⟩, w7⟩, w8⟩ := F11
        exact ⟨(a15 _ (by omega) (by omega)).trans w0, ⟨w1, w2, g', ⟨⟨mc, (a15 _ (by omega) (by omega)).trans w3⟩, (a15 G.2.2.2.1 (by omega) (by omega)).trans w4, w5, w6⟩, w7⟩, rfl⟩
      · exact ⟨(a15 _ (by omega) (by omega)).trans R11.1, (a15 _ (by omega) (by omega)).trans R11.2.1, R11.2.2⟩
      · intro s h2 h3
        have h3 : s < 1 := h3
        have h2 : rg_tl 1 ≤ s := h2
        have : rg_tl 1 = 1 := rfl
        omega
      · obtain ⟨xs, w0, ⟨w1, w2, g', ⟨⟨mc, w3⟩, w4, w5, w6⟩, w7⟩, w8, w9, w10⟩ := H11
        have hxs : xs = [] := by
          have := gt_l.len w8
          exact List.eq_nil_of_length_eq_zero (by simpa using this)
        subst hxs
        exact ⟨[], (a15 _ (by omega) (by omega)).trans w0, ⟨w1, w2, g', ⟨⟨mc, (a15 _ (by omega) (by omega)).trans w3⟩, (a15 G.2.2.2.1 (by omega) (by omega)).trans w4, w5, w6⟩, w7⟩, rfl, w9, w10⟩
      · refine (k3 s hs).kp (fun b e hb hc => (g15 b (fun q => ?_)).trans hb)
        subst q
        rw [k0, n11] at hb
        cases hb
        simp [xt] at hc
    | succ j ih =>
      intro i h12 g hij k0 k1 k2 k3 k4
      refine xw_dom (fun hd12 _ => ?_)
      refine xw_iload_n dd_V_init_49 rfl ?_
      refine xw_iconst 3 dd_V_init_50 (by decide) ?_
      refine xw_icmp_ge 73 dd_V_init_51 (by decide) (fun hc => absurd hc (nI_ge (a := i) (b := 3) (by omega) (by decide))) (fun hc => ?_)
      refine xw_aloadR_n dd_V_init_54 rfl ?_
      refine xw_get fl_V_34 dd_V_init_55 (k0.trans n11) rfl ?_
      refine xw_iload_n dd_V_init_58 rfl ?_
      refine xw_less (kc' := (4 * j + 3) + 1) (ks' := (15 * j + 9) + 6) (by omega) (by omega) ?_
      refine xw_newA nw_V_32 dd_V_init_59 (fun h13 n13 f13 => ?_)
      refine xw_dup dd_V_init_62 rfl ?_
      refine xw_cl (ct_S_init n13 (by omega) ((f13 _ (by omega)).trans ((k4 _ (by omega)).trans ku11))) iv_V_init_63 ok_S_init rfl rfl rfl ?_ (fun _ _ _ q => by cases q.1)
      rintro v h14 z14 ⟨hv, rfl, q14, f14⟩
      cases hv
      have g14 : ∀ b, b < x + 8 + 4 * i → h14 b = h12 b := fun b hb => (f14 b (by omega) (by omega)).trans (f13 b (by omega))
      refine xw_aastA (t := 5) rfl (ci := 7) ⟨_, rfl, Or.inl rfl⟩ dd_V_init_66 ((g14 _ (by omega)).trans k1) q14.1 (vp_in_nI (by omega) (by decide)) (by omega) (fun h15 n15 f15 => ?_)
      rw [nI_clamp (by omega)] at n15
      refine xw_iinc dd_V_init_67 rfl (nI_1 i) (by decide) ?_
      refine xw_goto 49 dd_V_init_70 (by decide) ?_
      have hz : x + 8 + 4 * i + 1 + 3 = x + 8 + 4 * (i + 1) := by omega
      rw [hz]
      refine ih (i + 1) h15 _ (by omega) ((f15 x (by omega)).trans ((g14 x (by omega)).trans k0)) n15 (fun s hs => ?_) (fun s hs => ?_) (fun b hb => (f15 b (by omega)).trans ((g14 b (by omega)).trans (k4 b hb)))
      · by_cases e : s = i
        · subst e
          exact va_up_self ..
        · rw [va_up_ne _ _ e]
          exact k2 s (by omega)
      · by_cases e : s = i
        · subst e
          have e1 : x + 8 + 4 * s + 1 = x + 9 + 4 * s := by omega
          have e2 : x + 8 + 4 * s + 1 + 1 = x + 10 + 4 * s := by omega
          have e3 : x + 8 + 4 * s + 1 + 2 = x + 11 + 4 * s := by omega
          rw [e2, e3, e1] at q14
          refine q14.kp (fun b e hb hc => (f15 b (fun q => ?_)).trans hb)
          subst q
          rw [g14 _ (by omega), k1] at hb
          cases hb
          simp [xt] at hc
        · refine (k3 s (by omega)).kp (fun b e hb hc => ?_)
          have hbl : b ≠ x + 7 := fun q => by
            subst q
            rw [k1] at hb
            cases hb
            simp [xt] at hc
          have hb8 : b < x + 8 + 4 * i := hd12 _ _ hb
          exact (f15 b hbl).trans ((g14 b hb8).trans hb)
  refine xw_less (kc' := 0 + 12) (ks' := 0 + 45) (by decide) (by decide) ?_
  exact loop 3 0 h11 (fun _ => none) rfl rfl ((f11 _ (by omega)).trans n10) (fun s hs => by omega) (fun s hs => by omega) (fun _ _ => rfl)
end VT
