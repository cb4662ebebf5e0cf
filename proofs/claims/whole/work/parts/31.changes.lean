/-! NotedVolume: follow, and the calls that change (by program: wip/whole/mk31.py) -/
theorem vw_k (S : Nat → sv_S) (k : Nat) (S' : sv_S) : vw S k S' k = S' := if_pos rfl
theorem vw_vw (S : Nat → sv_S) (k : Nat) (S1 S2 : sv_S) : vw (vw S k S1) k S2 = vw S k S2 := funext (fun j => by unfold vw; split <;> rfl)
theorem sv_act_cur {hd : Nat} {rg : Nat → Nat → Int32} {fs : List sv_E} {S : sv_S} (h : su_cur S ≤ hd) : su_cur (sv_act hd rg fs S).2 ≤ hd := by
  unfold sv_act
  split
  · exact h
  · split
    · exact Nat.le_refl _
    · split
      · rename_i s hs
        have := sv_scan_in hs
        show s + 1 ≤ hd
        omega
      · exact Nat.le_refl _
section VF
variable {G : xa_G} {h : xa_H} {sz x : Nat} {V : sv_V} {S : Nat → sv_S}
theorem ct_V_follow {s n : Int32} (H : vs G h x V S) : xa_T G mm_V_follow 12 200 4000 [.ref x, .int s, .int n] h sz (vqs G h x (sw_follow V S s n) cs_s V) := by
  have h1 := H.cell
  refine xt_o ok_V_follow rfl rfl ?_
  refine xw_dom (fun hdm _ => ?_)
  refine xw_aloadR_n dd_V_follow_0 rfl ?_
  refine xw_iload_n dd_V_follow_1 rfl ?_
  refine xw_less (kc' := 199 + 1) (ks' := 3990 + 6) (by decide) (by decide) ?_
  refine xw_sub (ct_V_subscriberAt H) (iv_V_follow_2 h1) rfl rfl rfl (fun k hk w0 => ?_) (fun w0 => vqs.thr (k := 1) (v := 0) (by unfold sw_follow; rw [if_pos w0]) H frV.refl hdm (by decide) rfl)
  subst w0
  obtain ⟨ea, fea, fcap, ys, f, a1, a2, a3, a4, a5, a6, a7, a8, back⟩ := H.toS hk
  have hs := cd_s_no hk
  have hsk : sk (nI k) = k := nI_clamp (by omega)
  have bad : (n < 0 ∨ 40 < n) → xa_W G mm_V_follow 12 199 3990 16 [some (.ref x), some (.int (nI k)), some (.int n), some (.ref (x + 8 + 4 * k)), none, none] [] h sz (vqs G h x (sw_follow V S (nI k) n) cs_s V) := by
    intro hb
    refine xw_less (kc' := 180 + 1) (ks' := 3900 + 6) (by decide) (by decide) ?_
    exact xw_throw (tx := "the number of actions is not 0 .. 40") ex_11 dd_V_follow_16 dd_V_follow_19 dd_V_follow_20 dd_V_follow_22 dd_V_follow_25 (by decide) (by decide) (by decide) rfl (vqs.thr (k := 2) (v := 0) (by unfold sw_follow; rw [if_neg hs, if_pos hb]) H frV.refl hdm (by decide) rfl)
  refine xw_astoreR_n dd_V_follow_5 (by decide) ?_
  refine xw_iload_n dd_V_follow_6 rfl ?_
  refine xw_if_lt 16 dd_V_follow_7 (by decide) (fun q => bad (Or.inl q)) (fun q1 => ?_)
  refine xw_iload_n dd_V_follow_10 rfl ?_
  refine xw_bipush 40 dd_V_follow_11 (by decide) ?_
  refine xw_icmp_le 26 dd_V_follow_13 (by decide) (fun q2 => ?_) (fun q => bad (Or.inr (Int32.not_le.mp q)))
  obtain ⟨m, hm, rfl⟩ := nI_of q1
  have hm40 : m ≤ 40 := (nI_leI (b := 40) hm (by decide)).mp q2
  have hb : ¬ (nI m < 0 ∨ 40 < nI m) := by
    rintro (q | q)
    · exact q1 q
    · exact Int32.not_le.mpr q q2
  have hend : sw_follow V S (nI k) (nI m) = (0, nI (sv_acts (sv_hd V) (sv_rg V) (sv_fs V) m (S k)).1, vw S k (sv_acts (sv_hd V) (sv_rg V) (sv_fs V) m (S k)).2) := by
    unfold sw_follow
    rw [if_neg hs, if_neg hb, hsk, nI_clamp hm]
  have loop : ∀ (j i c : Nat) (h9 : xa_H) (z9 : Nat) (S1 : sv_S), i + j = m → c ≤ i → vs G h9 x V (vw S k S1) → frV x h h9 → su_cap S1 ≤ 766 → c + (sv_acts (sv_hd V) (sv_rg V) (sv_fs V) j S1).1 = (sv_acts (sv_hd V) (sv_rg V) (sv_fs V) m (S k)).1 → (sv_acts (sv_hd V) (sv_rg V) (sv_fs V) j S1).2 = (sv_acts (sv_hd V) (sv_rg V) (sv_fs V) m (S k)).2 → xa_W G mm_V_follow 12 (4 * j) (4 * (766 - su_cap S1)) 32 [some (.ref x), some (.int (nI k)), some (.int (nI m)), some (.ref (x + 8 + 4 * k)), some (.int (nI c)), some (.int (nI i))] [] h9 z9 (vqs G h x (sw_follow V S (nI k) (nI m)) cs_s V) := by
    intro j
    induction j with
    | zero =>
      intro i c h9 z9 S1 hij hci H9 hf9 hcap e1 e2
      refine xw_iload dd_V_follow_32 rfl ?_
      refine xw_iload_n dd_V_follow_34 rfl ?_
      refine xw_icmp_ge 62 dd_V_follow_35 (by decide) (fun hc => ?_) (fun hc => absurd (nI_le (by omega) (by omega)) hc)
      refine xw_iload dd_V_follow_62 rfl ?_
      have e1 : c + 0 = (sv_acts (sv_hd V) (sv_rg V) (sv_fs V) m (S k)).1 := e1
      have e2 : S1 = (sv_acts (sv_hd V) (sv_rg V) (sv_fs V) m (S k)).2 := e2
      refine xw_iret dd_V_follow_64 rfl (vqs.ret (S' := vw S k S1) ?_ H9 hf9)
      rw [hend, ← e1, ← e2]
      rfl
    | succ j ih =>
      intro i c h9 z9 S1 hij hci H9 hf9 hcap e1 e2
      obtain ⟨ea9, fea9, fcap9, ys9, f9, b1, b2, b3, b4, b5, b6, b7, b8, back9⟩ := H9.toS hk
      rw [vw_k] at b1 b5 b6 b7
      refine xw_dom (fun hdm9 _ => ?_)
      refine xw_iload dd_V_follow_32 rfl ?_
      refine xw_iload_n dd_V_follow_34 rfl ?_
      refine xw_icmp_ge 62 dd_V_follow_35 (by decide) (fun hc => absurd hc (nI_ge (by omega) (by omega))) (fun hc => ?_)
      refine xw_aloadR_n dd_V_follow_38 rfl ?_
      refine xw_aloadR_n dd_V_follow_39 rfl ?_
      refine xw_get fl_V_21 dd_V_follow_40 H9.cell rfl ?_
      refine xw_aloadR_n dd_V_follow_43 rfl ?_
      refine xw_get fl_V_14 dd_V_follow_44 H9.cell rfl ?_
      have c1 := sv_actC (sv_hd V) (sv_rg V) (sv_fs V) S1
      have c2 := sv_act766 (sv_hd V) (sv_rg V) (sv_fs V) hcap
      refine xw_less (kc' := 4 * j + 4) (ks' := 4 * (766 - su_cap (sv_act (sv_hd V) (sv_rg V) (sv_fs V) S1).2) + 4 * (su_cap (sv_act (sv_hd V) (sv_rg V) (sv_fs V) S1).2 - su_cap S1)) (by omega) (by omega) ?_
      refine xw_cl (ct_S_act b1 b2 b6 (by omega) b5 b7 b3 b4) (iv_V_follow_47 b1.1) ok_S_act rfl rfl rfl ?_ (fun _ _ _ q => by cases q.1)
      rintro v h10 z10 ⟨hv, ⟨ea', u1, u2⟩, u3, u4⟩
      cases hv
      have hb10 := back9 h10 z9 ea' (sv_act (sv_hd V) (sv_rg V) (sv_fs V) S1).2 hdm9 u1 (by rw [vw_k]; exact u2) c2 (sv_act_cur b7) (by rw [vw_k]; exact u4)
      rw [vw_vw] at hb10
      obtain ⟨H10, f10⟩ := hb10
      have a1' : c + ((if (sv_act (sv_hd V) (sv_rg V) (sv_fs V) S1).1 = true then 1 else 0) + (sv_acts (sv_hd V) (sv_rg V) (sv_fs V) j (sv_act (sv_hd V) (sv_rg V) (sv_fs V) S1).2).1) = (sv_acts (sv_hd V) (sv_rg V) (sv_fs V) m (S k)).1 := e1
      by_cases hq : (sv_act (sv_hd V) (sv_rg V) (sv_fs V) S1).1 = true
      · rw [if_pos hq] at a1' ⊢
        refine xw_if_eq 56 dd_V_follow_50 (by decide) (fun hc => absurd hc (by decide)) (fun hc => ?_)
        refine xw_iinc dd_V_follow_53 rfl (nI_1 c) (by decide) ?_
        refine xw_iinc dd_V_follow_56 rfl (nI_1 i) (by decide) ?_
        refine xw_goto 32 dd_V_follow_59 (by decide) ?_
        exact ih (i + 1) (c + 1) h10 z10 _ (by omega) (by omega) H10 (hf9.trans f10) c2 (by omega) e2
      · rw [if_neg hq] at a1' ⊢
        refine xw_if_eq 56 dd_V_follow_50 (by decide) (fun hc => ?_) (fun hc => absurd rfl hc)
        refine xw_iinc dd_V_follow_56 rfl (nI_1 i) (by decide) ?_
        refine xw_goto 32 dd_V_follow_59 (by decide) ?_
        exact ih (i + 1) c h10 z10 _ (by omega) (by omega) H10 (hf9.trans f10) c2 (by omega) e2
  refine xw_iconst 0 dd_V_follow_26 (by decide) ?_
  refine xw_istore dd_V_follow_27 (by decide) ?_
  refine xw_iconst 0 dd_V_follow_29 (by decide) ?_
  refine xw_istore dd_V_follow_30 (by decide) ?_
  refine xw_less (kc' := 4 * m) (ks' := 4 * (766 - su_cap (S k))) (by omega) (by omega) ?_
  exact loop m 0 0 h sz (S k) (by omega) (by omega) H.same frV.refl a6 (by omega) rfl
abbrev cs_h : Nat → Nat := fun c => if c = 1 then 10 else if c = 2 then 12 else 13
theorem pow0 (c0 : cd_pow V = 0) : sv_on V = true := by
  unfold cd_pow at c0
  by_cases q : sv_on V = true
  · exact q
  · rw [if_neg q] at c0
    cases c0
theorem pow1 (c0 : cd_pow V ≠ 0) : ¬ sv_on V = true ∧ cd_pow V = 1 := by
  unfold cd_pow at c0 ⊢
  by_cases q : sv_on V = true
  · rw [if_pos q] at c0
    exact absurd rfl c0
  · exact ⟨q, if_neg q⟩
def sv_cls (V : sv_V) (f : Int32) : Nat × Int32 × sv_V := if sv_on V = true then match sv_gOf (sv_gs V) f with
    | none => (2, 0, V)
    | some g => (0, if (sv_closeG V g).1 = true then 1 else 0, (sv_closeG V g).2)
  else (1, 0, V)
theorem zbit {c : Prop} [Decidable c] : narrow .boolean (.int (if c then 1 else 0)) = .int (if c then 1 else 0) := by split <;> rfl
theorem ct_V_close {f : Int32} (H : vs G h x V S) (hh : sv_hd V < 800000) : xa_T G mm_V_close 12 200 4000 [.ref x, .int f] h sz (vqr G h x (sv_cls V f) cs_h S) := by
  have h1 := H.cell
  refine xt_o ok_V_close rfl rfl ?_
  refine xw_dom (fun hdm _ => ?_)
  refine xw_aloadR_n dd_V_close_0 rfl ?_
  refine xw_less (kc' := 199 + 1) (ks' := 3990 + 6) (by decide) (by decide) ?_
  refine xw_chk (ct_V_checkPower H) (iv_V_close_1 h1) ok_V_checkPower rfl rfl rfl rfl (fun c0 => ?_) (fun c0 => by
    obtain ⟨c1, c2⟩ := pow1 c0
    rw [c2]
    exact vqr.thr (k := 1) (V := V) (v := 0) (by unfold sv_cls; rw [if_neg c1]) H frV.refl hdm (by decide) rfl)
  have on := pow0 c0
  obtain ⟨ar, cp, H'⟩ := id H
  obtain ⟨-, -, -, ⟨ys, h4⟩, -⟩ := H'
  refine xw_aloadR_n dd_V_close_4 rfl ?_
  refine xw_get fl_V_28 dd_V_close_5 h1 rfl ?_
  refine xw_iload_n dd_V_close_8 rfl ?_
  refine xw_cl0 (ct_H_gatheringOf h4) (iv_V_close_9 h4.1) ok_H_gatheringOf rfl rfl rfl ?_ (fun _ _ _ q => by cases q.2.2.choose_spec.1)
  rintro v h sz ⟨rfl, rfl, r, hv, hr⟩
  cases hv
  rcases hr with ⟨w1, rfl⟩ | ⟨g, y, i, w1, rfl, w2, w3, -⟩
  · have w1' : sv_gOf (sv_gs V) f = none := w1
    refine xw_astore_n (r := none) dd_V_close_12 (by decide) ?_
    refine xw_aload_n (r := none) dd_V_close_13 rfl ?_
    refine xw_ifnonnullN dd_V_close_14 ?_
    refine xw_less (kc' := 180 + 1) (ks' := 3900 + 6) (by decide) (by decide) ?_
    exact xw_throw (tx := "no gathering of it is open") ex_12 dd_V_close_17 dd_V_close_20 dd_V_close_21 dd_V_close_23 dd_V_close_26 (by decide) (by decide) (by decide) rfl (vqr.thr (k := 2) (V := V) (v := 0) (by unfold sv_cls; rw [if_pos on, w1']) H frV.refl hdm (by decide) rfl)
  · have w1' : sv_gOf (sv_gs V) f = some g := w1
    have hy : h y = some (gt_d g) := by
      obtain ⟨y', g', e1, e2, e3⟩ := h4.2.2.1.at (List.getElem?_eq_some_iff.mp w3).1
      rw [w2] at e1
      rw [w3] at e2
      cases e1
      cases e2
      exact e3
    refine xw_astore_n (r := some y) dd_V_close_12 (by decide) ?_
    refine xw_aloadR_n dd_V_close_13 rfl ?_
    refine xw_ifnonnullR 27 dd_V_close_14 (by decide) ?_
    refine xw_aloadR_n dd_V_close_27 rfl ?_
    refine xw_aloadR_n dd_V_close_28 rfl ?_
    refine xw_less (kc' := 0 + 2) (ks' := 0 + 7) (by decide) (by decide) ?_
    refine xw_cl (ct_V_writeClosingNote H hy (by omega)) (iv_V_close_29 h1) ok_V_writeClosingNote rfl rfl rfl ?_ (fun _ _ _ q => by cases q.1)
    rintro v h9 z9 ⟨hv, q1, q2⟩
    cases hv
    exact xw_zret dd_V_close_32 rfl zbit (vqr.ret (by unfold sv_cls; rw [if_pos on, w1']) q1 q2)
def sv_chn (V : sv_V) (f : Int32) : Nat × Int32 × sv_V := if sv_on V = true then match sv_find (sv_fs V) f with
    | none => (2, 0, V)
    | some e => if e.2.1 = 1 then (3, 0, V) else if (sv_do V (f, e.2.1, e.2.2.1, e.2.2.2.1, e.2.2.2.2 + 1) 2).1 = true then (0, e.2.2.2.2 + 1, (sv_do V (f, e.2.1, e.2.2.1, e.2.2.2.1, e.2.2.2.2 + 1) 2).2) else (0, -2, (sv_do V (f, e.2.1, e.2.2.1, e.2.2.2.1, e.2.2.2.2 + 1) 2).2)
  else (1, 0, V)
/-- a new entry beside the volume -/
theorem vs.newE {h9 : xa_H} (H : vs G h x V S) (hk : ∀ b e, h b = some e → h9 b = some e) : vs G h9 x V S ∧ frV x h h9 := by
  obtain ⟨ar, cp, H⟩ := H
  exact ⟨⟨ar, cp, H.kp0 hk⟩, fun b e hb _ => hk b e hb⟩
theorem ct_V_change {f : Int32} (H : vs G h x V S) (hh : sv_hd V < 800000) (hg : (sv_gs V).length ≤ 15) : xa_T G mm_V_change 12 200 4000 [.ref x, .int f] h sz (vqr G h x (sv_chn V f) cs_h S) := by
  have h1 := H.cell
  refine xt_o ok_V_change rfl rfl ?_
  refine xw_dom (fun hdm hBz => ?_)
  refine xw_aloadR_n dd_V_change_0 rfl ?_
  refine xw_less (kc' := 199 + 1) (ks' := 3990 + 6) (by decide) (by decide) ?_
  refine xw_chk (ct_V_checkPower H) (iv_V_change_1 h1) ok_V_checkPower rfl rfl rfl rfl (fun c0 => ?_) (fun c0 => by
    obtain ⟨c1, c2⟩ := pow1 c0
    rw [c2]
    exact vqr.thr (k := 1) (V := V) (v := 0) (by unfold sv_chn; rw [if_neg c1]) H frV.refl hdm (by decide) rfl)
  have on := pow0 c0
  refine xw_aloadR_n dd_V_change_4 rfl ?_
  refine xw_iload_n dd_V_change_5 rfl ?_
  refine xw_less (kc' := 180 + 1) (ks' := 3900 + 6) (by decide) (by decide) ?_
  refine xw_live (ct_V_liveEntry H) (iv_V_change_6 h1) rfl rfl rfl (fun e y w1 w2 => ?_) (fun w1 => vqr.thr (k := 2) (V := V) (v := 0) (by unfold sv_chn; rw [if_pos on, w1]) H frV.refl hdm (by decide) rfl)
  refine xw_astoreR_n dd_V_change_9 (by decide) ?_
  refine xw_aloadR_n dd_V_change_10 rfl ?_
  refine xw_get fl_V_90 dd_V_change_11 w2 rfl ?_
  refine xw_iconst 1 dd_V_change_14 (by decide) ?_
  refine xw_icmp_ne 28 dd_V_change_15 (by decide) (fun hq => ?_) (fun hq => ?_)
  · have hq : ¬ e.2.1 = 1 := hq
    refine xw_less (kc' := 100 + 1) (ks' := 1000 + 5) (by decide) (by decide) ?_
    refine xw_newA nw_V_74 dd_V_change_28 (fun h8 n8 f8 => ?_)
    have w2' : h8 y = some (en_c e) := (f8 y (by have := hdm _ _ w2; omega)).trans w2
    refine xw_dup dd_V_change_31 rfl ?_
    refine xw_iload_n dd_V_change_32 rfl ?_
    refine xw_aloadR_n dd_V_change_33 rfl ?_
    refine xw_get fl_V_90 dd_V_change_34 w2' rfl ?_
    refine xw_aloadR_n dd_V_change_37 rfl ?_
    refine xw_get fl_V_98 dd_V_change_38 w2' rfl ?_
    refine xw_aloadR_n dd_V_change_41 rfl ?_
    refine xw_get fl_V_101 dd_V_change_42 w2' rfl ?_
    refine xw_aloadR_n dd_V_change_45 rfl ?_
    refine xw_get fl_V_104 dd_V_change_46 w2' rfl ?_
    refine xw_iconst 1 dd_V_change_49 (by decide) ?_
    refine xw_iadd dd_V_change_50 ?_
    refine xw_cl0 (ct_E_init n8 hBz) iv_V_change_51 ok_E_init rfl rfl rfl ?_ (fun _ _ _ q => by cases q.1)
    rintro v h9 z9 ⟨hv, rfl, n9, f9⟩
    cases hv
    obtain ⟨H9, fr9⟩ := H.newE (h9 := h9) (fun b e hb => by
      have := hdm _ _ hb
      exact (f9 b (by omega)).trans ((f8 b (by omega)).trans hb))
    refine xw_astoreR_n dd_V_change_54 (by decide) ?_
    refine xw_aloadR_n dd_V_change_55 rfl ?_
    refine xw_aloadR_n dd_V_change_56 rfl ?_
    refine xw_iconst 2 dd_V_change_57 (by decide) ?_
    refine xw_less (kc' := 0 + 6) (ks' := 0 + 61) (by decide) (by decide) ?_
    refine xw_cl (ct_V_noteAndDo H9 n9 hh hg) (iv_V_change_58 H9.cell) ok_V_noteAndDo rfl rfl rfl ?_ (fun _ _ _ q => by cases q.1)
    rintro v h10 z10 ⟨hv, q1, q2⟩
    cases hv
    have n10 := q2 _ _ n9 (Or.inl rfl)
    by_cases hd : (sv_do V (f, e.2.1, e.2.2.1, e.2.2.2.1, e.2.2.2.2 + 1) 2).1 = true
    · rw [if_pos hd]
      refine xw_if_eq 71 dd_V_change_61 (by decide) (fun hc => absurd hc (by decide)) (fun hc => ?_)
      refine xw_aloadR_n dd_V_change_64 rfl ?_
      refine xw_get fl_V_104 dd_V_change_65 n10 rfl ?_
      refine xw_goto 73 dd_V_change_68 (by decide) ?_
      exact xw_iret dd_V_change_73 rfl (vqr.ret (by unfold sv_chn; rw [if_pos on, w1]; simp only; rw [if_neg hq, if_pos hd]) q1 (fr9.trans q2))
    · rw [if_neg hd]
      refine xw_if_eq 71 dd_V_change_61 (by decide) (fun hc => ?_) (fun hc => absurd rfl hc)
      refine xw_bipush (-2) dd_V_change_71 (by decide) ?_
      exact xw_iret dd_V_change_73 rfl (vqr.ret (by unfold sv_chn; rw [if_pos on, w1]; simp only; rw [if_neg hq, if_neg hd]) q1 (fr9.trans q2))
  · have hq : e.2.1 = 1 := hq
    refine xw_less (kc' := 100 + 1) (ks' := 1000 + 6) (by decide) (by decide) ?_
    exact xw_throw (tx := "a folder has no content") ex_13 dd_V_change_18 dd_V_change_21 dd_V_change_22 dd_V_change_24 dd_V_change_27 (by decide) (by decide) (by decide) rfl (vqr.thr (k := 3) (V := V) (v := 0) (by unfold sv_chn; rw [if_pos on, w1]; simp only; rw [if_pos hq]) H frV.refl hdm (by decide) rfl)
def sv_rem (V : sv_V) (f : Int32) : Nat × Int32 × sv_V := if sv_on V = true then match sv_find (sv_fs V) f with
    | none => (2, 0, V)
    | some e => if ((sv_fs V).find? (fun e => decide (e.2.2.1 = f))).isSome = true then (3, 0, V) else if (sv_chg V e 32).1 = true then if (sv_spend (sv_chg V e 32).2).1 = true then (0, 1, sv_setF (sv_spend (sv_chg V e 32).2).2 ((sv_fs (sv_spend (sv_chg V e 32).2).2).eraseP (fun e => decide (e.1 = f)))) else (0, 0, (sv_spend (sv_chg V e 32).2).2) else (0, 0, (sv_chg V e 32).2)
  else (1, 0, V)
theorem ct_V_remove {f : Int32} (H : vs G h x V S) (hh : sv_hd V < 800000) (hg : (sv_gs V).length ≤ 15) : xa_T G mm_V_remove 12 200 4000 [.ref x, .int f] h sz (vqr G h x (sv_rem V f) cs_h S) := by
  have h1 := H.cell
  refine xt_o ok_V_remove rfl rfl ?_
  refine xw_dom (fun hdm hBz => ?_)
  refine xw_aloadR_n dd_V_remove_0 rfl ?_
  refine xw_less (kc' := 199 + 1) (ks' := 3990 + 6) (by decide) (by decide) ?_
  refine xw_chk (ct_V_checkPower H) (iv_V_remove_1 h1) ok_V_checkPower rfl rfl rfl rfl (fun c0 => ?_) (fun c0 => by
    obtain ⟨c1, c2⟩ := pow1 c0
    rw [c2]
    exact vqr.thr (k := 1) (V := V) (v := 0) (by unfold sv_rem; rw [if_neg c1]) H frV.refl hdm (by decide) rfl)
  have on := pow0 c0
  refine xw_aloadR_n dd_V_remove_4 rfl ?_
  refine xw_iload_n dd_V_remove_5 rfl ?_
  refine xw_less (kc' := 180 + 1) (ks' := 3900 + 6) (by decide) (by decide) ?_
  refine xw_live (ct_V_liveEntry H) (iv_V_remove_6 h1) rfl rfl rfl (fun e y w1 w2 => ?_) (fun w1 => vqr.thr (k := 2) (V := V) (v := 0) (by unfold sv_rem; rw [if_pos on, w1]) H frV.refl hdm (by decide) rfl)
  obtain ⟨ar, cp, H'⟩ := id H
  obtain ⟨-, ⟨ys, h2⟩, -⟩ := H'
  refine xw_astoreR_n dd_V_remove_9 (by decide) ?_
  refine xw_aloadR_n dd_V_remove_10 rfl ?_
  refine xw_get fl_V_14 dd_V_remove_11 h1 rfl ?_
  refine xw_iload_n dd_V_remove_14 rfl ?_
  refine xw_cl0 (ct_F_hasFilesIn h2) (iv_V_remove_15 h2.1) ok_F_hasFilesIn rfl rfl rfl ?_ (fun _ _ _ q => by cases q.1)
  rintro v h sz ⟨hv, rfl, rfl⟩
  cases hv
  by_cases hq : ((sv_fs V).find? (fun e => decide (e.2.2.1 = f))).isSome = true
  · rw [if_pos hq]
    refine xw_if_eq 31 dd_V_remove_18 (by decide) (fun hc => absurd hc (by decide)) (fun hc => ?_)
    refine xw_less (kc' := 100 + 1) (ks' := 1000 + 6) (by decide) (by decide) ?_
    exact xw_throw (tx := "files lie in it") ex_13 dd_V_remove_21 dd_V_remove_24 dd_V_remove_25 dd_V_remove_27 dd_V_remove_30 (by decide) (by decide) (by decide) rfl (vqr.thr (k := 3) (V := V) (v := 0) (by unfold sv_rem; rw [if_pos on, w1]; simp only; rw [if_pos hq]) H frV.refl hdm (by decide) rfl)
  · rw [if_neg hq]
    refine xw_if_eq 31 dd_V_remove_18 (by decide) (fun hc => ?_) (fun hc => absurd rfl hc)
    refine xw_aloadR_n dd_V_remove_31 rfl ?_
    refine xw_aloadR_n dd_V_remove_32 rfl ?_
    refine xw_bipush 32 dd_V_remove_33 (by decide) ?_
    refine xw_less (kc' := 0 + 5) (ks' := 0 + 33) (by decide) (by decide) ?_
    refine xw_cl (ct_V_writeChangeNote H w2 hh hg) (iv_V_remove_35 h1) ok_V_writeChangeNote rfl rfl rfl ?_ (fun _ _ _ q => by cases q.1)
    rintro v h9 z9 ⟨hv, q1, q2⟩
    cases hv
    by_cases hd : (sv_chg V e 32).1 = true
    · rw [if_pos hd]
      refine xw_if_eq 48 dd_V_remove_38 (by decide) (fun hc => absurd hc (by decide)) (fun hc => ?_)
      obtain ⟨ar9, cp9, H9⟩ := q1
      refine xw_aloadR_n dd_V_remove_41 rfl ?_
      refine xw_cl0 (ct_V_spendWrite H9) (iv_V_remove_42 H9.1) ok_V_spendWrite rfl rfl rfl ?_ (fun _ _ _ q => by cases q.1)
      rintro v h10 z10 ⟨hv, rfl, u1, u2⟩
      cases hv
      have f10 : frV x h h10 := fun b e hb hp => u2 b e (q2 b e hb hp) (by omega)
      by_cases hs : (sv_spend (sv_chg V e 32).2).1 = true
      · rw [if_pos hs]
        refine xw_if_ne 50 dd_V_remove_45 (by decide) (fun hc => ?_) (fun hc => absurd hc (by decide))
        obtain ⟨g1, ⟨zs, g2⟩, g3, g4, g5, g6, g7⟩ := id u1
        refine xw_aloadR_n dd_V_remove_50 rfl ?_
        refine xw_get fl_V_14 dd_V_remove_51 g1 rfl ?_
        refine xw_iload_n dd_V_remove_54 rfl ?_
        refine xw_dom (fun hdm10 _ => ?_)
        refine xw_cl0 (ct_F_drop g2) (iv_V_remove_55 g2.1) ok_F_drop rfl rfl rfl ?_ (fun _ _ _ q => by cases q.1)
        rintro v h11 z11 ⟨hv, rfl, ⟨xs', t1⟩, t2⟩
        cases hv
        refine xw_iconst 1 dd_V_remove_58 (by decide) ?_
        have hr : sv_rem V f = (0, 1, sv_setF (sv_spend (sv_chg V e 32).2).2 ((sv_fs (sv_spend (sv_chg V e 32).2).2).eraseP (fun e => decide (e.1 = f)))) := by
          unfold sv_rem
          rw [if_pos on, w1]
          simp only
          rw [if_neg hq, if_pos hd, if_pos hs]
        generalize (sv_spend (sv_chg V e 32).2).2 = V2 at u1 g2 t1 hr g7
        obtain ⟨fs, lt, hd2, rg, gs, on2, lf⟩ := V2
        obtain ⟨-, ⟨-, -, gg, ⟨⟨_, c3⟩, c4, -⟩, -⟩, -⟩ := id g2
        have hk : ∀ b e, h10 b = some e → ¬ ((xt e = 8 ∧ b = x + 2) ∨ (xt e = 103 ∧ b = ar9 0 ∧ cp9 0 ≠ 0)) → h11 b = some e := fun b e hb hn => (t2 b (fun w => by
            subst w
            rw [c3] at hb
            cases hb
            exact hn (Or.inl ⟨rfl, rfl⟩)) (by
            by_cases w : cp9 0 = 0
            · exact Or.inr w
            · refine Or.inl (fun w2 => hn (Or.inr ⟨?_, w2, w⟩))
              subst w2
              rw [c4] at hb
              cases hb
              rfl)).trans hb
        exact xw_zret dd_V_remove_59 rfl rfl (vqr.ret hr ⟨_, _, u1.setF hdm10 t1 (Or.inl ⟨rfl, rfl⟩) g7.2.1 hk⟩ (f10.trans (fun b e hb hp => hk b e hb (by omega))))
      · rw [if_neg hs]
        refine xw_if_ne 50 dd_V_remove_45 (by decide) (fun hc => absurd rfl hc) (fun hc => ?_)
        refine xw_iconst 0 dd_V_remove_48 (by decide) ?_
        exact xw_zret dd_V_remove_49 rfl rfl (vqr.ret (by unfold sv_rem; rw [if_pos on, w1]; simp only; rw [if_neg hq, if_pos hd, if_neg hs]) ⟨_, _, u1⟩ f10)
    · rw [if_neg hd]
      refine xw_if_eq 48 dd_V_remove_38 (by decide) (fun hc => ?_) (fun hc => absurd rfl hc)
      refine xw_iconst 0 dd_V_remove_48 (by decide) ?_
      exact xw_zret dd_V_remove_49 rfl rfl (vqr.ret (by unfold sv_rem; rw [if_pos on, w1]; simp only; rw [if_neg hq, if_neg hd]) q1 q2)
end VF
