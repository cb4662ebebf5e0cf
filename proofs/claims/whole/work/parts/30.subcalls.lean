/-! NotedVolume: the calls of subscribers (by program: wip/whole/mk30.py) -/
section VQ
variable {G : xa_G} {h : xa_H} {sz x : Nat} {V : sv_V} {S : Nat → sv_S}
/-- a subscriber's part of the state, and how it is put back -/
theorem vs.toS (H : vs G h x V S) {k : Nat} (hkl : k < 3) : ∃ (ea fea fcap : Nat) (ys : List Nat) (f : Nat → Option Nat), su_at G h (x + 8 + 4 * k) (x + 9 + 4 * k) (x + 10 + 4 * k) ea (x + 11 + 4 * k) (S k) ∧ ft_at G h (x + 1) (x + 2) fea fcap (nI 20) ys (sv_fs V) ∧ rg_at h (x + 3) (x + 4) (sv_hd V) f ∧ rn_at h f (sv_hd V) (sv_rg V) ∧ (fea ≠ ea ∨ su_cap (S k) = 0) ∧ su_cap (S k) ≤ 766 ∧ su_cur (S k) ≤ sv_hd V ∧ G.2.2.1 ≤ x ∧
    ∀ (h1 : xa_H) (sz ea' : Nat) (S' : sv_S), xd_h h sz → su_at G h1 (x + 8 + 4 * k) (x + 9 + 4 * k) (x + 10 + 4 * k) ea' (x + 11 + 4 * k) S' → er sz ea (su_cap (S k)) ea' (su_cap S') → su_cap S' ≤ 766 → su_cur S' ≤ sv_hd V → xk h h1 (su_k (x + 8 + 4 * k) (x + 11 + 4 * k) (x + 10 + 4 * k) ea (su_cap (S k))) → vs G h1 x V (vw S k S') ∧ frV x h h1 := by
  obtain ⟨ar, cp, H⟩ := H
  obtain ⟨h1, ⟨xs, h2⟩, ⟨f, h3, h3'⟩, h4, h5, h6, h7⟩ := id H
  obtain ⟨p1, p2, p3, p4, p5⟩ := h7
  have d0 := p5 (2 + k) 0 (by omega) (by omega) (by omega)
  have e0 := (p4 k hkl).1
  refine ⟨ar (2 + k), ar 0, cp 0, xs, f, h6 k hkl, h2, h3, h3', by omega, (p4 k hkl).2.1, (p4 k hkl).2.2, p1, ?_⟩
  intro h9 sz ea' S' hdm hF he hc0 hc1 hk
  obtain ⟨w1, ⟨zs, -, ⟨-, -, g, ⟨⟨mc, w3⟩, w4, -⟩, -⟩, -⟩, w2, -⟩ := id (h6 k hkl)
  have hk' : ∀ b e, h b = some e → ¬ ((xt e = 7 ∧ b = x + 8 + 4 * k) ∨ (xt e = 100 ∧ b = x + 11 + 4 * k) ∨ (xt e = 8 ∧ b = x + 10 + 4 * k) ∨ (xt e = 103 ∧ b = ar (2 + k) ∧ cp (2 + k) ≠ 0)) → h9 b = some e := by
    intro b e hb hn
    refine hk b e hb ⟨fun q => hn (Or.inl ⟨?_, q⟩), fun q => hn (Or.inr (Or.inl ⟨?_, q⟩)), fun q => hn (Or.inr (Or.inr (Or.inl ⟨?_, q⟩))), ?_⟩
    · subst q; rw [w1] at hb; cases hb; rfl
    · subst q; rw [w2] at hb; cases hb; rfl
    · subst q; rw [w3] at hb; cases hb; rfl
    · by_cases w : su_cap (S k) = 0
      · exact Or.inr w
      · refine Or.inl (fun q => hn (Or.inr (Or.inr (Or.inr ⟨?_, q, by omega⟩))))
        subst q
        rw [w4] at hb
        cases hb
        rfl
  exact ⟨⟨_, _, H.setS hkl hdm hF (by rw [e0]; exact he) hc0 hc1 hk'⟩, fun b e hb hp => hk' b e hb (by omega)⟩
def sk (s : Int32) : Nat := s.toNatClampNeg
def cd_s (s : Int32) : Prop := s < 0 ∨ 3 ≤ s
theorem cd_s_no {k : Nat} (hk : k < 3) : ¬ (nI k < 0 ∨ 3 ≤ nI k) := by
  rintro (q | q)
  · exact nI_pos (by omega) q
  · exact nI_ge (a := k) (b := 3) hk (by decide) q
abbrev cs_s : Nat → Nat := fun c => if c = 1 then 14 else 11
abbrev cs_p : Nat → Nat := fun c => if c = 1 then 14 else 10
abbrev cs_c : Nat → Nat := fun c => if c = 1 then 14 else 12
/-- how a subscriber's call ends: code, answer, what the subscribers are then -/
def vqs (G : xa_G) (h : xa_H) (x : Nat) (r : Nat × Int32 × (Nat → sv_S)) (cs : Nat → Nat) (V : sv_V) : Outcome → xa_H → Nat → Prop := vqc G h x r.1 cs (some (.int r.2.1)) V r.2.2
def vqn (G : xa_G) (h : xa_H) (x : Nat) (r : Nat × Int32 × (Nat → sv_S)) (cs : Nat → Nat) (V : sv_V) : Outcome → xa_H → Nat → Prop := vqc G h x r.1 cs none V r.2.2
theorem vqs.thr {h1 : xa_H} {k sz ci z : Nat} {cs : Nat → Nat} {r : Nat × Int32 × (Nat → sv_S)} {v : Int32} (hr : r = (k, v, S)) (H : vs G h1 x V S) (hf : frV x h h1) (hd : xd_h h1 sz) (hk : k ≠ 0) (hci : cs k = ci) : vqs G h x r cs V (.threw sz) (xa_up h1 sz (.inr (ci, []))) z := by
  subst hr
  exact vqc.thr H hf hd hk hci
theorem vqn.thr {h1 : xa_H} {k sz ci z : Nat} {cs : Nat → Nat} {r : Nat × Int32 × (Nat → sv_S)} {v : Int32} (hr : r = (k, v, S)) (H : vs G h1 x V S) (hf : frV x h h1) (hd : xd_h h1 sz) (hk : k ≠ 0) (hci : cs k = ci) : vqn G h x r cs V (.threw sz) (xa_up h1 sz (.inr (ci, []))) z := by
  subst hr
  exact vqc.thr H hf hd hk hci
theorem vqs.ret {h1 : xa_H} {z : Nat} {cs : Nat → Nat} {r : Nat × Int32 × (Nat → sv_S)} {S' : Nat → sv_S} {v : Int32} (hr : r = (0, v, S')) (H : vs G h1 x V S') (hf : frV x h h1) : vqs G h x r cs V (.returned (some (.int v))) h1 z := by
  subst hr
  exact vqc.ret H hf rfl
theorem vqn.ret {h1 : xa_H} {z : Nat} {cs : Nat → Nat} {r : Nat × Int32 × (Nat → sv_S)} {S' : Nat → sv_S} {v : Int32} (hr : r = (0, v, S')) (H : vs G h1 x V S') (hf : frV x h h1) : vqn G h x r cs V (.returned none) h1 z := by
  subst hr
  exact vqc.ret H hf rfl
def sw_subscribe (V : sv_V) (S : Nat → sv_S) (s mask : Int32) : Nat × Int32 × (Nat → sv_S) := if s < 0 ∨ 3 ≤ s then (1, 0, S) else if mask < 0 ∨ 127 < mask then (2, 0, S) else (0, 0, vw S (sk s) (sv_sub (sv_hd V) mask (S (sk s))))
def sw_cursor (S : Nat → sv_S) (s : Int32) : Nat × Int32 × (Nat → sv_S) := if s < 0 ∨ 3 ≤ s then (1, 0, S) else (0, nI (su_cur (S (sk s))), S)
def sw_read (V : sv_V) (S : Nat → sv_S) (s : Int32) : Nat × Int32 × (Nat → sv_S) := if s < 0 ∨ 3 ≤ s then (1, 0, S) else (0, (sv_read (sv_hd V) (sv_rg V) (su_cur (S (sk s))) (su_mask (S (sk s)))).1, vw S (sk s) (sv_setC (sv_read (sv_hd V) (sv_rg V) (su_cur (S (sk s))) (su_mask (S (sk s)))).2 (S (sk s))))
def sw_list (V : sv_V) (S : Nat → sv_S) (s : Int32) : Nat × Int32 × (Nat → sv_S) := if s < 0 ∨ 3 ≤ s then (1, 0, S) else (0, 0, vw S (sk s) (sv_lst (sv_hd V) (S (sk s))))
def sw_page (V : sv_V) (S : Nat → sv_S) (s : Int32) : Nat × Int32 × (Nat → sv_S) := if s < 0 ∨ 3 ≤ s then (1, 0, S) else if su_ls (S (sk s)) = true then (0, nI (sv_pag (sv_fs V) (S (sk s))).2.2, vw S (sk s) (sv_page (sv_fs V) (S (sk s)))) else (2, 0, S)
def sw_shown (S : Nat → sv_S) (s i : Int32) : Nat × Int32 × (Nat → sv_S) := if s < 0 ∨ 3 ≤ s then (1, -1, S) else (0, if i < 0 ∨ 4 ≤ i then -1 else su_pg (S (sk s)) i.toNatClampNeg, S)
def sw_copied (S : Nat → sv_S) (s f w : Int32) : Nat × Int32 × (Nat → sv_S) := if (s < 0 ∨ 3 ≤ s) ∨ (w < 0 ∨ 4 ≤ w) then (1, 0, S) else match sv_find (su_cp (S (sk s))) f with
  | none => (2, 0, S)
  | some e => (0, sv_it e w.toNatClampNeg, S)
def sw_step (V : sv_V) (S : Nat → sv_S) (s : Int32) : Nat × Int32 × (Nat → sv_S) := if s < 0 ∨ 3 ≤ s then (1, 0, S) else (0, if su_cp (S (sk s)) = sv_fs V then 1 else 0, S)
def sv_acts (hd : Nat) (rg : Nat → Nat → Int32) (fs : List sv_E) : Nat → sv_S → Nat × sv_S
  | 0, S => (0, S)
  | n + 1, S => ((if (sv_act hd rg fs S).1 = true then 1 else 0) + (sv_acts hd rg fs n (sv_act hd rg fs S).2).1, (sv_acts hd rg fs n (sv_act hd rg fs S).2).2)
def sw_follow (V : sv_V) (S : Nat → sv_S) (s n : Int32) : Nat × Int32 × (Nat → sv_S) := if s < 0 ∨ 3 ≤ s then (1, 0, S) else if n < 0 ∨ 40 < n then (2, 0, S) else (0, nI (sv_acts (sv_hd V) (sv_rg V) (sv_fs V) n.toNatClampNeg (S (sk s))).1, vw S (sk s) (sv_acts (sv_hd V) (sv_rg V) (sv_fs V) n.toNatClampNeg (S (sk s))).2)
theorem vw_same (S : Nat → sv_S) (k : Nat) : vw S k (S k) = S := funext (fun j => by unfold vw; split <;> simp_all)
theorem vs.same (H : vs G h x V S) {k : Nat} : vs G h x V (vw S k (S k)) := by rw [vw_same]; exact H
theorem ct_V_cursor {s : Int32} (H : vs G h x V S) : xa_T G mm_V_cursor 12 200 4000 [.ref x, .int s] h sz (vqs G h x (sw_cursor S s) cs_s V) := by
  have h1 := H.cell
  refine xt_o ok_V_cursor rfl rfl ?_
  refine xw_dom (fun hdm _ => ?_)
  refine xw_aloadR_n dd_V_cursor_0 rfl ?_
  refine xw_iload_n dd_V_cursor_1 rfl ?_
  refine xw_less (kc' := 199 + 1) (ks' := 3990 + 6) (by decide) (by decide) ?_
  refine xw_sub (ct_V_subscriberAt H) (iv_V_cursor_2 h1) rfl rfl rfl (fun k hk w0 => ?_) (fun w0 => vqs.thr (k := 1) (v := 0) (by unfold sw_cursor; rw [if_pos w0]) H frV.refl hdm (by decide) rfl)
  subst w0
  obtain ⟨ea, fea, fcap, ys, f, a1, a2, a3, a4, a5, a6, a7, a8, back⟩ := H.toS hk
  have hs := cd_s_no hk
  have hsk : sk (nI k) = k := nI_clamp (by omega)
  refine xw_less (kc' := 0) (ks' := 0) (by decide) (by decide) ?_
  refine xw_get fl_V_183 dd_V_cursor_5 a1.1 rfl ?_
  exact xw_iret dd_V_cursor_8 rfl (vqs.ret (by unfold sw_cursor; rw [if_neg hs, hsk]) H frV.refl)
theorem ct_V_list {s : Int32} (H : vs G h x V S) : xa_T G mm_V_list 12 200 4000 [.ref x, .int s] h sz (vqn G h x (sw_list V S s) cs_s V) := by
  have h1 := H.cell
  refine xt_o ok_V_list rfl rfl ?_
  refine xw_dom (fun hdm _ => ?_)
  refine xw_aloadR_n dd_V_list_0 rfl ?_
  refine xw_iload_n dd_V_list_1 rfl ?_
  refine xw_less (kc' := 199 + 1) (ks' := 3990 + 6) (by decide) (by decide) ?_
  refine xw_sub (ct_V_subscriberAt H) (iv_V_list_2 h1) rfl rfl rfl (fun k hk w0 => ?_) (fun w0 => vqn.thr (k := 1) (v := 0) (by unfold sw_list; rw [if_pos w0]) H frV.refl hdm (by decide) rfl)
  subst w0
  obtain ⟨ea, fea, fcap, ys, f, a1, a2, a3, a4, a5, a6, a7, a8, back⟩ := H.toS hk
  have hs := cd_s_no hk
  have hsk : sk (nI k) = k := nI_clamp (by omega)
  refine xw_less (kc' := 0) (ks' := 0) (by decide) (by decide) ?_
  refine xw_aloadR_n dd_V_list_5 rfl ?_
  refine xw_get fl_V_21 dd_V_list_6 h1 rfl ?_
  refine xw_cl0 (ct_S_beginListing a1 a3) (iv_V_list_9 a1.1) ok_S_beginListing rfl rfl rfl ?_ (fun _ _ _ q => by cases q.1)
  rintro v h9 z9 ⟨hv, rfl, q1, q2⟩
  cases hv
  obtain ⟨b1, b2⟩ := back h9 z9 ea _ hdm q1 (Or.inl ⟨rfl, rfl⟩) a6 (Nat.le_refl _) (fun b e hb hp => (q2 b hp.1).trans hb)
  exact xw_vret dd_V_list_12 rfl (vqn.ret (v := 0) (by unfold sw_list; rw [if_neg hs, hsk]) b1 b2)
theorem sv_read_le {hd cur : Nat} {rg : Nat → Nat → Int32} {mask : Int32} (h : cur ≤ hd) : (sv_read hd rg cur mask).2 ≤ hd := by
  unfold sv_read
  split
  · exact h
  · split
    · rename_i s hs
      have := sv_scan_in hs
      show s + 1 ≤ hd
      omega
    · exact Nat.le_refl _
theorem ct_V_read {s : Int32} (H : vs G h x V S) : xa_T G mm_V_read 12 200 4000 [.ref x, .int s] h sz (vqs G h x (sw_read V S s) cs_s V) := by
  have h1 := H.cell
  refine xt_o ok_V_read rfl rfl ?_
  refine xw_dom (fun hdm _ => ?_)
  refine xw_aloadR_n dd_V_read_0 rfl ?_
  refine xw_iload_n dd_V_read_1 rfl ?_
  refine xw_less (kc' := 199 + 1) (ks' := 3990 + 6) (by decide) (by decide) ?_
  refine xw_sub (ct_V_subscriberAt H) (iv_V_read_2 h1) rfl rfl rfl (fun k hk w0 => ?_) (fun w0 => vqs.thr (k := 1) (v := 0) (by unfold sw_read; rw [if_pos w0]) H frV.refl hdm (by decide) rfl)
  subst w0
  obtain ⟨ea, fea, fcap, ys, f, a1, a2, a3, a4, a5, a6, a7, a8, back⟩ := H.toS hk
  have hs := cd_s_no hk
  have hsk : sk (nI k) = k := nI_clamp (by omega)
  refine xw_less (kc' := 0) (ks' := 0) (by decide) (by decide) ?_
  refine xw_astoreR_n dd_V_read_5 (by decide) ?_
  refine xw_aloadR_n dd_V_read_6 rfl ?_
  refine xw_aloadR_n dd_V_read_7 rfl ?_
  refine xw_get fl_V_21 dd_V_read_8 h1 rfl ?_
  refine xw_aloadR_n dd_V_read_11 rfl ?_
  refine xw_get fl_V_186 dd_V_read_12 a1.1 rfl ?_
  obtain ⟨c1, ⟨zs, c2⟩, c3, c4, c5⟩ := id a1
  refine xw_cl0 (ct_S_takeNote c1 c4 a7 a3 a4) (iv_V_read_15 c1) ok_S_takeNote rfl rfl rfl ?_ (fun _ _ _ q => by cases q.1)
  rintro v h9 z9 ⟨hv, rfl, q1, q2⟩
  cases hv
  have hop : x + 11 + 4 * k ≠ x + 8 + 4 * k := by omega
  obtain ⟨b1, b2⟩ := back h9 z9 ea (sv_setC (sv_read (sv_hd V) (sv_rg V) (su_cur (S k)) (su_mask (S k))).2 (S k)) hdm ⟨q1, ⟨zs, c2.kp (fun b e hb hc => (q2 b (xt_ne hb c1 (by rcases hc with ⟨-, q⟩ | ⟨-, q⟩ | ⟨-, q⟩ | q <;> (rw [q]; simp [xt])))).trans hb)⟩, (q2 _ hop).trans c3, c4, c5⟩ (Or.inl ⟨rfl, rfl⟩) a6 (sv_read_le a7) (fun b e hb hp => (q2 b hp.1).trans hb)
  exact xw_iret dd_V_read_18 rfl (vqs.ret (by unfold sw_read; rw [if_neg hs, hsk]) b1 b2)
theorem ct_V_subscribe {s mask : Int32} (H : vs G h x V S) : xa_T G mm_V_subscribe 12 200 4000 [.ref x, .int s, .int mask] h sz (vqn G h x (sw_subscribe V S s mask) cs_s V) := by
  have h1 := H.cell
  refine xt_o ok_V_subscribe rfl rfl ?_
  refine xw_dom (fun hdm _ => ?_)
  refine xw_aloadR_n dd_V_subscribe_0 rfl ?_
  refine xw_iload_n dd_V_subscribe_1 rfl ?_
  refine xw_less (kc' := 199 + 1) (ks' := 3990 + 6) (by decide) (by decide) ?_
  refine xw_sub (ct_V_subscriberAt H) (iv_V_subscribe_2 h1) rfl rfl rfl (fun k hk w0 => ?_) (fun w0 => vqn.thr (k := 1) (v := 0) (by unfold sw_subscribe; rw [if_pos w0]) H frV.refl hdm (by decide) rfl)
  subst w0
  obtain ⟨ea, fea, fcap, ys, f, a1, a2, a3, a4, a5, a6, a7, a8, back⟩ := H.toS hk
  have hs := cd_s_no hk
  have hsk : sk (nI k) = k := nI_clamp (by omega)
  have bad : (mask < 0 ∨ 127 < mask) → xa_W G mm_V_subscribe 12 199 3990 16 [some (.ref x), some (.int (nI k)), some (.int mask), some (.ref (x + 8 + 4 * k))] [] h sz (vqn G h x (sw_subscribe V S (nI k) mask) cs_s V) := by
    intro hb
    refine xw_less (kc' := 180 + 1) (ks' := 3900 + 6) (by decide) (by decide) ?_
    exact xw_throw (tx := "the mask is not 0 .. 127") ex_11 dd_V_subscribe_16 dd_V_subscribe_19 dd_V_subscribe_20 dd_V_subscribe_22 dd_V_subscribe_25 (by decide) (by decide) (by decide) rfl (vqn.thr (k := 2) (v := 0) (by unfold sw_subscribe; rw [if_neg hs, if_pos hb]) H frV.refl hdm (by decide) rfl)
  refine xw_astoreR_n dd_V_subscribe_5 (by decide) ?_
  refine xw_iload_n dd_V_subscribe_6 rfl ?_
  refine xw_if_lt 16 dd_V_subscribe_7 (by decide) (fun q => bad (Or.inl q)) (fun q1 => ?_)
  refine xw_iload_n dd_V_subscribe_10 rfl ?_
  refine xw_bipush 127 dd_V_subscribe_11 (by decide) ?_
  refine xw_icmp_le 26 dd_V_subscribe_13 (by decide) (fun q2 => ?_) (fun q => bad (Or.inr (Int32.not_le.mp q)))
  have hb : ¬ (mask < 0 ∨ 127 < mask) := by
    rintro (q | q)
    · exact q1 q
    · exact Int32.not_le.mpr q q2
  refine xw_less (kc' := 0) (ks' := 0) (by decide) (by decide) ?_
  refine xw_aloadR_n dd_V_subscribe_26 rfl ?_
  refine xw_iload_n dd_V_subscribe_27 rfl ?_
  refine xw_aloadR_n dd_V_subscribe_28 rfl ?_
  refine xw_get fl_V_21 dd_V_subscribe_29 h1 rfl ?_
  refine xw_cl0 (ct_S_beginAnew a1 a3) (iv_V_subscribe_32 a1.1) ok_S_beginAnew rfl rfl rfl ?_ (fun _ _ _ q => by cases q.1)
  rintro v h9 z9 ⟨hv, rfl, q1, q2⟩
  cases hv
  obtain ⟨b1, b2⟩ := back h9 z9 ea _ hdm q1 (Or.inl ⟨rfl, rfl⟩) a6 (Nat.le_refl _) (fun b e hb hp => (q2 b hp.1 hp.2.1).trans hb)
  exact xw_vret dd_V_subscribe_35 rfl (vqn.ret (v := 0) (by unfold sw_subscribe; rw [if_neg hs, if_neg hb, hsk]) b1 b2)
theorem ct_V_page {s : Int32} (H : vs G h x V S) : xa_T G mm_V_page 12 200 4000 [.ref x, .int s] h sz (vqs G h x (sw_page V S s) cs_p V) := by
  have h1 := H.cell
  refine xt_o ok_V_page rfl rfl ?_
  refine xw_dom (fun hdm _ => ?_)
  refine xw_aloadR_n dd_V_page_0 rfl ?_
  refine xw_iload_n dd_V_page_1 rfl ?_
  refine xw_less (kc' := 199 + 1) (ks' := 3990 + 6) (by decide) (by decide) ?_
  refine xw_sub (ct_V_subscriberAt H) (iv_V_page_2 h1) rfl rfl rfl (fun k hk w0 => ?_) (fun w0 => vqs.thr (k := 1) (v := 0) (by unfold sw_page; rw [if_pos w0]) H frV.refl hdm (by decide) rfl)
  subst w0
  obtain ⟨ea, fea, fcap, ys, f, a1, a2, a3, a4, a5, a6, a7, a8, back⟩ := H.toS hk
  have hs := cd_s_no hk
  have hsk : sk (nI k) = k := nI_clamp (by omega)
  obtain ⟨c1, ⟨zs, c2⟩, c3, c4, c5⟩ := id a1
  refine xw_astoreR_n dd_V_page_5 (by decide) ?_
  refine xw_aloadR_n dd_V_page_6 rfl ?_
  refine xw_get fl_V_197 dd_V_page_7 c1 rfl ?_
  by_cases hl : su_ls (S k) = true
  · rw [if_pos hl]
    refine xw_if_ne 23 dd_V_page_10 (by decide) (fun hq => ?_) (fun hq => absurd hq (by decide))
    refine xw_less (kc' := 0) (ks' := 0) (by decide) (by decide) ?_
    refine xw_aloadR_n dd_V_page_23 rfl ?_
    refine xw_aloadR_n dd_V_page_24 rfl ?_
    refine xw_get fl_V_14 dd_V_page_25 h1 rfl ?_
    refine xw_cl0 (ct_S_showPage c1 c3 c4 c5 a2) (iv_V_page_28 c1) ok_S_showPage rfl rfl rfl ?_ (fun _ _ _ q => by cases q.1)
    rintro v h9 z9 ⟨hv, rfl, q1, q2, q3⟩
    cases hv
    obtain ⟨b1, b2⟩ := back h9 z9 ea (sv_page (sv_fs V) (S k)) hdm ⟨q1, ⟨zs, c2.kp (fun b e hb hc => (q3 b (xt_ne hb c1 (by rcases hc with ⟨-, q⟩ | ⟨-, q⟩ | ⟨-, q⟩ | q <;> (rw [q]; simp [xt]))) (xt_ne hb c3 (by rcases hc with ⟨-, q⟩ | ⟨-, q⟩ | ⟨-, q⟩ | q <;> (rw [q]; simp [xt])))).trans hb)⟩, q2, c4, c5⟩ (Or.inl ⟨rfl, rfl⟩) a6 a7 (fun b e hb hp => (q3 b hp.1 hp.2.1).trans hb)
    exact xw_iret dd_V_page_31 rfl (vqs.ret (by unfold sw_page; rw [if_neg hs, hsk, if_pos hl]; rfl) b1 b2)
  · rw [if_neg hl]
    refine xw_if_ne 23 dd_V_page_10 (by decide) (fun hq => absurd rfl hq) (fun hq => ?_)
    refine xw_less (kc' := 180 + 1) (ks' := 3900 + 6) (by decide) (by decide) ?_
    exact xw_throw (tx := "no listing goes on") ex_10 dd_V_page_13 dd_V_page_16 dd_V_page_17 dd_V_page_19 dd_V_page_22 (by decide) (by decide) (by decide) rfl (vqs.thr (k := 2) (v := 0) (by unfold sw_page; rw [if_neg hs, hsk, if_neg hl]) H frV.refl hdm (by decide) rfl)
theorem ct_V_shown {s i : Int32} (H : vs G h x V S) : xa_T G mm_V_shown 12 200 4000 [.ref x, .int s, .int i] h sz (vqs G h x (sw_shown S s i) cs_s V) := by
  have h1 := H.cell
  refine xt_o ok_V_shown rfl rfl ?_
  refine xw_dom (fun hdm _ => ?_)
  refine xw_aloadR_n dd_V_shown_0 rfl ?_
  refine xw_iload_n dd_V_shown_1 rfl ?_
  refine xw_less (kc' := 199 + 1) (ks' := 3990 + 6) (by decide) (by decide) ?_
  refine xw_sub (ct_V_subscriberAt H) (iv_V_shown_2 h1) rfl rfl rfl (fun k hk w0 => ?_) (fun w0 => vqs.thr (k := 1) (v := -1) (by unfold sw_shown; rw [if_pos w0]) H frV.refl hdm (by decide) rfl)
  subst w0
  obtain ⟨ea, fea, fcap, ys, f, a1, a2, a3, a4, a5, a6, a7, a8, back⟩ := H.toS hk
  have hs := cd_s_no hk
  have hsk : sk (nI k) = k := nI_clamp (by omega)
  obtain ⟨c1, ⟨zs, c2⟩, c3, c4, c5⟩ := id a1
  refine xw_less (kc' := 0) (ks' := 0) (by decide) (by decide) ?_
  have bad : (i < 0 ∨ 4 ≤ i) → xa_W G mm_V_shown 12 0 0 15 [some (.ref x), some (.int (nI k)), some (.int i), some (.ref (x + 8 + 4 * k))] [] h sz (vqs G h x (sw_shown S (nI k) i) cs_s V) := by
    intro hb
    refine xw_iconst (-1) dd_V_shown_15 (by decide) ?_
    refine xw_goto 25 dd_V_shown_16 (by decide) ?_
    exact xw_iret dd_V_shown_25 rfl (vqs.ret (by unfold sw_shown; rw [if_neg hs, if_pos hb]) H frV.refl)
  refine xw_astoreR_n dd_V_shown_5 (by decide) ?_
  refine xw_iload_n dd_V_shown_6 rfl ?_
  refine xw_if_lt 15 dd_V_shown_7 (by decide) (fun q => bad (Or.inl q)) (fun q1 => ?_)
  refine xw_iload_n dd_V_shown_10 rfl ?_
  refine xw_iconst 4 dd_V_shown_11 (by decide) ?_
  refine xw_icmp_lt 19 dd_V_shown_12 (by decide) (fun q2 => ?_) (fun q => bad (Or.inr (Int32.not_lt.mp q)))
  obtain ⟨j, hj, rfl⟩ := nI_of q1
  have hj4 : j < 4 := (nI_ltI (b := 4) hj (by decide)).mp q2
  have hb : ¬ (nI j < 0 ∨ 4 ≤ nI j) := by
    rintro (q | q)
    · exact q1 q
    · exact Int32.not_lt.mpr q q2
  refine xw_aloadR_n dd_V_shown_19 rfl ?_
  refine xw_get fl_V_206 dd_V_shown_20 c1 rfl ?_
  refine xw_iload_n dd_V_shown_23 rfl ?_
  refine xw_iald dd_V_shown_24 c3 (vp_in_nI hj4 (by decide)) ?_
  exact xw_iret dd_V_shown_25 rfl (vqs.ret (by unfold sw_shown; rw [if_neg hs, if_neg hb, hsk]) H frV.refl)
theorem ct_V_inStep {s : Int32} (H : vs G h x V S) : xa_T G mm_V_inStep 12 200 4000 [.ref x, .int s] h sz (vqs G h x (sw_step V S s) cs_s V) := by
  have h1 := H.cell
  refine xt_o ok_V_inStep rfl rfl ?_
  refine xw_dom (fun hdm _ => ?_)
  refine xw_aloadR_n dd_V_inStep_0 rfl ?_
  refine xw_iload_n dd_V_inStep_1 rfl ?_
  refine xw_less (kc' := 199 + 1) (ks' := 3990 + 6) (by decide) (by decide) ?_
  refine xw_sub (ct_V_subscriberAt H) (iv_V_inStep_2 h1) rfl rfl rfl (fun k hk w0 => ?_) (fun w0 => vqs.thr (k := 1) (v := 0) (by unfold sw_step; rw [if_pos w0]) H frV.refl hdm (by decide) rfl)
  subst w0
  obtain ⟨ea, fea, fcap, ys, f, a1, a2, a3, a4, a5, a6, a7, a8, back⟩ := H.toS hk
  have hs := cd_s_no hk
  have hsk : sk (nI k) = k := nI_clamp (by omega)
  obtain ⟨c1, ⟨zs, c2⟩, c3, c4, c5⟩ := id a1
  refine xw_less (kc' := 0) (ks' := 0) (by decide) (by decide) ?_
  refine xw_get fl_V_216 dd_V_inStep_5 c1 rfl ?_
  refine xw_aloadR_n dd_V_inStep_8 rfl ?_
  refine xw_get fl_V_14 dd_V_inStep_9 h1 rfl ?_
  refine xw_cl0 (ct_F_isLike c2 a2) (iv_V_inStep_12 c2.1) ok_F_isLike rfl rfl rfl ?_ (fun _ _ _ q => by cases q.1)
  rintro v h sz ⟨hv, rfl, rfl⟩
  cases hv
  refine xw_zret dd_V_inStep_15 rfl ?_ (vqs.ret (by unfold sw_step; rw [if_neg hs, hsk]) H frV.refl)
  split <;> rfl
theorem ct_V_copied {s f w : Int32} (H : vs G h x V S) : xa_T G mm_V_copied 12 200 4000 [.ref x, .int s, .int f, .int w] h sz (vqs G h x (sw_copied S s f w) cs_c V) := by
  have h1 := H.cell
  refine xt_o ok_V_copied rfl rfl ?_
  refine xw_dom (fun hdm _ => ?_)
  refine xw_aloadR_n dd_V_copied_0 rfl ?_
  refine xw_iload_n dd_V_copied_1 rfl ?_
  refine xw_less (kc' := 199 + 1) (ks' := 3990 + 6) (by decide) (by decide) ?_
  refine xw_sub (ct_V_subscriberAt H) (iv_V_copied_2 h1) rfl rfl rfl (fun k hk w0 => ?_) (fun w0 => vqs.thr (k := 1) (v := 0) (by unfold sw_copied; rw [if_pos (Or.inl w0)]) H frV.refl hdm (by decide) rfl)
  subst w0
  obtain ⟨ea, fea, fcap, ys, f', a1, a2, a3, a4, a5, a6, a7, a8, back⟩ := H.toS hk
  have hs := cd_s_no hk
  have hsk : sk (nI k) = k := nI_clamp (by omega)
  obtain ⟨c1, ⟨zs, c2⟩, c3, c4, c5⟩ := id a1
  refine xw_astoreR dd_V_copied_5 (by decide) ?_
  refine xw_iload_n dd_V_copied_7 rfl ?_
  refine xw_iconst 4 dd_V_copied_8 (by decide) ?_
  refine xw_less (kc' := 180 + 1) (ks' := 3900 + 6) (by decide) (by decide) ?_
  refine xw_chk (ct_V_checkItem (k := 1) (by decide) (cs := cs_c) rfl) iv_V_copied_9 ok_V_checkItem rfl rfl rfl rfl (fun c0 => ?_) (fun c0 => ?_)
  · have hb : ¬ (w < 0 ∨ 4 ≤ w) := fun q => by
      unfold cd_item at c0
      rw [if_pos q] at c0
      cases c0
    have h0 : ¬ w < 0 := fun q => hb (Or.inl q)
    have h4 : w < 4 := Int32.not_le.mp (fun q => hb (Or.inr q))
    have hno : ¬ ((nI k < 0 ∨ 3 ≤ nI k) ∨ (w < 0 ∨ 4 ≤ w)) := fun q => q.elim hs hb
    refine xw_aloadR dd_V_copied_12 rfl ?_
    refine xw_get fl_V_216 dd_V_copied_14 c1 rfl ?_
    refine xw_iload_n dd_V_copied_17 rfl ?_
    refine xw_cl0 (ct_F_entryOf c2) (iv_V_copied_18 c2.1) ok_F_entryOf rfl rfl rfl ?_ (fun _ _ _ q => by cases q.2.2.choose_spec.1)
    rintro v h sz ⟨rfl, rfl, r, hv, hr⟩
    cases hv
    rcases hr with ⟨w1, rfl⟩ | ⟨e, y, w1, rfl, w3⟩
    · have w1' : sv_find (su_cp (S k)) f = none := w1
      refine xw_astore (r := none) dd_V_copied_21 (by decide) ?_
      refine xw_aload (r := none) dd_V_copied_23 rfl ?_
      refine xw_ifnonnullN dd_V_copied_25 ?_
      refine xw_less (kc' := 10 + 1) (ks' := 10 + 6) (by decide) (by decide) ?_
      exact xw_throw (tx := "it is not in the copy") ex_12 dd_V_copied_28 dd_V_copied_31 dd_V_copied_32 dd_V_copied_34 dd_V_copied_37 (by decide) (by decide) (by decide) rfl (vqs.thr (k := 2) (v := 0) (by unfold sw_copied; rw [if_neg hno, hsk, w1']) H frV.refl hdm (by decide) rfl)
    · have w1' : sv_find (su_cp (S k)) f = some e := w1
      obtain ⟨j, hj, rfl⟩ := nI_of h0
      have hj4 : j < 4 := (nI_ltI (b := 4) hj (by decide)).mp h4
      refine xw_less (kc' := 0) (ks' := 0) (by decide) (by decide) ?_
      refine xw_astore (r := some y) dd_V_copied_21 (by decide) ?_
      refine xw_aloadR dd_V_copied_23 rfl ?_
      refine xw_ifnonnullR 38 dd_V_copied_25 (by decide) ?_
      refine xw_aloadR dd_V_copied_38 rfl ?_
      refine xw_iload_n dd_V_copied_40 rfl ?_
      refine xw_cl0 (ct_E_item w3 hj4) (iv_V_copied_41 w3) ok_E_item rfl rfl rfl ?_ (fun _ _ _ q => by cases q.1)
      rintro v h sz ⟨hv, rfl, rfl⟩
      cases hv
      exact xw_iret dd_V_copied_44 rfl (vqs.ret (by unfold sw_copied; rw [if_neg hno, hsk, w1', nI_clamp hj]) H frV.refl)
  · have hb : w < 0 ∨ 4 ≤ w := by
      by_cases q : w < 0 ∨ 4 ≤ w
      · exact q
      · exact absurd (if_neg q) c0
    have hc : cd_item w 4 1 = 1 := if_pos hb
    rw [hc]
    exact vqs.thr (k := 1) (v := 0) (by unfold sw_copied; rw [if_pos (Or.inr hb)]) H frV.refl hdm (by decide) rfl
end VQ
