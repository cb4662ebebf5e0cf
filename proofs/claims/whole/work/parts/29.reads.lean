/-! NotedVolume: the calls that read (by program: wip/whole/mk29.py) -/
/-- how a call ends: code, answer, what the volume is then -/
def vqr (G : xa_G) (h : xa_H) (x : Nat) (r : Nat × Int32 × sv_V) (cs : Nat → Nat) (S : Nat → sv_S) : Outcome → xa_H → Nat → Prop := vqc G h x r.1 cs (some (.int r.2.1)) r.2.2 S
theorem vqr.thr {G : xa_G} {h h1 : xa_H} {x k sz ci z : Nat} {cs : Nat → Nat} {r : Nat × Int32 × sv_V} {V : sv_V} {S : Nat → sv_S} {v : Int32} (hr : r = (k, v, V)) (H : vs G h1 x V S) (hf : frV x h h1) (hd : xd_h h1 sz) (hk : k ≠ 0) (hci : cs k = ci) : vqr G h x r cs S (.threw sz) (xa_up h1 sz (.inr (ci, []))) z := by
  subst hr
  exact vqc.thr H hf hd hk hci
theorem vqr.ret {G : xa_G} {h h1 : xa_H} {x z : Nat} {cs : Nat → Nat} {r : Nat × Int32 × sv_V} {V : sv_V} {S : Nat → sv_S} {v : Int32} (hr : r = (0, v, V)) (H : vs G h1 x V S) (hf : frV x h h1) : vqr G h x r cs S (.returned (some (.int v))) h1 z := by
  subst hr
  exact vqc.ret H hf rfl
abbrev cs_of : Nat → Nat := fun c => if c = 1 then 12 else 14
def sv_of (V : sv_V) (f w : Int32) : Nat × Int32 × sv_V := match sv_find (sv_fs V) f with
  | none => (1, 0, V)
  | some e => if w < 0 ∨ 4 ≤ w then (2, 0, V) else (0, sv_it e w.toNatClampNeg, V)
def sv_fnd (V : sv_V) (p nm : Int32) : Int32 := match sv_nmd (sv_fs V) p nm with
  | none => -1
  | some e => e.1
def sv_nte (V : sv_V) (s w : Int32) : Nat × Int32 × sv_V := if nI (rg_tl (sv_hd V)) ≤ s ∧ s < nI (sv_hd V) then if w < 0 ∨ 6 ≤ w then (2, 0, V) else (0, sv_rg V (s.toNatClampNeg % 16) w.toNatClampNeg, V) else (1, 0, V)
section VR
variable {G : xa_G} {h : xa_H} {sz x : Nat} {V : sv_V} {S : Nat → sv_S}
theorem ct_V_open (H : vs G h x V S) : xa_T G mm_V_open 2 0 0 [.ref x] h sz (xq_same h sz (some (.int (nI (sv_gs V).length)))) := by
  obtain ⟨ar, cp, h1, ⟨xs, h2⟩, h3, h4, h5, h6, h7⟩ := H
  obtain ⟨_, hT, -⟩ := id h4
  refine xt_o ok_V_open rfl rfl ?_
  refine xw_aloadR_n dd_V_open_0 rfl ?_
  refine xw_get fl_V_28 dd_V_open_1 h1 rfl ?_
  refine xw_cl0 (ct_H_count h4) (iv_V_open_4 hT) ok_H_count rfl rfl rfl ?_ (fun _ _ _ q => by cases q.1)
  rintro v h sz ⟨hv, rfl, rfl⟩
  cases hv
  exact xw_iret dd_V_open_7 rfl ⟨rfl, rfl, rfl⟩
theorem ct_V_live (H : vs G h x V S) : xa_T G mm_V_live 2 0 0 [.ref x] h sz (xq_same h sz (some (.int (nI (sv_fs V).length)))) := by
  obtain ⟨ar, cp, h1, ⟨xs, h2⟩, h3, h4, h5, h6, h7⟩ := H
  refine xt_o ok_V_live rfl rfl ?_
  refine xw_aloadR_n dd_V_live_0 rfl ?_
  refine xw_get fl_V_14 dd_V_live_1 h1 rfl ?_
  refine xw_cl0 (ct_F_count h2) (iv_V_live_4 h2.1) ok_F_count rfl rfl rfl ?_ (fun _ _ _ q => by cases q.1)
  rintro v h sz ⟨hv, rfl, rfl⟩
  cases hv
  exact xw_iret dd_V_live_7 rfl ⟨rfl, rfl, rfl⟩
theorem ct_V_tail (H : vs G h x V S) : xa_T G mm_V_tail 2 0 0 [.ref x] h sz (xq_same h sz (some (.int (nI (rg_tl (sv_hd V)))))) := by
  obtain ⟨ar, cp, h1, ⟨xs, h2⟩, ⟨f, h3, -⟩, h4, h5, h6, h7⟩ := H
  refine xt_o ok_V_tail rfl rfl ?_
  refine xw_aloadR_n dd_V_tail_0 rfl ?_
  refine xw_get fl_V_21 dd_V_tail_1 h1 rfl ?_
  refine xw_cl0 (ct_R_leastKept h3) (iv_V_tail_4 h3.1) ok_R_leastKept rfl rfl rfl ?_ (fun _ _ _ q => by cases q.1)
  rintro v h sz ⟨hv, rfl, rfl⟩
  cases hv
  exact xw_iret dd_V_tail_7 rfl ⟨rfl, rfl, rfl⟩
theorem ct_V_head (H : vs G h x V S) : xa_T G mm_V_head 2 0 0 [.ref x] h sz (xq_same h sz (some (.int (nI (sv_hd V))))) := by
  obtain ⟨ar, cp, h1, ⟨xs, h2⟩, ⟨f, h3, -⟩, h4, h5, h6, h7⟩ := H
  refine xt_o ok_V_head rfl rfl ?_
  refine xw_aloadR_n dd_V_head_0 rfl ?_
  refine xw_get fl_V_21 dd_V_head_1 h1 rfl ?_
  refine xw_cl0 (ct_R_nextSerial h3) (iv_V_head_4 h3.1) ok_R_nextSerial rfl rfl rfl ?_ (fun _ _ _ q => by cases q.1)
  rintro v h sz ⟨hv, rfl, rfl⟩
  cases hv
  exact xw_iret dd_V_head_7 rfl ⟨rfl, rfl, rfl⟩
theorem ct_V_isOn (H : vs G h x V S) : xa_T G mm_V_isOn 0 0 0 [.ref x] h sz (xq_same h sz (some (.int (if sv_on V = true then 1 else 0)))) := by
  have h1 := H.cell
  refine xt_o ok_V_isOn rfl rfl ?_
  refine xw_aloadR_n dd_V_isOn_0 rfl ?_
  refine xw_get fl_V_43 dd_V_isOn_1 h1 rfl ?_
  refine xw_zret dd_V_isOn_4 rfl ?_ ⟨rfl, rfl, rfl⟩
  by_cases q : sv_on V = true
  · rw [if_pos q]; rfl
  · rw [if_neg q]; rfl
theorem ct_V_find {p nm : Int32} (H : vs G h x V S) : xa_T G mm_V_find 4 0 0 [.ref x, .int p, .int nm] h sz (xq_same h sz (some (.int (sv_fnd V p nm)))) := by
  obtain ⟨ar, cp, h1, ⟨xs, h2⟩, h3, h4, h5, h6, h7⟩ := H
  refine xt_o ok_V_find rfl rfl ?_
  refine xw_aloadR_n dd_V_find_0 rfl ?_
  refine xw_get fl_V_14 dd_V_find_1 h1 rfl ?_
  refine xw_iload_n dd_V_find_4 rfl ?_
  refine xw_iload_n dd_V_find_5 rfl ?_
  refine xw_cl0 (ct_F_entryNamed h2) (iv_V_find_6 h2.1) ok_F_entryNamed rfl rfl rfl ?_ (fun _ _ _ q => by cases q.2.2.choose_spec.1)
  rintro v h sz ⟨rfl, rfl, r, hv, hr⟩
  cases hv
  rcases hr with ⟨w1, rfl⟩ | ⟨e, y, w1, rfl, w3⟩
  · have w1' : sv_nmd (sv_fs V) p nm = none := w1
    refine xw_astore_n (r := none) dd_V_find_9 (by decide) ?_
    refine xw_aload_n (r := none) dd_V_find_10 rfl ?_
    refine xw_ifnonnullN dd_V_find_11 ?_
    refine xw_iconst (-1) dd_V_find_14 (by decide) ?_
    refine xw_goto 22 dd_V_find_15 (by decide) ?_
    exact xw_iret dd_V_find_22 rfl ⟨by unfold sv_fnd; rw [w1'], rfl, rfl⟩
  · have w1' : sv_nmd (sv_fs V) p nm = some e := w1
    refine xw_astore_n (r := some y) dd_V_find_9 (by decide) ?_
    refine xw_aloadR_n dd_V_find_10 rfl ?_
    refine xw_ifnonnullR 18 dd_V_find_11 (by decide) ?_
    refine xw_aloadR_n dd_V_find_18 rfl ?_
    refine xw_get fl_V_83 dd_V_find_19 w3 rfl ?_
    exact xw_iret dd_V_find_22 rfl ⟨by unfold sv_fnd; rw [w1'], rfl, rfl⟩
theorem ct_V_of {f w : Int32} (H : vs G h x V S) : xa_T G mm_V_of 12 200 4000 [.ref x, .int f, .int w] h sz (vqr G h x (sv_of V f w) cs_of S) := by
  have h1 := H.cell
  refine xt_o ok_V_of rfl rfl ?_
  refine xw_dom (fun hdm _ => ?_)
  refine xw_aloadR_n dd_V_of_0 rfl ?_
  refine xw_iload_n dd_V_of_1 rfl ?_
  refine xw_less (kc' := 100 + 1) (ks' := 2000 + 6) (by decide) (by decide) ?_
  refine xw_live (ct_V_liveEntry H) (iv_V_of_2 h1) rfl rfl rfl (fun e y w1 w2 => ?_) (fun w1 => vqr.thr (k := 1) (V := V) (v := 0) (by unfold sv_of; rw [w1]) H frV.refl hdm (by decide) rfl)
  refine xw_astoreR_n dd_V_of_5 (by decide) ?_
  refine xw_iload_n dd_V_of_6 rfl ?_
  refine xw_iconst 4 dd_V_of_7 (by decide) ?_
  refine xw_less (kc' := 50 + 1) (ks' := 1000 + 6) (by decide) (by decide) ?_
  refine xw_chk (ct_V_checkItem (k := 2) (by decide) (cs := cs_of) rfl) iv_V_of_8 ok_V_checkItem rfl rfl rfl rfl (fun c0 => ?_) (fun c0 => ?_)
  · have hb : ¬ (w < 0 ∨ 4 ≤ w) := fun q => by
      unfold cd_item at c0
      rw [if_pos q] at c0
      cases c0
    have h0 : ¬ w < 0 := fun q => hb (Or.inl q)
    have h4 : w < 4 := Int32.not_le.mp (fun q => hb (Or.inr q))
    have hr : sv_of V f w = (0, sv_it e w.toNatClampNeg, V) := by
      unfold sv_of
      rw [w1]
      exact if_neg hb
    obtain ⟨k, hk, rfl⟩ := nI_of h0
    have hk4 : k < 4 := (nI_ltI (b := 4) hk (by decide)).mp h4
    rw [nI_clamp hk] at hr
    refine xw_less (kc' := 0) (ks' := 0) (by decide) (by decide) ?_
    refine xw_aloadR_n dd_V_of_11 rfl ?_
    refine xw_iload_n dd_V_of_12 rfl ?_
    refine xw_cl0 (ct_E_item w2 hk4) (iv_V_of_13 w2) ok_E_item rfl rfl rfl ?_ (fun _ _ _ q => by cases q.1)
    rintro v h sz ⟨hv, rfl, rfl⟩
    cases hv
    exact xw_iret dd_V_of_16 rfl (vqr.ret hr H frV.refl)
  · have hb : w < 0 ∨ 4 ≤ w := by
      by_cases q : w < 0 ∨ 4 ≤ w
      · exact q
      · exact absurd (if_neg q) c0
    have hc : cd_item w 4 2 = 2 := if_pos hb
    rw [hc]
    exact vqr.thr (k := 2) (V := V) (v := 0) (by unfold sv_of; rw [w1]; exact if_pos hb) H frV.refl hdm (by decide) rfl
theorem ct_V_note {s w : Int32} (H : vs G h x V S) : xa_T G mm_V_note 12 200 4000 [.ref x, .int s, .int w] h sz (vqr G h x (sv_nte V s w) cs_of S) := by
  have h1 := H.cell
  have H0 := H
  obtain ⟨ar, cp, -, -, ⟨f, h3, h3'⟩, -⟩ := H
  have hlim := h3.2.2
  refine xt_o ok_V_note rfl rfl ?_
  refine xw_dom (fun hdm _ => ?_)
  refine xw_aloadR_n dd_V_note_0 rfl ?_
  refine xw_get fl_V_21 dd_V_note_1 h1 rfl ?_
  refine xw_iload_n dd_V_note_4 rfl ?_
  refine xw_cl0 (ct_R_noteAt h3) (iv_V_note_5 h3.1) ok_R_noteAt rfl rfl rfl ?_ (fun _ _ _ q => by cases q.1)
  rintro v h sz ⟨hv, rfl, rfl⟩
  cases hv
  by_cases hin : nI (rg_tl (sv_hd V)) ≤ s ∧ s < nI (sv_hd V)
  · rw [if_pos hin]
    have htl : rg_tl (sv_hd V) ≤ sv_hd V := by unfold rg_tl; split <;> omega
    have hs0 : ¬ s < 0 := by
      have q1 := Int32.le_iff_toInt_le.mp hin.1
      rw [nI_toInt (by omega)] at q1
      rw [Int32.lt_iff_toInt_lt, Int32.toInt_zero]
      omega
    obtain ⟨j, hj, rfl⟩ := nI_of hs0
    rw [nI_clamp hj]
    obtain ⟨y, ey, e, r, w1, w2, w3, w4⟩ := h3' j ((nI_leI (by omega) hj).mp hin.1) ((nI_ltI hj (by omega)).mp hin.2)
    rw [w1]
    refine xw_astore_n (r := some y) dd_V_note_8 (by decide) ?_
    refine xw_aloadR_n dd_V_note_9 rfl ?_
    refine xw_ifnonnullR 23 dd_V_note_10 (by decide) ?_
    refine xw_iload_n dd_V_note_23 rfl ?_
    refine xw_bipush 6 dd_V_note_24 (by decide) ?_
    refine xw_less (kc' := 50 + 1) (ks' := 1000 + 6) (by decide) (by decide) ?_
    refine xw_chk (ct_V_checkItem (k := 2) (by decide) (cs := cs_of) rfl) iv_V_note_26 ok_V_checkItem rfl rfl rfl rfl (fun c0 => ?_) (fun c0 => ?_)
    · have hb : ¬ (w < 0 ∨ 6 ≤ w) := fun q => by
        unfold cd_item at c0
        rw [if_pos q] at c0
        cases c0
      have h0 : ¬ w < 0 := fun q => hb (Or.inl q)
      have h4 : w < 6 := Int32.not_le.mp (fun q => hb (Or.inr q))
      obtain ⟨k, hk, rfl⟩ := nI_of h0
      have hk6 : k < 6 := (nI_ltI (b := 6) hk (by decide)).mp h4
      have hr : sv_nte V (nI j) (nI k) = (0, sv_item e r k, V) := by
        unfold sv_nte
        rw [if_pos hin, if_neg hb, nI_clamp hj, nI_clamp hk, w4]
      refine xw_less (kc' := 0) (ks' := 0) (by decide) (by decide) ?_
      refine xw_aloadR_n dd_V_note_29 rfl ?_
      refine xw_iload_n dd_V_note_30 rfl ?_
      refine xw_cl0 (ct_N_item w2 w3 hk6) (iv_V_note_31 w2) ok_N_item rfl rfl rfl ?_ (fun _ _ _ q => by cases q.1)
      rintro v h sz ⟨hv, rfl, rfl⟩
      cases hv
      exact xw_iret dd_V_note_34 rfl (vqr.ret hr H0 frV.refl)
    · have hb : w < 0 ∨ 6 ≤ w := by
        by_cases q : w < 0 ∨ 6 ≤ w
        · exact q
        · exact absurd (if_neg q) c0
      have hc : cd_item w 6 2 = 2 := if_pos hb
      rw [hc]
      exact vqr.thr (k := 2) (V := V) (v := 0) (by unfold sv_nte; rw [if_pos hin, if_pos hb]) H0 frV.refl hdm (by decide) rfl
  · rw [if_neg hin]
    refine xw_astore_n (r := none) dd_V_note_8 (by decide) ?_
    refine xw_aload_n (r := none) dd_V_note_9 rfl ?_
    refine xw_ifnonnullN dd_V_note_10 ?_
    refine xw_less (kc' := 100 + 1) (ks' := 2000 + 6) (by decide) (by decide) ?_
    exact xw_throw (tx := "the note is not kept") ex_12 dd_V_note_13 dd_V_note_16 dd_V_note_17 dd_V_note_19 dd_V_note_22 (by decide) (by decide) (by decide) rfl (vqr.thr (k := 1) (V := V) (v := 0) (by unfold sv_nte; rw [if_neg hin]) H0 frV.refl hdm (by decide) rfl)
def sv_cut (V : sv_V) (n : Int32) : Nat × Int32 × sv_V := if n < -1 then (1, 0, V) else (0, 0, match V with
  | (fs, lt, hd, rg, gs, on, _) => (fs, lt, hd, rg, gs, on, n))
theorem ct_V_cutAfter {n : Int32} (H : vs G h x V S) : xa_T G mm_V_cutAfter 12 200 4000 [.ref x, .int n] h sz (vqc G h x (sv_cut V n).1 (fun _ => 11) none (sv_cut V n).2.2 S) := by
  obtain ⟨ar, cp, H⟩ := H
  refine xt_o ok_V_cutAfter rfl rfl ?_
  refine xw_dom (fun hdm _ => ?_)
  refine xw_iload_n dd_V_cutAfter_0 rfl ?_
  refine xw_iconst (-1) dd_V_cutAfter_1 (by decide) ?_
  refine xw_icmp_ge 15 dd_V_cutAfter_2 (by decide) (fun hc => ?_) (fun hc => ?_)
  · have hn : ¬ n < -1 := Int32.not_lt.mpr hc
    obtain ⟨fs, lt, hd, rg, gs, on, lf⟩ := V
    have hr : sv_cut (fs, lt, hd, rg, gs, on, lf) n = (0, 0, (fs, lt, hd, rg, gs, on, n)) := by
      unfold sv_cut
      rw [if_neg hn]
    rw [hr]
    refine xw_aloadR_n dd_V_cutAfter_15 rfl ?_
    refine xw_iload_n dd_V_cutAfter_16 rfl ?_
    have h1 := H.1
    refine xw_putA fl_V_47 fz_V_47 (by decide) dd_V_cutAfter_17 h1 rfl H.2.2.2.2.2.2.1 rfl rfl (fun h9 n9 f9 => ?_)
    have hk : ∀ b e, h b = some e → ¬ (xt e = 0 ∧ b = x) → h9 b = some e := fun b e hb hn => (f9 b (fun q => hn ⟨by subst q; rw [h1] at hb; cases hb; rfl, q⟩)).trans hb
    exact xw_vret dd_V_cutAfter_20 rfl (vqc.ret ⟨ar, cp, H.setX n9 hk⟩ (fun b e hb hp => hk b e hb (by omega)) rfl)
  · have hn : n < -1 := Int32.not_le.mp hc
    have hr : sv_cut V n = (1, 0, V) := by
      unfold sv_cut
      rw [if_pos hn]
    rw [hr]
    refine xw_less (kc' := 100 + 1) (ks' := 2000 + 6) (by decide) (by decide) ?_
    exact xw_throw (tx := "less than NONE") ex_11 dd_V_cutAfter_5 dd_V_cutAfter_8 dd_V_cutAfter_9 dd_V_cutAfter_11 dd_V_cutAfter_14 (by decide) (by decide) (by decide) rfl (vqc.thr ⟨ar, cp, H⟩ frV.refl hdm (show (1 : Nat) ≠ 0 by decide) rfl)
end VR
