/-! NotedVolumeModel: the calls that read (by program: wip/whole/mk41.py) -/
/-- a call of the model ends: code, answer, its volume; the subscribers as they were -/
def mqp (G : xa_G) (h : xa_H) (sz o : Nat) (r : Nat × Int32 × sv_V) (A : Nat → Nat → Int32) : Outcome → xa_H → Nat → Prop := fun o' h' z => o' = .returned (some (.int r.2.1)) ∧ z = sz ∧ (∃ K' A', mo_at G h' o K' A' ∧ rV r.2.2 K' A' ∧ K' 0 = nI r.1 ∧ ∀ i, 9 ≤ i → i ≤ 21 → A' i = A i) ∧ frM o h h'
section MR
variable {G : xa_G} {h : xa_H} {sz o : Nat} {K : Nat → Int32} {A : Nat → Nat → Int32} {V : sv_V}
theorem rV.thr {w : Int32} (H : rV V K A) : rV V (upd K 0 w) A := ⟨H.1.cg rfl (fun _ _ _ => rfl), H.2.1.cg rfl rfl, H.2.2.1.cg rfl rfl rfl, H.2.2.2.1, H.2.2.2.2.1, H.2.2.2.2.2⟩
theorem ct_M_thrown (H : mo_at G h o K A) : xa_T G mm_M_thrown 0 0 0 [.ref o] h sz (xq_same h sz (some (.int (K 0)))) := by
  refine xt_o ok_M_thrown rfl rfl ?_
  refine xw_aloadR_n dd_M_thrown_0 rfl ?_
  refine xw_get fl_M_81 dd_M_thrown_1 H.1 rfl ?_
  exact xw_iret dd_M_thrown_4 rfl ⟨rfl, rfl, rfl⟩
theorem ct_M_tailNow (H : mo_at G h o K A) (hV : rV V K A) : xa_T G mm_M_tailNow 0 0 0 [.ref o] h sz (xq_same h sz (some (.int (nI (rg_tl (sv_hd V)))))) := by
  obtain ⟨n1, n2, n3, -⟩ := hV.2.1
  refine xt_o ok_M_tailNow rfl rfl ?_
  refine xw_aloadR_n dd_M_tailNow_0 rfl ?_
  refine xw_get fl_M_25 dd_M_tailNow_1 H.1 rfl ?_
  rw [n1]
  refine xw_bipush 16 dd_M_tailNow_4 (by decide) ?_
  refine xw_icmp_le 19 dd_M_tailNow_6 (by decide) (fun hc => ?_) (fun hc => ?_)
  · refine xw_iconst 1 dd_M_tailNow_19 (by decide) ?_
    have hl : sv_hd V ≤ 16 := (nI_leI (b := 16) (by omega) (by decide)).mp hc
    exact xw_iret dd_M_tailNow_20 rfl ⟨by unfold rg_tl; rw [if_neg (by omega)]; rfl, rfl, rfl⟩
  · refine xw_aloadR_n dd_M_tailNow_9 rfl ?_
    refine xw_get fl_M_25 dd_M_tailNow_10 H.1 rfl ?_
    rw [n1]
    refine xw_bipush 16 dd_M_tailNow_13 (by decide) ?_
    refine xw_isub dd_M_tailNow_15 ?_
    refine xw_goto 20 dd_M_tailNow_16 (by decide) ?_
    have hl : 16 < sv_hd V := by
      by_cases q : sv_hd V ≤ 16
      · exact absurd (nI_le (b := 16) q (by decide)) hc
      · omega
    have e1 : nI (sv_hd V) - 16 = nI (sv_hd V - 16) := pk_sub (a := sv_hd V) (b := 16) (by omega)
    exact xw_iret dd_M_tailNow_20 rfl ⟨by unfold rg_tl; rw [if_pos hl, e1], rfl, rfl⟩
theorem ct_M_live (H : mo_at G h o K A) (hV : rV V K A) : xa_T G mm_M_live 0 0 0 [.ref o] h sz (mqp G h sz o (0, nI (sv_fs V).length, V) A) := by
  refine xt_o ok_M_live rfl rfl ?_
  refine xw_aloadR_n dd_M_live_0 rfl ?_
  refine xw_iconst 0 dd_M_live_1 (by decide) ?_
  refine xw_putA fl_M_81 fz_M_81 (by decide) dd_M_live_2 H.1 rfl H.2.2 rfl rfl (fun h1 n1 f1 => ?_)
  obtain ⟨H1, fr1⟩ := H.setK (K' := upd K 0 (nI 0)) n1 f1
  have hV1 : rV V (upd K 0 (nI 0)) A := hV.thr
  refine xw_aloadR_n dd_M_live_5 rfl ?_
  refine xw_get fl_M_84 dd_M_live_6 n1 rfl ?_
  have e : K 1 = nI (sv_fs V).length := hV.1.1
  rw [e]
  exact xw_iret dd_M_live_9 rfl ⟨rfl, rfl, ⟨_, A, H1, hV1, rfl, fun _ _ _ => rfl⟩, fr1⟩
theorem ct_M_head (H : mo_at G h o K A) (hV : rV V K A) : xa_T G mm_M_head 0 0 0 [.ref o] h sz (mqp G h sz o (0, nI (sv_hd V), V) A) := by
  refine xt_o ok_M_head rfl rfl ?_
  refine xw_aloadR_n dd_M_head_0 rfl ?_
  refine xw_iconst 0 dd_M_head_1 (by decide) ?_
  refine xw_putA fl_M_81 fz_M_81 (by decide) dd_M_head_2 H.1 rfl H.2.2 rfl rfl (fun h1 n1 f1 => ?_)
  obtain ⟨H1, fr1⟩ := H.setK (K' := upd K 0 (nI 0)) n1 f1
  have hV1 : rV V (upd K 0 (nI 0)) A := hV.thr
  refine xw_aloadR_n dd_M_head_5 rfl ?_
  refine xw_get fl_M_25 dd_M_head_6 n1 rfl ?_
  have e : K 8 = nI (sv_hd V) := hV.2.1.1
  rw [e]
  exact xw_iret dd_M_head_9 rfl ⟨rfl, rfl, ⟨_, A, H1, hV1, rfl, fun _ _ _ => rfl⟩, fr1⟩
theorem ct_M_tail (H : mo_at G h o K A) (hV : rV V K A) : xa_T G mm_M_tail 1 0 0 [.ref o] h sz (mqp G h sz o (0, nI (rg_tl (sv_hd V)), V) A) := by
  refine xt_o ok_M_tail rfl rfl ?_
  refine xw_aloadR_n dd_M_tail_0 rfl ?_
  refine xw_iconst 0 dd_M_tail_1 (by decide) ?_
  refine xw_putA fl_M_81 fz_M_81 (by decide) dd_M_tail_2 H.1 rfl H.2.2 rfl rfl (fun h1 n1 f1 => ?_)
  obtain ⟨H1, fr1⟩ := H.setK (K' := upd K 0 (nI 0)) n1 f1
  have hV1 : rV V (upd K 0 (nI 0)) A := hV.thr
  refine xw_aloadR_n dd_M_tail_5 rfl ?_
  refine xw_cl0 (ct_M_tailNow H1 hV1) (iv_M_tail_6 H1.1) ok_M_tailNow rfl rfl rfl ?_ (fun _ _ _ q => by cases q.1)
  rintro v h1 sz ⟨hv, rfl, rfl⟩
  cases hv
  exact xw_iret dd_M_tail_9 rfl ⟨rfl, rfl, ⟨_, A, H1, hV1, rfl, fun _ _ _ => rfl⟩, fr1⟩
theorem ct_M_find {p nm : Int32} (H : mo_at G h o K A) (hV : rV V K A) : xa_T G mm_M_find 1 0 0 [.ref o, .int p, .int nm] h sz (mqp G h sz o (0, sv_fnd V p nm, V) A) := by
  refine xt_o ok_M_find rfl rfl ?_
  refine xw_aloadR_n dd_M_find_0 rfl ?_
  refine xw_iconst 0 dd_M_find_1 (by decide) ?_
  refine xw_putA fl_M_81 fz_M_81 (by decide) dd_M_find_2 H.1 rfl H.2.2 rfl rfl (fun h1 n1 f1 => ?_)
  obtain ⟨H1, fr1⟩ := H.setK (K' := upd K 0 (nI 0)) n1 f1
  have hV1 : rV V (upd K 0 (nI 0)) A := hV.thr
  refine xw_aloadR_n dd_M_find_5 rfl ?_
  refine xw_iload_n dd_M_find_6 rfl ?_
  refine xw_iload_n dd_M_find_7 rfl ?_
  refine xw_cl0 (ct_M_named H1 hV1.1) (iv_M_find_8 H1.1) ok_M_named rfl rfl rfl ?_ (fun _ _ _ q => by cases q.1)
  rintro v h1 sz ⟨hv, rfl, rfl⟩
  cases hv
  exact xw_iret dd_M_find_11 rfl ⟨rfl, rfl, ⟨_, A, H1, hV1, rfl, fun _ _ _ => rfl⟩, fr1⟩
theorem ct_M_isOn (H : mo_at G h o K A) (hV : rV V K A) : xa_T G mm_M_isOn 0 0 0 [.ref o] h sz (mqp G h sz o (0, if sv_on V = true then 1 else 0, V) A) := by
  refine xt_o ok_M_isOn rfl rfl ?_
  refine xw_aloadR_n dd_M_isOn_0 rfl ?_
  refine xw_iconst 0 dd_M_isOn_1 (by decide) ?_
  refine xw_putA fl_M_81 fz_M_81 (by decide) dd_M_isOn_2 H.1 rfl H.2.2 rfl rfl (fun h1 n1 f1 => ?_)
  obtain ⟨H1, fr1⟩ := H.setK (K' := upd K 0 (nI 0)) n1 f1
  have hV1 : rV V (upd K 0 (nI 0)) A := hV.thr
  refine xw_aloadR_n dd_M_isOn_5 rfl ?_
  refine xw_get fl_M_91 dd_M_isOn_6 n1 rfl ?_
  have e : K 13 = (if sv_on V = true then 0 else 1) := hV.2.2.2.2.1
  rw [e]
  by_cases hon : sv_on V = true
  · rw [if_pos hon, if_pos hon]
    refine xw_if_ne 16 dd_M_isOn_9 (by decide) (fun hc => absurd rfl hc) (fun hc => ?_)
    refine xw_iconst 1 dd_M_isOn_12 (by decide) ?_
    refine xw_goto 17 dd_M_isOn_13 (by decide) ?_
    exact xw_zret dd_M_isOn_17 rfl rfl ⟨rfl, rfl, ⟨_, A, H1, hV1, rfl, fun _ _ _ => rfl⟩, fr1⟩
  · rw [if_neg hon, if_neg hon]
    refine xw_if_ne 16 dd_M_isOn_9 (by decide) (fun hc => ?_) (fun hc => absurd hc (by decide))
    refine xw_iconst 0 dd_M_isOn_16 (by decide) ?_
    exact xw_zret dd_M_isOn_17 rfl rfl ⟨rfl, rfl, ⟨_, A, H1, hV1, rfl, fun _ _ _ => rfl⟩, fr1⟩
theorem ct_M_open (H : mo_at G h o K A) (hV : rV V K A) (hoff : ¬ sv_on V = true → sv_gs V = []) : xa_T G mm_M_open 0 0 0 [.ref o] h sz (mqp G h sz o (0, nI (sv_gs V).length, V) A) := by
  refine xt_o ok_M_open rfl rfl ?_
  refine xw_aloadR_n dd_M_open_0 rfl ?_
  refine xw_iconst 0 dd_M_open_1 (by decide) ?_
  refine xw_putA fl_M_81 fz_M_81 (by decide) dd_M_open_2 H.1 rfl H.2.2 rfl rfl (fun h1 n1 f1 => ?_)
  obtain ⟨H1, fr1⟩ := H.setK (K' := upd K 0 (nI 0)) n1 f1
  have hV1 : rV V (upd K 0 (nI 0)) A := hV.thr
  refine xw_aloadR_n dd_M_open_5 rfl ?_
  refine xw_get fl_M_91 dd_M_open_6 n1 rfl ?_
  have e : K 13 = (if sv_on V = true then 0 else 1) := hV.2.2.2.2.1
  have e2 : K 10 = nI (sv_gs V).length := hV.2.2.1.1
  rw [e]
  by_cases hon : sv_on V = true
  · rw [if_pos hon]
    refine xw_if_eq 16 dd_M_open_9 (by decide) (fun hc => ?_) (fun hc => absurd rfl hc)
    refine xw_aloadR_n dd_M_open_16 rfl ?_
    refine xw_get fl_M_95 dd_M_open_17 n1 rfl ?_
    rw [e2]
    exact xw_iret dd_M_open_20 rfl ⟨rfl, rfl, ⟨_, A, H1, hV1, rfl, fun _ _ _ => rfl⟩, fr1⟩
  · rw [if_neg hon]
    refine xw_if_eq 16 dd_M_open_9 (by decide) (fun hc => absurd hc (by decide)) (fun hc => ?_)
    refine xw_iconst 0 dd_M_open_12 (by decide) ?_
    refine xw_goto 20 dd_M_open_13 (by decide) ?_
    exact xw_iret dd_M_open_20 rfl ⟨by rw [hoff hon]; rfl, rfl, ⟨_, A, H1, hV1, rfl, fun _ _ _ => rfl⟩, fr1⟩
end MR
