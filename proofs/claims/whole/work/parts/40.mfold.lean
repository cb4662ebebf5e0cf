/-! NotedVolumeModel: folders (by program: wip/whole/mk40.py) -/
section MF
variable {G : xa_G} {h : xa_H} {sz o : Nat} {K : Nat → Int32} {A : Nat → Nat → Int32}
theorem ct_M_isFolder {fs : List sv_E} {f : Int32} (H : mo_at G h o K A) (hF : rF fs K A) : xa_T G mm_M_isFolder 1 0 0 [.ref o, .int f] h sz (xq_same h sz (some (.int (if cd_fold fs f = 0 then 1 else 0)))) := by
  obtain ⟨k1, k2, k3⟩ := id hF
  have yes : cd_fold fs f = 0 → xa_W G mm_M_isFolder 1 0 0 26 [some (.ref o), some (.int f)] [] h sz (xq_same h sz (some (.int (if cd_fold fs f = 0 then 1 else 0)))) := by
    intro hc
    refine xw_iconst 1 dd_M_isFolder_26 (by decide) ?_
    refine xw_goto 31 dd_M_isFolder_27 (by decide) ?_
    exact xw_zret dd_M_isFolder_31 rfl rfl ⟨by rw [if_pos hc], rfl, rfl⟩
  have no : ¬ cd_fold fs f = 0 → xa_W G mm_M_isFolder 1 0 0 30 [some (.ref o), some (.int f)] [] h sz (xq_same h sz (some (.int (if cd_fold fs f = 0 then 1 else 0)))) := by
    intro hc
    refine xw_iconst 0 dd_M_isFolder_30 (by decide) ?_
    exact xw_zret dd_M_isFolder_31 rfl rfl ⟨by rw [if_neg hc], rfl, rfl⟩
  refine xt_o ok_M_isFolder rfl rfl ?_
  refine xw_iload_n dd_M_isFolder_0 rfl ?_
  refine xw_if_eq 26 dd_M_isFolder_1 (by decide) (fun h0 => yes (by unfold cd_fold; rw [if_pos h0])) (fun h0 => ?_)
  refine xw_aloadR_n dd_M_isFolder_4 rfl ?_
  refine xw_iload_n dd_M_isFolder_5 rfl ?_
  refine xw_cl0 (ct_M_placeOf H hF) (iv_M_isFolder_6 H.1) ok_M_placeOf rfl rfl rfl ?_ (fun _ _ _ q => by cases q.1)
  rintro v h sz ⟨hv, rfl, rfl⟩
  cases hv
  rcases fx (fun e : sv_E => decide (e.1 = f)) fs with ⟨w1, w2⟩ | ⟨i, e, he, w1, w2, w3, -⟩
  · have hix : sv_ix (fun e : sv_E => decide (e.1 = f)) fs = -1 := by
      unfold sv_ix
      rw [w2]
    have hfi : sv_find fs f = none := w1
    rw [hix]
    refine xw_if_lt 30 dd_M_isFolder_9 (by decide) (fun hc => no ?_) (fun hc => absurd (by decide) hc)
    unfold cd_fold
    rw [if_neg h0, hfi]
    decide
  · have hi := (List.getElem?_eq_some_iff.mp he).1
    have hix : sv_ix (fun e : sv_E => decide (e.1 = f)) fs = nI i := by
      unfold sv_ix
      rw [w2]
    have hfi : sv_find fs f = some e := w1
    have hcd : cd_fold fs f = if e.2.1 = 1 then 0 else 4 := by
      unfold cd_fold
      rw [if_neg h0, hfi]
    rw [hix]
    refine xw_if_lt 30 dd_M_isFolder_9 (by decide) (fun hc => absurd hc (nI_pos (by omega))) (fun hc => ?_)
    refine xw_aloadR_n dd_M_isFolder_12 rfl ?_
    refine xw_get fl_M_13 dd_M_isFolder_13 H.1 rfl ?_
    refine xw_aloadR_n dd_M_isFolder_16 rfl ?_
    refine xw_iload_n dd_M_isFolder_17 rfl ?_
    refine xw_cl0 (ct_M_placeOf H hF) (iv_M_isFolder_18 H.1) ok_M_placeOf rfl rfl rfl ?_ (fun _ _ _ q => by cases q.1)
    rintro v h sz ⟨hv, rfl, rfl⟩
    cases hv
    rw [hix]
    refine xw_iald dd_M_isFolder_21 (H.2.1 2 (by decide) (by decide)) (vp_in_nI (show i < 20 by omega) (by decide)) ?_
    rw [nI_clamp (by omega), (k3 i e he).2.1]
    refine xw_iconst 1 dd_M_isFolder_22 (by decide) ?_
    refine xw_icmp_ne 30 dd_M_isFolder_23 (by decide) (fun hc2 => no ?_) (fun hc2 => yes ?_)
    · rw [hcd, if_neg hc2]
      decide
    · rw [hcd]
      exact if_pos hc2
theorem ct_M_hasFiles {fs : List sv_E} {f : Int32} (H : mo_at G h o K A) (hF : rF fs K A) : xa_T G mm_M_hasFiles 0 0 0 [.ref o, .int f] h sz (xq_same h sz (some (.int (if (fs.find? (fun e => decide (e.2.2.1 = f))).isSome = true then 1 else 0)))) := by
  obtain ⟨k1, k2, k3⟩ := id hF
  have loop : ∀ (k i : Nat), i + k = fs.length → xa_W G mm_M_hasFiles 0 0 0 4 [some (.ref o), some (.int f), some (.int (if ((fs.take i).find? (fun e => decide (e.2.2.1 = f))).isSome = true then 1 else 0)), some (.int (nI i))] [] h sz (xq_same h sz (some (.int (if (fs.find? (fun e => decide (e.2.2.1 = f))).isSome = true then 1 else 0)))) := by
    intro k
    induction k with
    | zero =>
      intro i hk
      refine xw_iload_n dd_M_hasFiles_4 rfl ?_
      refine xw_aloadR_n dd_M_hasFiles_5 rfl ?_
      refine xw_get fl_M_84 dd_M_hasFiles_6 H.1 rfl ?_
      rw [k1]
      refine xw_icmp_ge 38 dd_M_hasFiles_9 (by decide) (fun hc => ?_) (fun hc => absurd (nI_le (by omega) (by omega)) hc)
      refine xw_iload_n dd_M_hasFiles_38 rfl ?_
      exact xw_zret dd_M_hasFiles_39 rfl zbit ⟨by rw [List.take_of_length_le (by omega)], rfl, rfl⟩
    | succ k ih =>
      intro i hk
      have hi : i < fs.length := by omega
      have he : fs[i]? = some fs[i] := List.getElem?_eq_getElem hi
      have hstep : ∀ w : Int32, w = (if ((fs.take (i + 1)).find? (fun e => decide (e.2.2.1 = f))).isSome = true then 1 else 0) → xa_W G mm_M_hasFiles 0 0 0 31 [some (.ref o), some (.int f), some (.int (if ((fs.take i).find? (fun e => decide (e.2.2.1 = f))).isSome = true then 1 else 0)), some (.int (nI i))] [.int w] h sz (xq_same h sz (some (.int (if (fs.find? (fun e => decide (e.2.2.1 = f))).isSome = true then 1 else 0)))) := by
        intro w hw
        rw [hw]
        refine xw_istore_n dd_M_hasFiles_31 (by decide) ?_
        refine xw_iinc dd_M_hasFiles_32 rfl (nI_1 i) (by decide) ?_
        refine xw_goto 4 dd_M_hasFiles_35 (by decide) ?_
        exact ih (i + 1) (by omega)
      refine xw_iload_n dd_M_hasFiles_4 rfl ?_
      refine xw_aloadR_n dd_M_hasFiles_5 rfl ?_
      refine xw_get fl_M_84 dd_M_hasFiles_6 H.1 rfl ?_
      rw [k1]
      refine xw_icmp_ge 38 dd_M_hasFiles_9 (by decide) (fun hc => absurd hc (nI_ge (by omega) (by omega))) (fun hc => ?_)
      refine xw_iload_n dd_M_hasFiles_12 rfl ?_
      refine xw_if_ne 26 dd_M_hasFiles_13 (by decide) (fun hc2 => ?_) (fun hc2 => ?_)
      · have hsome : ((fs.take i).find? (fun e => decide (e.2.2.1 = f))).isSome = true := by
          by_cases q : ((fs.take i).find? (fun e => decide (e.2.2.1 = f))).isSome = true
          · exact q
          · rw [if_neg q] at hc2
            exact absurd rfl hc2
        refine xw_iconst 1 dd_M_hasFiles_26 (by decide) ?_
        refine xw_goto 31 dd_M_hasFiles_27 (by decide) ?_
        refine hstep 1 ?_
        rw [List.take_add_one, List.find?_append]
        obtain ⟨e0, he0⟩ := Option.isSome_iff_exists.mp hsome
        rw [he0]
        rfl
      · have hnone : (fs.take i).find? (fun e => decide (e.2.2.1 = f)) = none := by
          by_cases q : ((fs.take i).find? (fun e => decide (e.2.2.1 = f))).isSome = true
          · rw [if_pos q] at hc2
            exact absurd hc2 (by decide)
          · exact Option.not_isSome_iff_eq_none.mp q
        refine xw_aloadR_n dd_M_hasFiles_16 rfl ?_
        refine xw_get fl_M_16 dd_M_hasFiles_17 H.1 rfl ?_
        refine xw_iload_n dd_M_hasFiles_20 rfl ?_
        refine xw_iald dd_M_hasFiles_21 (H.2.1 3 (by decide) (by decide)) (vp_in_nI (show i < 20 by omega) (by decide)) ?_
        rw [nI_clamp (by omega), (k3 i _ he).2.2.1]
        refine xw_iload_n dd_M_hasFiles_22 rfl ?_
        refine xw_icmp_ne 30 dd_M_hasFiles_23 (by decide) (fun hc3 => ?_) (fun hc3 => ?_)
        · refine xw_iconst 0 dd_M_hasFiles_30 (by decide) ?_
          refine hstep 0 ?_
          rw [sf_step hnone he (decide_eq_false hc3)]
          rfl
        · refine xw_iconst 1 dd_M_hasFiles_26 (by decide) ?_
          refine xw_goto 31 dd_M_hasFiles_27 (by decide) ?_
          refine hstep 1 ?_
          rw [List.take_add_one, List.find?_append, hnone, he]
          have : decide ((fs[i]).2.2.1 = f) = true := decide_eq_true hc3
          simp [this]
  refine xt_o ok_M_hasFiles rfl rfl ?_
  refine xw_iconst 0 dd_M_hasFiles_0 (by decide) ?_
  refine xw_istore_n dd_M_hasFiles_1 (by decide) ?_
  refine xw_iconst 0 dd_M_hasFiles_2 (by decide) ?_
  refine xw_istore_n dd_M_hasFiles_3 (by decide) ?_
  exact loop fs.length 0 (by omega)
end MF
