/-! NotedVolumeModel: copies (by program: wip/whole/mk58.py) -/
/-- where a file lies in a copy -/
def cx (s : Nat) (f : Int32) (ms : List sv_E) : Int32 := match ms.findIdx? (fun a : sv_E => decide (a.1 = f)) with
  | none => -1
  | some i => nI (280 * s + i)
section SD
variable {G : xa_G} {h : xa_H} {sz o : Nat} {K : Nat → Int32} {A : Nat → Nat → Int32} {V : sv_V} {S : Nat → sv_S}
theorem ct_M_copyPlace {s : Nat} {f : Int32} {ms : List sv_E} (H : mo_at G h o K A) (hs3 : s < 3) (hC : rC s ms A) : xa_T G mm_M_copyPlace 0 0 0 [.ref o, .int (nI s), .int f] h sz (xq_same h sz (some (.int (cx s f ms)))) := by
  obtain ⟨k1, k2, k3⟩ := id hC
  have ix : vp_in (nI s) 3 := vp_in_nI hs3 (by decide)
  have loop : ∀ (r i : Nat), i + r = ms.length → (ms.take i).find? (fun a : sv_E => decide (a.1 = f)) = none → xa_W G mm_M_copyPlace 0 0 0 6 [some (.ref o), some (.int (nI s)), some (.int f), some (.int (nI (280 * s + i)))] [] h sz (xq_same h sz (some (.int (cx s f ms)))) := by
    intro r
    induction r with
    | zero =>
      intro i hr hn
      refine xw_iload_n dd_M_copyPlace_6 rfl ?_
      refine xw_sipush 280 dd_M_copyPlace_7 (by decide) ?_
      refine xw_iload_n dd_M_copyPlace_10 rfl ?_
      refine xw_imul dd_M_copyPlace_11 ?_
      rw [show (280 : Int32) * nI s = nI (280 * s) from pk_mul 280 s]
      refine xw_aloadR_n dd_M_copyPlace_12 rfl ?_
      refine xw_get fl_M_57 dd_M_copyPlace_13 H.1 rfl ?_
      refine xw_iload_n dd_M_copyPlace_16 rfl ?_
      refine xw_iald dd_M_copyPlace_17 (H.2.1 14 (by decide) (by decide)) ix ?_
      rw [nI_clamp (by omega), k1]
      refine xw_iadd dd_M_copyPlace_18 ?_
      rw [nI_add]
      refine xw_icmp_ge 40 dd_M_copyPlace_19 (by decide) (fun hc => ?_) (fun hc => absurd (nI_le (by omega) (by omega)) hc)
      refine xw_iconst (-1) dd_M_copyPlace_40 (by decide) ?_
      refine xw_iret dd_M_copyPlace_41 rfl ⟨?_, rfl, rfl⟩
      have h1 := sf_end hn (by omega)
      unfold cx
      rcases fx (fun a : sv_E => decide (a.1 = f)) ms with ⟨w1, w2⟩ | ⟨j, a, he, w1, w2, w3, -⟩
      · rw [w2]
      · rw [h1] at w1
        cases w1
    | succ r ih =>
      intro i hr hn
      have hi : i < ms.length := by omega
      have he : ms[i]? = some ms[i] := List.getElem?_eq_getElem hi
      refine xw_iload_n dd_M_copyPlace_6 rfl ?_
      refine xw_sipush 280 dd_M_copyPlace_7 (by decide) ?_
      refine xw_iload_n dd_M_copyPlace_10 rfl ?_
      refine xw_imul dd_M_copyPlace_11 ?_
      rw [show (280 : Int32) * nI s = nI (280 * s) from pk_mul 280 s]
      refine xw_aloadR_n dd_M_copyPlace_12 rfl ?_
      refine xw_get fl_M_57 dd_M_copyPlace_13 H.1 rfl ?_
      refine xw_iload_n dd_M_copyPlace_16 rfl ?_
      refine xw_iald dd_M_copyPlace_17 (H.2.1 14 (by decide) (by decide)) ix ?_
      rw [nI_clamp (by omega), k1]
      refine xw_iadd dd_M_copyPlace_18 ?_
      rw [nI_add]
      refine xw_icmp_ge 40 dd_M_copyPlace_19 (by decide) (fun hc => absurd hc (nI_ge (by omega) (by omega))) (fun hc => ?_)
      refine xw_aloadR_n dd_M_copyPlace_22 rfl ?_
      refine xw_get fl_M_60 dd_M_copyPlace_23 H.1 rfl ?_
      refine xw_iload_n dd_M_copyPlace_26 rfl ?_
      refine xw_iald dd_M_copyPlace_27 (H.2.1 15 (by decide) (by decide)) (vp_in_nI (show 280 * s + i < 840 by omega) (by decide)) ?_
      rw [nI_clamp (by omega), (k3 i _ he).1]
      refine xw_iload_n dd_M_copyPlace_28 rfl ?_
      refine xw_icmp_ne 34 dd_M_copyPlace_29 (by decide) (fun hc2 => ?_) (fun hc2 => ?_)
      · refine xw_iinc dd_M_copyPlace_34 rfl (nI_1 (280 * s + i)) (by decide) ?_
        refine xw_goto 6 dd_M_copyPlace_37 (by decide) ?_
        exact ih (i + 1) (by omega) (sf_step hn he (decide_eq_false hc2))
      · refine xw_iload_n dd_M_copyPlace_32 rfl ?_
        refine xw_iret dd_M_copyPlace_33 rfl ⟨?_, rfl, rfl⟩
        unfold cx
        rw [ix_some hn he (decide_eq_true hc2)]
  refine xt_o ok_M_copyPlace rfl rfl ?_
  refine xw_sipush 280 dd_M_copyPlace_0 (by decide) ?_
  refine xw_iload_n dd_M_copyPlace_3 rfl ?_
  refine xw_imul dd_M_copyPlace_4 ?_
  rw [show (280 : Int32) * nI s = nI (280 * s) from pk_mul 280 s]
  refine xw_istore_n dd_M_copyPlace_5 (by decide) ?_
  exact loop ms.length 0 (by omega) rfl
theorem ct_M_copyIn {s : Nat} {f so pa nm mk : Int32} {ms : List sv_E} (H : mo_at G h o K A) (hs3 : s < 3) (hC : rC s ms A) (hl : ms.length < 280) : xa_T G mm_M_copyIn 1 0 0 [.ref o, .int (nI s), .int f, .int so, .int pa, .int nm, .int mk] h sz (mqk G h sz o K A s (ms_put ms (f, so, pa, nm, mk))) := by
  obtain ⟨k1, k2, k3⟩ := id hC
  have ix : vp_in (nI s) 3 := vp_in_nI hs3 (by decide)
  have tail : ∀ (j : Nat) (h1 : xa_H) (A1 : Nat → Nat → Int32), j < 280 → mo_at G h1 o K A1 → onC s A A1 → A1 14 s = nI (ms_put ms (f, so, pa, nm, mk)).length → (ms_put ms (f, so, pa, nm, mk)).length ≤ 280 → (ms_put ms (f, so, pa, nm, mk))[j]? = some (f, so, pa, nm, mk) → (∀ i e, i ≠ j → (ms_put ms (f, so, pa, nm, mk))[i]? = some e → A1 15 (280 * s + i) = e.1 ∧ A1 16 (280 * s + i) = e.2.1 ∧ A1 17 (280 * s + i) = e.2.2.1 ∧ A1 18 (280 * s + i) = e.2.2.2.1 ∧ A1 19 (280 * s + i) = e.2.2.2.2) → frM o h h1 → xa_W G mm_M_copyIn 1 0 0 37 [some (.ref o), some (.int (nI s)), some (.int f), some (.int so), some (.int pa), some (.int nm), some (.int mk), some (.int (nI (280 * s + j)))] [] h1 sz (mqk G h sz o K A s (ms_put ms (f, so, pa, nm, mk))) := by
    intro j h1 A1 hj H1 on1 c1 c2 c3 c4 fr1
    have ixj : vp_in (nI (280 * s + j)) 840 := vp_in_nI (show 280 * s + j < 840 by omega) (by decide)
    refine xw_aloadR_n dd_M_copyIn_37 rfl ?_
    refine xw_get fl_M_60 dd_M_copyIn_38 H1.1 rfl ?_
    refine xw_iload dd_M_copyIn_41 rfl ?_
    refine xw_iload_n dd_M_copyIn_43 rfl ?_
    refine xw_iastA dd_M_copyIn_44 (show h1 (o + 15) = some (.inl (0, (840, .inl (A1 15)))) from H1.2.1 15 (by decide) (by decide)) ixj (by have := H.2.2; omega) (fun h2 n2 fn2 => ?_)
    rw [nI_clamp (by omega)] at n2
    obtain ⟨H2, fr2⟩ := H1.setA (i := 15) (f := upd (A1 15) (280 * s + j) f) (by decide) n2 fn2
    refine xw_aloadR_n dd_M_copyIn_45 rfl ?_
    refine xw_get fl_M_63 dd_M_copyIn_46 H2.1 rfl ?_
    refine xw_iload dd_M_copyIn_49 rfl ?_
    refine xw_iload_n dd_M_copyIn_51 rfl ?_
    refine xw_iastA dd_M_copyIn_52 (show h2 (o + 16) = some (.inl (0, (840, .inl (A1 16)))) from H2.2.1 16 (by decide) (by decide)) ixj (by have := H.2.2; omega) (fun h3 n3 fn3 => ?_)
    rw [nI_clamp (by omega)] at n3
    obtain ⟨H3, fr3⟩ := H2.setA (i := 16) (f := upd (A1 16) (280 * s + j) so) (by decide) n3 fn3
    refine xw_aloadR_n dd_M_copyIn_53 rfl ?_
    refine xw_get fl_M_66 dd_M_copyIn_54 H3.1 rfl ?_
    refine xw_iload dd_M_copyIn_57 rfl ?_
    refine xw_iload dd_M_copyIn_59 rfl ?_
    refine xw_iastA dd_M_copyIn_61 (show h3 (o + 17) = some (.inl (0, (840, .inl (A1 17)))) from H3.2.1 17 (by decide) (by decide)) ixj (by have := H.2.2; omega) (fun h4 n4 fn4 => ?_)
    rw [nI_clamp (by omega)] at n4
    obtain ⟨H4, fr4⟩ := H3.setA (i := 17) (f := upd (A1 17) (280 * s + j) pa) (by decide) n4 fn4
    refine xw_aloadR_n dd_M_copyIn_62 rfl ?_
    refine xw_get fl_M_69 dd_M_copyIn_63 H4.1 rfl ?_
    refine xw_iload dd_M_copyIn_66 rfl ?_
    refine xw_iload dd_M_copyIn_68 rfl ?_
    refine xw_iastA dd_M_copyIn_70 (show h4 (o + 18) = some (.inl (0, (840, .inl (A1 18)))) from H4.2.1 18 (by decide) (by decide)) ixj (by have := H.2.2; omega) (fun h5 n5 fn5 => ?_)
    rw [nI_clamp (by omega)] at n5
    obtain ⟨H5, fr5⟩ := H4.setA (i := 18) (f := upd (A1 18) (280 * s + j) nm) (by decide) n5 fn5
    refine xw_aloadR_n dd_M_copyIn_71 rfl ?_
    refine xw_get fl_M_72 dd_M_copyIn_72 H5.1 rfl ?_
    refine xw_iload dd_M_copyIn_75 rfl ?_
    refine xw_iload dd_M_copyIn_77 rfl ?_
    refine xw_iastA dd_M_copyIn_79 (show h5 (o + 19) = some (.inl (0, (840, .inl (A1 19)))) from H5.2.1 19 (by decide) (by decide)) ixj (by have := H.2.2; omega) (fun h6 n6 fn6 => ?_)
    rw [nI_clamp (by omega)] at n6
    obtain ⟨H6, fr6⟩ := H5.setA (i := 19) (f := upd (A1 19) (280 * s + j) mk) (by decide) n6 fn6
    refine xw_vret dd_M_copyIn_80 rfl ⟨rfl, rfl, ⟨_, H6, (((((on1.trans (onC_c (s := s) (q := 15) (i := j) (A1) f (by decide) hj)).trans (onC_c (s := s) (q := 16) (i := j) (uA (A1) 15 (upd (A1 15) (280 * s + j) f)) so (by decide) hj)).trans (onC_c (s := s) (q := 17) (i := j) (uA (uA (A1) 15 (upd (A1 15) (280 * s + j) f)) 16 (upd (A1 16) (280 * s + j) so)) pa (by decide) hj)).trans (onC_c (s := s) (q := 18) (i := j) (uA (uA (uA (A1) 15 (upd (A1 15) (280 * s + j) f)) 16 (upd (A1 16) (280 * s + j) so)) 17 (upd (A1 17) (280 * s + j) pa)) nm (by decide) hj)).trans (onC_c (s := s) (q := 19) (i := j) (uA (uA (uA (uA (A1) 15 (upd (A1 15) (280 * s + j) f)) 16 (upd (A1 16) (280 * s + j) so)) 17 (upd (A1 17) (280 * s + j) pa)) 18 (upd (A1 18) (280 * s + j) nm)) mk (by decide) hj)), c1, c2, fun i e he => ?_⟩, fr1.trans (fr2.trans (fr3.trans (fr4.trans (fr5.trans fr6))))⟩
    show upd (A1 15) (280 * s + j) f (280 * s + i) = _ ∧ upd (A1 16) (280 * s + j) so (280 * s + i) = _ ∧ upd (A1 17) (280 * s + j) pa (280 * s + i) = _ ∧ upd (A1 18) (280 * s + j) nm (280 * s + i) = _ ∧ upd (A1 19) (280 * s + j) mk (280 * s + i) = _
    by_cases e1 : i = j
    · subst e1
      rw [c3] at he
      cases he
      exact ⟨pk_us, pk_us, pk_us, pk_us, pk_us⟩
    · rw [pk_un (by omega), pk_un (by omega), pk_un (by omega), pk_un (by omega), pk_un (by omega)]
      exact c4 i e e1 he
  refine xt_o ok_M_copyIn rfl rfl ?_
  refine xw_aloadR_n dd_M_copyIn_0 rfl ?_
  refine xw_iload_n dd_M_copyIn_1 rfl ?_
  refine xw_iload_n dd_M_copyIn_2 rfl ?_
  refine xw_cl0 (ct_M_copyPlace H hs3 hC) (iv_M_copyIn_3 H.1) ok_M_copyPlace rfl rfl rfl ?_ (fun _ _ _ q => by cases q.1)
  rintro v h sz ⟨hv, rfl, rfl⟩
  cases hv
  refine xw_istore dd_M_copyIn_6 (by decide) ?_
  refine xw_iload dd_M_copyIn_8 rfl ?_
  rcases fx (fun a : sv_E => decide (a.1 = f)) ms with ⟨w1, w2⟩ | ⟨i, a, he, w1, w2, w3, -⟩
  · have hcx : cx s f ms = -1 := by
      unfold cx
      rw [w2]
    have hmp : ms_put ms (f, so, pa, nm, mk) = ms ++ [(f, so, pa, nm, mk)] := by
      unfold ms_put
      rw [w2]
    rw [hcx]
    refine xw_if_ge 37 dd_M_copyIn_10 (by decide) (fun hc => absurd hc (by decide)) (fun hc => ?_)
    refine xw_sipush 280 dd_M_copyIn_13 (by decide) ?_
    refine xw_iload_n dd_M_copyIn_16 rfl ?_
    refine xw_imul dd_M_copyIn_17 ?_
    rw [show (280 : Int32) * nI s = nI (280 * s) from pk_mul 280 s]
    refine xw_aloadR_n dd_M_copyIn_18 rfl ?_
    refine xw_get fl_M_57 dd_M_copyIn_19 H.1 rfl ?_
    refine xw_iload_n dd_M_copyIn_22 rfl ?_
    refine xw_iald dd_M_copyIn_23 (H.2.1 14 (by decide) (by decide)) ix ?_
    rw [nI_clamp (by omega), k1]
    refine xw_iadd dd_M_copyIn_24 ?_
    rw [nI_add]
    refine xw_istore dd_M_copyIn_25 (by decide) ?_
    refine xw_aloadR_n dd_M_copyIn_27 rfl ?_
    refine xw_get fl_M_57 dd_M_copyIn_28 H.1 rfl ?_
    refine xw_iload_n dd_M_copyIn_31 rfl ?_
    refine xw_dup2 dd_M_copyIn_32 rfl rfl ?_
    refine xw_iald dd_M_copyIn_33 (H.2.1 14 (by decide) (by decide)) ix ?_
    rw [nI_clamp (by omega), k1]
    refine xw_iconst 1 dd_M_copyIn_34 (by decide) ?_
    refine xw_iadd dd_M_copyIn_35 ?_
    rw [nI_1]
    refine xw_iastA dd_M_copyIn_36 (H.2.1 14 (by decide) (by decide)) ix (by have := H.2.2; omega) (fun h1 n1 fn1 => ?_)
    rw [nI_clamp (by omega)] at n1
    obtain ⟨H1, fr1⟩ := H.setA (i := 14) (by decide) n1 fn1
    refine tail ms.length h1 _ hl H1 (onC_n A _) ?_ ?_ ?_ (fun i e hi hie => ?_) fr1
    · rw [hmp, List.length_append]
      exact pk_us
    · rw [hmp, List.length_append]
      show ms.length + 1 ≤ 280
      omega
    · rw [hmp, List.getElem?_append_right (Nat.le_refl _), Nat.sub_self]
      rfl
    · rw [hmp] at hie
      have hlt : i < ms.length := by
        have := (List.getElem?_eq_some_iff.mp hie).1
        rw [List.length_append] at this
        have : i < ms.length + 1 := this
        omega
      rw [List.getElem?_append_left hlt] at hie
      exact k3 i e hie
  · have hi := (List.getElem?_eq_some_iff.mp he).1
    have hcx : cx s f ms = nI (280 * s + i) := by
      unfold cx
      rw [w2]
    have hmp : ms_put ms (f, so, pa, nm, mk) = ms.set i (f, so, pa, nm, mk) := by
      unfold ms_put
      rw [w2]
    rw [hcx]
    refine xw_if_ge 37 dd_M_copyIn_10 (by decide) (fun hc => ?_) (fun hc => absurd (nI_pos' (by omega)) hc)
    refine tail i h A (by omega) H onC.refl ?_ ?_ ?_ (fun j e hj hje => ?_) frM.refl
    · rw [hmp, List.length_set]
      exact k1
    · rw [hmp, List.length_set]
      exact k2
    · rw [hmp, List.getElem?_set, if_pos rfl, if_pos hi]
    · rw [hmp, List.getElem?_set, if_neg (fun q => hj q.symm)] at hje
      exact k3 j e hje
theorem ct_M_copyOut {s i : Nat} {ms : List sv_E} (H : mo_at G h o K A) (hs3 : s < 3) (hC : rC s ms A) (hi : i < ms.length) : xa_T G mm_M_copyOut 0 0 0 [.ref o, .int (nI s), .int (nI (280 * s + i))] h sz (mqk G h sz o K A s (ms_out ms i)) := by
  obtain ⟨k1, k2, k3⟩ := id hC
  have ix : vp_in (nI s) 3 := vp_in_nI hs3 (by decide)
  have ixi : vp_in (nI (280 * s + i)) 840 := vp_in_nI (show 280 * s + i < 840 by omega) (by decide)
  have ixl : vp_in (nI (280 * s + (ms.length - 1))) 840 := vp_in_nI (show 280 * s + (ms.length - 1) < 840 by omega) (by decide)
  refine xt_o ok_M_copyOut rfl rfl ?_
  refine xw_aloadR_n dd_M_copyOut_0 rfl ?_
  refine xw_get fl_M_57 dd_M_copyOut_1 H.1 rfl ?_
  refine xw_iload_n dd_M_copyOut_4 rfl ?_
  refine xw_dup2 dd_M_copyOut_5 rfl rfl ?_
  refine xw_iald dd_M_copyOut_6 (H.2.1 14 (by decide) (by decide)) ix ?_
  rw [nI_clamp (by omega), k1]
  refine xw_iconst 1 dd_M_copyOut_7 (by decide) ?_
  refine xw_isub dd_M_copyOut_8 ?_
  rw [show nI ms.length - 1 = nI (ms.length - 1) from pk_sub (a := ms.length) (b := 1) (by omega)]
  refine xw_iastA dd_M_copyOut_9 (H.2.1 14 (by decide) (by decide)) ix (by have := H.2.2; omega) (fun h1 n1 fn1 => ?_)
  rw [nI_clamp (by omega)] at n1
  obtain ⟨H1, fr1⟩ := H.setA (i := 14) (by decide) n1 fn1
  refine xw_sipush 280 dd_M_copyOut_10 (by decide) ?_
  refine xw_iload_n dd_M_copyOut_13 rfl ?_
  refine xw_imul dd_M_copyOut_14 ?_
  rw [show (280 : Int32) * nI s = nI (280 * s) from pk_mul 280 s]
  refine xw_aloadR_n dd_M_copyOut_15 rfl ?_
  refine xw_get fl_M_57 dd_M_copyOut_16 H1.1 rfl ?_
  refine xw_iload_n dd_M_copyOut_19 rfl ?_
  refine xw_iald dd_M_copyOut_20 (H1.2.1 14 (by decide) (by decide)) ix ?_
  rw [nI_clamp (by omega), uA_s, pk_us]
  refine xw_iadd dd_M_copyOut_21 ?_
  rw [nI_add]
  refine xw_istore_n dd_M_copyOut_22 (by decide) ?_
  refine xw_aloadR_n dd_M_copyOut_23 rfl ?_
  refine xw_get fl_M_60 dd_M_copyOut_24 H1.1 rfl ?_
  refine xw_iload_n dd_M_copyOut_27 rfl ?_
  refine xw_aloadR_n dd_M_copyOut_28 rfl ?_
  refine xw_get fl_M_60 dd_M_copyOut_29 H1.1 rfl ?_
  refine xw_iload_n dd_M_copyOut_32 rfl ?_
  refine xw_iald dd_M_copyOut_33 (show h1 (o + 15) = some (.inl (0, (840, .inl (A 15)))) from H1.2.1 15 (by decide) (by decide)) ixl ?_
  rw [nI_clamp (by omega)]
  refine xw_iastA dd_M_copyOut_34 (show h1 (o + 15) = some (.inl (0, (840, .inl (A 15)))) from H1.2.1 15 (by decide) (by decide)) ixi (by have := H.2.2; omega) (fun h2 n2 fn2 => ?_)
  rw [nI_clamp (by omega)] at n2
  obtain ⟨H2, fr2⟩ := H1.setA (i := 15) (f := upd (A 15) (280 * s + i) (A 15 (280 * s + (ms.length - 1)))) (by decide) n2 fn2
  refine xw_aloadR_n dd_M_copyOut_35 rfl ?_
  refine xw_get fl_M_63 dd_M_copyOut_36 H2.1 rfl ?_
  refine xw_iload_n dd_M_copyOut_39 rfl ?_
  refine xw_aloadR_n dd_M_copyOut_40 rfl ?_
  refine xw_get fl_M_63 dd_M_copyOut_41 H2.1 rfl ?_
  refine xw_iload_n dd_M_copyOut_44 rfl ?_
  refine xw_iald dd_M_copyOut_45 (show h2 (o + 16) = some (.inl (0, (840, .inl (A 16)))) from H2.2.1 16 (by decide) (by decide)) ixl ?_
  rw [nI_clamp (by omega)]
  refine xw_iastA dd_M_copyOut_46 (show h2 (o + 16) = some (.inl (0, (840, .inl (A 16)))) from H2.2.1 16 (by decide) (by decide)) ixi (by have := H.2.2; omega) (fun h3 n3 fn3 => ?_)
  rw [nI_clamp (by omega)] at n3
  obtain ⟨H3, fr3⟩ := H2.setA (i := 16) (f := upd (A 16) (280 * s + i) (A 16 (280 * s + (ms.length - 1)))) (by decide) n3 fn3
  refine xw_aloadR_n dd_M_copyOut_47 rfl ?_
  refine xw_get fl_M_66 dd_M_copyOut_48 H3.1 rfl ?_
  refine xw_iload_n dd_M_copyOut_51 rfl ?_
  refine xw_aloadR_n dd_M_copyOut_52 rfl ?_
  refine xw_get fl_M_66 dd_M_copyOut_53 H3.1 rfl ?_
  refine xw_iload_n dd_M_copyOut_56 rfl ?_
  refine xw_iald dd_M_copyOut_57 (show h3 (o + 17) = some (.inl (0, (840, .inl (A 17)))) from H3.2.1 17 (by decide) (by decide)) ixl ?_
  rw [nI_clamp (by omega)]
  refine xw_iastA dd_M_copyOut_58 (show h3 (o + 17) = some (.inl (0, (840, .inl (A 17)))) from H3.2.1 17 (by decide) (by decide)) ixi (by have := H.2.2; omega) (fun h4 n4 fn4 => ?_)
  rw [nI_clamp (by omega)] at n4
  obtain ⟨H4, fr4⟩ := H3.setA (i := 17) (f := upd (A 17) (280 * s + i) (A 17 (280 * s + (ms.length - 1)))) (by decide) n4 fn4
  refine xw_aloadR_n dd_M_copyOut_59 rfl ?_
  refine xw_get fl_M_69 dd_M_copyOut_60 H4.1 rfl ?_
  refine xw_iload_n dd_M_copyOut_63 rfl ?_
  refine xw_aloadR_n dd_M_copyOut_64 rfl ?_
  refine xw_get fl_M_69 dd_M_copyOut_65 H4.1 rfl ?_
  refine xw_iload_n dd_M_copyOut_68 rfl ?_
  refine xw_iald dd_M_copyOut_69 (show h4 (o + 18) = some (.inl (0, (840, .inl (A 18)))) from H4.2.1 18 (by decide) (by decide)) ixl ?_
  rw [nI_clamp (by omega)]
  refine xw_iastA dd_M_copyOut_70 (show h4 (o + 18) = some (.inl (0, (840, .inl (A 18)))) from H4.2.1 18 (by decide) (by decide)) ixi (by have := H.2.2; omega) (fun h5 n5 fn5 => ?_)
  rw [nI_clamp (by omega)] at n5
  obtain ⟨H5, fr5⟩ := H4.setA (i := 18) (f := upd (A 18) (280 * s + i) (A 18 (280 * s + (ms.length - 1)))) (by decide) n5 fn5
  refine xw_aloadR_n dd_M_copyOut_71 rfl ?_
  refine xw_get fl_M_72 dd_M_copyOut_72 H5.1 rfl ?_
  refine xw_iload_n dd_M_copyOut_75 rfl ?_
  refine xw_aloadR_n dd_M_copyOut_76 rfl ?_
  refine xw_get fl_M_72 dd_M_copyOut_77 H5.1 rfl ?_
  refine xw_iload_n dd_M_copyOut_80 rfl ?_
  refine xw_iald dd_M_copyOut_81 (show h5 (o + 19) = some (.inl (0, (840, .inl (A 19)))) from H5.2.1 19 (by decide) (by decide)) ixl ?_
  rw [nI_clamp (by omega)]
  refine xw_iastA dd_M_copyOut_82 (show h5 (o + 19) = some (.inl (0, (840, .inl (A 19)))) from H5.2.1 19 (by decide) (by decide)) ixi (by have := H.2.2; omega) (fun h6 n6 fn6 => ?_)
  rw [nI_clamp (by omega)] at n6
  obtain ⟨H6, fr6⟩ := H5.setA (i := 19) (f := upd (A 19) (280 * s + i) (A 19 (280 * s + (ms.length - 1)))) (by decide) n6 fn6
  refine xw_vret dd_M_copyOut_83 rfl ⟨rfl, rfl, ⟨_, H6, ((((((onC_n A (nI (ms.length - 1))).trans (onC_c (s := s) (q := 15) (i := i) (uA A 14 (upd (A 14) s (nI (ms.length - 1)))) (A 15 (280 * s + (ms.length - 1))) (by decide) (by omega))).trans (onC_c (s := s) (q := 16) (i := i) (uA (uA A 14 (upd (A 14) s (nI (ms.length - 1)))) 15 (upd (A 15) (280 * s + i) (A 15 (280 * s + (ms.length - 1))))) (A 16 (280 * s + (ms.length - 1))) (by decide) (by omega))).trans (onC_c (s := s) (q := 17) (i := i) (uA (uA (uA A 14 (upd (A 14) s (nI (ms.length - 1)))) 15 (upd (A 15) (280 * s + i) (A 15 (280 * s + (ms.length - 1))))) 16 (upd (A 16) (280 * s + i) (A 16 (280 * s + (ms.length - 1))))) (A 17 (280 * s + (ms.length - 1))) (by decide) (by omega))).trans (onC_c (s := s) (q := 18) (i := i) (uA (uA (uA (uA A 14 (upd (A 14) s (nI (ms.length - 1)))) 15 (upd (A 15) (280 * s + i) (A 15 (280 * s + (ms.length - 1))))) 16 (upd (A 16) (280 * s + i) (A 16 (280 * s + (ms.length - 1))))) 17 (upd (A 17) (280 * s + i) (A 17 (280 * s + (ms.length - 1))))) (A 18 (280 * s + (ms.length - 1))) (by decide) (by omega))).trans (onC_c (s := s) (q := 19) (i := i) (uA (uA (uA (uA (uA A 14 (upd (A 14) s (nI (ms.length - 1)))) 15 (upd (A 15) (280 * s + i) (A 15 (280 * s + (ms.length - 1))))) 16 (upd (A 16) (280 * s + i) (A 16 (280 * s + (ms.length - 1))))) 17 (upd (A 17) (280 * s + i) (A 17 (280 * s + (ms.length - 1))))) 18 (upd (A 18) (280 * s + i) (A 18 (280 * s + (ms.length - 1))))) (A 19 (280 * s + (ms.length - 1))) (by decide) (by omega))), ?_, ?_, fun j e he => ?_⟩, fr1.trans (fr2.trans (fr3.trans (fr4.trans (fr5.trans fr6))))⟩
  · rw [out_len]
    exact pk_us
  · rw [out_len]
    omega
  · show upd (A 15) (280 * s + i) _ (280 * s + j) = _ ∧ upd (A 16) (280 * s + i) _ (280 * s + j) = _ ∧ upd (A 17) (280 * s + i) _ (280 * s + j) = _ ∧ upd (A 18) (280 * s + i) _ (280 * s + j) = _ ∧ upd (A 19) (280 * s + i) _ (280 * s + j) = _
    unfold ms_out at he
    cases hg : ms.getLast? with
    | none =>
      rw [List.getLast?_eq_none_iff.mp hg] at hi
      cases hi
    | some z =>
      rw [hg] at he
      have he : (ms.dropLast.set i z)[j]? = some e := he
      have hz : ms[ms.length - 1]? = some z := by
        rw [← List.getLast?_eq_getElem?]
        exact hg
      rw [List.getElem?_set] at he
      by_cases e1 : i = j
      · subst e1
        rw [if_pos rfl] at he
        by_cases e2 : i < ms.dropLast.length
        · rw [if_pos e2] at he
          cases he
          rw [pk_us, pk_us, pk_us, pk_us, pk_us]
          exact k3 _ _ hz
        · rw [if_neg e2] at he
          cases he
      · rw [if_neg e1, List.getElem?_dropLast] at he
        by_cases e2 : j < ms.length - 1
        · rw [if_pos e2] at he
          rw [pk_un (by omega), pk_un (by omega), pk_un (by omega), pk_un (by omega), pk_un (by omega)]
          exact k3 j e he
        · rw [if_neg e2] at he
          cases he
theorem ct_M_copyNow {s : Nat} {f : Int32} {fs ms : List sv_E} (H : mo_at G h o K A) (hF : rF fs K A) (hs3 : s < 3) (hC : rC s ms A) (hl : ms.length < 280) : xa_T G mm_M_copyNow 2 0 0 [.ref o, .int (nI s), .int f] h sz (mqk G h sz o K A s (ms_now fs ms f)) := by
  obtain ⟨k1, k2, k3⟩ := id hF
  refine xt_o ok_M_copyNow rfl rfl ?_
  refine xw_aloadR_n dd_M_copyNow_0 rfl ?_
  refine xw_iload_n dd_M_copyNow_1 rfl ?_
  refine xw_cl0 (ct_M_placeOf H hF) (iv_M_copyNow_2 H.1) ok_M_placeOf rfl rfl rfl ?_ (fun _ _ _ q => by cases q.1)
  rintro v h sz ⟨hv, rfl, rfl⟩
  cases hv
  refine xw_istore_n dd_M_copyNow_5 (by decide) ?_
  refine xw_aloadR_n dd_M_copyNow_6 rfl ?_
  refine xw_iload_n dd_M_copyNow_7 rfl ?_
  refine xw_iload_n dd_M_copyNow_8 rfl ?_
  refine xw_cl0 (ct_M_copyPlace H hs3 hC) (iv_M_copyNow_9 H.1) ok_M_copyPlace rfl rfl rfl ?_ (fun _ _ _ q => by cases q.1)
  rintro v h sz ⟨hv, rfl, rfl⟩
  cases hv
  refine xw_istore dd_M_copyNow_12 (by decide) ?_
  refine xw_iload_n dd_M_copyNow_14 rfl ?_
  rcases fx (fun e : sv_E => decide (e.1 = f)) fs with ⟨w1, w2⟩ | ⟨i, e, he, w1, w2, w3, -⟩
  · have hix : (sv_ix (fun e : sv_E => decide (e.1 = f)) fs) = -1 := by
      unfold sv_ix
      rw [w2]
    have w1' : sv_find fs f = none := w1
    have hmn : ms_now fs ms f = ms_del ms f := by
      unfold ms_now
      rw [w1']
    rw [hix, hmn]
    refine xw_if_lt 51 dd_M_copyNow_15 (by decide) (fun hc => ?_) (fun hc => absurd (by decide) hc)
    refine xw_iload dd_M_copyNow_51 rfl ?_
    rcases fx (fun a : sv_E => decide (a.1 = f)) ms with ⟨u1, u2⟩ | ⟨j, a, hja, u1, u2, u3, -⟩
    · have hcx : cx s f ms = -1 := by
        unfold cx
        rw [u2]
      have hmd : ms_del ms f = ms := by
        unfold ms_del
        rw [u2]
      rw [hcx, hmd]
      refine xw_if_lt 63 dd_M_copyNow_53 (by decide) (fun hc => ?_) (fun hc => absurd (by decide) hc)
      exact xw_vret dd_M_copyNow_63 rfl ⟨rfl, rfl, ⟨A, H, onC.refl, hC⟩, frM.refl⟩
    · have hj := (List.getElem?_eq_some_iff.mp hja).1
      have hcx : cx s f ms = nI (280 * s + j) := by
        unfold cx
        rw [u2]
      have hmd : ms_del ms f = ms_out ms j := by
        unfold ms_del
        rw [u2]
      rw [hcx, hmd]
      refine xw_if_lt 63 dd_M_copyNow_53 (by decide) (fun hc => absurd hc (nI_pos (by omega))) (fun hc => ?_)
      refine xw_aloadR_n dd_M_copyNow_56 rfl ?_
      refine xw_iload_n dd_M_copyNow_57 rfl ?_
      refine xw_iload dd_M_copyNow_58 rfl ?_
      refine xw_cl0 (ct_M_copyOut H hs3 hC hj) (iv_M_copyNow_60 H.1) ok_M_copyOut rfl rfl rfl ?_ (fun _ _ _ q => by cases q.1)
      rintro v h1 z1 ⟨hv, rfl, q1, q2⟩
      cases hv
      exact xw_vret dd_M_copyNow_63 rfl ⟨rfl, rfl, q1, q2⟩
  · have hi := (List.getElem?_eq_some_iff.mp he).1
    have hix : (sv_ix (fun e : sv_E => decide (e.1 = f)) fs) = nI i := by
      unfold sv_ix
      rw [w2]
    have hef : e.1 = f := by simpa using w3
    have hE : (f, e.2.1, e.2.2.1, e.2.2.2.1, e.2.2.2.2) = e := by rw [← hef]
    have w1' : sv_find fs f = some e := w1
    have ix : vp_in (nI i) 20 := vp_in_nI (show i < 20 by omega) (by decide)
    have hmn : ms_now fs ms f = ms_put ms e := by
      unfold ms_now
      rw [w1']
    rw [hix, hmn]
    refine xw_if_lt 51 dd_M_copyNow_15 (by decide) (fun hc => absurd hc (nI_pos (by omega))) (fun hc => ?_)
    refine xw_aloadR_n dd_M_copyNow_18 rfl ?_
    refine xw_iload_n dd_M_copyNow_19 rfl ?_
    refine xw_iload_n dd_M_copyNow_20 rfl ?_
    refine xw_aloadR_n dd_M_copyNow_21 rfl ?_
    refine xw_get fl_M_13 dd_M_copyNow_22 H.1 rfl ?_
    refine xw_iload_n dd_M_copyNow_25 rfl ?_
    refine xw_iald dd_M_copyNow_26 (H.2.1 2 (by decide) (by decide)) ix ?_
    rw [nI_clamp (by omega), (k3 i e he).2.1]
    refine xw_aloadR_n dd_M_copyNow_27 rfl ?_
    refine xw_get fl_M_16 dd_M_copyNow_28 H.1 rfl ?_
    refine xw_iload_n dd_M_copyNow_31 rfl ?_
    refine xw_iald dd_M_copyNow_32 (H.2.1 3 (by decide) (by decide)) ix ?_
    rw [nI_clamp (by omega), (k3 i e he).2.2.1]
    refine xw_aloadR_n dd_M_copyNow_33 rfl ?_
    refine xw_get fl_M_19 dd_M_copyNow_34 H.1 rfl ?_
    refine xw_iload_n dd_M_copyNow_37 rfl ?_
    refine xw_iald dd_M_copyNow_38 (H.2.1 4 (by decide) (by decide)) ix ?_
    rw [nI_clamp (by omega), (k3 i e he).2.2.2.1]
    refine xw_aloadR_n dd_M_copyNow_39 rfl ?_
    refine xw_get fl_M_22 dd_M_copyNow_40 H.1 rfl ?_
    refine xw_iload_n dd_M_copyNow_43 rfl ?_
    refine xw_iald dd_M_copyNow_44 (H.2.1 5 (by decide) (by decide)) ix ?_
    rw [nI_clamp (by omega), (k3 i e he).2.2.2.2]
    refine xw_cl0 (ct_M_copyIn H hs3 hC hl) (iv_M_copyNow_45 H.1) ok_M_copyIn rfl rfl rfl ?_ (fun _ _ _ q => by cases q.1)
    rintro v h1 z1 ⟨hv, rfl, q1, q2⟩
    cases hv
    refine xw_goto 63 dd_M_copyNow_48 (by decide) ?_
    rw [hE] at q1
    exact xw_vret dd_M_copyNow_63 rfl ⟨rfl, rfl, q1, q2⟩
end SD
