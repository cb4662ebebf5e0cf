/-! NotedVolumeModel: pages (by program: wip/whole/mk57.py) -/
theorem ix_app1 {α : Type} {p : α → Bool} {l : List α} {e : α} : sv_ix p (l ++ [e]) = match l.findIdx? p with
    | some i => nI i
    | none => if p e = true then nI l.length else -1 := by
  unfold sv_ix
  rw [List.findIdx?_append]
  cases h : l.findIdx? p with
  | some i => rfl
  | none =>
    rw [List.findIdx?_cons]
    by_cases hp : p e = true
    · rw [if_pos hp]
      simp [hp]
    · rw [if_neg hp]
      simp [hp]
section SC
variable {G : xa_G} {h : xa_H} {sz o : Nat} {K : Nat → Int32} {A : Nat → Nat → Int32} {V : sv_V} {S : Nat → sv_S}
theorem ct_M_placeAbove {fs : List sv_E} {n : Int32} (H : mo_at G h o K A) (hF : rF fs K A) (hsr : sv_srt fs) : xa_T G mm_M_placeAbove 0 0 0 [.ref o, .int n] h sz (xq_same h sz (some (.int (sv_ix (fun e : sv_E => decide (n < e.1)) fs)))) := by
  obtain ⟨k1, k2, k3⟩ := id hF
  have loop : ∀ (r k : Nat), k + r = fs.length → xa_W G mm_M_placeAbove 0 0 0 4 [some (.ref o), some (.int n), some (.int (sv_ix (fun e : sv_E => decide (n < e.1)) (fs.take k))), some (.int (nI k))] [] h sz (xq_same h sz (some (.int (sv_ix (fun e : sv_E => decide (n < e.1)) fs)))) := by
    intro r
    induction r with
    | zero =>
      intro k hk
      refine xw_iload_n dd_M_placeAbove_4 rfl ?_
      refine xw_aloadR_n dd_M_placeAbove_5 rfl ?_
      refine xw_get fl_M_84 dd_M_placeAbove_6 H.1 rfl ?_
      rw [k1]
      refine xw_icmp_ge 53 dd_M_placeAbove_9 (by decide) (fun hc => ?_) (fun hc => absurd (nI_le (by omega) (by omega)) hc)
      refine xw_iload_n dd_M_placeAbove_53 rfl ?_
      exact xw_iret dd_M_placeAbove_54 rfl ⟨by rw [List.take_of_length_le (by omega)], rfl, rfl⟩
    | succ r ih =>
      intro k hk
      have hi : k < fs.length := by omega
      have he : fs[k]? = some fs[k] := List.getElem?_eq_getElem hi
      have ht : fs.take (k + 1) = fs.take k ++ [fs[k]] := by
        rw [List.take_add_one, he]
        rfl
      have htl : (fs.take k).length = k := by
        rw [List.length_take]
        omega
      have ixk : vp_in (nI k) 20 := vp_in_nI (show k < 20 by omega) (by decide)
      have step : ∀ w : Int32, w = sv_ix (fun e : sv_E => decide (n < e.1)) (fs.take (k + 1)) → xa_W G mm_M_placeAbove 0 0 0 46 [some (.ref o), some (.int n), some (.int (sv_ix (fun e : sv_E => decide (n < e.1)) (fs.take k))), some (.int (nI k))] [.int w] h sz (xq_same h sz (some (.int (sv_ix (fun e : sv_E => decide (n < e.1)) fs)))) := by
        intro w hw
        rw [hw]
        refine xw_istore_n dd_M_placeAbove_46 (by decide) ?_
        refine xw_iinc dd_M_placeAbove_47 rfl (nI_1 k) (by decide) ?_
        refine xw_goto 4 dd_M_placeAbove_50 (by decide) ?_
        exact ih (k + 1) (by omega)
      refine xw_iload_n dd_M_placeAbove_4 rfl ?_
      refine xw_aloadR_n dd_M_placeAbove_5 rfl ?_
      refine xw_get fl_M_84 dd_M_placeAbove_6 H.1 rfl ?_
      rw [k1]
      refine xw_icmp_ge 53 dd_M_placeAbove_9 (by decide) (fun hc => absurd hc (nI_ge (by omega) (by omega))) (fun hc => ?_)
      refine xw_aloadR_n dd_M_placeAbove_12 rfl ?_
      refine xw_get fl_M_7 dd_M_placeAbove_13 H.1 rfl ?_
      refine xw_iload_n dd_M_placeAbove_16 rfl ?_
      refine xw_iald dd_M_placeAbove_17 (H.2.1 1 (by decide) (by decide)) ixk ?_
      rw [nI_clamp (by omega), (k3 k _ he).1]
      refine xw_iload_n dd_M_placeAbove_18 rfl ?_
      refine xw_icmp_le 45 dd_M_placeAbove_19 (by decide) (fun hc2 => ?_) (fun hc2 => ?_)
      · refine xw_iload_n dd_M_placeAbove_45 rfl ?_
        refine step _ ?_
        rw [ht, ix_app1, if_neg (by simpa using Int32.not_lt.mpr hc2)]
        unfold sv_ix
        cases (fs.take k).findIdx? (fun e : sv_E => decide (n < e.1)) <;> rfl
      · have hp : decide (n < (fs[k]).1) = true := decide_eq_true (Int32.not_le.mp hc2)
        refine xw_iload_n dd_M_placeAbove_22 rfl ?_
        rcases fx (fun e : sv_E => decide (n < e.1)) (fs.take k) with ⟨w1, w2⟩ | ⟨i, a, hia, w1, w2, w3, -⟩
        · have hix : (sv_ix (fun e : sv_E => decide (n < e.1)) (fs.take k)) = -1 := by
            unfold sv_ix
            rw [w2]
          rw [hix]
          refine xw_if_lt 41 dd_M_placeAbove_23 (by decide) (fun hc => ?_) (fun hc => absurd (by decide) hc)
          rw [hix] at step
          refine xw_iload_n dd_M_placeAbove_41 rfl ?_
          refine xw_goto 46 dd_M_placeAbove_42 (by decide) ?_
          refine step _ ?_
          rw [ht, ix_app1, w2]
          show _ = if decide (n < (fs[k]).1) = true then nI (fs.take k).length else -1
          rw [if_pos hp, htl]
        · have hix : (sv_ix (fun e : sv_E => decide (n < e.1)) (fs.take k)) = nI i := by
            unfold sv_ix
            rw [w2]
          have hik : i < k := by
            have := (List.getElem?_eq_some_iff.mp hia).1
            omega
          rw [List.getElem?_take, if_pos hik] at hia
          have ixi : vp_in (nI i) 20 := vp_in_nI (show i < 20 by omega) (by decide)
          have hlt := srt_lt hsr hia he hik
          rw [hix]
          rw [hix] at step
          refine xw_if_lt 41 dd_M_placeAbove_23 (by decide) (fun hc => absurd hc (nI_pos (by omega))) (fun hc => ?_)
          refine xw_aloadR_n dd_M_placeAbove_26 rfl ?_
          refine xw_get fl_M_7 dd_M_placeAbove_27 H.1 rfl ?_
          refine xw_iload_n dd_M_placeAbove_30 rfl ?_
          refine xw_iald dd_M_placeAbove_31 (H.2.1 1 (by decide) (by decide)) ixk ?_
          rw [nI_clamp (by omega), (k3 k _ he).1]
          refine xw_aloadR_n dd_M_placeAbove_32 rfl ?_
          refine xw_get fl_M_7 dd_M_placeAbove_33 H.1 rfl ?_
          refine xw_iload_n dd_M_placeAbove_36 rfl ?_
          refine xw_iald dd_M_placeAbove_37 (H.2.1 1 (by decide) (by decide)) ixi ?_
          rw [nI_clamp (by omega), (k3 i _ hia).1]
          refine xw_icmp_ge 45 dd_M_placeAbove_38 (by decide) (fun hc => ?_) (fun hc => absurd (Int32.le_of_lt hlt) hc)
          refine xw_iload_n dd_M_placeAbove_45 rfl ?_
          refine step _ ?_
          rw [ht, ix_app1, w2]
  refine xt_o ok_M_placeAbove rfl rfl ?_
  refine xw_iconst (-1) dd_M_placeAbove_0 (by decide) ?_
  refine xw_istore_n dd_M_placeAbove_1 (by decide) ?_
  refine xw_iconst 0 dd_M_placeAbove_2 (by decide) ?_
  refine xw_istore_n dd_M_placeAbove_3 (by decide) ?_
  exact loop fs.length 0 (by omega)
theorem rS1.pg {k i : Nat} {S : sv_S} {v g : Int32} (H : rS1 k S A) (hi : i < 4) : rS1 k (su_cp S, su_cap S, upd (su_pg S) i v, su_cur S, su_mask S, su_ls S, g) (uA (uA A 13 (upd (A 13) (4 * k + i) v)) 12 (upd (A 12) k g)) := by
  refine H.cp rfl rfl (fun q a b => ?_) ⟨H.1.1, H.1.2.1, H.1.2.2.1, pk_us, fun j hj => ?_⟩
  · rw [uA_n _ _ (by omega), uA_n _ _ (by omega)]
  · show upd (A 13) (4 * k + i) v (4 * k + j) = upd (su_pg S) i v j
    by_cases e : j = i
    · rw [e, pk_us, pk_us]
    · rw [pk_un (by omega), pk_un e]
      exact H.1.2.2.2.2 j hj
theorem ct_M_pageOf {k : Nat} {S : sv_S} {fs : List sv_E} (H : mo_at G h o K A) (hF : rF fs K A) (hsr : sv_srt fs) (hk3 : k < 3) (hS : rS1 k S A) : xa_T G mm_M_pageOf 1 0 0 [.ref o, .int (nI k)] h sz (mqo G h sz o K A k (sv_page fs S) (some (.int (nI (sv_pag fs S).2.2)))) := by
  have ix : vp_in (nI k) 3 := vp_in_nI hk3 (by decide)
  have loop : ∀ (r i : Nat) (pg : Nat → Int32) (g : Int32) (n : Nat) (ov : Option Value) (A1 : Nat → Nat → Int32) (h1 : xa_H), i + r = 4 → n ≤ i → sv_pgs fs r i pg g n = (sv_pag fs S) → mo_at G h1 o K A1 → onS k A A1 → rS1 k (su_cp S, su_cap S, pg, su_cur S, su_mask S, su_ls S, g) A1 → frM o h h1 → xa_W G mm_M_pageOf 1 0 0 4 [some (.ref o), some (.int (nI k)), some (.int (nI n)), some (.int (nI i)), ov] [] h1 sz (mqo G h sz o K A k (sv_page fs S) (some (.int (nI (sv_pag fs S).2.2)))) := by
    intro r
    induction r with
    | zero =>
      intro i pg g n ov A1 h1 hr hn hq H1 on1 r1 fr1
      have hqq : (sv_pag fs S) = (pg, g, n) := hq.symm
      have hi : i = 4 := by omega
      subst hi
      refine xw_iload_n dd_M_pageOf_4 rfl ?_
      refine xw_iconst 4 dd_M_pageOf_5 (by decide) ?_
      refine xw_icmp_ge 93 dd_M_pageOf_6 (by decide) (fun hc => ?_) (fun hc => absurd (by decide) hc)
      refine xw_aloadR_n dd_M_pageOf_93 rfl ?_
      refine xw_get fl_M_47 dd_M_pageOf_94 H1.1 rfl ?_
      refine xw_iload_n dd_M_pageOf_97 rfl ?_
      refine xw_iload_n dd_M_pageOf_98 rfl ?_
      refine xw_iconst 4 dd_M_pageOf_99 (by decide) ?_
      have fin : ∀ w : Int32, w = (if decide (n = 4) = true then 1 else 0) → vp_nar .boolean w = w → xa_W G mm_M_pageOf 1 0 0 108 [some (.ref o), some (.int (nI k)), some (.int (nI n)), some (.int (nI 4)), ov] [.int w, .int (nI k), .ref (o + 11)] h1 sz (mqo G h sz o K A k (sv_page fs S) (some (.int (nI (sv_pag fs S).2.2)))) := by
        intro w hw hwb
        refine xw_zastA hwb dd_M_pageOf_108 (H1.2.1 11 (by decide) (by decide)) ix (by have := H.2.2; omega) (fun h2 n2 fn2 => ?_)
        rw [nI_clamp (by omega)] at n2
        obtain ⟨H2, fr2⟩ := H1.setA (i := 11) (by decide) n2 fn2
        refine xw_iload_n dd_M_pageOf_109 rfl ?_
        have hp : sv_page fs S = (su_cp S, su_cap S, pg, su_cur S, su_mask S, decide (n = 4), g) := by
          unfold sv_page
          rw [hqq]
        rw [hp, hqq]
        refine xw_iret dd_M_pageOf_110 rfl ⟨rfl, rfl, ⟨_, H2, on1.trans (onS_1 A1 w (by omega)), r1.cp rfl rfl (fun q a b => uA_n _ _ (by omega)) ⟨r1.1.1, r1.1.2.1, ?_, r1.1.2.2.2.1, r1.1.2.2.2.2⟩⟩, fr1.trans fr2⟩
        rw [← hw]
        exact pk_us
      by_cases h4 : n = 4
      · refine xw_icmp_ne 107 dd_M_pageOf_100 (by decide) (fun hc => absurd (by rw [h4]; rfl) hc) (fun hc => ?_)
        refine xw_iconst 1 dd_M_pageOf_103 (by decide) ?_
        refine xw_goto 108 dd_M_pageOf_104 (by decide) ?_
        exact fin 1 (by rw [decide_eq_true h4]; rfl) rfl
      · refine xw_icmp_ne 107 dd_M_pageOf_100 (by decide) (fun hc => ?_) (fun hc => absurd ((nI_eq (b := 4) (by omega) (by decide)).mp hc) h4)
        refine xw_iconst 0 dd_M_pageOf_107 (by decide) ?_
        exact fin 0 (by rw [decide_eq_false h4]; rfl) rfl
    | succ r ih =>
      intro i pg g n ov A1 h1 hr hn hq H1 on1 r1 fr1
      have F1 : rF fs K A1 := hF.cg rfl (fun j _ j2 => on1.2 j (by omega))
      obtain ⟨k1, k2, k3⟩ := id F1
      have h12 : A1 12 k = g := r1.1.2.2.2.1
      have ixp : vp_in (nI (4 * k + i)) 12 := vp_in_nI (show 4 * k + i < 12 by omega) (by decide)
      refine xw_iload_n dd_M_pageOf_4 rfl ?_
      refine xw_iconst 4 dd_M_pageOf_5 (by decide) ?_
      refine xw_icmp_ge 93 dd_M_pageOf_6 (by decide) (fun hc => absurd hc (nI_ge (b := 4) (by omega) (by decide))) (fun hc => ?_)
      refine xw_aloadR_n dd_M_pageOf_9 rfl ?_
      refine xw_aloadR_n dd_M_pageOf_10 rfl ?_
      refine xw_get fl_M_51 dd_M_pageOf_11 H1.1 rfl ?_
      refine xw_iload_n dd_M_pageOf_14 rfl ?_
      refine xw_iald dd_M_pageOf_15 (H1.2.1 12 (by decide) (by decide)) ix ?_
      rw [nI_clamp (by omega), h12]
      refine xw_cl0 (ct_M_placeAbove H1 F1 hsr) (iv_M_pageOf_16 H1.1) ok_M_placeAbove rfl rfl rfl ?_ (fun _ _ _ q => by cases q.1)
      rintro v h1 sz ⟨hv, rfl, rfl⟩
      cases hv
      refine xw_istore dd_M_pageOf_19 (by decide) ?_
      refine xw_aloadR_n dd_M_pageOf_21 rfl ?_
      refine xw_get fl_M_54 dd_M_pageOf_22 H1.1 rfl ?_
      refine xw_iconst 4 dd_M_pageOf_25 (by decide) ?_
      refine xw_iload_n dd_M_pageOf_26 rfl ?_
      refine xw_imul dd_M_pageOf_27 ?_
      rw [show (4 : Int32) * nI k = nI (4 * k) from pk_mul 4 k]
      refine xw_iload_n dd_M_pageOf_28 rfl ?_
      refine xw_iadd dd_M_pageOf_29 ?_
      rw [nI_add]
      refine xw_iload dd_M_pageOf_30 rfl ?_
      rcases fx (fun e : sv_E => decide (g < e.1)) fs with ⟨w1, w2⟩ | ⟨j, e, he, w1, w2, w3, -⟩
      · have hix : sv_ix (fun e : sv_E => decide (g < e.1)) fs = -1 := by
          unfold sv_ix
          rw [w2]
        have hst : sv_pgs fs (r + 1) i pg g n = sv_pgs fs r (i + 1) (upd pg i (-1)) g n := by
          show (match fs.find? (fun e => decide (g < e.1)) with
            | none => sv_pgs fs r (i + 1) (upd pg i (-1)) g n
            | some e => sv_pgs fs r (i + 1) (upd pg i e.1) e.1 (n + 1)) = _
          rw [w1]
        rw [hix]
        refine xw_if_ge 39 dd_M_pageOf_32 (by decide) (fun hc => absurd hc (by decide)) (fun hc => ?_)
        refine xw_iconst (-1) dd_M_pageOf_35 (by decide) ?_
        refine xw_goto 46 dd_M_pageOf_36 (by decide) ?_
        refine xw_iastA dd_M_pageOf_46 (H1.2.1 13 (by decide) (by decide)) ixp (by have := H.2.2; omega) (fun h2 n2 fn2 => ?_)
        rw [nI_clamp (by omega)] at n2
        obtain ⟨H2, fr2⟩ := H1.setA (i := 13) (by decide) n2 fn2
        refine xw_iload dd_M_pageOf_47 rfl ?_
        refine xw_if_ge 56 dd_M_pageOf_49 (by decide) (fun hc => absurd hc (by decide)) (fun hc => ?_)
        refine xw_iload_n dd_M_pageOf_52 rfl ?_
        refine xw_goto 59 dd_M_pageOf_53 (by decide) ?_
        refine xw_istore_n dd_M_pageOf_59 (by decide) ?_
        refine xw_aloadR_n dd_M_pageOf_60 rfl ?_
        refine xw_get fl_M_51 dd_M_pageOf_61 H2.1 rfl ?_
        refine xw_iload_n dd_M_pageOf_64 rfl ?_
        refine xw_iload dd_M_pageOf_65 rfl ?_
        refine xw_if_ge 79 dd_M_pageOf_67 (by decide) (fun hc => absurd hc (by decide)) (fun hc => ?_)
        refine xw_aloadR_n dd_M_pageOf_70 rfl ?_
        refine xw_get fl_M_51 dd_M_pageOf_71 H2.1 rfl ?_
        refine xw_iload_n dd_M_pageOf_74 rfl ?_
        refine xw_iald dd_M_pageOf_75 (show h2 (o + 12) = some (.inl (0, (3, .inl (A1 12)))) from H2.2.1 12 (by decide) (by decide)) ix ?_
        rw [nI_clamp (by omega), h12]
        refine xw_goto 86 dd_M_pageOf_76 (by decide) ?_
        refine xw_iastA dd_M_pageOf_86 (show h2 (o + 12) = some (.inl (0, (3, .inl (A1 12)))) from H2.2.1 12 (by decide) (by decide)) ix (by have := H.2.2; omega) (fun h3 n3 fn3 => ?_)
        rw [nI_clamp (by omega)] at n3
        obtain ⟨H3, fr3⟩ := H2.setA (i := 12) (f := upd (A1 12) k (g)) (by decide) n3 fn3
        refine xw_iinc dd_M_pageOf_87 rfl (nI_1 i) (by decide) ?_
        refine xw_goto 4 dd_M_pageOf_90 (by decide) ?_
        exact ih (i + 1) _ g (n) _ _ h3 (by omega) (by omega) (by rw [← hq]; exact hst.symm) H3 ((on1.trans (onS_p A1 _ (by omega))).trans (onS_1 (uA A1 13 (upd (A1 13) (4 * k + i) _)) _ (by omega))) (r1.pg (by omega)) (fr1.trans (fr2.trans fr3))
      · have hj := (List.getElem?_eq_some_iff.mp he).1
        have hix : sv_ix (fun e : sv_E => decide (g < e.1)) fs = nI j := by
          unfold sv_ix
          rw [w2]
        have ixj : vp_in (nI j) 20 := vp_in_nI (show j < 20 by omega) (by decide)
        have hst : sv_pgs fs (r + 1) i pg g n = sv_pgs fs r (i + 1) (upd pg i e.1) e.1 (n + 1) := by
          show (match fs.find? (fun e => decide (g < e.1)) with
            | none => sv_pgs fs r (i + 1) (upd pg i (-1)) g n
            | some e => sv_pgs fs r (i + 1) (upd pg i e.1) e.1 (n + 1)) = _
          rw [w1]
        rw [hix]
        refine xw_if_ge 39 dd_M_pageOf_32 (by decide) (fun hc => ?_) (fun hc => absurd (nI_pos' (by omega)) hc)
        refine xw_aloadR_n dd_M_pageOf_39 rfl ?_
        refine xw_get fl_M_7 dd_M_pageOf_40 H1.1 rfl ?_
        refine xw_iload dd_M_pageOf_43 rfl ?_
        refine xw_iald dd_M_pageOf_45 (H1.2.1 1 (by decide) (by decide)) ixj ?_
        rw [nI_clamp (by omega), (k3 j e he).1]
        refine xw_iastA dd_M_pageOf_46 (H1.2.1 13 (by decide) (by decide)) ixp (by have := H.2.2; omega) (fun h2 n2 fn2 => ?_)
        rw [nI_clamp (by omega)] at n2
        obtain ⟨H2, fr2⟩ := H1.setA (i := 13) (by decide) n2 fn2
        refine xw_iload dd_M_pageOf_47 rfl ?_
        refine xw_if_ge 56 dd_M_pageOf_49 (by decide) (fun hc => ?_) (fun hc => absurd (nI_pos' (by omega)) hc)
        refine xw_iload_n dd_M_pageOf_56 rfl ?_
        refine xw_iconst 1 dd_M_pageOf_57 (by decide) ?_
        refine xw_iadd dd_M_pageOf_58 ?_
        rw [nI_1]
        refine xw_istore_n dd_M_pageOf_59 (by decide) ?_
        refine xw_aloadR_n dd_M_pageOf_60 rfl ?_
        refine xw_get fl_M_51 dd_M_pageOf_61 H2.1 rfl ?_
        refine xw_iload_n dd_M_pageOf_64 rfl ?_
        refine xw_iload dd_M_pageOf_65 rfl ?_
        refine xw_if_ge 79 dd_M_pageOf_67 (by decide) (fun hc => ?_) (fun hc => absurd (nI_pos' (by omega)) hc)
        refine xw_aloadR_n dd_M_pageOf_79 rfl ?_
        refine xw_get fl_M_7 dd_M_pageOf_80 H2.1 rfl ?_
        refine xw_iload dd_M_pageOf_83 rfl ?_
        refine xw_iald dd_M_pageOf_85 (show h2 (o + 1) = some (.inl (0, (20, .inl (A1 1)))) from H2.2.1 1 (by decide) (by decide)) ixj ?_
        rw [nI_clamp (by omega), (k3 j e he).1]
        refine xw_iastA dd_M_pageOf_86 (show h2 (o + 12) = some (.inl (0, (3, .inl (A1 12)))) from H2.2.1 12 (by decide) (by decide)) ix (by have := H.2.2; omega) (fun h3 n3 fn3 => ?_)
        rw [nI_clamp (by omega)] at n3
        obtain ⟨H3, fr3⟩ := H2.setA (i := 12) (f := upd (A1 12) k (e.1)) (by decide) n3 fn3
        refine xw_iinc dd_M_pageOf_87 rfl (nI_1 i) (by decide) ?_
        refine xw_goto 4 dd_M_pageOf_90 (by decide) ?_
        exact ih (i + 1) _ e.1 (n + 1) _ _ h3 (by omega) (by omega) (by rw [← hq]; exact hst.symm) H3 ((on1.trans (onS_p A1 _ (by omega))).trans (onS_1 (uA A1 13 (upd (A1 13) (4 * k + i) _)) _ (by omega))) (r1.pg (by omega)) (fr1.trans (fr2.trans fr3))
  refine xt_o ok_M_pageOf rfl rfl ?_
  refine xw_iconst 0 dd_M_pageOf_0 (by decide) ?_
  refine xw_istore_n dd_M_pageOf_1 (by decide) ?_
  refine xw_iconst 0 dd_M_pageOf_2 (by decide) ?_
  refine xw_istore_n dd_M_pageOf_3 (by decide) ?_
  exact loop 4 0 (su_pg S) (su_gr S) 0 none A h rfl (Nat.le_refl _) rfl H onS.refl hS frM.refl
theorem ct_M_page {s : Int32} (H : mo_at G h o K A) (hV : rV V K A) (hS : rS S A) (hsr : sv_srt (sv_fs V)) : xa_T G mm_M_page 2 0 0 [.ref o, .int s] h sz (mqs G h sz o V (sw_page V S s) (some (.int (sw_page V S s).2.1))) := by
  refine xt_o ok_M_page rfl rfl ?_
  refine xw_aloadR_n dd_M_page_0 rfl ?_
  refine xw_iload_n dd_M_page_1 rfl ?_
  refine xw_cl0 (ct_M_is) iv_M_page_2 ok_M_is rfl rfl rfl ?_ (fun _ _ _ q => by cases q.1)
  rintro v h sz ⟨hv, rfl, rfl⟩
  cases hv
  by_cases hs : s < 0 ∨ 3 ≤ s
  · have hr : sw_page V S s = (1, 0, S) := by
      unfold sw_page
      rw [if_pos hs]
    rw [hr]
    rw [show zb (¬ (s < 0 ∨ 3 ≤ s)) = 0 from (zb_0 (fun q => q hs)).symm]
    refine xw_if_ne 12 dd_M_page_5 (by decide) (fun hc => absurd rfl hc) (fun hc => ?_)
    refine xw_iconst 1 dd_M_page_8 (by decide) ?_
    refine xw_goto 13 dd_M_page_9 (by decide) ?_
    refine xw_iload_n dd_M_page_13 rfl ?_
    refine xw_cl0 (ct_M_is) iv_M_page_14 ok_M_is rfl rfl rfl ?_ (fun _ _ _ q => by cases q.1)
    rintro v h sz ⟨hv, rfl, rfl⟩
    cases hv
    rw [show zb (¬ (s < 0 ∨ 3 ≤ s)) = 0 from (zb_0 (fun q => q hs)).symm]
    refine xw_if_eq 33 dd_M_page_17 (by decide) (fun hc => ?_) (fun hc => absurd rfl hc)
    refine xw_iconst 0 dd_M_page_33 (by decide) ?_
    refine xw_iconst 0 dd_M_page_34 (by decide) ?_
    refine xw_iconst 0 dd_M_page_35 (by decide) ?_
    refine xw_cl0 (ct_M_refused H) (iv_M_page_36 H.1) ok_M_refused rfl rfl rfl ?_ (fun _ _ _ q => by cases q.1)
    rintro v h1 z1 ⟨hv, rfl, H1, fr1⟩
    cases hv
    refine xw_if_eq 46 dd_M_page_39 (by decide) (fun hc => absurd hc (by decide)) (fun hc => ?_)
    refine xw_iconst 0 dd_M_page_42 (by decide) ?_
    refine xw_goto 51 dd_M_page_43 (by decide) ?_
    exact xw_iret dd_M_page_51 rfl ⟨rfl, rfl, ⟨_, A, H1, hV.thr, hS, rfl⟩, fr1⟩
  · rw [show zb (¬ (s < 0 ∨ 3 ≤ s)) = 1 from (zb_1 hs).symm]
    refine xw_if_ne 12 dd_M_page_5 (by decide) (fun hc => ?_) (fun hc => absurd hc (by decide))
    refine xw_iconst 0 dd_M_page_12 (by decide) ?_
    refine xw_iload_n dd_M_page_13 rfl ?_
    refine xw_cl0 (ct_M_is) iv_M_page_14 ok_M_is rfl rfl rfl ?_ (fun _ _ _ q => by cases q.1)
    rintro v h sz ⟨hv, rfl, rfl⟩
    cases hv
    rw [show zb (¬ (s < 0 ∨ 3 ≤ s)) = 1 from (zb_1 hs).symm]
    obtain ⟨k, hk, rfl⟩ := nI_of (fun q => hs (Or.inl q))
    have hk3 : k < 3 := (nI_ltI (b := 3) hk (by decide)).mp (Int32.not_le.mp (fun q => hs (Or.inr q)))
    have hsk : sk (nI k) = k := nI_clamp (by omega)
    have ix : vp_in (nI k) 3 := vp_in_nI hk3 (by decide)
    have hS1 := hS k hk3
    refine xw_if_eq 33 dd_M_page_17 (by decide) (fun hc => absurd hc (by decide)) (fun hc => ?_)
    refine xw_aloadR_n dd_M_page_20 rfl ?_
    refine xw_get fl_M_47 dd_M_page_21 H.1 rfl ?_
    refine xw_iload_n dd_M_page_24 rfl ?_
    refine xw_zald dd_M_page_25 (H.2.1 11 (by decide) (by decide)) ix ?_
    rw [nI_clamp (by omega), hS1.1.2.2.1]
    by_cases hl : su_ls (S k) = true
    · rw [if_pos hl]
      have hr : sw_page V S (nI k) = (0, nI (sv_pag (sv_fs V) (S k)).2.2, vw S k (sv_page (sv_fs V) (S k))) := by
        unfold sw_page
        rw [if_neg hs, hsk, if_pos hl]
      rw [hr]
      refine xw_if_ne 33 dd_M_page_26 (by decide) (fun hc => ?_) (fun hc => absurd hc (by decide))
      refine xw_iconst 0 dd_M_page_33 (by decide) ?_
      refine xw_iconst 0 dd_M_page_34 (by decide) ?_
      refine xw_iconst 0 dd_M_page_35 (by decide) ?_
      refine xw_cl0 (ct_M_refused H) (iv_M_page_36 H.1) ok_M_refused rfl rfl rfl ?_ (fun _ _ _ q => by cases q.1)
      rintro v h1 z1 ⟨hv, rfl, H1, fr1⟩
      cases hv
      have hV1 : rV V (upd K 0 (nI 0)) A := hV.thr
      have H1' : mo_at G h1 o (upd K 0 (nI 0)) A := H1
      refine xw_if_eq 46 dd_M_page_39 (by decide) (fun hc => ?_) (fun hc => absurd rfl hc)
      refine xw_aloadR_n dd_M_page_46 rfl ?_
      refine xw_iload_n dd_M_page_47 rfl ?_
      refine xw_cl0 (ct_M_pageOf H1' hV1.1 hsr hk3 hS1) (iv_M_page_48 H1'.1) ok_M_pageOf rfl rfl rfl ?_ (fun _ _ _ q => by cases q.1)
      rintro v h2 z2 ⟨hv, rfl, ⟨A2, H2, on2, r2⟩, fr2⟩
      cases hv
      exact xw_iret dd_M_page_51 rfl ⟨rfl, rfl, ⟨_, A2, H2, hV1.onS on2, hS.st on2 r2, rfl⟩, fr1.trans fr2⟩
    · rw [if_neg hl]
      have hr : sw_page V S (nI k) = (2, 0, S) := by
        unfold sw_page
        rw [if_neg hs, hsk, if_neg hl]
      rw [hr]
      refine xw_if_ne 33 dd_M_page_26 (by decide) (fun hc => absurd rfl hc) (fun hc => ?_)
      refine xw_iconst 1 dd_M_page_29 (by decide) ?_
      refine xw_goto 34 dd_M_page_30 (by decide) ?_
      refine xw_iconst 0 dd_M_page_34 (by decide) ?_
      refine xw_iconst 0 dd_M_page_35 (by decide) ?_
      refine xw_cl0 (ct_M_refused H) (iv_M_page_36 H.1) ok_M_refused rfl rfl rfl ?_ (fun _ _ _ q => by cases q.1)
      rintro v h1 z1 ⟨hv, rfl, H1, fr1⟩
      cases hv
      refine xw_if_eq 46 dd_M_page_39 (by decide) (fun hc => absurd hc (by decide)) (fun hc => ?_)
      refine xw_iconst 0 dd_M_page_42 (by decide) ?_
      refine xw_goto 51 dd_M_page_43 (by decide) ?_
      exact xw_iret dd_M_page_51 rfl ⟨rfl, rfl, ⟨_, A, H1, hV.thr, hS, rfl⟩, fr1⟩
end SC
