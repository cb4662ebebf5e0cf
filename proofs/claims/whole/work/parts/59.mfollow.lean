/-! NotedVolumeModel: following (by program: wip/whole/mk59.py) -/
theorem dec1 (x : Int32) : x + Int32.ofInt (-1) = x - 1 := by
  rw [Int32.sub_eq_add_neg]
  rfl
theorem pred_lt {a : Nat} (h : a < 2147483648) : nI a - 1 < nI a := by
  by_cases h0 : a = 0
  · subst h0
    decide
  · rw [show nI a - 1 = nI (a - 1) from pk_sub (a := a) (b := 1) (by omega)]
    exact nI_lt (by omega) (by omega)
theorem le_max (x : Int32) : x ≤ 2147483647 := Int32.le_iff_toInt_le.mpr (by
  have := Int32.toInt_lt x
  have h2 : (2147483647 : Int32).toInt = 2147483647 := by decide
  omega)
/-- what a page takes out of a copy -/
def gs_ (fs : List sv_E) (S : sv_S) (e : sv_E) : Prop := (su_gr S < e.1 ∧ ((sv_pag fs S).2.2 < 4 ∨ e.1 ≤ (sv_pag fs S).2.1))
theorem gs_out {fs : List sv_E} {S : sv_S} {e : sv_E} : sv_out (su_gr S) (if su_ls (sv_page fs S) = true then su_gr (sv_page fs S) else 2147483647) e = true ↔ ¬ gs_ fs S e := by
  have hn := (pgs_all (fs := fs) 4 0 (su_pg S) (su_gr S)).2.1
  have hn : (sv_pag fs S).2.2 ≤ 4 := hn
  have h1 : su_gr (sv_page fs S) = (sv_pag fs S).2.1 := rfl
  have h2 : su_ls (sv_page fs S) = decide ((sv_pag fs S).2.2 = 4) := rfl
  unfold sv_out gs_
  rw [h1, h2]
  by_cases h4 : (sv_pag fs S).2.2 = 4
  · rw [decide_eq_true h4, if_pos rfl]
    simp only [Bool.not_eq_true', Bool.and_eq_false_iff, decide_eq_false_iff_not]
    constructor
    · rintro (q | q) ⟨w1, w2⟩
      · exact q w1
      · exact w2.elim (fun w => by omega) q
    · intro q
      by_cases w : su_gr S < e.1
      · exact Or.inr (fun u => q ⟨w, Or.inr u⟩)
      · exact Or.inl w
  · rw [decide_eq_false h4, if_neg (by decide)]
    simp only [Bool.not_eq_true', Bool.and_eq_false_iff, decide_eq_false_iff_not]
    constructor
    · rintro (q | q) ⟨w1, w2⟩
      · exact q w1
      · exact q (le_max _)
    · intro q
      exact Or.inl (fun w => q ⟨w, Or.inl (by omega)⟩)
theorem neg_find {fs : List sv_E} (hb : bd fs) : sv_find fs (-1) = none := List.find?_eq_none.mpr (fun e he q => by
  have h1 : e.1 = -1 := by simpa using q
  have := (hb e he).1
  rw [h1] at this
  exact absurd this (by decide))
section SE
variable {G : xa_G} {h : xa_H} {sz o : Nat} {K : Nat → Int32} {A : Nat → Nat → Int32} {V : sv_V} {S : Nat → sv_S}
theorem ct_M_followPage {k : Nat} {S : sv_S} {fs : List sv_E} (H : mo_at G h o K A) (hF : rF fs K A) (hsr : sv_srt fs) (hb : bd fs) (hk3 : k < 3) (hS : rS1 k S A) (hi : iC (su_cp S)) : xa_T G mm_M_followPage 3 0 0 [.ref o, .int (nI k)] h sz (mqo G h sz o K A k (sv_cpg fs S) none) := by
  have ix : vp_in (nI k) 3 := vp_in_nI hk3 (by decide)
  have pa := pgs_all (fs := fs) 4 0 (su_pg S) (su_gr S)
  have hN4 : (sv_pag fs S).2.2 ≤ 4 := by
    have := pa.2.1
    exact this
  have pl : ∀ j, j < (sv_pag fs S).2.2 → (sv_find fs ((sv_pag fs S).1 j)).isSome = true := fun j hj => pa.2.2.2.1 j (Nat.zero_le _) hj
  have pn : ∀ j, (sv_pag fs S).2.2 ≤ j → j < 4 → (sv_pag fs S).1 j = -1 := fun j h1 h2 => pa.2.2.2.2 j h1 (by omega)
  have last : ∀ (r i : Nat) (C : List sv_E × Nat) (ms : List sv_E) (g : Option Value) (A1 : Nat → Nat → Int32) (h1 : xa_H), i + r = (sv_pag fs S).2.2 → mo_at G h1 o K A1 → onS k A A1 → rO k (sv_page fs S) A1 → rC k ms A1 → rP ms C.1 → iC C.1 → sv_cps fs (sv_pag fs S).1 (4 - i) i C = sv_cpC fs S → frM o h h1 → xa_W G mm_M_followPage 3 0 0 99 [some (.ref o), some (.int (nI k)), some (.int (su_gr S)), some (.int (nI (sv_pag fs S).2.2)), some (.int (nI i)), g] [] h1 sz (mqo G h sz o K A k (sv_cpg fs S) none) := by
    intro r
    induction r with
    | zero =>
      intro i C ms g A1 h1 hr H1 on1 o1 c1 p1 i1 hq fr1
      refine xw_iload dd_M_followPage_99 rfl ?_
      refine xw_iload_n dd_M_followPage_101 rfl ?_
      refine xw_icmp_ge 127 dd_M_followPage_102 (by decide) (fun hc => ?_) (fun hc => absurd (nI_le (by omega) (by omega)) hc)
      have hC : sv_cpC fs S = C := by
        rw [← hq]
        refine cps_stop (4 - i) i (fun j j1 j2 => ?_)
        rw [pn j (by omega) (by omega)]
        exact neg_find hb
      refine xw_vret dd_M_followPage_127 rfl ⟨rfl, rfl, ⟨A1, H1, on1, o1, ms, c1, ?_⟩, fr1⟩
      show rP ms (sv_cpC fs S).1
      rw [hC]
      exact p1
    | succ r ih =>
      intro i C ms g A1 h1 hr H1 on1 o1 c1 p1 i1 hq fr1
      have F1 : rF fs K A1 := hF.cg rfl (fun j _ j2 => on1.2 j (by omega))
      have hl := i1.len
      have hml := p1.len i1.1
      refine xw_iload dd_M_followPage_99 rfl ?_
      refine xw_iload_n dd_M_followPage_101 rfl ?_
      refine xw_icmp_ge 127 dd_M_followPage_102 (by decide) (fun hc => absurd hc (nI_ge (by omega) (by omega))) (fun hc => ?_)
      refine xw_aloadR_n dd_M_followPage_105 rfl ?_
      refine xw_iload_n dd_M_followPage_106 rfl ?_
      refine xw_aloadR_n dd_M_followPage_107 rfl ?_
      refine xw_get fl_M_54 dd_M_followPage_108 H1.1 rfl ?_
      refine xw_iconst 4 dd_M_followPage_111 (by decide) ?_
      refine xw_iload_n dd_M_followPage_112 rfl ?_
      refine xw_imul dd_M_followPage_113 ?_
      rw [show (4 : Int32) * nI k = nI (4 * k) from pk_mul 4 k]
      refine xw_iload dd_M_followPage_114 rfl ?_
      refine xw_iadd dd_M_followPage_116 ?_
      rw [nI_add]
      refine xw_iald dd_M_followPage_117 (H1.2.1 13 (by decide) (by decide)) (vp_in_nI (show 4 * k + i < 12 by omega) (by decide)) ?_
      rw [nI_clamp (by omega), o1.2.2.2.2 i (by omega)]
      refine xw_cl0 (ct_M_copyNow H1 F1 hk3 c1 (by omega)) (iv_M_followPage_118 H1.1) ok_M_copyNow rfl rfl rfl ?_ (fun _ _ _ q => by cases q.1)
      rintro v h2 z2 ⟨hv, rfl, ⟨A2, H2, on2, c2⟩, fr2⟩
      cases hv
      refine xw_iinc dd_M_followPage_121 rfl (nI_1 i) (by decide) ?_
      refine xw_goto 99 dd_M_followPage_124 (by decide) ?_
      obtain ⟨e, he⟩ := Option.isSome_iff_exists.mp (pl i (by omega))
      refine ih (i + 1) (sv_now fs C ((sv_pag fs S).1 i)) _ g A2 h2 (by omega) H2 (on1.trans on2.1) ?_ c2 (rP_live he p1 i1.1 (by omega)) (iC.now hb i1) ?_ (fr1.trans fr2)
      · exact o1.cg (by rw [on2.2 9 (by decide)]) (by rw [on2.2 10 (by decide)]) (by rw [on2.2 11 (by decide)]) (by rw [on2.2 12 (by decide)]) (fun j _ => by rw [on2.2 13 (by decide)])
      · rw [← hq, show 4 - i = (4 - (i + 1)) + 1 by omega]
        rfl
  have loop : ∀ (j : Nat) (ms : List sv_E) (g : Option Value) (A1 : Nat → Nat → Int32) (h1 : xa_H), j ≤ ms.length → mo_at G h1 o K A1 → onS k A A1 → rO k (sv_page fs S) A1 → rC k ms A1 → dn ms → (∀ e ∈ ms, e ∈ su_cp S) → (∀ e ∈ su_cp S, ¬ gs_ fs S e → e ∈ ms) → (∀ i e, j ≤ i → ms[i]? = some e → ¬ gs_ fs S e) → frM o h h1 → xa_W G mm_M_followPage 3 0 0 29 [some (.ref o), some (.int (nI k)), some (.int (su_gr S)), some (.int (nI (sv_pag fs S).2.2)), some (.int (nI (280 * k + j) - 1)), g] [] h1 sz (mqo G h sz o K A k (sv_cpg fs S) none) := by
    intro j
    induction j with
    | zero =>
      intro ms g A1 h1 hj H1 on1 o1 c1 d1 s1 s2 s3 fr1
      refine xw_iload dd_M_followPage_29 rfl ?_
      refine xw_sipush 280 dd_M_followPage_31 (by decide) ?_
      refine xw_iload_n dd_M_followPage_34 rfl ?_
      refine xw_imul dd_M_followPage_35 ?_
      rw [show (280 : Int32) * nI k = nI (280 * k) from pk_mul 280 k]
      refine xw_icmp_lt 96 dd_M_followPage_36 (by decide) (fun hc => ?_) (fun hc => absurd (pred_lt (a := 280 * k) (by omega)) hc)
      refine xw_iconst 0 dd_M_followPage_96 (by decide) ?_
      refine xw_istore dd_M_followPage_97 (by decide) ?_
      refine last (sv_pag fs S).2.2 0 ((su_cp S).filter (sv_out (su_gr S) (if su_ls (sv_page fs S) = true then su_gr (sv_page fs S) else 2147483647)), su_cap S) ms g A1 h1 (by omega) H1 on1 o1 c1 ⟨d1, fun e => ?_⟩ (iC.fl hi) rfl fr1
      rw [List.mem_filter, gs_out]
      constructor
      · intro q
        obtain ⟨i, hie⟩ := List.mem_iff_getElem?.mp q
        exact ⟨s1 e q, s3 i e (Nat.zero_le _) hie⟩
      · rintro ⟨q1, q2⟩
        exact s2 e q1 q2
    | succ j ih =>
      intro ms g A1 h1 hj H1 on1 o1 c1 d1 s1 s2 s3 fr1
      have hml := c1.2.1
      have hjl : j < ms.length := by omega
      have he : ms[j]? = some ms[j] := List.getElem?_eq_getElem hjl
      have ixj : vp_in (nI (280 * k + j)) 840 := vp_in_nI (show 280 * k + j < 840 by omega) (by decide)
      have e0 : nI (280 * k + (j + 1)) - 1 = nI (280 * k + j) := pk_sub (a := 280 * k + (j + 1)) (b := 1) (by omega)
      have k3 := (c1.2.2 j _ he).1
      rw [e0]
      refine xw_iload dd_M_followPage_29 rfl ?_
      refine xw_sipush 280 dd_M_followPage_31 (by decide) ?_
      refine xw_iload_n dd_M_followPage_34 rfl ?_
      refine xw_imul dd_M_followPage_35 ?_
      rw [show (280 : Int32) * nI k = nI (280 * k) from pk_mul 280 k]
      refine xw_icmp_lt 96 dd_M_followPage_36 (by decide) (fun hc => absurd hc (nI_nlt (by omega) (by omega))) (fun hc => ?_)
      refine xw_aloadR_n dd_M_followPage_39 rfl ?_
      refine xw_get fl_M_60 dd_M_followPage_40 H1.1 rfl ?_
      refine xw_iload dd_M_followPage_43 rfl ?_
      refine xw_iald dd_M_followPage_45 (H1.2.1 15 (by decide) (by decide)) ixj ?_
      rw [nI_clamp (by omega), k3]
      refine xw_iload_n dd_M_followPage_46 rfl ?_
      refine xw_dia (pj := 76) (stj := []) (Lj := [some (.ref o), some (.int (nI k)), some (.int (su_gr S)), some (.int (nI (sv_pag fs S).2.2)), some (.int (nI (280 * k + j))), g]) (.int (if (su_gr S < ms[j].1 ∧ ((sv_pag fs S).2.2 < 4 ∨ ms[j].1 ≤ (sv_pag fs S).2.1)) then 1 else 0)) ?_ (fun meet => ?_)
      · refine xw_istore dd_M_followPage_76 (by decide) ?_
        refine xw_iload dd_M_followPage_78 rfl ?_
        by_cases hg : (su_gr S < ms[j].1 ∧ ((sv_pag fs S).2.2 < 4 ∨ ms[j].1 ≤ (sv_pag fs S).2.1))
        · rw [if_pos hg]
          refine xw_if_eq 90 dd_M_followPage_80 (by decide) (fun hc => absurd hc (by decide)) (fun hc => ?_)
          refine xw_aloadR_n dd_M_followPage_83 rfl ?_
          refine xw_iload_n dd_M_followPage_84 rfl ?_
          refine xw_iload dd_M_followPage_85 rfl ?_
          refine xw_cl0 (ct_M_copyOut H1 hk3 c1 hjl) (iv_M_followPage_87 H1.1) ok_M_copyOut rfl rfl rfl ?_ (fun _ _ _ q => by cases q.1)
          rintro v h2 z2 ⟨hv, rfl, ⟨A2, H2, on2, c2⟩, fr2⟩
          cases hv
          refine xw_iinc dd_M_followPage_90 rfl (dec1 _) (by decide) ?_
          refine xw_goto 29 dd_M_followPage_93 (by decide) ?_
          have hmo := fun e => mem_out (e := e) d1 he
          refine ih (ms_out ms j) _ A2 h2 (by rw [out_len]; omega) H2 (on1.trans on2.1) ?_ c2 (hmo ms[j]).2 (fun e q => s1 e ((hmo e).1.mp q).1) (fun e q1 q2 => (hmo e).1.mpr ⟨s2 e q1 q2, fun w => ?_⟩) (fun i e hji hie => ?_) (fr1.trans fr2)
          · exact o1.cg (by rw [on2.2 9 (by decide)]) (by rw [on2.2 10 (by decide)]) (by rw [on2.2 11 (by decide)]) (by rw [on2.2 12 (by decide)]) (fun j _ => by rw [on2.2 13 (by decide)])
          · have := dn_eq d1 (s2 e q1 q2) (List.mem_of_getElem? he) w
            rw [this] at q2
            exact q2 hg
          · have hil := (List.getElem?_eq_some_iff.mp hie).1
            rw [out_len] at hil
            unfold ms_out at hie
            cases hgl : ms.getLast? with
            | none =>
              rw [List.getLast?_eq_none_iff.mp hgl] at hjl
              cases hjl
            | some z =>
              rw [hgl] at hie
              have hie : (ms.dropLast.set j z)[i]? = some e := hie
              have hz : ms[ms.length - 1]? = some z := by
                rw [← List.getLast?_eq_getElem?]
                exact hgl
              rw [List.getElem?_set] at hie
              by_cases e1 : j = i
              · rw [if_pos e1] at hie
                by_cases e2 : j < ms.dropLast.length
                · rw [if_pos e2] at hie
                  cases hie
                  exact s3 _ _ (by omega) hz
                · rw [if_neg e2] at hie
                  cases hie
              · rw [if_neg e1, List.getElem?_dropLast, if_pos hil] at hie
                exact s3 i e (by omega) hie
        · rw [if_neg hg]
          refine xw_if_eq 90 dd_M_followPage_80 (by decide) (fun hc => ?_) (fun hc => absurd rfl hc)
          refine xw_iinc dd_M_followPage_90 rfl (dec1 _) (by decide) ?_
          refine xw_goto 29 dd_M_followPage_93 (by decide) ?_
          refine ih ms _ A1 h1 (by omega) H1 on1 o1 c1 d1 s1 s2 (fun i e hji hie => ?_) fr1
          by_cases e1 : i = j
          · rw [e1, he] at hie
            cases hie
            exact hg
          · exact s3 i e (by omega) hie
      · refine xw_icmp_le 75 dd_M_followPage_47 (by decide) (fun hc => ?_) (fun hc => ?_)
        · rw [if_neg (fun q : (su_gr S < ms[j].1 ∧ ((sv_pag fs S).2.2 < 4 ∨ ms[j].1 ≤ (sv_pag fs S).2.1)) => Int32.not_lt.mpr hc q.1)] at meet
          refine xw_iconst 0 dd_M_followPage_75 (by decide) ?_
          exact meet _ rfl
        · have hlt := Int32.not_le.mp hc
          refine xw_iload_n dd_M_followPage_50 rfl ?_
          refine xw_iconst 4 dd_M_followPage_51 (by decide) ?_
          refine xw_icmp_lt 71 dd_M_followPage_52 (by decide) (fun hc2 => ?_) (fun hc2 => ?_)
          · have hn4 : (sv_pag fs S).2.2 < 4 := (nI_ltI (b := 4) (by omega) (by decide)).mp hc2
            rw [if_pos (show (su_gr S < ms[j].1 ∧ ((sv_pag fs S).2.2 < 4 ∨ ms[j].1 ≤ (sv_pag fs S).2.1)) from ⟨hlt, Or.inl hn4⟩)] at meet
            refine xw_iconst 1 dd_M_followPage_71 (by decide) ?_
            refine xw_goto 76 dd_M_followPage_72 (by decide) ?_
            exact meet _ rfl
          · have hn4 : ¬ (sv_pag fs S).2.2 < 4 := fun q => hc2 (nI_lt (b := 4) q (by decide))
            refine xw_aloadR_n dd_M_followPage_55 rfl ?_
            refine xw_get fl_M_60 dd_M_followPage_56 H1.1 rfl ?_
            refine xw_iload dd_M_followPage_59 rfl ?_
            refine xw_iald dd_M_followPage_61 (H1.2.1 15 (by decide) (by decide)) ixj ?_
            rw [nI_clamp (by omega), k3]
            refine xw_aloadR_n dd_M_followPage_62 rfl ?_
            refine xw_get fl_M_51 dd_M_followPage_63 H1.1 rfl ?_
            refine xw_iload_n dd_M_followPage_66 rfl ?_
            refine xw_iald dd_M_followPage_67 (H1.2.1 12 (by decide) (by decide)) ix ?_
            rw [nI_clamp (by omega), o1.2.2.2.1]
            refine xw_icmp_gt 75 dd_M_followPage_68 (by decide) (fun hc3 => ?_) (fun hc3 => ?_)
            · rw [if_neg (fun q : (su_gr S < ms[j].1 ∧ ((sv_pag fs S).2.2 < 4 ∨ ms[j].1 ≤ (sv_pag fs S).2.1)) => q.2.elim hn4 (fun q => Int32.not_lt.mpr q hc3))] at meet
              refine xw_iconst 0 dd_M_followPage_75 (by decide) ?_
              exact meet _ rfl
            · rw [if_pos (show (su_gr S < ms[j].1 ∧ ((sv_pag fs S).2.2 < 4 ∨ ms[j].1 ≤ (sv_pag fs S).2.1)) from ⟨hlt, Or.inr (Int32.not_lt.mp hc3)⟩)] at meet
              refine xw_iconst 1 dd_M_followPage_71 (by decide) ?_
              refine xw_goto 76 dd_M_followPage_72 (by decide) ?_
              exact meet _ rfl
  refine xt_o ok_M_followPage rfl rfl ?_
  refine xw_aloadR_n dd_M_followPage_0 rfl ?_
  refine xw_get fl_M_51 dd_M_followPage_1 H.1 rfl ?_
  refine xw_iload_n dd_M_followPage_4 rfl ?_
  refine xw_iald dd_M_followPage_5 (H.2.1 12 (by decide) (by decide)) ix ?_
  rw [nI_clamp (by omega), hS.1.2.2.2.1]
  refine xw_istore_n dd_M_followPage_6 (by decide) ?_
  refine xw_aloadR_n dd_M_followPage_7 rfl ?_
  refine xw_iload_n dd_M_followPage_8 rfl ?_
  refine xw_cl0 (ct_M_pageOf H hF hsr hk3 hS) (iv_M_followPage_9 H.1) ok_M_pageOf rfl rfl rfl ?_ (fun _ _ _ q => by cases q.1)
  rintro v h1 z1 ⟨hv, rfl, ⟨A1, H1, on1, r1⟩, fr1⟩
  cases hv
  obtain ⟨o1, ms, c1, p1⟩ := r1
  have p1 : rP ms (su_cp S) := p1
  have hml := c1.2.1
  refine xw_istore_n dd_M_followPage_12 (by decide) ?_
  refine xw_sipush 280 dd_M_followPage_13 (by decide) ?_
  refine xw_iload_n dd_M_followPage_16 rfl ?_
  refine xw_imul dd_M_followPage_17 ?_
  rw [show (280 : Int32) * nI k = nI (280 * k) from pk_mul 280 k]
  refine xw_aloadR_n dd_M_followPage_18 rfl ?_
  refine xw_get fl_M_57 dd_M_followPage_19 H1.1 rfl ?_
  refine xw_iload_n dd_M_followPage_22 rfl ?_
  refine xw_iald dd_M_followPage_23 (H1.2.1 14 (by decide) (by decide)) ix ?_
  rw [nI_clamp (by omega), c1.1]
  refine xw_iadd dd_M_followPage_24 ?_
  rw [nI_add]
  refine xw_iconst 1 dd_M_followPage_25 (by decide) ?_
  refine xw_isub dd_M_followPage_26 ?_
  refine xw_istore dd_M_followPage_27 (by decide) ?_
  refine loop ms.length ms none A1 h1 (Nat.le_refl _) H1 on1 o1 c1 p1.1 (fun e q => (p1.2 e).mp q) (fun e q _ => (p1.2 e).mpr q) (fun i e hji hie => ?_) fr1
  have := (List.getElem?_eq_some_iff.mp hie).1
  omega
/-- a copy by a note, in the model's order -/
def ms_cnt (fs ms : List sv_E) (e : sv_E) (r : Int32) : List sv_E := if r &&& 64 = 0 then if r &&& 32 = 0 then ms_put ms e else ms_del ms e.1 else ms_now fs ms e.1
theorem rP_cnt {fs ms : List sv_E} {C : List sv_E × Nat} {e : sv_E} {r : Int32} (H : rP ms C.1) (hs : sv_srt C.1) (hl : C.1.length < 512) : rP (ms_cnt fs ms e r) (sv_cnt fs C e r).1 := by
  unfold ms_cnt sv_cnt
  by_cases h1 : r &&& 64 = 0
  · rw [if_pos h1, if_pos h1]
    by_cases h2 : r &&& 32 = 0
    · rw [if_pos h2, if_pos h2]
      exact rP_put H hs hl
    · rw [if_neg h2, if_neg h2]
      exact rP_del H hs
  · rw [if_neg h1, if_neg h1]
    exact rP_now H hs hl
theorem ct_M_followNote {k j : Nat} {ms : List sv_E} (H : mo_at G h o K A) (hV : rV V K A) (hk3 : k < 3) (hC : rC k ms A) (hl : ms.length < 280) (hj : j < 1000000) : xa_T G mm_M_followNote 3 0 0 [.ref o, .int (nI k), .int (nI j)] h sz (mqk G h sz o K A k (ms_cnt (sv_fs V) ms (sv_nt (sv_rg V) j) (sv_rg V (j % 16) 5))) := by
  obtain ⟨n1, n2, n3, n4⟩ := id hV.2.1
  have hm : j % 16 < 16 := Nat.mod_lt _ (by decide)
  refine xt_o ok_M_followNote rfl rfl ?_
  refine xw_bipush 6 dd_M_followNote_0 (by decide) ?_
  refine xw_iload_n dd_M_followNote_2 rfl ?_
  refine xw_bipush 16 dd_M_followNote_3 (by decide) ?_
  refine xw_irem dd_M_followNote_5 (by decide) ?_
  rw [show nI j - nI j / 16 * 16 = nI (j % 16) from pk_rem (a := j) (d := 16) (by omega) (by decide) (by decide)]
  refine xw_imul dd_M_followNote_6 ?_
  rw [show (6 : Int32) * nI (j % 16) = nI (6 * (j % 16)) from pk_mul 6 (j % 16)]
  refine xw_istore_n dd_M_followNote_7 (by decide) ?_
  refine xw_aloadR_n dd_M_followNote_8 rfl ?_
  refine xw_get fl_M_29 dd_M_followNote_9 H.1 rfl ?_
  refine xw_iload_n dd_M_followNote_12 rfl ?_
  refine xw_iald dd_M_followNote_13 (H.2.1 6 (by decide) (by decide)) (vp_in_nI (show 6 * (j % 16) + 0 < 96 by omega) (by decide)) ?_
  rw [nI_clamp (by omega), show A 6 (6 * (j % 16)) = sv_rg V (j % 16) 0 from n4 (j % 16) 0 hm (by decide)]
  refine xw_istore dd_M_followNote_14 (by decide) ?_
  refine xw_aloadR_n dd_M_followNote_16 rfl ?_
  refine xw_get fl_M_29 dd_M_followNote_17 H.1 rfl ?_
  refine xw_iload_n dd_M_followNote_20 rfl ?_
  refine xw_iconst 5 dd_M_followNote_21 (by decide) ?_
  refine xw_iadd dd_M_followNote_22 ?_
  rw [show nI (6 * (j % 16)) + 5 = nI (6 * (j % 16) + 5) from nI_add (6 * (j % 16)) 5]
  refine xw_iald dd_M_followNote_23 (H.2.1 6 (by decide) (by decide)) (vp_in_nI (show 6 * (j % 16) + 5 < 96 by omega) (by decide)) ?_
  rw [nI_clamp (by omega), n4 (j % 16) 5 hm (by decide)]
  refine xw_bipush 64 dd_M_followNote_24 (by decide) ?_
  refine xw_iand dd_M_followNote_26 ?_
  refine xw_if_eq 40 dd_M_followNote_27 (by decide) (fun h64 => ?_) (fun h64 => ?_)
  · refine xw_aloadR_n dd_M_followNote_40 rfl ?_
    refine xw_get fl_M_29 dd_M_followNote_41 H.1 rfl ?_
    refine xw_iload_n dd_M_followNote_44 rfl ?_
    refine xw_iconst 5 dd_M_followNote_45 (by decide) ?_
    refine xw_iadd dd_M_followNote_46 ?_
    rw [show nI (6 * (j % 16)) + 5 = nI (6 * (j % 16) + 5) from nI_add (6 * (j % 16)) 5]
    refine xw_iald dd_M_followNote_47 (H.2.1 6 (by decide) (by decide)) (vp_in_nI (show 6 * (j % 16) + 5 < 96 by omega) (by decide)) ?_
    rw [nI_clamp (by omega), n4 (j % 16) 5 hm (by decide)]
    refine xw_bipush 32 dd_M_followNote_48 (by decide) ?_
    refine xw_iand dd_M_followNote_50 ?_
    refine xw_if_eq 78 dd_M_followNote_51 (by decide) (fun h32 => ?_) (fun h32 => ?_)
    · have hmc : ms_cnt (sv_fs V) ms (sv_nt (sv_rg V) j) (sv_rg V (j % 16) 5) = ms_put ms (sv_nt (sv_rg V) j) := by
        unfold ms_cnt
        rw [if_pos h64, if_pos h32]
      rw [hmc]
      refine xw_aloadR_n dd_M_followNote_78 rfl ?_
      refine xw_iload_n dd_M_followNote_79 rfl ?_
      refine xw_iload dd_M_followNote_80 rfl ?_
      refine xw_aloadR_n dd_M_followNote_82 rfl ?_
      refine xw_get fl_M_29 dd_M_followNote_83 H.1 rfl ?_
      refine xw_iload_n dd_M_followNote_86 rfl ?_
      refine xw_iconst 1 dd_M_followNote_87 (by decide) ?_
      refine xw_iadd dd_M_followNote_88 ?_
      rw [show nI (6 * (j % 16)) + 1 = nI (6 * (j % 16) + 1) from nI_add (6 * (j % 16)) 1]
      refine xw_iald dd_M_followNote_89 (H.2.1 6 (by decide) (by decide)) (vp_in_nI (show 6 * (j % 16) + 1 < 96 by omega) (by decide)) ?_
      rw [nI_clamp (by omega), n4 (j % 16) 1 hm (by decide)]
      refine xw_aloadR_n dd_M_followNote_90 rfl ?_
      refine xw_get fl_M_29 dd_M_followNote_91 H.1 rfl ?_
      refine xw_iload_n dd_M_followNote_94 rfl ?_
      refine xw_iconst 2 dd_M_followNote_95 (by decide) ?_
      refine xw_iadd dd_M_followNote_96 ?_
      rw [show nI (6 * (j % 16)) + 2 = nI (6 * (j % 16) + 2) from nI_add (6 * (j % 16)) 2]
      refine xw_iald dd_M_followNote_97 (H.2.1 6 (by decide) (by decide)) (vp_in_nI (show 6 * (j % 16) + 2 < 96 by omega) (by decide)) ?_
      rw [nI_clamp (by omega), n4 (j % 16) 2 hm (by decide)]
      refine xw_aloadR_n dd_M_followNote_98 rfl ?_
      refine xw_get fl_M_29 dd_M_followNote_99 H.1 rfl ?_
      refine xw_iload_n dd_M_followNote_102 rfl ?_
      refine xw_iconst 3 dd_M_followNote_103 (by decide) ?_
      refine xw_iadd dd_M_followNote_104 ?_
      rw [show nI (6 * (j % 16)) + 3 = nI (6 * (j % 16) + 3) from nI_add (6 * (j % 16)) 3]
      refine xw_iald dd_M_followNote_105 (H.2.1 6 (by decide) (by decide)) (vp_in_nI (show 6 * (j % 16) + 3 < 96 by omega) (by decide)) ?_
      rw [nI_clamp (by omega), n4 (j % 16) 3 hm (by decide)]
      refine xw_aloadR_n dd_M_followNote_106 rfl ?_
      refine xw_get fl_M_29 dd_M_followNote_107 H.1 rfl ?_
      refine xw_iload_n dd_M_followNote_110 rfl ?_
      refine xw_iconst 4 dd_M_followNote_111 (by decide) ?_
      refine xw_iadd dd_M_followNote_112 ?_
      rw [show nI (6 * (j % 16)) + 4 = nI (6 * (j % 16) + 4) from nI_add (6 * (j % 16)) 4]
      refine xw_iald dd_M_followNote_113 (H.2.1 6 (by decide) (by decide)) (vp_in_nI (show 6 * (j % 16) + 4 < 96 by omega) (by decide)) ?_
      rw [nI_clamp (by omega), n4 (j % 16) 4 hm (by decide)]
      refine xw_cl0 (ct_M_copyIn H hk3 hC hl) (iv_M_followNote_114 H.1) ok_M_copyIn rfl rfl rfl ?_ (fun _ _ _ q => by cases q.1)
      rintro v h1 z1 ⟨hv, rfl, q1, q2⟩
      cases hv
      exact xw_vret dd_M_followNote_117 rfl ⟨rfl, rfl, q1, q2⟩
    · have hmc : ms_cnt (sv_fs V) ms (sv_nt (sv_rg V) j) (sv_rg V (j % 16) 5) = ms_del ms (sv_rg V (j % 16) 0) := by
        unfold ms_cnt
        rw [if_pos h64, if_neg h32]
        rfl
      rw [hmc]
      refine xw_aloadR_n dd_M_followNote_54 rfl ?_
      refine xw_iload_n dd_M_followNote_55 rfl ?_
      refine xw_iload dd_M_followNote_56 rfl ?_
      refine xw_cl0 (ct_M_copyPlace H hk3 hC) (iv_M_followNote_58 H.1) ok_M_copyPlace rfl rfl rfl ?_ (fun _ _ _ q => by cases q.1)
      rintro v h sz ⟨hv, rfl, rfl⟩
      cases hv
      refine xw_istore dd_M_followNote_61 (by decide) ?_
      refine xw_iload dd_M_followNote_63 rfl ?_
      rcases fx (fun a : sv_E => decide (a.1 = sv_rg V (j % 16) 0)) ms with ⟨u1, u2⟩ | ⟨i, a, hia, u1, u2, u3, -⟩
      · have hcx : cx k (sv_rg V (j % 16) 0) ms = -1 := by
          unfold cx
          rw [u2]
        have hmd : ms_del ms (sv_rg V (j % 16) 0) = ms := by
          unfold ms_del
          rw [u2]
        rw [hcx, hmd]
        refine xw_if_lt 75 dd_M_followNote_65 (by decide) (fun hc => ?_) (fun hc => absurd (by decide) hc)
        refine xw_goto 117 dd_M_followNote_75 (by decide) ?_
        exact xw_vret dd_M_followNote_117 rfl ⟨rfl, rfl, ⟨A, H, onC.refl, hC⟩, frM.refl⟩
      · have hi := (List.getElem?_eq_some_iff.mp hia).1
        have hcx : cx k (sv_rg V (j % 16) 0) ms = nI (280 * k + i) := by
          unfold cx
          rw [u2]
        have hmd : ms_del ms (sv_rg V (j % 16) 0) = ms_out ms i := by
          unfold ms_del
          rw [u2]
        rw [hcx, hmd]
        refine xw_if_lt 75 dd_M_followNote_65 (by decide) (fun hc => absurd hc (nI_pos (by omega))) (fun hc => ?_)
        refine xw_aloadR_n dd_M_followNote_68 rfl ?_
        refine xw_iload_n dd_M_followNote_69 rfl ?_
        refine xw_iload dd_M_followNote_70 rfl ?_
        refine xw_cl0 (ct_M_copyOut H hk3 hC hi) (iv_M_followNote_72 H.1) ok_M_copyOut rfl rfl rfl ?_ (fun _ _ _ q => by cases q.1)
        rintro v h1 z1 ⟨hv, rfl, q1, q2⟩
        cases hv
        refine xw_goto 117 dd_M_followNote_75 (by decide) ?_
        exact xw_vret dd_M_followNote_117 rfl ⟨rfl, rfl, q1, q2⟩
  · have hmc : ms_cnt (sv_fs V) ms (sv_nt (sv_rg V) j) (sv_rg V (j % 16) 5) = ms_now (sv_fs V) ms (sv_rg V (j % 16) 0) := by
      unfold ms_cnt
      rw [if_neg h64]
      rfl
    rw [hmc]
    refine xw_aloadR_n dd_M_followNote_30 rfl ?_
    refine xw_iload_n dd_M_followNote_31 rfl ?_
    refine xw_iload dd_M_followNote_32 rfl ?_
    refine xw_cl0 (ct_M_copyNow H hV.1 hk3 hC hl) (iv_M_followNote_34 H.1) ok_M_copyNow rfl rfl rfl ?_ (fun _ _ _ q => by cases q.1)
    rintro v h1 z1 ⟨hv, rfl, q1, q2⟩
    cases hv
    refine xw_goto 117 dd_M_followNote_37 (by decide) ?_
    exact xw_vret dd_M_followNote_117 rfl ⟨rfl, rfl, q1, q2⟩
theorem ct_M_act {k : Nat} {S : sv_S} (H : mo_at G h o K A) (hV : rV V K A) (hsr : sv_srt (sv_fs V)) (hb : bd (sv_fs V)) (hk3 : k < 3) (hS : rS1 k S A) (hi : iC (su_cp S)) (hcu : su_cur S ≤ sv_hd V) : xa_T G mm_M_act 4 0 0 [.ref o, .int (nI k)] h sz (mqo G h sz o K A k (sv_act (sv_hd V) (sv_rg V) (sv_fs V) S).2 (some (.int (if (sv_act (sv_hd V) (sv_rg V) (sv_fs V) S).1 = true then 1 else 0)))) := by
  have ix : vp_in (nI k) 3 := vp_in_nI hk3 (by decide)
  have htl : 1 ≤ rg_tl (sv_hd V) := by
    unfold rg_tl
    split <;> omega
  have hhd : sv_hd V < 1000000 := hV.2.1.2.2.1
  refine xt_o ok_M_act rfl rfl ?_
  refine xw_aloadR_n dd_M_act_0 rfl ?_
  refine xw_get fl_M_47 dd_M_act_1 H.1 rfl ?_
  refine xw_iload_n dd_M_act_4 rfl ?_
  refine xw_zald dd_M_act_5 (H.2.1 11 (by decide) (by decide)) ix ?_
  rw [nI_clamp (by omega), hS.1.2.2.1]
  by_cases hl : su_ls S = true
  · have ha : (sv_act (sv_hd V) (sv_rg V) (sv_fs V) S) = (true, sv_cpg (sv_fs V) S) := by
      unfold sv_act
      rw [if_pos hl]
    rw [ha, if_pos hl]
    refine xw_if_eq 16 dd_M_act_6 (by decide) (fun hc => absurd hc (by decide)) (fun hc => ?_)
    refine xw_aloadR_n dd_M_act_9 rfl ?_
    refine xw_iload_n dd_M_act_10 rfl ?_
    refine xw_cl0 (ct_M_followPage H hV.1 hsr hb hk3 hS hi) (iv_M_act_11 H.1) ok_M_followPage rfl rfl rfl ?_ (fun _ _ _ q => by cases q.1)
    rintro v h1 z1 ⟨hv, rfl, q1, q2⟩
    cases hv
    refine xw_iconst 1 dd_M_act_14 (by decide) ?_
    exact xw_zret dd_M_act_15 rfl rfl ⟨rfl, rfl, q1, q2⟩
  · rw [if_neg hl]
    refine xw_if_eq 16 dd_M_act_6 (by decide) (fun hc => ?_) (fun hc => absurd rfl hc)
    refine xw_aloadR_n dd_M_act_16 rfl ?_
    refine xw_iload_n dd_M_act_17 rfl ?_
    refine xw_bipush 127 dd_M_act_18 (by decide) ?_
    refine xw_cl0 (ct_M_readBy (mask := 127) H hV hk3 hS hcu) (iv_M_act_20 H.1) ok_M_readBy rfl rfl rfl ?_ (fun _ _ _ q => by cases q.1)
    rintro v h1 z1 ⟨hv, rfl, ⟨A1, H1, on1, r1⟩, fr1⟩
    cases hv
    refine xw_istore_n dd_M_act_23 (by decide) ?_
    refine xw_iload_n dd_M_act_24 rfl ?_
    refine xw_iconst (-1) dd_M_act_25 (by decide) ?_
    by_cases hcur : su_cur S < rg_tl (sv_hd V)
    · have hrd : sv_read (sv_hd V) (sv_rg V) (su_cur S) 127 = (-1, su_cur S) := by
        unfold sv_read
        rw [if_pos hcur]
      have ha : (sv_act (sv_hd V) (sv_rg V) (sv_fs V) S) = (true, sv_lst (sv_hd V) S) := by
        unfold sv_act
        rw [if_neg hl, if_pos hcur]
      rw [hrd] at r1 ⊢
      rw [ha]
      refine xw_icmp_ne 36 dd_M_act_26 (by decide) (fun hc => absurd rfl hc) (fun hc => ?_)
      refine xw_aloadR_n dd_M_act_29 rfl ?_
      refine xw_iload_n dd_M_act_30 rfl ?_
      refine xw_cl0 (ct_M_beginList H1 (hV.onS on1) hk3 r1) (iv_M_act_31 H1.1) ok_M_beginList rfl rfl rfl ?_ (fun _ _ _ q => by cases q.1)
      rintro v h2 z2 ⟨hv, rfl, ⟨A2, H2, on2, r2⟩, fr2⟩
      cases hv
      refine xw_iconst 1 dd_M_act_34 (by decide) ?_
      exact xw_zret dd_M_act_35 rfl rfl ⟨rfl, rfl, ⟨A2, H2, on1.trans on2, r2⟩, fr1.trans fr2⟩
    · cases hsc : sv_scan (sv_rg V) 127 (sv_hd V - su_cur S) (su_cur S) with
      | none =>
        have hrd : sv_read (sv_hd V) (sv_rg V) (su_cur S) 127 = (0, sv_hd V) := by
          unfold sv_read
          rw [if_neg hcur, hsc]
        have ha : (sv_act (sv_hd V) (sv_rg V) (sv_fs V) S) = (false, sv_setC (sv_hd V) S) := by
          unfold sv_act
          rw [if_neg hl, if_neg hcur, hsc]
        rw [hrd] at r1 ⊢
        rw [ha]
        refine xw_icmp_ne 36 dd_M_act_26 (by decide) (fun hc => ?_) (fun hc => absurd (show (0 : Int32) = -1 from hc) (by decide))
        refine xw_iload_n dd_M_act_36 rfl ?_
        refine xw_if_le 46 dd_M_act_37 (by decide) (fun hc => ?_) (fun hc => absurd (show (0 : Int32) ≤ 0 by decide) hc)
        refine xw_iload_n dd_M_act_46 rfl ?_
        refine xw_if_le 54 dd_M_act_47 (by decide) (fun hc => ?_) (fun hc => absurd (show (0 : Int32) ≤ 0 by decide) hc)
        refine xw_iconst 0 dd_M_act_54 (by decide) ?_
        exact xw_zret dd_M_act_55 rfl rfl ⟨rfl, rfl, ⟨A1, H1, on1, r1⟩, fr1⟩
      | some j =>
        have hj := sv_scan_in hsc
        have hrd : sv_read (sv_hd V) (sv_rg V) (su_cur S) 127 = (nI j, j + 1) := by
          unfold sv_read
          rw [if_neg hcur, hsc]
        have ha : (sv_act (sv_hd V) (sv_rg V) (sv_fs V) S) = (true, sv_setCp (sv_cnt (sv_fs V) (su_cp S, su_cap S) (sv_nt (sv_rg V) j) (sv_rg V (j % 16) 5)) (sv_setC (j + 1) S)) := by
          unfold sv_act
          rw [if_neg hl, if_neg hcur, hsc]
        rw [hrd] at r1 ⊢
        rw [ha]
        obtain ⟨o1, ms, c1, p1⟩ := r1
        have p1 : rP ms (su_cp S) := p1
        have hln := hi.len
        have hml := p1.len hi.1
        have hnm1 : ¬ nI j = -1 := fun q => by
          have := nI_pos (n := j) (by omega)
          rw [q] at this
          exact this (by decide)
        have hnle : ¬ nI j ≤ 0 := nI_nle (by omega) (by omega)
        refine xw_icmp_ne 36 dd_M_act_26 (by decide) (fun hc => ?_) (fun hc => absurd hc hnm1)
        refine xw_iload_n dd_M_act_36 rfl ?_
        refine xw_if_le 46 dd_M_act_37 (by decide) (fun hc => absurd hc hnle) (fun hc => ?_)
        refine xw_aloadR_n dd_M_act_40 rfl ?_
        refine xw_iload_n dd_M_act_41 rfl ?_
        refine xw_iload_n dd_M_act_42 rfl ?_
        refine xw_cl0 (ct_M_followNote (j := j) H1 (hV.onS on1) hk3 c1 (by omega) (by omega)) (iv_M_act_43 H1.1) ok_M_followNote rfl rfl rfl ?_ (fun _ _ _ q => by cases q.1)
        rintro v h2 z2 ⟨hv, rfl, ⟨A2, H2, on2, c2⟩, fr2⟩
        cases hv
        refine xw_iload_n dd_M_act_46 rfl ?_
        refine xw_if_le 54 dd_M_act_47 (by decide) (fun hc => absurd hc hnle) (fun hc => ?_)
        refine xw_iconst 1 dd_M_act_50 (by decide) ?_
        refine xw_goto 55 dd_M_act_51 (by decide) ?_
        refine xw_zret dd_M_act_55 rfl rfl ⟨rfl, rfl, ⟨A2, H2, on1.trans on2.1, ?_, _, c2, ?_⟩, fr1.trans fr2⟩
        · exact rO.cg (S := sv_setC (j + 1) S) o1 (by rw [on2.2 9 (by decide)]) (by rw [on2.2 10 (by decide)]) (by rw [on2.2 11 (by decide)]) (by rw [on2.2 12 (by decide)]) (fun j _ => by rw [on2.2 13 (by decide)])
        · exact rP_cnt (C := (su_cp S, su_cap S)) p1 hi.1 (by show (su_cp S).length < 512; omega)
theorem ct_M_follow {s n : Int32} (H : mo_at G h o K A) (hV : rV V K A) (hS : rS S A) (hsr : sv_srt (sv_fs V)) (hb : bd (sv_fs V)) (hr : bdR (sv_hd V) (sv_rg V)) (hi : ∀ s, s < 3 → iC (su_cp (S s))) (hcu : ∀ s, s < 3 → su_cur (S s) ≤ sv_hd V) : xa_T G mm_M_follow 5 0 0 [.ref o, .int s, .int n] h sz (mqs G h sz o V (sw_follow V S s n) (some (.int (sw_follow V S s n).2.1))) := by
  refine xt_o ok_M_follow rfl rfl ?_
  refine xw_aloadR_n dd_M_follow_0 rfl ?_
  refine xw_iload_n dd_M_follow_1 rfl ?_
  refine xw_cl0 (ct_M_is) iv_M_follow_2 ok_M_is rfl rfl rfl ?_ (fun _ _ _ q => by cases q.1)
  rintro v h sz ⟨hv, rfl, rfl⟩
  cases hv
  by_cases hs : s < 0 ∨ 3 ≤ s
  · have hr : sw_follow V S s n = (1, 0, S) := by
      unfold sw_follow
      rw [if_pos hs]
    rw [hr]
    rw [show zb (¬ (s < 0 ∨ 3 ≤ s)) = 0 from (zb_0 (fun q => q hs)).symm]
    refine xw_if_ne 12 dd_M_follow_5 (by decide) (fun hc => absurd rfl hc) (fun hc => ?_)
    refine xw_iconst 1 dd_M_follow_8 (by decide) ?_
    refine xw_goto 13 dd_M_follow_9 (by decide) ?_
    refine xw_iload_n dd_M_follow_13 rfl ?_
    refine xw_dia (pj := 28) (stj := [.int 1, .ref o]) (Lj := [some (.ref o), some (.int s), some (.int n), none, none]) (.int (zb (n < 0 ∨ 40 < n))) ?_ (fun meet => ?_)
    · refine xw_iconst 0 dd_M_follow_28 (by decide) ?_
      refine xw_iconst 0 dd_M_follow_29 (by decide) ?_
      refine xw_cl0 (ct_M_refused H) (iv_M_follow_30 H.1) ok_M_refused rfl rfl rfl ?_ (fun _ _ _ q => by cases q.1)
      rintro v h1 z1 ⟨hv, rfl, H1, fr1⟩
      cases hv
      have hmd : md_c 1 (zb (n < 0 ∨ 40 < n)) 0 0 = 1 := rfl
      rw [hmd] at H1 ⊢
      refine xw_if_eq 38 dd_M_follow_33 (by decide) (fun hc => absurd hc (by decide)) (fun hc => ?_)
      refine xw_iconst 0 dd_M_follow_36 (by decide) ?_
      exact xw_iret dd_M_follow_37 rfl ⟨rfl, rfl, ⟨_, A, H1, hV.thr, hS, rfl⟩, fr1⟩
    · refine xw_if_lt 23 dd_M_follow_14 (by decide) (fun hc => ?_) (fun hc => ?_)
      · refine xw_iconst 1 dd_M_follow_23 (by decide) ?_
        refine xw_goto 28 dd_M_follow_24 (by decide) ?_
        exact meet _ (congrArg Value.int (zb_1 (Or.inl hc)))
      · refine xw_iload_n dd_M_follow_17 rfl ?_
        refine xw_bipush 40 dd_M_follow_18 (by decide) ?_
        refine xw_icmp_le 27 dd_M_follow_20 (by decide) (fun hc2 => ?_) (fun hc2 => ?_)
        · refine xw_iconst 0 dd_M_follow_27 (by decide) ?_
          exact meet _ (congrArg Value.int (zb_0 (fun q => q.elim hc (fun q => Int32.not_lt.mpr hc2 q))))
        · refine xw_iconst 1 dd_M_follow_23 (by decide) ?_
          refine xw_goto 28 dd_M_follow_24 (by decide) ?_
          exact meet _ (congrArg Value.int (zb_1 (Or.inr (Int32.not_le.mp hc2))))
  · rw [show zb (¬ (s < 0 ∨ 3 ≤ s)) = 1 from (zb_1 hs).symm]
    obtain ⟨k, hk, rfl⟩ := nI_of (fun q => hs (Or.inl q))
    have hk3 : k < 3 := (nI_ltI (b := 3) hk (by decide)).mp (Int32.not_le.mp (fun q => hs (Or.inr q)))
    have hsk : sk (nI k) = k := nI_clamp (by omega)
    have ix : vp_in (nI k) 3 := vp_in_nI hk3 (by decide)
    have hS1 := hS k hk3
    refine xw_if_ne 12 dd_M_follow_5 (by decide) (fun hc => ?_) (fun hc => absurd hc (by decide))
    refine xw_iconst 0 dd_M_follow_12 (by decide) ?_
    refine xw_iload_n dd_M_follow_13 rfl ?_
    refine xw_dia (pj := 28) (stj := [.int 0, .ref o]) (Lj := [some (.ref o), some (.int (nI k)), some (.int n), none, none]) (.int (zb (n < 0 ∨ 40 < n))) ?_ (fun meet => ?_)
    · refine xw_iconst 0 dd_M_follow_28 (by decide) ?_
      refine xw_iconst 0 dd_M_follow_29 (by decide) ?_
      refine xw_cl0 (ct_M_refused H) (iv_M_follow_30 H.1) ok_M_refused rfl rfl rfl ?_ (fun _ _ _ q => by cases q.1)
      rintro v h1 z1 ⟨hv, rfl, H1, fr1⟩
      cases hv
      by_cases hm : n < 0 ∨ 40 < n
      · have hr : sw_follow V S (nI k) n = (2, 0, S) := by
          unfold sw_follow
          rw [if_neg hs, if_pos hm]
        rw [hr]
        have hmd : md_c 0 (zb (n < 0 ∨ 40 < n)) 0 0 = 2 := by
          rw [← zb_1 hm]
          rfl
        rw [hmd] at H1 ⊢
        refine xw_if_eq 38 dd_M_follow_33 (by decide) (fun hc => absurd hc (by decide)) (fun hc => ?_)
        refine xw_iconst 0 dd_M_follow_36 (by decide) ?_
        exact xw_iret dd_M_follow_37 rfl ⟨rfl, rfl, ⟨_, A, H1, hV.thr, hS, rfl⟩, fr1⟩
      · have hmd : md_c 0 (zb (n < 0 ∨ 40 < n)) 0 0 = 0 := by
          rw [← zb_0 hm]
          rfl
        rw [hmd] at H1 ⊢
        obtain ⟨N, hN, rfl⟩ := nI_of (fun q => hm (Or.inl q))
        have hN40 : N ≤ 40 := (nI_leI (b := 40) hN (by decide)).mp (Int32.not_lt.mp (fun q => hm (Or.inr q)))
        have hr2 : sw_follow V S (nI k) (nI N) = (0, nI (sv_acts (sv_hd V) (sv_rg V) (sv_fs V) N (S k)).1, vw S k (sv_acts (sv_hd V) (sv_rg V) (sv_fs V) N (S k)).2) := by
          unfold sw_follow
          rw [if_neg hs, if_neg hm, hsk, nI_clamp (by omega)]
        rw [hr2]
        have hV1 : rV V (upd K 0 (nI 0)) A := hV.thr
        have loop : ∀ (r i c : Nat) (S1 : sv_S) (A1 : Nat → Nat → Int32) (h2 : xa_H), i + r = N → c ≤ i → c + (sv_acts (sv_hd V) (sv_rg V) (sv_fs V) r S1).1 = (sv_acts (sv_hd V) (sv_rg V) (sv_fs V) N (S k)).1 → (sv_acts (sv_hd V) (sv_rg V) (sv_fs V) r S1).2 = (sv_acts (sv_hd V) (sv_rg V) (sv_fs V) N (S k)).2 → mo_at G h2 o (upd K 0 (nI 0)) A1 → onS k A A1 → rS1 k S1 A1 → iC (su_cp S1) → su_cur S1 ≤ sv_hd V → frM o h1 h2 → xa_W G mm_M_follow 5 0 0 43 [some (.ref o), some (.int (nI k)), some (.int (nI N)), some (.int (nI c)), some (.int (nI i))] [] h2 z1 (mqs G h z1 o V (0, nI (sv_acts (sv_hd V) (sv_rg V) (sv_fs V) N (S k)).1, vw S k (sv_acts (sv_hd V) (sv_rg V) (sv_fs V) N (S k)).2) (some (.int (nI (sv_acts (sv_hd V) (sv_rg V) (sv_fs V) N (S k)).1)))) := by
          intro r
          induction r with
          | zero =>
            intro i c S1 A1 h2 hir hci hq1 hq2 H2 on2 r2 i2 u2 fr2
            have hq1 : c = (sv_acts (sv_hd V) (sv_rg V) (sv_fs V) N (S k)).1 := hq1
            have hq2 : S1 = (sv_acts (sv_hd V) (sv_rg V) (sv_fs V) N (S k)).2 := hq2
            refine xw_iload dd_M_follow_43 rfl ?_
            refine xw_iload_n dd_M_follow_45 rfl ?_
            refine xw_icmp_ge 71 dd_M_follow_46 (by decide) (fun hc => ?_) (fun hc => absurd (nI_le (by omega) (by omega)) hc)
            refine xw_iload_n dd_M_follow_71 rfl ?_
            rw [← hq1, ← hq2]
            exact xw_iret dd_M_follow_72 rfl ⟨rfl, rfl, ⟨_, A1, H2, hV1.onS on2, hS.st on2 r2, rfl⟩, fr1.trans fr2⟩
          | succ r ih =>
            intro i c S1 A1 h2 hir hci hq1 hq2 H2 on2 r2 i2 u2 fr2
            refine xw_iload dd_M_follow_43 rfl ?_
            refine xw_iload_n dd_M_follow_45 rfl ?_
            refine xw_icmp_ge 71 dd_M_follow_46 (by decide) (fun hc => absurd hc (nI_ge (by omega) (by omega))) (fun hc => ?_)
            refine xw_aloadR_n dd_M_follow_49 rfl ?_
            refine xw_iload_n dd_M_follow_50 rfl ?_
            refine xw_cl0 (ct_M_act H2 (hV1.onS on2) hsr hb hk3 r2 i2 u2) (iv_M_follow_51 H2.1) ok_M_act rfl rfl rfl ?_ (fun _ _ _ q => by cases q.1)
            rintro v h3 z3 ⟨hv, rfl, ⟨A3, H3, on3, r3⟩, fr3⟩
            cases hv
            have i3 := iC.act hb hr u2 i2
            have u3 := sv_act_cur (rg := sv_rg V) (fs := sv_fs V) u2
            have hq1 : c + ((if (sv_act (sv_hd V) (sv_rg V) (sv_fs V) S1).1 = true then 1 else 0) + (sv_acts (sv_hd V) (sv_rg V) (sv_fs V) r (sv_act (sv_hd V) (sv_rg V) (sv_fs V) S1).2).1) = (sv_acts (sv_hd V) (sv_rg V) (sv_fs V) N (S k)).1 := hq1
            have hq2 : (sv_acts (sv_hd V) (sv_rg V) (sv_fs V) r (sv_act (sv_hd V) (sv_rg V) (sv_fs V) S1).2).2 = (sv_acts (sv_hd V) (sv_rg V) (sv_fs V) N (S k)).2 := hq2
            by_cases ha : (sv_act (sv_hd V) (sv_rg V) (sv_fs V) S1).1 = true
            · rw [if_pos ha] at hq1 ⊢
              refine xw_if_eq 63 dd_M_follow_54 (by decide) (fun hc => absurd hc (by decide)) (fun hc => ?_)
              refine xw_iload_n dd_M_follow_57 rfl ?_
              refine xw_iconst 1 dd_M_follow_58 (by decide) ?_
              refine xw_iadd dd_M_follow_59 ?_
              rw [nI_1]
              refine xw_goto 64 dd_M_follow_60 (by decide) ?_
              refine xw_istore_n dd_M_follow_64 (by decide) ?_
              refine xw_iinc dd_M_follow_65 rfl (nI_1 i) (by decide) ?_
              refine xw_goto 43 dd_M_follow_68 (by decide) ?_
              exact ih (i + 1) (c + 1) _ A3 h3 (by omega) (by omega) (by omega) hq2 H3 (on2.trans on3) r3 i3 u3 (fr2.trans fr3)
            · rw [if_neg ha] at hq1 ⊢
              refine xw_if_eq 63 dd_M_follow_54 (by decide) (fun hc => ?_) (fun hc => absurd rfl hc)
              refine xw_iload_n dd_M_follow_63 rfl ?_
              refine xw_istore_n dd_M_follow_64 (by decide) ?_
              refine xw_iinc dd_M_follow_65 rfl (nI_1 i) (by decide) ?_
              refine xw_goto 43 dd_M_follow_68 (by decide) ?_
              exact ih (i + 1) c _ A3 h3 (by omega) (by omega) (by omega) hq2 H3 (on2.trans on3) r3 i3 u3 (fr2.trans fr3)
        refine xw_if_eq 38 dd_M_follow_33 (by decide) (fun hc => ?_) (fun hc => absurd rfl hc)
        refine xw_iconst 0 dd_M_follow_38 (by decide) ?_
        refine xw_istore_n dd_M_follow_39 (by decide) ?_
        refine xw_iconst 0 dd_M_follow_40 (by decide) ?_
        refine xw_istore dd_M_follow_41 (by decide) ?_
        exact loop N 0 0 (S k) A h1 (by omega) (Nat.le_refl _) (by omega) rfl H1 onS.refl hS1 (hi k hk3) (hcu k hk3) frM.refl
    · refine xw_if_lt 23 dd_M_follow_14 (by decide) (fun hc => ?_) (fun hc => ?_)
      · refine xw_iconst 1 dd_M_follow_23 (by decide) ?_
        refine xw_goto 28 dd_M_follow_24 (by decide) ?_
        exact meet _ (congrArg Value.int (zb_1 (Or.inl hc)))
      · refine xw_iload_n dd_M_follow_17 rfl ?_
        refine xw_bipush 40 dd_M_follow_18 (by decide) ?_
        refine xw_icmp_le 27 dd_M_follow_20 (by decide) (fun hc2 => ?_) (fun hc2 => ?_)
        · refine xw_iconst 0 dd_M_follow_27 (by decide) ?_
          exact meet _ (congrArg Value.int (zb_0 (fun q => q.elim hc (fun q => Int32.not_lt.mpr hc2 q))))
        · refine xw_iconst 1 dd_M_follow_23 (by decide) ?_
          refine xw_goto 28 dd_M_follow_24 (by decide) ?_
          exact meet _ (congrArg Value.int (zb_1 (Or.inr (Int32.not_le.mp hc2))))
end SE
