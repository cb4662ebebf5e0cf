/-! NotedVolumeModel: subscribers (by program: wip/whole/mk56.py) -/
section SA
variable {G : xa_G} {M : xa_M} {dp kc ks pc : Nat} {L : List (Option Value)} {st : List Value} {h : xa_H} {sz : Nat} {Q : Outcome → xa_H → Nat → Prop}
theorem xw_zastA {a n : Nat} {f : Nat → Int32} {i x : Int32} (hx : vp_nar .boolean x = x) (hd : decode M.2.1 pc = .ok (.bastore, 1)) (ha : h a = some (.inl (2, (n, .inl f)))) (hin : vp_in i n) (hB : G.2.2.1 ≤ a) (kk : ∀ h1 : xa_H, h1 a = some (.inl (2, (n, .inl (upd f i.toNatClampNeg x)))) → (∀ b, b ≠ a → h1 b = h b) → xa_W G M dp kc ks (pc + 1) L st h1 sz Q) : xa_W G M dp kc ks pc L (.int x :: .int i :: .ref a :: st) h sz Q :=
  xw_zast hd ha hin hB (kk _ (by rw [hx]; exact xa_up_eq _ _ _) (fun _ hb => xa_up_ne _ _ hb))
end SA
section SB
variable {G : xa_G} {h : xa_H} {sz o : Nat} {K : Nat → Int32} {A : Nat → Nat → Int32} {V : sv_V} {S : Nat → sv_S}
theorem rS1.cp {s : Nat} {S S' : sv_S} {A A' : Nat → Nat → Int32} (H : rS1 s S A) (hc : su_cp S' = su_cp S) (h14 : A' 14 s = A 14 s) (hA : ∀ q, 15 ≤ q → q ≤ 19 → A' q = A q) (hO : rO s S' A') : rS1 s S' A' := by
  obtain ⟨-, ms, q1, q2⟩ := H
  refine ⟨hO, ms, q1.cg h14 (fun q a b i _ => by rw [hA q a b]), ?_⟩
  rw [hc]
  exact q2
theorem rS1.cur {s c : Nat} {S : sv_S} (H : rS1 s S A) : rS1 s (sv_setC c S) (uA A 9 (upd (A 9) s (nI c))) :=
  H.cp rfl rfl (fun q a b => uA_n _ _ (by omega)) ⟨pk_us, H.1.2.1, H.1.2.2.1, H.1.2.2.2.1, H.1.2.2.2.2⟩
theorem ct_M_is {s : Int32} : xa_T G mm_M_is 0 0 0 [.int s] h sz (xq_same h sz (some (.int (zb (¬ (s < 0 ∨ 3 ≤ s)))))) := by
  refine xt_o ok_M_is rfl rfl ?_
  refine xw_iload_n dd_M_is_0 rfl ?_
  refine xw_if_lt 13 dd_M_is_1 (by decide) (fun hc => ?_) (fun hc => ?_)
  · refine xw_iconst 0 dd_M_is_13 (by decide) ?_
    exact xw_zret dd_M_is_14 rfl rfl ⟨by rw [← zb_0 (c := ¬ (s < 0 ∨ 3 ≤ s)) (fun q => q (Or.inl hc))], rfl, rfl⟩
  · refine xw_iload_n dd_M_is_4 rfl ?_
    refine xw_iconst 3 dd_M_is_5 (by decide) ?_
    refine xw_icmp_ge 13 dd_M_is_6 (by decide) (fun hc2 => ?_) (fun hc2 => ?_)
    · refine xw_iconst 0 dd_M_is_13 (by decide) ?_
      exact xw_zret dd_M_is_14 rfl rfl ⟨by rw [← zb_0 (c := ¬ (s < 0 ∨ 3 ≤ s)) (fun q => q (Or.inr hc2))], rfl, rfl⟩
    · refine xw_iconst 1 dd_M_is_9 (by decide) ?_
      refine xw_goto 14 dd_M_is_10 (by decide) ?_
      exact xw_zret dd_M_is_14 rfl rfl ⟨by rw [← zb_1 (c := ¬ (s < 0 ∨ 3 ≤ s)) (fun q => q.elim hc hc2)], rfl, rfl⟩
theorem ct_M_beginList {k : Nat} {S : sv_S} (H : mo_at G h o K A) (hV : rV V K A) (hk3 : k < 3) (hS : rS1 k S A) : xa_T G mm_M_beginList 0 0 0 [.ref o, .int (nI k)] h sz (mqo G h sz o K A k (sv_lst (sv_hd V) S) none) := by
  have ix : vp_in (nI k) 3 := vp_in_nI hk3 (by decide)
  refine xt_o ok_M_beginList rfl rfl ?_
  refine xw_aloadR_n dd_M_beginList_0 rfl ?_
  refine xw_get fl_M_47 dd_M_beginList_1 H.1 rfl ?_
  refine xw_iload_n dd_M_beginList_4 rfl ?_
  refine xw_iconst 1 dd_M_beginList_5 (by decide) ?_
  refine xw_zastA rfl dd_M_beginList_6 (H.2.1 11 (by decide) (by decide)) ix (by have := H.2.2; omega) (fun h1 n1 fn1 => ?_)
  rw [nI_clamp (by omega)] at n1
  obtain ⟨H1, fr1⟩ := H.setA (i := 11) (by decide) n1 fn1
  refine xw_aloadR_n dd_M_beginList_7 rfl ?_
  refine xw_get fl_M_51 dd_M_beginList_8 H1.1 rfl ?_
  refine xw_iload_n dd_M_beginList_11 rfl ?_
  refine xw_iconst 0 dd_M_beginList_12 (by decide) ?_
  refine xw_iastA dd_M_beginList_13 (show h1 (o + 12) = some (.inl (0, (3, .inl (A 12)))) from H1.2.1 12 (by decide) (by decide)) ix (by have := H.2.2; omega) (fun h2 n2 fn2 => ?_)
  rw [nI_clamp (by omega)] at n2
  obtain ⟨H2, fr2⟩ := H1.setA (i := 12) (f := upd (A 12) k 0) (by decide) n2 fn2
  refine xw_aloadR_n dd_M_beginList_14 rfl ?_
  refine xw_get fl_M_41 dd_M_beginList_15 H2.1 rfl ?_
  refine xw_iload_n dd_M_beginList_18 rfl ?_
  refine xw_aloadR_n dd_M_beginList_19 rfl ?_
  refine xw_get fl_M_25 dd_M_beginList_20 H2.1 rfl ?_
  rw [hV.2.1.1]
  refine xw_iastA dd_M_beginList_23 (show h2 (o + 9) = some (.inl (0, (3, .inl (A 9)))) from H2.2.1 9 (by decide) (by decide)) ix (by have := H.2.2; omega) (fun h3 n3 fn3 => ?_)
  rw [nI_clamp (by omega)] at n3
  obtain ⟨H3, fr3⟩ := H2.setA (i := 9) (f := upd (A 9) k (nI (sv_hd V))) (by decide) n3 fn3
  refine xw_vret dd_M_beginList_24 rfl ⟨rfl, rfl, ⟨_, H3, ((onS_1 A 1 (by omega)).trans (onS_1 (uA A 11 (upd (A 11) k 1)) 0 (by omega))).trans (onS_1 (uA (uA A 11 (upd (A 11) k 1)) 12 (upd (A 12) k 0)) (nI (sv_hd V)) (by omega)), hS.cp rfl rfl (fun q a b => ?_) ⟨pk_us, hS.1.2.1, pk_us, pk_us, hS.1.2.2.2.2⟩⟩, fr1.trans (fr2.trans fr3)⟩
  rw [uA_n _ _ (by omega), uA_n _ _ (by omega), uA_n _ _ (by omega)]
theorem ct_M_readBy {k : Nat} {S : sv_S} {mask : Int32} (H : mo_at G h o K A) (hV : rV V K A) (hk3 : k < 3) (hS : rS1 k S A) (hc : su_cur S ≤ sv_hd V) : xa_T G mm_M_readBy 1 0 0 [.ref o, .int (nI k), .int mask] h sz (mqo G h sz o K A k (sv_setC (sv_read (sv_hd V) (sv_rg V) (su_cur S) mask).2 S) (some (.int (sv_read (sv_hd V) (sv_rg V) (su_cur S) mask).1))) := by
  have ix : vp_in (nI k) 3 := vp_in_nI hk3 (by decide)
  obtain ⟨n1, n2, n3, n4⟩ := id hV.2.1
  have h9 : A 9 k = nI (su_cur S) := hS.1.1
  have htl : rg_tl (sv_hd V) ≤ sv_hd V := by
    unfold rg_tl
    split <;> omega
  have loop : ∀ (r i : Nat), i + r = sv_hd V → ¬ su_cur S < rg_tl (sv_hd V) → sv_scan (sv_rg V) mask r i = sv_scan (sv_rg V) mask (sv_hd V - su_cur S) (su_cur S) → xa_W G mm_M_readBy 1 0 0 22 [some (.ref o), some (.int (nI k)), some (.int mask), some (.int (nI i))] [] h sz (mqo G h sz o K A k (sv_setC (sv_read (sv_hd V) (sv_rg V) (su_cur S) mask).2 S) (some (.int (sv_read (sv_hd V) (sv_rg V) (su_cur S) mask).1))) := by
    intro r
    induction r with
    | zero =>
      intro i hr hnl hq
      have hrd : (sv_read (sv_hd V) (sv_rg V) (su_cur S) mask) = (0, sv_hd V) := by
        unfold sv_read
        rw [if_neg hnl, ← hq]
        rfl
      refine xw_iload_n dd_M_readBy_22 rfl ?_
      refine xw_aloadR_n dd_M_readBy_23 rfl ?_
      refine xw_get fl_M_25 dd_M_readBy_24 H.1 rfl ?_
      rw [n1]
      refine xw_icmp_ge 66 dd_M_readBy_27 (by decide) (fun hc => ?_) (fun hc => absurd (nI_le (by omega) (by omega)) hc)
      refine xw_aloadR_n dd_M_readBy_66 rfl ?_
      refine xw_get fl_M_41 dd_M_readBy_67 H.1 rfl ?_
      refine xw_iload_n dd_M_readBy_70 rfl ?_
      refine xw_aloadR_n dd_M_readBy_71 rfl ?_
      refine xw_get fl_M_25 dd_M_readBy_72 H.1 rfl ?_
      rw [n1]
      refine xw_iastA dd_M_readBy_75 (H.2.1 9 (by decide) (by decide)) ix (by have := H.2.2; omega) (fun h1 m1 fm1 => ?_)
      rw [nI_clamp (by omega)] at m1
      obtain ⟨H1, fr1⟩ := H.setA (i := 9) (by decide) m1 fm1
      refine xw_iconst 0 dd_M_readBy_76 (by decide) ?_
      rw [hrd]
      exact xw_iret dd_M_readBy_77 rfl ⟨rfl, rfl, ⟨_, H1, onS_1 A _ (by omega), hS.cur⟩, fr1⟩
    | succ r ih =>
      intro i hr hnl hq
      refine xw_iload_n dd_M_readBy_22 rfl ?_
      refine xw_aloadR_n dd_M_readBy_23 rfl ?_
      refine xw_get fl_M_25 dd_M_readBy_24 H.1 rfl ?_
      rw [n1]
      refine xw_icmp_ge 66 dd_M_readBy_27 (by decide) (fun hc => absurd hc (nI_ge (by omega) (by omega))) (fun hc => ?_)
      refine xw_aloadR_n dd_M_readBy_30 rfl ?_
      refine xw_get fl_M_29 dd_M_readBy_31 H.1 rfl ?_
      refine xw_bipush 6 dd_M_readBy_34 (by decide) ?_
      refine xw_iload_n dd_M_readBy_36 rfl ?_
      refine xw_bipush 16 dd_M_readBy_37 (by decide) ?_
      refine xw_irem dd_M_readBy_39 (by decide) ?_
      rw [show nI i - nI i / 16 * 16 = nI (i % 16) from pk_rem (a := i) (d := 16) (by omega) (by decide) (by decide)]
      refine xw_imul dd_M_readBy_40 ?_
      rw [show (6 : Int32) * nI (i % 16) = nI (6 * (i % 16)) from pk_mul 6 (i % 16)]
      refine xw_iconst 5 dd_M_readBy_41 (by decide) ?_
      refine xw_iadd dd_M_readBy_42 ?_
      rw [show nI (6 * (i % 16)) + 5 = nI (6 * (i % 16) + 5) from nI_add (6 * (i % 16)) 5]
      have hm : i % 16 < 16 := Nat.mod_lt _ (by decide)
      refine xw_iald dd_M_readBy_43 (H.2.1 6 (by decide) (by decide)) (vp_in_nI (show 6 * (i % 16) + 5 < 96 by omega) (by decide)) ?_
      rw [nI_clamp (by omega), n4 (i % 16) 5 hm (by decide)]
      refine xw_iload_n dd_M_readBy_44 rfl ?_
      refine xw_iand dd_M_readBy_45 ?_
      refine xw_if_eq 60 dd_M_readBy_46 (by decide) (fun hz => ?_) (fun hz => ?_)
      · refine xw_iinc dd_M_readBy_60 rfl (nI_1 i) (by decide) ?_
        refine xw_goto 22 dd_M_readBy_63 (by decide) ?_
        refine ih (i + 1) (by omega) hnl ?_
        rw [← hq]
        show _ = if sv_rg V (i % 16) 5 &&& mask = 0 then _ else _
        rw [if_pos hz]
      · have hrd : (sv_read (sv_hd V) (sv_rg V) (su_cur S) mask) = (nI i, i + 1) := by
          unfold sv_read
          rw [if_neg hnl, ← hq]
          show (match (if sv_rg V (i % 16) 5 &&& mask = 0 then _ else some i) with
            | some s => (nI s, s + 1)
            | none => (0, sv_hd V)) = _
          rw [if_neg hz]
        refine xw_aloadR_n dd_M_readBy_49 rfl ?_
        refine xw_get fl_M_41 dd_M_readBy_50 H.1 rfl ?_
        refine xw_iload_n dd_M_readBy_53 rfl ?_
        refine xw_iload_n dd_M_readBy_54 rfl ?_
        refine xw_iconst 1 dd_M_readBy_55 (by decide) ?_
        refine xw_iadd dd_M_readBy_56 ?_
        rw [nI_1]
        refine xw_iastA dd_M_readBy_57 (H.2.1 9 (by decide) (by decide)) ix (by have := H.2.2; omega) (fun h1 m1 fm1 => ?_)
        rw [nI_clamp (by omega)] at m1
        obtain ⟨H1, fr1⟩ := H.setA (i := 9) (by decide) m1 fm1
        refine xw_iload_n dd_M_readBy_58 rfl ?_
        rw [hrd]
        exact xw_iret dd_M_readBy_59 rfl ⟨rfl, rfl, ⟨_, H1, onS_1 A _ (by omega), hS.cur⟩, fr1⟩
  refine xt_o ok_M_readBy rfl rfl ?_
  refine xw_aloadR_n dd_M_readBy_0 rfl ?_
  refine xw_get fl_M_41 dd_M_readBy_1 H.1 rfl ?_
  refine xw_iload_n dd_M_readBy_4 rfl ?_
  refine xw_iald dd_M_readBy_5 (H.2.1 9 (by decide) (by decide)) ix ?_
  rw [nI_clamp (by omega), h9]
  refine xw_aloadR_n dd_M_readBy_6 rfl ?_
  refine xw_cl0 (ct_M_tailNow H hV) (iv_M_readBy_7 H.1) ok_M_tailNow rfl rfl rfl ?_ (fun _ _ _ q => by cases q.1)
  rintro v h sz ⟨hv, rfl, rfl⟩
  cases hv
  refine xw_icmp_ge 15 dd_M_readBy_10 (by decide) (fun hcm => ?_) (fun hcm => ?_)
  · have hnl : ¬ su_cur S < rg_tl (sv_hd V) := Nat.not_lt.mpr ((nI_leI (by omega) (by omega)).mp hcm)
    refine xw_aloadR_n dd_M_readBy_15 rfl ?_
    refine xw_get fl_M_41 dd_M_readBy_16 H.1 rfl ?_
    refine xw_iload_n dd_M_readBy_19 rfl ?_
    refine xw_iald dd_M_readBy_20 (H.2.1 9 (by decide) (by decide)) ix ?_
    rw [nI_clamp (by omega), h9]
    refine xw_istore_n dd_M_readBy_21 (by decide) ?_
    exact loop (sv_hd V - su_cur S) (su_cur S) (by omega) hnl rfl
  · have hl : su_cur S < rg_tl (sv_hd V) := Nat.not_le.mp (fun q => hcm (nI_le q (by omega)))
    have hrd : (sv_read (sv_hd V) (sv_rg V) (su_cur S) mask) = (-1, su_cur S) := by
      unfold sv_read
      rw [if_pos hl]
    refine xw_iconst (-1) dd_M_readBy_13 (by decide) ?_
    rw [hrd]
    exact xw_iret dd_M_readBy_14 rfl ⟨rfl, rfl, ⟨A, H, onS.refl, hS⟩, frM.refl⟩
theorem ct_M_cursor {s : Int32} (H : mo_at G h o K A) (hV : rV V K A) (hS : rS S A) : xa_T G mm_M_cursor 1 0 0 [.ref o, .int s] h sz (mqs G h sz o V (sw_cursor S s) (some (.int (sw_cursor S s).2.1))) := by
  refine xt_o ok_M_cursor rfl rfl ?_
  refine xw_aloadR_n dd_M_cursor_0 rfl ?_
  refine xw_iload_n dd_M_cursor_1 rfl ?_
  refine xw_cl0 (ct_M_is) iv_M_cursor_2 ok_M_is rfl rfl rfl ?_ (fun _ _ _ q => by cases q.1)
  rintro v h sz ⟨hv, rfl, rfl⟩
  cases hv
  by_cases hs : s < 0 ∨ 3 ≤ s
  · have hr : sw_cursor S s = (1, 0, S) := by
      unfold sw_cursor
      rw [if_pos hs]
    rw [hr]
    rw [show zb (¬ (s < 0 ∨ 3 ≤ s)) = 0 from (zb_0 (fun q => q hs)).symm]
    refine xw_if_ne 12 dd_M_cursor_5 (by decide) (fun hc => absurd rfl hc) (fun hc => ?_)
    refine xw_iconst 1 dd_M_cursor_8 (by decide) ?_
    refine xw_goto 13 dd_M_cursor_9 (by decide) ?_
    refine xw_iconst 0 dd_M_cursor_13 (by decide) ?_
    refine xw_iconst 0 dd_M_cursor_14 (by decide) ?_
    refine xw_iconst 0 dd_M_cursor_15 (by decide) ?_
    refine xw_cl0 (ct_M_refused H) (iv_M_cursor_16 H.1) ok_M_refused rfl rfl rfl ?_ (fun _ _ _ q => by cases q.1)
    rintro v h1 z1 ⟨hv, rfl, H1, fr1⟩
    cases hv
    refine xw_if_eq 26 dd_M_cursor_19 (by decide) (fun hc => absurd hc (by decide)) (fun hc => ?_)
    refine xw_iconst 0 dd_M_cursor_22 (by decide) ?_
    refine xw_goto 32 dd_M_cursor_23 (by decide) ?_
    exact xw_iret dd_M_cursor_32 rfl ⟨rfl, rfl, ⟨_, A, H1, hV.thr, hS, rfl⟩, fr1⟩
  · rw [show zb (¬ (s < 0 ∨ 3 ≤ s)) = 1 from (zb_1 hs).symm]
    obtain ⟨k, hk, rfl⟩ := nI_of (fun q => hs (Or.inl q))
    have hk3 : k < 3 := (nI_ltI (b := 3) hk (by decide)).mp (Int32.not_le.mp (fun q => hs (Or.inr q)))
    have hsk : sk (nI k) = k := nI_clamp (by omega)
    have ix : vp_in (nI k) 3 := vp_in_nI hk3 (by decide)
    have hS1 := hS k hk3
    have hr : sw_cursor S (nI k) = (0, nI (su_cur (S k)), S) := by
      unfold sw_cursor
      rw [if_neg hs, hsk]
    rw [hr]
    refine xw_if_ne 12 dd_M_cursor_5 (by decide) (fun hc => ?_) (fun hc => absurd hc (by decide))
    refine xw_iconst 0 dd_M_cursor_12 (by decide) ?_
    refine xw_iconst 0 dd_M_cursor_13 (by decide) ?_
    refine xw_iconst 0 dd_M_cursor_14 (by decide) ?_
    refine xw_iconst 0 dd_M_cursor_15 (by decide) ?_
    refine xw_cl0 (ct_M_refused H) (iv_M_cursor_16 H.1) ok_M_refused rfl rfl rfl ?_ (fun _ _ _ q => by cases q.1)
    rintro v h1 z1 ⟨hv, rfl, H1, fr1⟩
    cases hv
    refine xw_if_eq 26 dd_M_cursor_19 (by decide) (fun hc => ?_) (fun hc => absurd rfl hc)
    refine xw_aloadR_n dd_M_cursor_26 rfl ?_
    refine xw_get fl_M_41 dd_M_cursor_27 H1.1 rfl ?_
    refine xw_iload_n dd_M_cursor_30 rfl ?_
    refine xw_iald dd_M_cursor_31 (H1.2.1 9 (by decide) (by decide)) ix ?_
    rw [nI_clamp (by omega), hS1.1.1]
    exact xw_iret dd_M_cursor_32 rfl ⟨rfl, rfl, ⟨_, A, H1, hV.thr, hS, rfl⟩, fr1⟩
theorem ct_M_read {s : Int32} (H : mo_at G h o K A) (hV : rV V K A) (hS : rS S A) (hcu : ∀ s, s < 3 → su_cur (S s) ≤ sv_hd V) : xa_T G mm_M_read 2 0 0 [.ref o, .int s] h sz (mqs G h sz o V (sw_read V S s) (some (.int (sw_read V S s).2.1))) := by
  refine xt_o ok_M_read rfl rfl ?_
  refine xw_aloadR_n dd_M_read_0 rfl ?_
  refine xw_iload_n dd_M_read_1 rfl ?_
  refine xw_cl0 (ct_M_is) iv_M_read_2 ok_M_is rfl rfl rfl ?_ (fun _ _ _ q => by cases q.1)
  rintro v h sz ⟨hv, rfl, rfl⟩
  cases hv
  by_cases hs : s < 0 ∨ 3 ≤ s
  · have hr : sw_read V S s = (1, 0, S) := by
      unfold sw_read
      rw [if_pos hs]
    rw [hr]
    rw [show zb (¬ (s < 0 ∨ 3 ≤ s)) = 0 from (zb_0 (fun q => q hs)).symm]
    refine xw_if_ne 12 dd_M_read_5 (by decide) (fun hc => absurd rfl hc) (fun hc => ?_)
    refine xw_iconst 1 dd_M_read_8 (by decide) ?_
    refine xw_goto 13 dd_M_read_9 (by decide) ?_
    refine xw_iconst 0 dd_M_read_13 (by decide) ?_
    refine xw_iconst 0 dd_M_read_14 (by decide) ?_
    refine xw_iconst 0 dd_M_read_15 (by decide) ?_
    refine xw_cl0 (ct_M_refused H) (iv_M_read_16 H.1) ok_M_refused rfl rfl rfl ?_ (fun _ _ _ q => by cases q.1)
    rintro v h1 z1 ⟨hv, rfl, H1, fr1⟩
    cases hv
    refine xw_if_eq 26 dd_M_read_19 (by decide) (fun hc => absurd hc (by decide)) (fun hc => ?_)
    refine xw_iconst 0 dd_M_read_22 (by decide) ?_
    refine xw_goto 37 dd_M_read_23 (by decide) ?_
    exact xw_iret dd_M_read_37 rfl ⟨rfl, rfl, ⟨_, A, H1, hV.thr, hS, rfl⟩, fr1⟩
  · rw [show zb (¬ (s < 0 ∨ 3 ≤ s)) = 1 from (zb_1 hs).symm]
    obtain ⟨k, hk, rfl⟩ := nI_of (fun q => hs (Or.inl q))
    have hk3 : k < 3 := (nI_ltI (b := 3) hk (by decide)).mp (Int32.not_le.mp (fun q => hs (Or.inr q)))
    have hsk : sk (nI k) = k := nI_clamp (by omega)
    have ix : vp_in (nI k) 3 := vp_in_nI hk3 (by decide)
    have hS1 := hS k hk3
    have hr : sw_read V S (nI k) = (0, (sv_read (sv_hd V) (sv_rg V) (su_cur (S k)) (su_mask (S k))).1, vw S k (sv_setC (sv_read (sv_hd V) (sv_rg V) (su_cur (S k)) (su_mask (S k))).2 (S k))) := by
      unfold sw_read
      rw [if_neg hs, hsk]
    rw [hr]
    refine xw_if_ne 12 dd_M_read_5 (by decide) (fun hc => ?_) (fun hc => absurd hc (by decide))
    refine xw_iconst 0 dd_M_read_12 (by decide) ?_
    refine xw_iconst 0 dd_M_read_13 (by decide) ?_
    refine xw_iconst 0 dd_M_read_14 (by decide) ?_
    refine xw_iconst 0 dd_M_read_15 (by decide) ?_
    refine xw_cl0 (ct_M_refused H) (iv_M_read_16 H.1) ok_M_refused rfl rfl rfl ?_ (fun _ _ _ q => by cases q.1)
    rintro v h1 z1 ⟨hv, rfl, H1, fr1⟩
    cases hv
    have hV1 : rV V (upd K 0 (nI 0)) A := hV.thr
    have H1' : mo_at G h1 o (upd K 0 (nI 0)) A := H1
    refine xw_if_eq 26 dd_M_read_19 (by decide) (fun hc => ?_) (fun hc => absurd rfl hc)
    refine xw_aloadR_n dd_M_read_26 rfl ?_
    refine xw_iload_n dd_M_read_27 rfl ?_
    refine xw_aloadR_n dd_M_read_28 rfl ?_
    refine xw_get fl_M_44 dd_M_read_29 H1'.1 rfl ?_
    refine xw_iload_n dd_M_read_32 rfl ?_
    refine xw_iald dd_M_read_33 (H1'.2.1 10 (by decide) (by decide)) ix ?_
    rw [nI_clamp (by omega), hS1.1.2.1]
    refine xw_cl0 (ct_M_readBy H1' hV1 hk3 hS1 (hcu k hk3)) (iv_M_read_34 H1'.1) ok_M_readBy rfl rfl rfl ?_ (fun _ _ _ q => by cases q.1)
    rintro v h2 z2 ⟨hv, rfl, ⟨A2, H2, on2, r2⟩, fr2⟩
    cases hv
    exact xw_iret dd_M_read_37 rfl ⟨rfl, rfl, ⟨_, A2, H2, hV1.onS on2, hS.st on2 r2, rfl⟩, fr1.trans fr2⟩
theorem ct_M_list {s : Int32} (H : mo_at G h o K A) (hV : rV V K A) (hS : rS S A) : xa_T G mm_M_list 1 0 0 [.ref o, .int s] h sz (mqs G h sz o V (sw_list V S s) none) := by
  refine xt_o ok_M_list rfl rfl ?_
  refine xw_aloadR_n dd_M_list_0 rfl ?_
  refine xw_iload_n dd_M_list_1 rfl ?_
  refine xw_cl0 (ct_M_is) iv_M_list_2 ok_M_is rfl rfl rfl ?_ (fun _ _ _ q => by cases q.1)
  rintro v h sz ⟨hv, rfl, rfl⟩
  cases hv
  by_cases hs : s < 0 ∨ 3 ≤ s
  · have hr : sw_list V S s = (1, 0, S) := by
      unfold sw_list
      rw [if_pos hs]
    rw [hr]
    rw [show zb (¬ (s < 0 ∨ 3 ≤ s)) = 0 from (zb_0 (fun q => q hs)).symm]
    refine xw_if_ne 12 dd_M_list_5 (by decide) (fun hc => absurd rfl hc) (fun hc => ?_)
    refine xw_iconst 1 dd_M_list_8 (by decide) ?_
    refine xw_goto 13 dd_M_list_9 (by decide) ?_
    refine xw_iconst 0 dd_M_list_13 (by decide) ?_
    refine xw_iconst 0 dd_M_list_14 (by decide) ?_
    refine xw_iconst 0 dd_M_list_15 (by decide) ?_
    refine xw_cl0 (ct_M_refused H) (iv_M_list_16 H.1) ok_M_refused rfl rfl rfl ?_ (fun _ _ _ q => by cases q.1)
    rintro v h1 z1 ⟨hv, rfl, H1, fr1⟩
    cases hv
    refine xw_if_ne 27 dd_M_list_19 (by decide) (fun hc => ?_) (fun hc => absurd hc (by decide))
    exact xw_vret dd_M_list_27 rfl ⟨rfl, rfl, ⟨_, A, H1, hV.thr, hS, rfl⟩, fr1⟩
  · rw [show zb (¬ (s < 0 ∨ 3 ≤ s)) = 1 from (zb_1 hs).symm]
    obtain ⟨k, hk, rfl⟩ := nI_of (fun q => hs (Or.inl q))
    have hk3 : k < 3 := (nI_ltI (b := 3) hk (by decide)).mp (Int32.not_le.mp (fun q => hs (Or.inr q)))
    have hsk : sk (nI k) = k := nI_clamp (by omega)
    have ix : vp_in (nI k) 3 := vp_in_nI hk3 (by decide)
    have hS1 := hS k hk3
    have hr : sw_list V S (nI k) = (0, 0, vw S k (sv_lst (sv_hd V) (S k))) := by
      unfold sw_list
      rw [if_neg hs, hsk]
    rw [hr]
    refine xw_if_ne 12 dd_M_list_5 (by decide) (fun hc => ?_) (fun hc => absurd hc (by decide))
    refine xw_iconst 0 dd_M_list_12 (by decide) ?_
    refine xw_iconst 0 dd_M_list_13 (by decide) ?_
    refine xw_iconst 0 dd_M_list_14 (by decide) ?_
    refine xw_iconst 0 dd_M_list_15 (by decide) ?_
    refine xw_cl0 (ct_M_refused H) (iv_M_list_16 H.1) ok_M_refused rfl rfl rfl ?_ (fun _ _ _ q => by cases q.1)
    rintro v h1 z1 ⟨hv, rfl, H1, fr1⟩
    cases hv
    have hV1 : rV V (upd K 0 (nI 0)) A := hV.thr
    have H1' : mo_at G h1 o (upd K 0 (nI 0)) A := H1
    refine xw_if_ne 27 dd_M_list_19 (by decide) (fun hc => absurd rfl hc) (fun hc => ?_)
    refine xw_aloadR_n dd_M_list_22 rfl ?_
    refine xw_iload_n dd_M_list_23 rfl ?_
    refine xw_cl0 (ct_M_beginList H1' hV1 hk3 hS1) (iv_M_list_24 H1'.1) ok_M_beginList rfl rfl rfl ?_ (fun _ _ _ q => by cases q.1)
    rintro v h2 z2 ⟨hv, rfl, ⟨A2, H2, on2, r2⟩, fr2⟩
    cases hv
    exact xw_vret dd_M_list_27 rfl ⟨rfl, rfl, ⟨_, A2, H2, hV1.onS on2, hS.st on2 r2, rfl⟩, fr1.trans fr2⟩
theorem ct_M_shown {s i : Int32} (H : mo_at G h o K A) (hV : rV V K A) (hS : rS S A) : xa_T G mm_M_shown 1 0 0 [.ref o, .int s, .int i] h sz (mqs G h sz o V (sw_shown S s i) (some (.int (sw_shown S s i).2.1))) := by
  refine xt_o ok_M_shown rfl rfl ?_
  refine xw_aloadR_n dd_M_shown_0 rfl ?_
  refine xw_iload_n dd_M_shown_1 rfl ?_
  refine xw_cl0 (ct_M_is) iv_M_shown_2 ok_M_is rfl rfl rfl ?_ (fun _ _ _ q => by cases q.1)
  rintro v h sz ⟨hv, rfl, rfl⟩
  cases hv
  by_cases hs : s < 0 ∨ 3 ≤ s
  · have hr : sw_shown S s i = (1, -1, S) := by
      unfold sw_shown
      rw [if_pos hs]
    rw [hr]
    rw [show zb (¬ (s < 0 ∨ 3 ≤ s)) = 0 from (zb_0 (fun q => q hs)).symm]
    refine xw_if_ne 12 dd_M_shown_5 (by decide) (fun hc => absurd rfl hc) (fun hc => ?_)
    refine xw_iconst 1 dd_M_shown_8 (by decide) ?_
    refine xw_goto 13 dd_M_shown_9 (by decide) ?_
    refine xw_iconst 0 dd_M_shown_13 (by decide) ?_
    refine xw_iconst 0 dd_M_shown_14 (by decide) ?_
    refine xw_iconst 0 dd_M_shown_15 (by decide) ?_
    refine xw_cl0 (ct_M_refused H) (iv_M_shown_16 H.1) ok_M_refused rfl rfl rfl ?_ (fun _ _ _ q => by cases q.1)
    rintro v h1 z1 ⟨hv, rfl, H1, fr1⟩
    cases hv
    refine xw_if_ne 31 dd_M_shown_19 (by decide) (fun hc => ?_) (fun hc => absurd hc (by decide))
    refine xw_iconst (-1) dd_M_shown_31 (by decide) ?_
    refine xw_goto 45 dd_M_shown_32 (by decide) ?_
    exact xw_iret dd_M_shown_45 rfl ⟨rfl, rfl, ⟨_, A, H1, hV.thr, hS, rfl⟩, fr1⟩
  · rw [show zb (¬ (s < 0 ∨ 3 ≤ s)) = 1 from (zb_1 hs).symm]
    obtain ⟨k, hk, rfl⟩ := nI_of (fun q => hs (Or.inl q))
    have hk3 : k < 3 := (nI_ltI (b := 3) hk (by decide)).mp (Int32.not_le.mp (fun q => hs (Or.inr q)))
    have hsk : sk (nI k) = k := nI_clamp (by omega)
    have ix : vp_in (nI k) 3 := vp_in_nI hk3 (by decide)
    have hS1 := hS k hk3
    refine xw_if_ne 12 dd_M_shown_5 (by decide) (fun hc => ?_) (fun hc => absurd hc (by decide))
    refine xw_iconst 0 dd_M_shown_12 (by decide) ?_
    refine xw_iconst 0 dd_M_shown_13 (by decide) ?_
    refine xw_iconst 0 dd_M_shown_14 (by decide) ?_
    refine xw_iconst 0 dd_M_shown_15 (by decide) ?_
    refine xw_cl0 (ct_M_refused H) (iv_M_shown_16 H.1) ok_M_refused rfl rfl rfl ?_ (fun _ _ _ q => by cases q.1)
    rintro v h1 z1 ⟨hv, rfl, H1, fr1⟩
    cases hv
    have H1' : mo_at G h1 o (upd K 0 (nI 0)) A := H1
    have bad : (i < 0 ∨ 4 ≤ i) → xa_W G mm_M_shown 1 0 0 31 [some (.ref o), some (.int (nI k)), some (.int i)] [] h1 z1 (mqs G h z1 o V (sw_shown S (nI k) i) (some (.int (sw_shown S (nI k) i).2.1))) := by
      intro hb
      have hr : sw_shown S (nI k) i = (0, -1, S) := by
        unfold sw_shown
        rw [if_neg hs, if_pos hb]
      rw [hr]
      refine xw_iconst (-1) dd_M_shown_31 (by decide) ?_
      refine xw_goto 45 dd_M_shown_32 (by decide) ?_
      exact xw_iret dd_M_shown_45 rfl ⟨rfl, rfl, ⟨_, A, H1, hV.thr, hS, rfl⟩, fr1⟩
    refine xw_if_ne 31 dd_M_shown_19 (by decide) (fun hc => absurd rfl hc) (fun hc => ?_)
    refine xw_iload_n dd_M_shown_22 rfl ?_
    refine xw_if_lt 31 dd_M_shown_23 (by decide) (fun hc => bad (Or.inl hc)) (fun hc => ?_)
    refine xw_iload_n dd_M_shown_26 rfl ?_
    refine xw_iconst 3 dd_M_shown_27 (by decide) ?_
    refine xw_icmp_le 35 dd_M_shown_28 (by decide) (fun hc2 => ?_) (fun hc2 => bad (Or.inr ?_))
    · obtain ⟨j, hj, rfl⟩ := nI_of hc
      have hj4 : j ≤ 3 := (nI_leI (b := 3) hj (by decide)).mp hc2
      have hnb : ¬ (nI j < 0 ∨ 4 ≤ nI j) := fun q => q.elim hc (fun q => by
        have := (nI_leI (a := 4) (b := j) (by decide) hj).mp q
        omega)
      have hr : sw_shown S (nI k) (nI j) = (0, su_pg (S k) j, S) := by
        unfold sw_shown
        rw [if_neg hs, if_neg hnb, hsk, nI_clamp (by omega)]
      rw [hr]
      refine xw_aloadR_n dd_M_shown_35 rfl ?_
      refine xw_get fl_M_54 dd_M_shown_36 H1'.1 rfl ?_
      refine xw_iconst 4 dd_M_shown_39 (by decide) ?_
      refine xw_iload_n dd_M_shown_40 rfl ?_
      refine xw_imul dd_M_shown_41 ?_
      rw [show (4 : Int32) * nI k = nI (4 * k) from pk_mul 4 k]
      refine xw_iload_n dd_M_shown_42 rfl ?_
      refine xw_iadd dd_M_shown_43 ?_
      rw [nI_add]
      refine xw_iald dd_M_shown_44 (H1'.2.1 13 (by decide) (by decide)) (vp_in_nI (show 4 * k + j < 12 by omega) (by decide)) ?_
      rw [nI_clamp (by omega), hS1.1.2.2.2.2 j (by omega)]
      exact xw_iret dd_M_shown_45 rfl ⟨rfl, rfl, ⟨_, A, H1, hV.thr, hS, rfl⟩, fr1⟩
    · rcases nI_of hc with ⟨j, hj, rfl⟩
      have hj4 : ¬ j ≤ 3 := fun q => hc2 (nI_le (b := 3) q (by decide))
      exact nI_le (a := 4) (b := j) (by omega) hj
theorem ct_M_subscribe {s mask : Int32} (H : mo_at G h o K A) (hV : rV V K A) (hS : rS S A) : xa_T G mm_M_subscribe 1 0 0 [.ref o, .int s, .int mask] h sz (mqs G h sz o V (sw_subscribe V S s mask) none) := by
  refine xt_o ok_M_subscribe rfl rfl ?_
  refine xw_aloadR_n dd_M_subscribe_0 rfl ?_
  refine xw_iload_n dd_M_subscribe_1 rfl ?_
  refine xw_cl0 (ct_M_is) iv_M_subscribe_2 ok_M_is rfl rfl rfl ?_ (fun _ _ _ q => by cases q.1)
  rintro v h sz ⟨hv, rfl, rfl⟩
  cases hv
  by_cases hs : s < 0 ∨ 3 ≤ s
  · have hr : sw_subscribe V S s mask = (1, 0, S) := by
      unfold sw_subscribe
      rw [if_pos hs]
    rw [hr]
    rw [show zb (¬ (s < 0 ∨ 3 ≤ s)) = 0 from (zb_0 (fun q => q hs)).symm]
    refine xw_if_ne 12 dd_M_subscribe_5 (by decide) (fun hc => absurd rfl hc) (fun hc => ?_)
    refine xw_iconst 1 dd_M_subscribe_8 (by decide) ?_
    refine xw_goto 13 dd_M_subscribe_9 (by decide) ?_
    refine xw_iload_n dd_M_subscribe_13 rfl ?_
    refine xw_dia (pj := 28) (stj := [.int 1, .ref o]) (Lj := [some (.ref o), some (.int s), some (.int mask), none]) (.int (zb (mask < 0 ∨ 127 < mask))) ?_ (fun meet => ?_)
    · refine xw_iconst 0 dd_M_subscribe_28 (by decide) ?_
      refine xw_iconst 0 dd_M_subscribe_29 (by decide) ?_
      refine xw_cl0 (ct_M_refused H) (iv_M_subscribe_30 H.1) ok_M_refused rfl rfl rfl ?_ (fun _ _ _ q => by cases q.1)
      rintro v h1 z1 ⟨hv, rfl, H1, fr1⟩
      cases hv
      have hmd : md_c 1 (zb (mask < 0 ∨ 127 < mask)) 0 0 = 1 := rfl
      rw [hmd] at H1 ⊢
      refine xw_if_ne 84 dd_M_subscribe_33 (by decide) (fun hc => ?_) (fun hc => absurd hc (by decide))
      exact xw_vret dd_M_subscribe_84 rfl ⟨rfl, rfl, ⟨_, A, H1, hV.thr, hS, rfl⟩, fr1⟩
    · refine xw_if_lt 23 dd_M_subscribe_14 (by decide) (fun hc => ?_) (fun hc => ?_)
      · refine xw_iconst 1 dd_M_subscribe_23 (by decide) ?_
        refine xw_goto 28 dd_M_subscribe_24 (by decide) ?_
        exact meet _ (congrArg Value.int (zb_1 (Or.inl hc)))
      · refine xw_iload_n dd_M_subscribe_17 rfl ?_
        refine xw_bipush 127 dd_M_subscribe_18 (by decide) ?_
        refine xw_icmp_le 27 dd_M_subscribe_20 (by decide) (fun hc2 => ?_) (fun hc2 => ?_)
        · refine xw_iconst 0 dd_M_subscribe_27 (by decide) ?_
          exact meet _ (congrArg Value.int (zb_0 (fun q => q.elim hc (fun q => Int32.not_lt.mpr hc2 q))))
        · refine xw_iconst 1 dd_M_subscribe_23 (by decide) ?_
          refine xw_goto 28 dd_M_subscribe_24 (by decide) ?_
          exact meet _ (congrArg Value.int (zb_1 (Or.inr (Int32.not_le.mp hc2))))
  · rw [show zb (¬ (s < 0 ∨ 3 ≤ s)) = 1 from (zb_1 hs).symm]
    obtain ⟨k, hk, rfl⟩ := nI_of (fun q => hs (Or.inl q))
    have hk3 : k < 3 := (nI_ltI (b := 3) hk (by decide)).mp (Int32.not_le.mp (fun q => hs (Or.inr q)))
    have hsk : sk (nI k) = k := nI_clamp (by omega)
    have ix : vp_in (nI k) 3 := vp_in_nI hk3 (by decide)
    have hS1 := hS k hk3
    refine xw_if_ne 12 dd_M_subscribe_5 (by decide) (fun hc => ?_) (fun hc => absurd hc (by decide))
    refine xw_iconst 0 dd_M_subscribe_12 (by decide) ?_
    refine xw_iload_n dd_M_subscribe_13 rfl ?_
    refine xw_dia (pj := 28) (stj := [.int 0, .ref o]) (Lj := [some (.ref o), some (.int (nI k)), some (.int mask), none]) (.int (zb (mask < 0 ∨ 127 < mask))) ?_ (fun meet => ?_)
    · refine xw_iconst 0 dd_M_subscribe_28 (by decide) ?_
      refine xw_iconst 0 dd_M_subscribe_29 (by decide) ?_
      refine xw_cl0 (ct_M_refused H) (iv_M_subscribe_30 H.1) ok_M_refused rfl rfl rfl ?_ (fun _ _ _ q => by cases q.1)
      rintro v h1 z1 ⟨hv, rfl, H1, fr1⟩
      cases hv
      by_cases hm : mask < 0 ∨ 127 < mask
      · have hr : sw_subscribe V S (nI k) mask = (2, 0, S) := by
          unfold sw_subscribe
          rw [if_neg hs, if_pos hm]
        rw [hr]
        have hmd : md_c 0 (zb (mask < 0 ∨ 127 < mask)) 0 0 = 2 := by
          rw [← zb_1 hm]
          rfl
        rw [hmd] at H1 ⊢
        refine xw_if_ne 84 dd_M_subscribe_33 (by decide) (fun hc => ?_) (fun hc => absurd hc (by decide))
        exact xw_vret dd_M_subscribe_84 rfl ⟨rfl, rfl, ⟨_, A, H1, hV.thr, hS, rfl⟩, fr1⟩
      · have hr : sw_subscribe V S (nI k) mask = (0, 0, vw S k (sv_sub (sv_hd V) mask (S k))) := by
          unfold sw_subscribe
          rw [if_neg hs, if_neg hm, hsk]
        rw [hr]
        have hmd : md_c 0 (zb (mask < 0 ∨ 127 < mask)) 0 0 = 0 := by
          rw [← zb_0 hm]
          rfl
        rw [hmd] at H1 ⊢
        have hV1 : rV V (upd K 0 (nI 0)) A := hV.thr
        refine xw_if_ne 84 dd_M_subscribe_33 (by decide) (fun hc => absurd rfl hc) (fun hc => ?_)
        refine xw_aloadR_n dd_M_subscribe_36 rfl ?_
        refine xw_get fl_M_44 dd_M_subscribe_37 H1.1 rfl ?_
        refine xw_iload_n dd_M_subscribe_40 rfl ?_
        refine xw_iload_n dd_M_subscribe_41 rfl ?_
        refine xw_iastA dd_M_subscribe_42 (H1.2.1 10 (by decide) (by decide)) ix (by have := H.2.2; omega) (fun h2 n2 fn2 => ?_)
        rw [nI_clamp (by omega)] at n2
        obtain ⟨H2, fr2⟩ := H1.setA (i := 10) (by decide) n2 fn2
        refine xw_aloadR_n dd_M_subscribe_43 rfl ?_
        refine xw_get fl_M_41 dd_M_subscribe_44 H2.1 rfl ?_
        refine xw_iload_n dd_M_subscribe_47 rfl ?_
        refine xw_aloadR_n dd_M_subscribe_48 rfl ?_
        refine xw_get fl_M_25 dd_M_subscribe_49 H2.1 rfl ?_
        rw [show upd K 0 (nI 0) 8 = nI (sv_hd V) from hV.2.1.1]
        refine xw_iastA dd_M_subscribe_52 (show h2 (o + 9) = some (.inl (0, (3, .inl (A 9)))) from H2.2.1 9 (by decide) (by decide)) ix (by have := H.2.2; omega) (fun h3 n3 fn3 => ?_)
        rw [nI_clamp (by omega)] at n3
        obtain ⟨H3, fr3⟩ := H2.setA (i := 9) (f := upd (A 9) k (nI (sv_hd V))) (by decide) n3 fn3
        refine xw_aloadR_n dd_M_subscribe_53 rfl ?_
        refine xw_get fl_M_47 dd_M_subscribe_54 H3.1 rfl ?_
        refine xw_iload_n dd_M_subscribe_57 rfl ?_
        refine xw_iconst 0 dd_M_subscribe_58 (by decide) ?_
        refine xw_zastA rfl dd_M_subscribe_59 (show h3 (o + 11) = some (.inl (2, (3, .inl (A 11)))) from H3.2.1 11 (by decide) (by decide)) ix (by have := H.2.2; omega) (fun h4 n4 fn4 => ?_)
        rw [nI_clamp (by omega)] at n4
        obtain ⟨H4, fr4⟩ := H3.setA (i := 11) (f := upd (A 11) k 0) (by decide) n4 fn4
        refine xw_iconst 0 dd_M_subscribe_60 (by decide) ?_
        refine xw_istore_n dd_M_subscribe_61 (by decide) ?_
        refine xw_iload_n dd_M_subscribe_62 rfl ?_
        refine xw_iconst 4 dd_M_subscribe_63 (by decide) ?_
        refine xw_icmp_ge 84 dd_M_subscribe_64 (by decide) (fun hc => absurd hc (by decide)) (fun hc => ?_)
        refine xw_aloadR_n dd_M_subscribe_67 rfl ?_
        refine xw_get fl_M_54 dd_M_subscribe_68 H4.1 rfl ?_
        refine xw_iconst 4 dd_M_subscribe_71 (by decide) ?_
        refine xw_iload_n dd_M_subscribe_72 rfl ?_
        refine xw_imul dd_M_subscribe_73 ?_
        rw [show (4 : Int32) * nI k = nI (4 * k) from pk_mul 4 k]
        refine xw_iload_n dd_M_subscribe_74 rfl ?_
        refine xw_iadd dd_M_subscribe_75 ?_
        rw [show nI (4 * k) + 0 = nI (4 * k + 0) from nI_add (4 * k) 0]
        refine xw_iconst (-1) dd_M_subscribe_76 (by decide) ?_
        refine xw_iastA dd_M_subscribe_77 (show h4 (o + 13) = some (.inl (0, (12, .inl (A 13)))) from H4.2.1 13 (by decide) (by decide)) (vp_in_nI (show 4 * k + 0 < 12 by omega) (by decide)) (by have := H.2.2; omega) (fun h5 n5 fn5 => ?_)
        rw [nI_clamp (by omega)] at n5
        obtain ⟨H5, fr5⟩ := H4.setA (i := 13) (f := upd (A 13) (4 * k + 0) (-1)) (by decide) n5 fn5
        refine xw_iinc dd_M_subscribe_78 rfl (show (0 : Int32) + Int32.ofInt 1 = 1 by decide) (by decide) ?_
        refine xw_goto 62 dd_M_subscribe_81 (by decide) ?_
        refine xw_iload_n dd_M_subscribe_62 rfl ?_
        refine xw_iconst 4 dd_M_subscribe_63 (by decide) ?_
        refine xw_icmp_ge 84 dd_M_subscribe_64 (by decide) (fun hc => absurd hc (by decide)) (fun hc => ?_)
        refine xw_aloadR_n dd_M_subscribe_67 rfl ?_
        refine xw_get fl_M_54 dd_M_subscribe_68 H5.1 rfl ?_
        refine xw_iconst 4 dd_M_subscribe_71 (by decide) ?_
        refine xw_iload_n dd_M_subscribe_72 rfl ?_
        refine xw_imul dd_M_subscribe_73 ?_
        rw [show (4 : Int32) * nI k = nI (4 * k) from pk_mul 4 k]
        refine xw_iload_n dd_M_subscribe_74 rfl ?_
        refine xw_iadd dd_M_subscribe_75 ?_
        rw [show nI (4 * k) + 1 = nI (4 * k + 1) from nI_add (4 * k) 1]
        refine xw_iconst (-1) dd_M_subscribe_76 (by decide) ?_
        refine xw_iastA dd_M_subscribe_77 (show h5 (o + 13) = some (.inl (0, (12, .inl (upd (A 13) (4 * k + 0) (-1))))) from H5.2.1 13 (by decide) (by decide)) (vp_in_nI (show 4 * k + 1 < 12 by omega) (by decide)) (by have := H.2.2; omega) (fun h6 n6 fn6 => ?_)
        rw [nI_clamp (by omega)] at n6
        obtain ⟨H6, fr6⟩ := H5.setA (i := 13) (f := upd (upd (A 13) (4 * k + 0) (-1)) (4 * k + 1) (-1)) (by decide) n6 fn6
        refine xw_iinc dd_M_subscribe_78 rfl (show (1 : Int32) + Int32.ofInt 1 = 2 by decide) (by decide) ?_
        refine xw_goto 62 dd_M_subscribe_81 (by decide) ?_
        refine xw_iload_n dd_M_subscribe_62 rfl ?_
        refine xw_iconst 4 dd_M_subscribe_63 (by decide) ?_
        refine xw_icmp_ge 84 dd_M_subscribe_64 (by decide) (fun hc => absurd hc (by decide)) (fun hc => ?_)
        refine xw_aloadR_n dd_M_subscribe_67 rfl ?_
        refine xw_get fl_M_54 dd_M_subscribe_68 H6.1 rfl ?_
        refine xw_iconst 4 dd_M_subscribe_71 (by decide) ?_
        refine xw_iload_n dd_M_subscribe_72 rfl ?_
        refine xw_imul dd_M_subscribe_73 ?_
        rw [show (4 : Int32) * nI k = nI (4 * k) from pk_mul 4 k]
        refine xw_iload_n dd_M_subscribe_74 rfl ?_
        refine xw_iadd dd_M_subscribe_75 ?_
        rw [show nI (4 * k) + 2 = nI (4 * k + 2) from nI_add (4 * k) 2]
        refine xw_iconst (-1) dd_M_subscribe_76 (by decide) ?_
        refine xw_iastA dd_M_subscribe_77 (show h6 (o + 13) = some (.inl (0, (12, .inl (upd (upd (A 13) (4 * k + 0) (-1)) (4 * k + 1) (-1))))) from H6.2.1 13 (by decide) (by decide)) (vp_in_nI (show 4 * k + 2 < 12 by omega) (by decide)) (by have := H.2.2; omega) (fun h7 n7 fn7 => ?_)
        rw [nI_clamp (by omega)] at n7
        obtain ⟨H7, fr7⟩ := H6.setA (i := 13) (f := upd (upd (upd (A 13) (4 * k + 0) (-1)) (4 * k + 1) (-1)) (4 * k + 2) (-1)) (by decide) n7 fn7
        refine xw_iinc dd_M_subscribe_78 rfl (show (2 : Int32) + Int32.ofInt 1 = 3 by decide) (by decide) ?_
        refine xw_goto 62 dd_M_subscribe_81 (by decide) ?_
        refine xw_iload_n dd_M_subscribe_62 rfl ?_
        refine xw_iconst 4 dd_M_subscribe_63 (by decide) ?_
        refine xw_icmp_ge 84 dd_M_subscribe_64 (by decide) (fun hc => absurd hc (by decide)) (fun hc => ?_)
        refine xw_aloadR_n dd_M_subscribe_67 rfl ?_
        refine xw_get fl_M_54 dd_M_subscribe_68 H7.1 rfl ?_
        refine xw_iconst 4 dd_M_subscribe_71 (by decide) ?_
        refine xw_iload_n dd_M_subscribe_72 rfl ?_
        refine xw_imul dd_M_subscribe_73 ?_
        rw [show (4 : Int32) * nI k = nI (4 * k) from pk_mul 4 k]
        refine xw_iload_n dd_M_subscribe_74 rfl ?_
        refine xw_iadd dd_M_subscribe_75 ?_
        rw [show nI (4 * k) + 3 = nI (4 * k + 3) from nI_add (4 * k) 3]
        refine xw_iconst (-1) dd_M_subscribe_76 (by decide) ?_
        refine xw_iastA dd_M_subscribe_77 (show h7 (o + 13) = some (.inl (0, (12, .inl (upd (upd (upd (A 13) (4 * k + 0) (-1)) (4 * k + 1) (-1)) (4 * k + 2) (-1))))) from H7.2.1 13 (by decide) (by decide)) (vp_in_nI (show 4 * k + 3 < 12 by omega) (by decide)) (by have := H.2.2; omega) (fun h8 n8 fn8 => ?_)
        rw [nI_clamp (by omega)] at n8
        obtain ⟨H8, fr8⟩ := H7.setA (i := 13) (f := upd (upd (upd (upd (A 13) (4 * k + 0) (-1)) (4 * k + 1) (-1)) (4 * k + 2) (-1)) (4 * k + 3) (-1)) (by decide) n8 fn8
        refine xw_iinc dd_M_subscribe_78 rfl (show (3 : Int32) + Int32.ofInt 1 = 4 by decide) (by decide) ?_
        refine xw_goto 62 dd_M_subscribe_81 (by decide) ?_
        refine xw_iload_n dd_M_subscribe_62 rfl ?_
        refine xw_iconst 4 dd_M_subscribe_63 (by decide) ?_
        refine xw_icmp_ge 84 dd_M_subscribe_64 (by decide) (fun hc => ?_) (fun hc => absurd (by decide) hc)
        have on : onS k A _ := (((((((onS_1 A mask (by omega)).trans (onS_1 (uA A 10 (upd (A 10) k mask)) (nI (sv_hd V)) (by omega))).trans (onS_1 (uA (uA A 10 (upd (A 10) k mask)) 9 (upd (A 9) k (nI (sv_hd V)))) 0 (by omega))).trans (onS_p (s := k) (k := 0) (uA (uA (uA A 10 (upd (A 10) k mask)) 9 (upd (A 9) k (nI (sv_hd V)))) 11 (upd (A 11) k 0)) (-1) (by decide))).trans (onS_p (s := k) (k := 1) (uA (uA (uA (uA A 10 (upd (A 10) k mask)) 9 (upd (A 9) k (nI (sv_hd V)))) 11 (upd (A 11) k 0)) 13 (upd (A 13) (4 * k + 0) (-1))) (-1) (by decide))).trans (onS_p (s := k) (k := 2) (uA (uA (uA (uA (uA A 10 (upd (A 10) k mask)) 9 (upd (A 9) k (nI (sv_hd V)))) 11 (upd (A 11) k 0)) 13 (upd (A 13) (4 * k + 0) (-1))) 13 (upd (upd (A 13) (4 * k + 0) (-1)) (4 * k + 1) (-1))) (-1) (by decide))).trans (onS_p (s := k) (k := 3) (uA (uA (uA (uA (uA (uA A 10 (upd (A 10) k mask)) 9 (upd (A 9) k (nI (sv_hd V)))) 11 (upd (A 11) k 0)) 13 (upd (A 13) (4 * k + 0) (-1))) 13 (upd (upd (A 13) (4 * k + 0) (-1)) (4 * k + 1) (-1))) 13 (upd (upd (upd (A 13) (4 * k + 0) (-1)) (4 * k + 1) (-1)) (4 * k + 2) (-1))) (-1) (by decide)))
        refine xw_vret dd_M_subscribe_84 rfl ⟨rfl, rfl, ⟨_, _, H8, hV1.onS on, hS.st on (hS1.cp rfl rfl (fun q a b => ?_) ⟨pk_us, pk_us, pk_us, hS1.1.2.2.2.1, fun j hj => ?_⟩), rfl⟩, fr1.trans (fr2.trans (fr3.trans (fr4.trans (fr5.trans (fr6.trans (fr7.trans fr8))))))⟩
        · rw [uA_n _ _ (by omega), uA_n _ _ (by omega), uA_n _ _ (by omega), uA_n _ _ (by omega), uA_n _ _ (by omega), uA_n _ _ (by omega), uA_n _ _ (by omega)]
        · rw [uA_s]
          show _ = if j < 4 then -1 else _
          rw [if_pos hj]
          rcases (show j = 0 ∨ j = 1 ∨ j = 2 ∨ j = 3 by omega) with rfl | rfl | rfl | rfl
          · rw [pk_un (by omega), pk_un (by omega), pk_un (by omega)]
            exact pk_us
          · rw [pk_un (by omega), pk_un (by omega)]
            exact pk_us
          · rw [pk_un (by omega)]
            exact pk_us
          · exact pk_us
    · refine xw_if_lt 23 dd_M_subscribe_14 (by decide) (fun hc => ?_) (fun hc => ?_)
      · refine xw_iconst 1 dd_M_subscribe_23 (by decide) ?_
        refine xw_goto 28 dd_M_subscribe_24 (by decide) ?_
        exact meet _ (congrArg Value.int (zb_1 (Or.inl hc)))
      · refine xw_iload_n dd_M_subscribe_17 rfl ?_
        refine xw_bipush 127 dd_M_subscribe_18 (by decide) ?_
        refine xw_icmp_le 27 dd_M_subscribe_20 (by decide) (fun hc2 => ?_) (fun hc2 => ?_)
        · refine xw_iconst 0 dd_M_subscribe_27 (by decide) ?_
          exact meet _ (congrArg Value.int (zb_0 (fun q => q.elim hc (fun q => Int32.not_lt.mpr hc2 q))))
        · refine xw_iconst 1 dd_M_subscribe_23 (by decide) ?_
          refine xw_goto 28 dd_M_subscribe_24 (by decide) ?_
          exact meet _ (congrArg Value.int (zb_1 (Or.inr (Int32.not_le.mp hc2))))
end SB
