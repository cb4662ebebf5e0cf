/-! the law: its loop, its entry (by program: wip/whole/mk71.py) -/
theorem lw_gt {n m : Nat} (hn : n ≤ 2048) (hm : 4 * m ≤ 4096) (h : n < 4 * m + 4) : nI n - 4 < nI (4 * m) := by
  by_cases h4 : 4 ≤ n
  · rw [show nI n - 4 = nI (n - 4) from pk_sub (a := n) (b := 4) (by omega)]
    exact nI_lt (by omega) (by omega)
  · have h0 : (0 : Int32) ≤ nI (4 * m) := nI_pos' (by omega)
    rcases (show n = 0 ∨ n = 1 ∨ n = 2 ∨ n = 3 by omega) with rfl | rfl | rfl | rfl
    · exact Int32.lt_of_lt_of_le (by decide) h0
    · exact Int32.lt_of_lt_of_le (by decide) h0
    · exact Int32.lt_of_lt_of_le (by decide) h0
    · exact Int32.lt_of_lt_of_le (by decide) h0
section LC
variable {G : xa_G} {x b0 n : Nat} {xs : Nat → Int32}
theorem lw_loop (hn : n ≤ 2048) : ∀ (r m : Nat) (h : xa_H) (sz : Nat) (V : sv_V) (S : Nat → sv_S) (K : Nat → Int32) (A : Nat → Nat → Int32) (f : Nat → Int64) (o5 o6 : Option Value), m + r = n / 4 → LI G x b0 n xs m h V S K A f → xa_W G mm_L_law 14 (200 * r) (4000 * r) 23 [some (.ref b0), some (.ref x), some (.ref (x + 20)), some (.ref (x + 42)), some (.int (nI (4 * m))), o5, o6] [] h sz (fun o' _ _ => o' = .returned (some (.int 1))) := by
  intro r
  induction r with
  | zero =>
    intro m h sz V S K A f o5 o6 hmr I
    have H0 := I.1
    refine xw_iload dd_L_law_23 rfl ?_
    refine xw_aloadR_n dd_L_law_25 rfl ?_
    refine xw_alen (t := 0) rfl dd_L_law_26 H0.2.2.2.1 ?_
    refine xw_iconst 4 dd_L_law_27 (by decide) ?_
    refine xw_isub dd_L_law_28 ?_
    refine xw_icmp_gt 1337 dd_L_law_29 (by decide) (fun hc => ?_) (fun hc => absurd (lw_gt (n := n) (m := m) hn (by omega) (by omega)) hc)
    refine xw_iconst 1 dd_L_law_1337 (by decide) ?_
    exact xw_zret dd_L_law_1338 rfl rfl rfl
  | succ r ih =>
    intro m h sz V S K A f o5 o6 hmr I
    have H0 := I.1
    have hmn : 4 * m + 4 ≤ n := by omega
    have back : ∀ (h1 : xa_H) (z1 : Nat) (V1 : sv_V) (S1 : Nat → sv_S) (K1 : Nat → Int32) (A1 : Nat → Nat → Int32) (f1 : Nat → Int64) (p5 p6 : Option Value), LI G x b0 n xs (m + 1) h1 V1 S1 K1 A1 f1 → xa_W G mm_L_law 14 (200 * r) (4000 * r) 1331 [some (.ref b0), some (.ref x), some (.ref (x + 20)), some (.ref (x + 42)), some (.int (nI (4 * m))), p5, p6] [] h1 z1 (fun o' _ _ => o' = .returned (some (.int 1))) := by
      intro h1 z1 V1 S1 K1 A1 f1 p5 p6 J
      refine xw_iinc dd_L_law_1331 rfl (show nI (4 * m) + Int32.ofInt 4 = nI (4 * (m + 1)) from nI_add (4 * m) 4) (by decide) ?_
      refine xw_goto 23 dd_L_law_1334 (by decide) ?_
      exact ih (m + 1) h1 z1 V1 S1 K1 A1 f1 p5 p6 (by omega) J
    refine xw_less (kc' := 200 * r + 200) (ks' := 4000 * r + 4000) (by omega) (by omega) ?_
    refine xw_iload dd_L_law_23 rfl ?_
    refine xw_aloadR_n dd_L_law_25 rfl ?_
    refine xw_alen (t := 0) rfl dd_L_law_26 H0.2.2.2.1 ?_
    refine xw_iconst 4 dd_L_law_27 (by decide) ?_
    refine xw_isub dd_L_law_28 ?_
    rw [show nI (n, (Sum.inl xs : (Nat → Int32) ⊕ _)).1 - 4 = nI (n - 4) from pk_sub (a := n) (b := 4) (by omega)]
    refine xw_icmp_gt 1337 dd_L_law_29 (by decide) (fun hc => absurd hc (nI_nlt (by omega) (by omega))) (fun hc => ?_)
    refine xw_aloadR_n dd_L_law_32 rfl ?_
    refine xw_iload dd_L_law_33 rfl ?_
    refine xw_iald dd_L_law_35 H0.2.2.2.1 (vp_in_nI (show 4 * m < n by omega) (by omega)) ?_
    rw [nI_clamp (by omega)]
    refine xw_bipush 31 dd_L_law_36 (by decide) ?_
    refine xw_iand dd_L_law_38 ?_
    have out : ((xs (4 * m) &&& 31).toInt < 0 ∨ 23 < (xs (4 * m) &&& 31).toInt) → xa_W G mm_L_law 14 (200 * r + 200) (4000 * r + 4000) 39 [some (.ref b0), some (.ref x), some (.ref (x + 20)), some (.ref (x + 42)), some (.int (nI (4 * m))), o5, o6] [.int (xs (4 * m) &&& 31)] h sz (fun o' _ _ => o' = .returned (some (.int 1))) := by
      intro hx
      refine xw_less (kc' := 200 * r) (ks' := 4000 * r) (by omega) (by omega) ?_
      refine xw_tableOut 1331 dd_L_law_39 hx (by decide) ?_
      exact back _ _ _ _ _ _ _ _ _ ⟨H0, I.2.1, I.2.2.1, I.2.2.2.1.up, I.2.2.2.2⟩
    generalize xs (4 * m) &&& 31 = t at out ⊢
    by_cases h0 : t < 0
    · exact out (Or.inl (by
        have := Int32.lt_iff_toInt_lt.mp h0
        simpa using this))
    · obtain ⟨k, hk, rfl⟩ := nI_of h0
      by_cases h23 : k ≤ 23
      · clear out h0
        rcases (show k = 0 ∨ k = 1 ∨ k = 2 ∨ k = 3 ∨ k = 4 ∨ k = 5 ∨ k = 6 ∨ k = 7 ∨ k = 8 ∨ k = 9 ∨ k = 10 ∨ k = 11 ∨ k = 12 ∨ k = 13 ∨ k = 14 ∨ k = 15 ∨ k = 16 ∨ k = 17 ∨ k = 18 ∨ k = 19 ∨ k = 20 ∨ k = 21 ∨ k = 22 ∨ k = 23 by omega) with rfl | rfl | rfl | rfl | rfl | rfl | rfl | rfl | rfl | rfl | rfl | rfl | rfl | rfl | rfl | rfl | rfl | rfl | rfl | rfl | rfl | rfl | rfl | rfl
        · refine xw_tableIn 148 dd_L_law_39 (by decide) (by decide) rfl (by decide) ?_
          exact lw_make hn hmn I back
        · refine xw_tableIn 244 dd_L_law_39 (by decide) (by decide) rfl (by decide) ?_
          exact lw_change hn hmn I back
        · refine xw_tableIn 300 dd_L_law_39 (by decide) (by decide) rfl (by decide) ?_
          exact lw_rename hn hmn I back
        · refine xw_tableIn 387 dd_L_law_39 (by decide) (by decide) rfl (by decide) ?_
          exact lw_remove hn hmn I back
        · refine xw_tableIn 450 dd_L_law_39 (by decide) (by decide) rfl (by decide) ?_
          exact lw_close hn hmn I back
        · refine xw_tableIn 513 dd_L_law_39 (by decide) (by decide) rfl (by decide) ?_
          exact lw_open hn hmn I back
        · refine xw_tableIn 526 dd_L_law_39 (by decide) (by decide) rfl (by decide) ?_
          exact lw_of hn hmn I back
        · refine xw_tableIn 594 dd_L_law_39 (by decide) (by decide) rfl (by decide) ?_
          exact lw_find hn hmn I back
        · refine xw_tableIn 631 dd_L_law_39 (by decide) (by decide) rfl (by decide) ?_
          exact lw_live hn hmn I back
        · refine xw_tableIn 644 dd_L_law_39 (by decide) (by decide) rfl (by decide) ?_
          exact lw_tail hn hmn I back
        · refine xw_tableIn 657 dd_L_law_39 (by decide) (by decide) rfl (by decide) ?_
          exact lw_head hn hmn I back
        · refine xw_tableIn 670 dd_L_law_39 (by decide) (by decide) rfl (by decide) ?_
          exact lw_note hn hmn I back
        · refine xw_tableIn 738 dd_L_law_39 (by decide) (by decide) rfl (by decide) ?_
          exact lw_subscribe hn hmn I back
        · refine xw_tableIn 786 dd_L_law_39 (by decide) (by decide) rfl (by decide) ?_
          exact lw_cursor hn hmn I back
        · refine xw_tableIn 842 dd_L_law_39 (by decide) (by decide) rfl (by decide) ?_
          exact lw_read hn hmn I back
        · refine xw_tableIn 898 dd_L_law_39 (by decide) (by decide) rfl (by decide) ?_
          exact lw_list hn hmn I back
        · refine xw_tableIn 934 dd_L_law_39 (by decide) (by decide) rfl (by decide) ?_
          exact lw_page hn hmn I back
        · refine xw_tableIn 990 dd_L_law_39 (by decide) (by decide) rfl (by decide) ?_
          exact lw_shown hn hmn I back
        · refine xw_tableIn 1058 dd_L_law_39 (by decide) (by decide) rfl (by decide) ?_
          exact lw_follow hn hmn I back
        · refine xw_tableIn 1126 dd_L_law_39 (by decide) (by decide) rfl (by decide) ?_
          exact lw_copied hn hmn I back
        · refine xw_tableIn 1206 dd_L_law_39 (by decide) (by decide) rfl (by decide) ?_
          exact lw_inStep hn hmn I back
        · refine xw_tableIn 1269 dd_L_law_39 (by decide) (by decide) rfl (by decide) ?_
          exact lw_cutAfter hn hmn I back
        · refine xw_tableIn 1305 dd_L_law_39 (by decide) (by decide) rfl (by decide) ?_
          exact lw_start hn hmn I back
        · refine xw_tableIn 1318 dd_L_law_39 (by decide) (by decide) rfl (by decide) ?_
          exact lw_isOn hn hmn I back
      · refine out (Or.inr ?_)
        have := Int32.lt_iff_toInt_lt.mp (nI_lt (a := 23) (b := k) (by omega) hk)
        have e : (nI 23).toInt = 23 := by decide
        omega
theorem xw_lnewA {G : xa_G} {M : xa_M} {dp kc ks pc : Nat} {L : List (Option Value)} {st : List Value} {h : xa_H} {sz : Nat} {Q : Outcome → xa_H → Nat → Prop} {N : Nat} {n : Int32} (hd : decode M.2.1 pc = .ok (.newarray .long, 2)) (hn : ¬ n < 0) (hN : n.toNatClampNeg = N) (hby : N * 8 ≤ 536870912) (kk : ∀ h1 : xa_H, h1 sz = some (.inl (1, (N, .inr (.inl (fun _ => 0))))) → (∀ b, b ≠ sz → h1 b = h b) → xa_W G M dp kc ks (pc + 2) L (.ref sz :: st) h1 (sz + 1) Q) : xa_W G M dp (kc + 1) (ks + N) pc L (.int n :: st) h sz Q :=
  xw_newa (atype := .long) (ty := .long) (t := 1) (a0 := (N, .inr (.inl (fun _ => 0)))) rfl (fun _ q => by cases q) rfl ar_long hd (fun _ => rfl) hn hN hby (kk _ (xa_up_eq _ _ _) (fun _ hb => xa_up_ne _ _ hb))
theorem iV_0 : iV 0 sv_V0 := by
  refine ⟨⟨List.Pairwise.nil, Nat.zero_le _, fun e he => by cases he⟩, ⟨fun s h1 h2 => ?_, (fun g hg => by cases hg), fun _ => rfl, fun i j h1 h2 h3 _ _ => ?_, fun _ i h1 h2 _ _ => ?_, Nat.le_refl _⟩, Nat.zero_le _, Nat.le_refl _, Nat.le_refl _⟩
  · have h1 : 1 ≤ s := h1
    have h2 : s < 1 := h2
    omega
  · have h1 : 1 ≤ i := h1
    have h3 : j < 1 := h3
    omega
  · have h1 : 1 ≤ i := h1
    have h2 : i < 1 := h2
    omega
theorem lw_go {h : xa_H} {g : Nat → Option Nat} (hn : n ≤ 2048) (hb : h b0 = some (.inl (0, (n, .inl xs)))) (hbx : b0 < x) (hGx : G.2.2.1 = x) (hu : h G.2.2.2.1 = some (xr_q 3 0 g)) (hux : G.2.2.2.1 < x) : xa_W G mm_L_law 14 601024 7293034 0 [some (.ref b0), none, none, none, none, none, none] [] h x (fun o' _ _ => o' = .returned (some (.int 1))) := by
  refine xw_less (kc' := 102442 + 1) (ks' := 2052567 + 7) (by decide) (by decide) ?_
  refine xw_dom (fun hd0 _ => ?_)
  refine xw_newA nw_L_8 dd_L_law_0 (fun h1 n1 f1 => ?_)
  refine xw_dup dd_L_law_3 rfl ?_
  refine xw_less (kc' := 102423 + 19) (ks' := 2052492 + 75) (by decide) (by decide) ?_
  refine xw_cl (ct_V_init n1 (by omega) ((f1 _ (by omega)).trans hu) hux) iv_L_law_4 ok_V_init rfl rfl rfl ?_ (fun _ _ _ q => by cases q.1)
  rintro v h2 z2 ⟨hv, rfl, q1, q2⟩
  cases hv
  refine xw_astoreR_n dd_L_law_7 (by decide) ?_
  refine xw_dom (fun hd2 _ => ?_)
  refine xw_less (kc' := 102422 + 1) (ks' := 2052464 + 28) (by decide) (by decide) ?_
  refine xw_newA nw_L_79 dd_L_law_8 (fun h3 n3 f3 => ?_)
  refine xw_dup dd_L_law_11 rfl ?_
  refine xw_less (kc' := 102401 + 21) (ks' := 2048001 + 4463) (by decide) (by decide) ?_
  refine xw_cl (ct_M_init (o := x + 20) n3 (by omega)) iv_L_law_12 ok_M_init rfl rfl rfl ?_ (fun _ _ _ q => by cases q.1)
  rintro v h4 z4 ⟨hv, rfl, ⟨K, A, HM, V4, S4⟩, q4⟩
  cases hv
  refine xw_astoreR_n dd_L_law_15 (by decide) ?_
  have keep4 : ∀ b e, h2 b = some e → h4 b = some e := fun b e hbe => by
    have := hd2 _ _ hbe
    rw [q4 b this, f3 b (by omega)]
    exact hbe
  have vs4 := (q1.newE keep4).1
  have b4 : h4 b0 = some (.inl (0, (n, .inl xs))) := keep4 _ _ ((q2 b0 hbx).trans ((f1 b0 (by omega)).trans hb))
  refine xw_dom (fun hd4 _ => ?_)
  refine xw_iconst 1 dd_L_law_16 (by decide) ?_
  refine xw_less (kc' := 102400 + 1) (ks' := 2048000 + 1) (by decide) (by decide) ?_
  refine xw_lnewA (N := 1) dd_L_law_17 (by decide) (by decide) (by decide) (fun h5 n5 f5 => ?_)
  refine xw_astoreR_n dd_L_law_19 (by decide) ?_
  refine xw_iconst 0 dd_L_law_20 (by decide) ?_
  refine xw_istore dd_L_law_21 (by decide) ?_
  have keep5 : ∀ b e, h4 b = some e → h5 b = some e := fun b e hbe => by
    have := hd4 _ _ hbe
    rw [f5 b (by omega)]
    exact hbe
  refine xw_less (kc' := 200 * (n / 4)) (ks' := 4000 * (n / 4)) (by omega) (by omega) ?_
  exact lw_loop hn (n / 4) 0 h5 _ sv_V0 (fun _ => sv_S0) K A (fun _ => 0) none none (by omega) ⟨⟨(vs4.newE keep5).1, ⟨keep5 _ _ HM.1, fun i i1 i2 => keep5 _ _ (HM.2.1 i i1 i2), HM.2.2⟩, n5, keep5 _ _ b4, hbx, by omega⟩, V4, S4, iV_0, fun s _ => ⟨List.Pairwise.nil, fun e he => by cases he⟩⟩
end LC
