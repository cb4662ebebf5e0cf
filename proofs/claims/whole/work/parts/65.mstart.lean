/-! NotedVolumeModel: start (by program: wip/whole/mk65.py) -/
theorem nat_same : ∀ {l m : List Nat}, l.Pairwise (fun a b => a < b) → m.Pairwise (fun a b => a < b) → (∀ x, x ∈ l ↔ x ∈ m) → l = m
  | [], [], _, _, _ => rfl
  | [], b :: m, _, _, h => by
    have := (h b).mpr (List.mem_cons_self ..)
    cases this
  | a :: l, [], _, _, h => by
    have := (h a).mp (List.mem_cons_self ..)
    cases this
  | a :: l, b :: m, hl, hm, h => by
    have pl := List.pairwise_cons.mp hl
    have pm := List.pairwise_cons.mp hm
    have hab : a = b := by
      rcases List.mem_cons.mp ((h a).mp (List.mem_cons_self ..)) with q | q
      · exact q
      · rcases List.mem_cons.mp ((h b).mpr (List.mem_cons_self ..)) with w | w
        · exact w.symm
        · have := pm.1 a q
          have := pl.1 b w
          omega
    subst hab
    rw [nat_same pl.2 pm.2 (fun x => by
      constructor
      · intro q
        rcases List.mem_cons.mp ((h x).mp (List.mem_cons_of_mem _ q)) with w | w
        · have := pl.1 x q
          omega
        · exact w
      · intro q
        rcases List.mem_cons.mp ((h x).mpr (List.mem_cons_of_mem _ q)) with w | w
        · have := pm.1 x q
          omega
        · exact w)]
/-- start ends: the answer, the volume; the subscribers as they were -/
def mqz (G : xa_G) (h : xa_H) (sz o : Nat) (r : Nat × Int32 × sv_V) (A : Nat → Nat → Int32) : Outcome → xa_H → Nat → Prop := fun o' h' z => o' = .returned (some (.int r.2.1)) ∧ z = sz ∧ (∃ K' A', mo_at G h' o K' A' ∧ rV r.2.2 K' A' ∧ K' 0 = nI r.1 ∧ ∀ i, 9 ≤ i → i ≤ 19 → A' i = A i) ∧ frM o h h'
section SG
variable {G : xa_G} {h : xa_H} {sz o : Nat} {K : Nat → Int32} {A : Nat → Nat → Int32} {V : sv_V}
theorem ct_M_isFirst {i : Nat} (H : mo_at G h o K A) (hV : rV V K A) (hi1 : rg_tl (sv_hd V) ≤ i) (hi2 : i < sv_hd V) : xa_T G mm_M_isFirst 1 0 0 [.ref o, .int (nI i)] h sz (fun o' h' z => ∃ b : Int32, o' = .returned (some (.int b)) ∧ (b = 1 ∧ fst_ (fun s => sv_rg V (s % 16) 0) (fun s => sv_rg V (s % 16) 5) (rg_tl (sv_hd V)) i ∨ b = 0 ∧ ¬ fst_ (fun s => sv_rg V (s % 16) 0) (fun s => sv_rg V (s % 16) 5) (rg_tl (sv_hd V)) i) ∧ h' = h ∧ z = sz) := by
  obtain ⟨n1, n2, n3, n4⟩ := id hV.2.1
  have tl := tl_le (sv_hd V)
  have loop : ∀ (r j : Nat), j = rg_tl (sv_hd V) + r → j ≤ i → (∀ k, j ≤ k → k < i → sv_rg V (k % 16) 0 ≠ sv_rg V (i % 16) 0) → xa_W G mm_M_isFirst 1 0 0 4 [some (.ref o), some (.int (nI i)), some (.int (nI j - 1))] [] h sz (fun o' h' z => ∃ b : Int32, o' = .returned (some (.int b)) ∧ (b = 1 ∧ fst_ (fun s => sv_rg V (s % 16) 0) (fun s => sv_rg V (s % 16) 5) (rg_tl (sv_hd V)) i ∨ b = 0 ∧ ¬ fst_ (fun s => sv_rg V (s % 16) 0) (fun s => sv_rg V (s % 16) 5) (rg_tl (sv_hd V)) i) ∧ h' = h ∧ z = sz) := by
    intro r
    induction r with
    | zero =>
      intro j hj hji hn
      refine xw_iload_n dd_M_isFirst_4 rfl ?_
      refine xw_aloadR_n dd_M_isFirst_5 rfl ?_
      refine xw_cl0 (ct_M_tailNow H hV) (iv_M_isFirst_6 H.1) ok_M_tailNow rfl rfl rfl ?_ (fun _ _ _ q => by cases q.1)
      rintro v h sz ⟨hv, rfl, rfl⟩
      cases hv
      rw [show rg_tl (sv_hd V) = j by omega]
      refine xw_icmp_lt 71 dd_M_isFirst_9 (by decide) (fun hc => ?_) (fun hc => absurd (pred_lt (by omega)) hc)
      refine xw_iconst 1 dd_M_isFirst_71 (by decide) ?_
      exact xw_zret dd_M_isFirst_72 rfl rfl ⟨1, rfl, Or.inl ⟨rfl, fun k k1 k2 k3 _ => absurd k3 (hn k (by omega) k2)⟩, rfl, rfl⟩
    | succ r ih =>
      intro j' hj' hji' hn'
      obtain ⟨j, rfl⟩ : ∃ j, j' = j + 1 := ⟨j' - 1, by omega⟩
      have e0 : nI (j + 1) - 1 = nI j := pk_sub (a := j + 1) (b := 1) (by omega)
      rw [e0]
      refine xw_iload_n dd_M_isFirst_4 rfl ?_
      refine xw_aloadR_n dd_M_isFirst_5 rfl ?_
      refine xw_cl0 (ct_M_tailNow H hV) (iv_M_isFirst_6 H.1) ok_M_tailNow rfl rfl rfl ?_ (fun _ _ _ q => by cases q.1)
      rintro v h sz ⟨hv, rfl, rfl⟩
      cases hv
      refine xw_icmp_lt 71 dd_M_isFirst_9 (by decide) (fun hc => absurd hc (nI_nlt (by omega) (by omega))) (fun hc => ?_)
      refine xw_aloadR_n dd_M_isFirst_12 rfl ?_
      refine xw_get fl_M_29 dd_M_isFirst_13 H.1 rfl ?_
      refine xw_bipush 6 dd_M_isFirst_16 (by decide) ?_
      refine xw_iload_n dd_M_isFirst_18 rfl ?_
      refine xw_bipush 16 dd_M_isFirst_19 (by decide) ?_
      refine xw_irem dd_M_isFirst_21 (by decide) ?_
      rw [show nI j - nI j / 16 * 16 = nI (j % 16) from pk_rem (a := j) (d := 16) (by omega) (by decide) (by decide)]
      refine xw_imul dd_M_isFirst_22 ?_
      rw [show (6 : Int32) * nI (j % 16) = nI (6 * (j % 16)) from pk_mul 6 (j % 16)]
      refine xw_iald dd_M_isFirst_23 (H.2.1 6 (by decide) (by decide)) (vp_in_nI (show 6 * (j % 16) + 0 < 96 by omega) (by decide)) ?_
      rw [nI_clamp (by omega), show A 6 (6 * (j % 16)) = (sv_rg V) (j % 16) 0 from n4 (j % 16) 0 (Nat.mod_lt _ (by decide)) (by decide)]
      refine xw_aloadR_n dd_M_isFirst_24 rfl ?_
      refine xw_get fl_M_29 dd_M_isFirst_25 H.1 rfl ?_
      refine xw_bipush 6 dd_M_isFirst_28 (by decide) ?_
      refine xw_iload_n dd_M_isFirst_30 rfl ?_
      refine xw_bipush 16 dd_M_isFirst_31 (by decide) ?_
      refine xw_irem dd_M_isFirst_33 (by decide) ?_
      rw [show nI i - nI i / 16 * 16 = nI (i % 16) from pk_rem (a := i) (d := 16) (by omega) (by decide) (by decide)]
      refine xw_imul dd_M_isFirst_34 ?_
      rw [show (6 : Int32) * nI (i % 16) = nI (6 * (i % 16)) from pk_mul 6 (i % 16)]
      refine xw_iald dd_M_isFirst_35 (H.2.1 6 (by decide) (by decide)) (vp_in_nI (show 6 * (i % 16) + 0 < 96 by omega) (by decide)) ?_
      rw [nI_clamp (by omega), show A 6 (6 * (i % 16)) = (sv_rg V) (i % 16) 0 from n4 (i % 16) 0 (Nat.mod_lt _ (by decide)) (by decide)]
      refine xw_icmp_ne 65 dd_M_isFirst_36 (by decide) (fun hne => ?_) (fun heq => ?_)
      · refine xw_iinc dd_M_isFirst_65 rfl (dec1 _) (by decide) ?_
        refine xw_goto 4 dd_M_isFirst_68 (by decide) ?_
        refine ih j (by omega) (by omega) (fun k k1 k2 => ?_)
        by_cases e : k = j
        · rw [e]
          exact hne
        · exact hn' k (by omega) k2
      · have only : ∀ k, rg_tl (sv_hd V) ≤ k → k < i → sv_rg V (k % 16) 0 = sv_rg V (i % 16) 0 → (∀ l, k < l → l < i → sv_rg V (l % 16) 0 ≠ sv_rg V (i % 16) 0) → k = j := by
          intro k k1 k2 k3 k4
          by_cases e : k < j
          · exact absurd heq (k4 j e (by omega))
          · by_cases e2 : k = j
            · exact e2
            · exact absurd k3 (hn' k (by omega) k2)
        refine xw_aloadR_n dd_M_isFirst_39 rfl ?_
        refine xw_get fl_M_29 dd_M_isFirst_40 H.1 rfl ?_
        refine xw_bipush 6 dd_M_isFirst_43 (by decide) ?_
        refine xw_iload_n dd_M_isFirst_45 rfl ?_
        refine xw_bipush 16 dd_M_isFirst_46 (by decide) ?_
        refine xw_irem dd_M_isFirst_48 (by decide) ?_
        rw [show nI j - nI j / 16 * 16 = nI (j % 16) from pk_rem (a := j) (d := 16) (by omega) (by decide) (by decide)]
        refine xw_imul dd_M_isFirst_49 ?_
        rw [show (6 : Int32) * nI (j % 16) = nI (6 * (j % 16)) from pk_mul 6 (j % 16)]
        refine xw_iconst 5 dd_M_isFirst_50 (by decide) ?_
        refine xw_iadd dd_M_isFirst_51 ?_
        rw [show nI (6 * (j % 16)) + 5 = nI (6 * (j % 16) + 5) from nI_add (6 * (j % 16)) 5]
        refine xw_iald dd_M_isFirst_52 (H.2.1 6 (by decide) (by decide)) (vp_in_nI (show 6 * (j % 16) + 5 < 96 by omega) (by decide)) ?_
        rw [nI_clamp (by omega), n4 (j % 16) 5 (Nat.mod_lt _ (by decide)) (by decide)]
        refine xw_bipush 64 dd_M_isFirst_53 (by decide) ?_
        refine xw_iand dd_M_isFirst_55 ?_
        refine xw_if_eq 63 dd_M_isFirst_56 (by decide) (fun hz => ?_) (fun hz => ?_)
        · refine xw_iconst 0 dd_M_isFirst_63 (by decide) ?_
          exact xw_zret dd_M_isFirst_64 rfl rfl ⟨0, rfl, Or.inr ⟨rfl, fun q => q j (by omega) (by omega) heq (fun l l1 l2 => hn' l (by omega) l2) hz⟩, rfl, rfl⟩
        · refine xw_iconst 1 dd_M_isFirst_59 (by decide) ?_
          refine xw_goto 64 dd_M_isFirst_60 (by decide) ?_
          exact xw_zret dd_M_isFirst_64 rfl rfl ⟨1, rfl, Or.inl ⟨rfl, fun k k1 k2 k3 k4 => by
            rw [only k k1 k2 k3 k4]
            exact hz⟩, rfl, rfl⟩
  refine xt_o ok_M_isFirst rfl rfl ?_
  refine xw_iload_n dd_M_isFirst_0 rfl ?_
  refine xw_iconst 1 dd_M_isFirst_1 (by decide) ?_
  refine xw_isub dd_M_isFirst_2 ?_
  refine xw_istore_n dd_M_isFirst_3 (by decide) ?_
  exact loop (i - rg_tl (sv_hd V)) i (by omega) (Nat.le_refl _) (fun k k1 k2 => by omega)
theorem ct_M_latestOf {i : Nat} (H : mo_at G h o K A) (hV : rV V K A) (hi2 : i < sv_hd V) : xa_T G mm_M_latestOf 0 0 0 [.ref o, .int (nI i)] h sz (fun o' h' z => ∃ l : Nat, o' = .returned (some (.int (nI l))) ∧ i ≤ l ∧ l < sv_hd V ∧ sv_rg V (l % 16) 0 = sv_rg V (i % 16) 0 ∧ (∀ k, l < k → k < sv_hd V → sv_rg V (k % 16) 0 ≠ sv_rg V (i % 16) 0) ∧ h' = h ∧ z = sz) := by
  obtain ⟨n1, n2, n3, n4⟩ := id hV.2.1
  have loop : ∀ (r l : Nat), l = i + r → l < sv_hd V → (∀ k, l < k → k < sv_hd V → sv_rg V (k % 16) 0 ≠ sv_rg V (i % 16) 0) → xa_W G mm_M_latestOf 0 0 0 7 [some (.ref o), some (.int (nI i)), some (.int (nI l))] [] h sz (fun o' h' z => ∃ l : Nat, o' = .returned (some (.int (nI l))) ∧ i ≤ l ∧ l < sv_hd V ∧ sv_rg V (l % 16) 0 = sv_rg V (i % 16) 0 ∧ (∀ k, l < k → k < sv_hd V → sv_rg V (k % 16) 0 ≠ sv_rg V (i % 16) 0) ∧ h' = h ∧ z = sz) := by
    intro r
    induction r with
    | zero =>
      intro l hl hlh hn
      have hl : l = i := hl
      subst hl
      refine xw_aloadR_n dd_M_latestOf_7 rfl ?_
      refine xw_get fl_M_29 dd_M_latestOf_8 H.1 rfl ?_
      refine xw_bipush 6 dd_M_latestOf_11 (by decide) ?_
      refine xw_iload_n dd_M_latestOf_13 rfl ?_
      refine xw_bipush 16 dd_M_latestOf_14 (by decide) ?_
      refine xw_irem dd_M_latestOf_16 (by decide) ?_
      rw [show nI l - nI l / 16 * 16 = nI (l % 16) from pk_rem (a := l) (d := 16) (by omega) (by decide) (by decide)]
      refine xw_imul dd_M_latestOf_17 ?_
      rw [show (6 : Int32) * nI (l % 16) = nI (6 * (l % 16)) from pk_mul 6 (l % 16)]
      refine xw_iald dd_M_latestOf_18 (H.2.1 6 (by decide) (by decide)) (vp_in_nI (show 6 * (l % 16) + 0 < 96 by omega) (by decide)) ?_
      rw [nI_clamp (by omega), show A 6 (6 * (l % 16)) = (sv_rg V) (l % 16) 0 from n4 (l % 16) 0 (Nat.mod_lt _ (by decide)) (by decide)]
      refine xw_aloadR_n dd_M_latestOf_19 rfl ?_
      refine xw_get fl_M_29 dd_M_latestOf_20 H.1 rfl ?_
      refine xw_bipush 6 dd_M_latestOf_23 (by decide) ?_
      refine xw_iload_n dd_M_latestOf_25 rfl ?_
      refine xw_bipush 16 dd_M_latestOf_26 (by decide) ?_
      refine xw_irem dd_M_latestOf_28 (by decide) ?_
      rw [show nI l - nI l / 16 * 16 = nI (l % 16) from pk_rem (a := l) (d := 16) (by omega) (by decide) (by decide)]
      refine xw_imul dd_M_latestOf_29 ?_
      rw [show (6 : Int32) * nI (l % 16) = nI (6 * (l % 16)) from pk_mul 6 (l % 16)]
      refine xw_iald dd_M_latestOf_30 (H.2.1 6 (by decide) (by decide)) (vp_in_nI (show 6 * (l % 16) + 0 < 96 by omega) (by decide)) ?_
      rw [nI_clamp (by omega), show A 6 (6 * (l % 16)) = (sv_rg V) (l % 16) 0 from n4 (l % 16) 0 (Nat.mod_lt _ (by decide)) (by decide)]
      refine xw_icmp_eq 40 dd_M_latestOf_31 (by decide) (fun hc => ?_) (fun hc => absurd rfl hc)
      refine xw_iload_n dd_M_latestOf_40 rfl ?_
      exact xw_iret dd_M_latestOf_41 rfl ⟨l, rfl, Nat.le_refl _, hlh, rfl, hn, rfl, rfl⟩
    | succ r ih =>
      intro l hl hlh hn
      refine xw_aloadR_n dd_M_latestOf_7 rfl ?_
      refine xw_get fl_M_29 dd_M_latestOf_8 H.1 rfl ?_
      refine xw_bipush 6 dd_M_latestOf_11 (by decide) ?_
      refine xw_iload_n dd_M_latestOf_13 rfl ?_
      refine xw_bipush 16 dd_M_latestOf_14 (by decide) ?_
      refine xw_irem dd_M_latestOf_16 (by decide) ?_
      rw [show nI l - nI l / 16 * 16 = nI (l % 16) from pk_rem (a := l) (d := 16) (by omega) (by decide) (by decide)]
      refine xw_imul dd_M_latestOf_17 ?_
      rw [show (6 : Int32) * nI (l % 16) = nI (6 * (l % 16)) from pk_mul 6 (l % 16)]
      refine xw_iald dd_M_latestOf_18 (H.2.1 6 (by decide) (by decide)) (vp_in_nI (show 6 * (l % 16) + 0 < 96 by omega) (by decide)) ?_
      rw [nI_clamp (by omega), show A 6 (6 * (l % 16)) = (sv_rg V) (l % 16) 0 from n4 (l % 16) 0 (Nat.mod_lt _ (by decide)) (by decide)]
      refine xw_aloadR_n dd_M_latestOf_19 rfl ?_
      refine xw_get fl_M_29 dd_M_latestOf_20 H.1 rfl ?_
      refine xw_bipush 6 dd_M_latestOf_23 (by decide) ?_
      refine xw_iload_n dd_M_latestOf_25 rfl ?_
      refine xw_bipush 16 dd_M_latestOf_26 (by decide) ?_
      refine xw_irem dd_M_latestOf_28 (by decide) ?_
      rw [show nI i - nI i / 16 * 16 = nI (i % 16) from pk_rem (a := i) (d := 16) (by omega) (by decide) (by decide)]
      refine xw_imul dd_M_latestOf_29 ?_
      rw [show (6 : Int32) * nI (i % 16) = nI (6 * (i % 16)) from pk_mul 6 (i % 16)]
      refine xw_iald dd_M_latestOf_30 (H.2.1 6 (by decide) (by decide)) (vp_in_nI (show 6 * (i % 16) + 0 < 96 by omega) (by decide)) ?_
      rw [nI_clamp (by omega), show A 6 (6 * (i % 16)) = (sv_rg V) (i % 16) 0 from n4 (i % 16) 0 (Nat.mod_lt _ (by decide)) (by decide)]
      refine xw_icmp_eq 40 dd_M_latestOf_31 (by decide) (fun hc => ?_) (fun hc => ?_)
      · refine xw_iload_n dd_M_latestOf_40 rfl ?_
        exact xw_iret dd_M_latestOf_41 rfl ⟨l, rfl, by omega, hlh, hc, hn, rfl, rfl⟩
      · refine xw_iinc dd_M_latestOf_34 rfl (v := nI (l - 1)) ?_ (by decide) ?_
        · rw [dec1]
          exact pk_sub (a := l) (b := 1) (by omega)
        · refine xw_goto 7 dd_M_latestOf_37 (by decide) ?_
          refine ih (l - 1) (by omega) (by omega) (fun k k1 k2 => ?_)
          by_cases e : k = l
          · rw [e]
            exact hc
          · exact hn k (by omega) k2
  refine xt_o ok_M_latestOf rfl rfl ?_
  refine xw_aloadR_n dd_M_latestOf_0 rfl ?_
  refine xw_get fl_M_25 dd_M_latestOf_1 H.1 rfl ?_
  rw [n1]
  refine xw_iconst 1 dd_M_latestOf_4 (by decide) ?_
  refine xw_isub dd_M_latestOf_5 ?_
  rw [show nI (sv_hd V) - 1 = nI (sv_hd V - 1) from pk_sub (a := sv_hd V) (b := 1) (by omega)]
  refine xw_istore_n dd_M_latestOf_6 (by decide) ?_
  exact loop (sv_hd V - 1 - i) (sv_hd V - 1) (by omega) (by omega) (fun k k1 k2 => by omega)
theorem ct_M_start {n0 : Nat} (H : mo_at G h o K A) (hV : rV V K A) (hI : iR n0 V) (hh : sv_hd V < 800000) : xa_T G mm_M_start 3 0 0 [.ref o] h sz (mqz G h sz o (0, (sv_start V).1, (sv_start V).2) A) := by
  obtain ⟨is, p1, p2, p3⟩ := rec_is hI
  have hl16 := rec_len (sv_hd V) (sv_rg V)
  have htl : 1 ≤ rg_tl (sv_hd V) ∧ rg_tl (sv_hd V) ≤ sv_hd V ∧ sv_hd V ≤ rg_tl (sv_hd V) + 16 := by
    have := hI.2.2.2.2.2
    unfold rg_tl
    split <;> omega
  refine xt_o ok_M_start rfl rfl ?_
  refine xw_aloadR_n dd_M_start_0 rfl ?_
  refine xw_iconst 0 dd_M_start_1 (by decide) ?_
  refine xw_putA fl_M_81 fz_M_81 (by decide) dd_M_start_2 H.1 rfl H.2.2 rfl rfl (fun h1 m1 f1 => ?_)
  obtain ⟨H1, fr1⟩ := H.setK (K' := upd K 0 (nI 0)) m1 f1
  have k13 : upd K 0 (nI 0) 13 = if sv_on V = true then 0 else 1 := hV.2.2.2.2.1
  refine xw_aloadR_n dd_M_start_5 rfl ?_
  refine xw_get fl_M_91 dd_M_start_6 H1.1 rfl ?_
  rw [k13]
  by_cases hon : sv_on V = true
  · have hr : sv_start V = (-1, V) := by
      unfold sv_start
      rw [if_pos hon]
    rw [hr, if_pos hon]
    refine xw_if_ne 14 dd_M_start_9 (by decide) (fun hc => absurd rfl hc) (fun hc => ?_)
    refine xw_iconst (-1) dd_M_start_12 (by decide) ?_
    exact xw_iret dd_M_start_13 rfl ⟨rfl, rfl, ⟨_, A, H1, hV.thr, rfl, fun _ _ _ => rfl⟩, fr1⟩
  · have hr : sv_start V = (nI (sv_recall (sv_hd V) (sv_rg V)).length, sv_ends (sv_recall (sv_hd V) (sv_rg V)).length (sv_back V)) := by
      unfold sv_start
      rw [if_neg hon]
    have hgs0 := hI.2.2.1 hon
    have bk := iR.ends (sv_recall (sv_hd V) (sv_rg V)) (sv_back V) rfl hI.back rfl
    have hW0 : ∃ W : sv_V, W = sv_setG (sv_back V) [] ∧ sv_fs W = sv_fs V ∧ sv_hd W = sv_hd V ∧ sv_rg W = sv_rg V := ⟨_, rfl, rfl, rfl, rfl⟩
    have hbk : ∀ (K' : Nat → Int32) (A' : Nat → Nat → Int32), K' 1 = K 1 → K' 8 = K 8 → K' 10 = K 10 → K' 7 = K 7 → K' 13 = 0 → K' 14 = -1 → (∀ i, i < 20 → A' i = A i) → rV (sv_setG (sv_back V) []) K' A' := by
      intro K' A' e1 e8 e10 e7 e13 e14 eA
      obtain ⟨fs, lt, hd, rg, gs, on, lf⟩ := V
      have hgs0 : gs = [] := hgs0
      subst hgs0
      obtain ⟨b1, b2, b3, b4, b5, b6⟩ := hV
      exact ⟨b1.cg e1 (fun i _ i2 => eA i (by omega)), b2.cg e8 (eA 6 (by decide)), b3.cg e10 (eA 7 (by decide)) (eA 8 (by decide)), e7.trans b4, e13, e14⟩
    rw [hr, if_neg hon]
    refine xw_if_ne 14 dd_M_start_9 (by decide) (fun hc => ?_) (fun hc => absurd hc (by decide))
    refine xw_aloadR_n dd_M_start_14 rfl ?_
    refine xw_iconst 0 dd_M_start_15 (by decide) ?_
    refine xw_putA fl_M_91 fz_M_91 (by decide) dd_M_start_16 H1.1 rfl H.2.2 rfl rfl (fun h2 m2 f2 => ?_)
    obtain ⟨H2, fr2⟩ := H1.setK (K' := upd (upd K 0 (nI 0)) 13 0) m2 f2
    refine xw_aloadR_n dd_M_start_19 rfl ?_
    refine xw_iconst (-1) dd_M_start_20 (by decide) ?_
    refine xw_putA fl_M_38 fz_M_38 (by decide) dd_M_start_21 H2.1 rfl H.2.2 rfl rfl (fun h3 m3 f3 => ?_)
    obtain ⟨H3, fr3⟩ := H2.setK (K' := upd (upd (upd K 0 (nI 0)) 13 0) 14 (-1)) m3 f3
    have fr03 := fr1.trans (fr2.trans fr3)
    generalize hK3 : upd (upd (upd K 0 (nI 0)) 13 0) 14 (-1) = K3 at H3
    have q0 : K3 0 = nI 0 := by rw [← hK3]; rfl
    have q1 : K3 1 = K 1 := by rw [← hK3]; rfl
    have q7 : K3 7 = K 7 := by rw [← hK3]; rfl
    have q8 : K3 8 = K 8 := by rw [← hK3]; rfl
    have q10 : K3 10 = K 10 := by rw [← hK3]; rfl
    have q13 : K3 13 = 0 := by rw [← hK3]; rfl
    have q14 : K3 14 = -1 := by rw [← hK3]; rfl
    have V3 : ∀ A', (∀ i, i < 20 → A' i = A i) → rV (sv_setG (sv_back V) []) K3 A' := fun A' eA => hbk K3 A' q1 q8 q10 q7 q13 q14 eA
    -- the closing notes
    have last : ∀ (r j : Nat) (X : sv_V) (o3 o4 o5 : Option Value) (K9 : Nat → Int32) (A9 : Nat → Nat → Int32) (h9 : xa_H), j + r = (sv_recall (sv_hd V) (sv_rg V)).length → sv_gs X = (sv_recall (sv_hd V) (sv_rg V)).drop j → sv_ends r X = sv_ends (sv_recall (sv_hd V) (sv_rg V)).length (sv_back V) → sv_hd X ≤ sv_hd V + j → mo_at G h9 o K9 A9 → rV (sv_setG X []) K9 A9 → K9 0 = nI 0 → (∀ j g, ((sv_recall (sv_hd V) (sv_rg V)))[j]? = some g → A9 20 j = g.1 ∧ A9 21 j = g.2) → (∀ i, 9 ≤ i → i ≤ 19 → A9 i = A i) → frM o h h9 → xa_W G mm_M_start 3 0 0 230 [some (.ref o), some (.int (nI (sv_recall (sv_hd V) (sv_rg V)).length)), some (.int (nI j)), o3, o4, o5] [] h9 sz (mqz G h sz o (0, nI (sv_recall (sv_hd V) (sv_rg V)).length, sv_ends (sv_recall (sv_hd V) (sv_rg V)).length (sv_back V)) A) := by
      intro r
      induction r with
      | zero =>
        intro j X o3 o4 o5 K9 A9 h9 hjr hgx hx hhx H9 V9 e9 ent a9 fr9
        refine xw_iload_n dd_M_start_230 rfl ?_
        refine xw_iload_n dd_M_start_231 rfl ?_
        refine xw_icmp_ge 257 dd_M_start_232 (by decide) (fun hc => ?_) (fun hc => absurd (nI_le (by omega) (by omega)) hc)
        refine xw_iload_n dd_M_start_257 rfl ?_
        refine xw_iret dd_M_start_258 rfl ⟨rfl, rfl, ⟨K9, A9, H9, ?_, e9, fun i i1 i2 => ?_⟩, fr9⟩
        · have hx : X = sv_ends (sv_recall (sv_hd V) (sv_rg V)).length (sv_back V) := hx
          have hgx : sv_gs X = [] := by rw [hgx, List.drop_eq_nil_of_le (by omega)]
          show rV (sv_ends (sv_recall (sv_hd V) (sv_rg V)).length (sv_back V)) K9 A9
          rw [← hx]
          have : sv_setG X [] = X := by
            obtain ⟨fs, lt, hd, rg, gs, on, lf⟩ := X
            have hgx : gs = [] := hgx
            subst hgx
            rfl
          rw [this] at V9
          exact V9
        · exact a9 i i1 i2
      | succ r ih =>
        intro j X o3 o4 o5 K9 A9 h9 hjr hgx hx hhx H9 V9 e9 ent a9 fr9
        have hj : j < (sv_recall (sv_hd V) (sv_rg V)).length := by omega
        have hg : (sv_recall (sv_hd V) (sv_rg V))[j]? = some (sv_recall (sv_hd V) (sv_rg V))[j] := List.getElem?_eq_getElem hj
        have hdr : (sv_recall (sv_hd V) (sv_rg V)).drop j = (sv_recall (sv_hd V) (sv_rg V))[j] :: (sv_recall (sv_hd V) (sv_rg V)).drop (j + 1) := List.drop_eq_getElem_cons hj
        have en := ent j _ hg
        have ixj : vp_in (nI j) 16 := vp_in_nI (show j < 16 by omega) (by decide)
        generalize (sv_recall (sv_hd V) (sv_rg V))[j] = g at hg hdr en
        rw [hdr] at hgx
        refine xw_iload_n dd_M_start_230 rfl ?_
        refine xw_iload_n dd_M_start_231 rfl ?_
        refine xw_icmp_ge 257 dd_M_start_232 (by decide) (fun hc => absurd hc (nI_ge (by omega) (by omega))) (fun hc => ?_)
        refine xw_aloadR_n dd_M_start_235 rfl ?_
        refine xw_aloadR_n dd_M_start_236 rfl ?_
        refine xw_get fl_M_75 dd_M_start_237 H9.1 rfl ?_
        refine xw_iload_n dd_M_start_240 rfl ?_
        refine xw_iald dd_M_start_241 (H9.2.1 20 (by decide) (by decide)) ixj ?_
        rw [nI_clamp (by omega), en.1]
        refine xw_aloadR_n dd_M_start_242 rfl ?_
        refine xw_get fl_M_78 dd_M_start_243 H9.1 rfl ?_
        refine xw_iload_n dd_M_start_246 rfl ?_
        refine xw_iald dd_M_start_247 (H9.2.1 21 (by decide) (by decide)) ixj ?_
        rw [nI_clamp (by omega), en.2]
        refine xw_cl0 (ct_M_noteClosing H9 V9 (by show sv_hd X < 900000; omega)) (iv_M_start_248 H9.1) ok_M_noteClosing rfl rfl rfl ?_ (fun _ _ _ q => by cases q.1)
        rintro v h8 z8 ⟨hv, rfl, ⟨K8, A8, H8, V8, e8, a8⟩, fr8⟩
        cases hv
        refine xw_iinc dd_M_start_251 rfl (nI_1 j) (by decide) ?_
        refine xw_goto 230 dd_M_start_254 (by decide) ?_
        have eg := endG_head hgx
        refine ih (j + 1) (sv_endG X g) _ _ _ K8 A8 h8 (by omega) eg.1 (by rw [← hx]; exact (ends_s hgx).symm) (by omega) H8 ?_ (e8.trans e9) (fun i x hx => ?_) (fun i i1 i2 => ?_) (fr9.trans fr8)
        · exact V8
        · rw [a8 20 (by decide) (by decide), a8 21 (by decide) (by decide)]
          exact ent i x hx
        · exact (a8 i i1 (by omega)).trans (a9 i i1 i2)
    -- the notes, one by one
    have loop : ∀ (r i : Nat) (js : List Nat) (o3 o4 o5 : Option Value) (A1 : Nat → Nat → Int32) (h1 : xa_H), i + r = sv_hd V → rg_tl (sv_hd V) ≤ i → js.Pairwise (fun a b => a < b) → (∀ x, x ∈ js ↔ x ∈ is ∧ x < i) → js.length + rg_tl (sv_hd V) ≤ i → mo_at G h1 o K3 A1 → (∀ i, i < 20 → A1 i = A i) → (∀ j g, (js.map (fun i => (sv_rg V (i % 16) 0, lr (fun s => sv_rg V (s % 16) 0) (fun s => sv_rg V (s % 16) 5) (sv_hd V) (sv_rg V (i % 16) 0))))[j]? = some g → A1 20 j = g.1 ∧ A1 21 j = g.2) → frM o h h1 → xa_W G mm_M_start 3 0 0 31 [some (.ref o), some (.int (nI js.length)), some (.int (nI i)), o3, o4, o5] [] h1 sz (mqz G h sz o (0, nI (sv_recall (sv_hd V) (sv_rg V)).length, sv_ends (sv_recall (sv_hd V) (sv_rg V)).length (sv_back V)) A) := by
      intro r
      induction r with
      | zero =>
        intro i js o3 o4 o5 A1 h1 hir hti j1 j2 jl H1 eA ent fr1
        have V1 := V3 A1 eA
        have hjs : js = is := nat_same j1 p1 (fun x => by
          rw [j2]
          exact ⟨fun q => q.1, fun q => ⟨q, by have := ((p2 x).mp q).2.1; omega⟩⟩)
        have hrl : (sv_recall (sv_hd V) (sv_rg V)).length = js.length := by rw [p3, List.length_map, hjs]
        refine xw_iload_n dd_M_start_31 rfl ?_
        refine xw_aloadR_n dd_M_start_32 rfl ?_
        refine xw_get fl_M_25 dd_M_start_33 H1.1 rfl ?_
        rw [show K3 8 = nI (sv_hd V) from V1.2.1.1]
        refine xw_icmp_ge 228 dd_M_start_36 (by decide) (fun hc => ?_) (fun hc => absurd (nI_le (by omega) (by omega)) hc)
        refine xw_iconst 0 dd_M_start_228 (by decide) ?_
        refine xw_istore_n dd_M_start_229 (by decide) ?_
        rw [← hrl]
        refine last (sv_recall (sv_hd V) (sv_rg V)).length 0 (sv_back V) _ _ _ K3 A1 h1 (by omega) rfl rfl (Nat.le_refl _) H1 V1 q0 ?_ (fun i i1 i2 => eA i (by omega)) fr1
        rw [p3, ← hjs]
        exact ent
      | succ r ih =>
        intro i js o3 o4 o5 A1 h1 hir hti j1 j2 jl H1 eA ent fr1
        have V1 := V3 A1 eA
        have n4 : ∀ s k, s < 16 → k < 6 → A1 6 (6 * s + k) = sv_rg V s k := V1.2.1.2.2.2
        have hh1 : sv_hd V < 900000 := by omega
        have skip : ∀ (a b c : Option Value), i ∉ is → xa_W G mm_M_start 3 0 0 222 [some (.ref o), some (.int (nI js.length)), some (.int (nI i)), a, b, c] [] h1 sz (mqz G h sz o (0, nI (sv_recall (sv_hd V) (sv_rg V)).length, sv_ends (sv_recall (sv_hd V) (sv_rg V)).length (sv_back V)) A) := by
          intro a b c hni
          refine xw_iinc dd_M_start_222 rfl (nI_1 i) (by decide) ?_
          refine xw_goto 31 dd_M_start_225 (by decide) ?_
          refine ih (i + 1) js a b c A1 h1 (by omega) (by omega) j1 (fun x => ?_) (by omega) H1 eA ent fr1
          rw [j2]
          constructor
          · rintro ⟨u, w⟩
            exact ⟨u, by omega⟩
          · rintro ⟨u, w⟩
            refine ⟨u, ?_⟩
            by_cases e : x = i
            · rw [e] at u
              exact absurd u hni
            · omega
        have dead : ∀ (k : Nat) (l : Nat), i ∉ is → xa_W G mm_M_start 3 0 0 83 [some (.ref o), some (.int (nI js.length)), some (.int (nI i)), some (.int (nI l)), some (.int 0), some (.int (nI k))] [] h1 sz (mqz G h sz o (0, nI (sv_recall (sv_hd V) (sv_rg V)).length, sv_ends (sv_recall (sv_hd V) (sv_rg V)).length (sv_back V)) A) := by
          intro k l hni
          have fin : xa_W G mm_M_start 3 0 0 156 [some (.ref o), some (.int (nI js.length)), some (.int (nI i)), some (.int (nI l)), some (.int 0), some (.int (nI k))] [] h1 sz (mqz G h sz o (0, nI (sv_recall (sv_hd V) (sv_rg V)).length, sv_ends (sv_recall (sv_hd V) (sv_rg V)).length (sv_back V)) A) := by
            refine xw_iload dd_M_start_156 rfl ?_
            refine xw_if_eq 222 dd_M_start_158 (by decide) (fun hc => ?_) (fun hc => absurd rfl hc)
            exact skip _ _ _ hni
          refine xw_iload dd_M_start_83 rfl ?_
          refine xw_iload_n dd_M_start_85 rfl ?_
          refine xw_icmp_ge 156 dd_M_start_86 (by decide) (fun hc => fin) (fun hc => ?_)
          refine xw_iload dd_M_start_89 rfl ?_
          exact xw_if_eq 156 dd_M_start_91 (by decide) (fun hc => fin) (fun hc => absurd rfl hc)
        refine xw_iload_n dd_M_start_31 rfl ?_
        refine xw_aloadR_n dd_M_start_32 rfl ?_
        refine xw_get fl_M_25 dd_M_start_33 H1.1 rfl ?_
        rw [show K3 8 = nI (sv_hd V) from V1.2.1.1]
        refine xw_icmp_ge 228 dd_M_start_36 (by decide) (fun hc => absurd hc (nI_ge (by omega) (by omega))) (fun hc => ?_)
        refine xw_aloadR_n dd_M_start_39 rfl ?_
        refine xw_iload_n dd_M_start_40 rfl ?_
        refine xw_cl0 (ct_M_latestOf (i := i) H1 V1 (show i < sv_hd V by omega)) (iv_M_start_41 H1.1) ok_M_latestOf rfl rfl rfl ?_ (fun _ _ _ q => by
          obtain ⟨_, q, _⟩ := q
          cases q)
        rintro v h1 z1 ⟨l, hv, l1, l2, l3, l4, rfl, rfl⟩
        cases hv
        have l2 : l < sv_hd V := l2
        have l3 : sv_rg V (l % 16) 0 = sv_rg V (i % 16) 0 := l3
        have l4 : ∀ k, l < k → k < sv_hd V → sv_rg V (k % 16) 0 ≠ sv_rg V (i % 16) 0 := l4
        have hlr : lr (fun s => sv_rg V (s % 16) 0) (fun s => sv_rg V (s % 16) 5) (sv_hd V) (sv_rg V (i % 16) 0) = sv_rg V (l % 16) 5 := lr_near (F := (fun s => sv_rg V (s % 16) 0)) (R := (fun s => sv_rg V (s % 16) 5)) (f := sv_rg V (i % 16) 0) (j := l) l3 (sv_hd V) l2 l4
        refine xw_istore_n dd_M_start_44 (by decide) ?_
        refine xw_aloadR_n dd_M_start_45 rfl ?_
        refine xw_iload_n dd_M_start_46 rfl ?_
        refine xw_cl0 (ct_M_isFirst (i := i) H1 V1 (show rg_tl (sv_hd V) ≤ i by omega) (show i < sv_hd V by omega)) (iv_M_start_47 H1.1) ok_M_isFirst rfl rfl rfl ?_ (fun _ _ _ q => by
          obtain ⟨_, q, _⟩ := q
          cases q)
        rintro v h1 z1 ⟨b, hv, hb, rfl, rfl⟩
        cases hv
        have hb : b = 1 ∧ fst_ (fun s => sv_rg V (s % 16) 0) (fun s => sv_rg V (s % 16) 5) (rg_tl (sv_hd V)) i ∨ b = 0 ∧ ¬ fst_ (fun s => sv_rg V (s % 16) 0) (fun s => sv_rg V (s % 16) 5) (rg_tl (sv_hd V)) i := hb
        rcases hb with ⟨rfl, hfst⟩ | ⟨rfl, hfst⟩
        · refine xw_if_eq 77 dd_M_start_50 (by decide) (fun hc => absurd hc (by decide)) (fun hc => ?_)
          refine xw_aloadR_n dd_M_start_53 rfl ?_
          refine xw_get fl_M_29 dd_M_start_54 H1.1 rfl ?_
          refine xw_bipush 6 dd_M_start_57 (by decide) ?_
          refine xw_iload_n dd_M_start_59 rfl ?_
          refine xw_bipush 16 dd_M_start_60 (by decide) ?_
          refine xw_irem dd_M_start_62 (by decide) ?_
          rw [show nI l - nI l / 16 * 16 = nI (l % 16) from pk_rem (a := l) (d := 16) (by omega) (by decide) (by decide)]
          refine xw_imul dd_M_start_63 ?_
          rw [show (6 : Int32) * nI (l % 16) = nI (6 * (l % 16)) from pk_mul 6 (l % 16)]
          refine xw_iconst 5 dd_M_start_64 (by decide) ?_
          refine xw_iadd dd_M_start_65 ?_
          rw [show nI (6 * (l % 16)) + 5 = nI (6 * (l % 16) + 5) from nI_add (6 * (l % 16)) 5]
          refine xw_iald dd_M_start_66 (H1.2.1 6 (by decide) (by decide)) (vp_in_nI (show 6 * (l % 16) + 5 < 96 by omega) (by decide)) ?_
          rw [nI_clamp (by omega), n4 (l % 16) 5 (Nat.mod_lt _ (by decide)) (by decide)]
          refine xw_bipush 64 dd_M_start_67 (by decide) ?_
          refine xw_iand dd_M_start_69 ?_
          refine xw_if_ne 77 dd_M_start_70 (by decide) (fun hcl => ?_) (fun hcl => ?_)
          · refine xw_iconst 0 dd_M_start_77 (by decide) ?_
            refine xw_istore dd_M_start_78 (by decide) ?_
            refine xw_iload_n dd_M_start_80 rfl ?_
            refine xw_istore dd_M_start_81 (by decide) ?_
            exact dead i l (fun q => ((p2 i).mp q).2.2.2 l l1 l2 l3 hcl)
          · have inner : ∀ (r k : Nat), k + r = l → i ≤ k → (∀ k', i ≤ k' → k' < k → sv_rg V (k' % 16) 0 = sv_rg V (i % 16) 0 → ¬ cl_ (sv_rg V (k' % 16) 5)) → xa_W G mm_M_start 3 0 0 83 [some (.ref o), some (.int (nI js.length)), some (.int (nI i)), some (.int (nI l)), some (.int 1), some (.int (nI k))] [] h1 z1 (mqz G h z1 o (0, nI (sv_recall (sv_hd V) (sv_rg V)).length, sv_ends (sv_recall (sv_hd V) (sv_rg V)).length (sv_back V)) A) := by
              intro r
              induction r with
              | zero =>
                intro k hkl hik hrun
                have hok : i ∈ is := (p2 i).mpr ⟨hti, by omega, hfst, fun k' k1 k2 k3 => by
                  by_cases e : k' < k
                  · exact hrun k' k1 e k3
                  · by_cases e2 : k' = l
                    · rw [e2]
                      exact fun q => q hcl
                    · exact absurd k3 (l4 k' (by omega) k2)⟩
                refine xw_iload dd_M_start_83 rfl ?_
                refine xw_iload_n dd_M_start_85 rfl ?_
                refine xw_icmp_ge 156 dd_M_start_86 (by decide) (fun hc => ?_) (fun hc => absurd (nI_le (by omega) (by omega)) hc)
                refine xw_iload dd_M_start_156 rfl ?_
                refine xw_if_eq 222 dd_M_start_158 (by decide) (fun hc => absurd hc (by decide)) (fun hc => ?_)
                refine xw_aloadR_n dd_M_start_161 rfl ?_
                refine xw_get fl_M_29 dd_M_start_162 H1.1 rfl ?_
                refine xw_bipush 6 dd_M_start_165 (by decide) ?_
                refine xw_iload_n dd_M_start_167 rfl ?_
                refine xw_bipush 16 dd_M_start_168 (by decide) ?_
                refine xw_irem dd_M_start_170 (by decide) ?_
                rw [show nI i - nI i / 16 * 16 = nI (i % 16) from pk_rem (a := i) (d := 16) (by omega) (by decide) (by decide)]
                refine xw_imul dd_M_start_171 ?_
                rw [show (6 : Int32) * nI (i % 16) = nI (6 * (i % 16)) from pk_mul 6 (i % 16)]
                refine xw_iconst 5 dd_M_start_172 (by decide) ?_
                refine xw_iadd dd_M_start_173 ?_
                rw [show nI (6 * (i % 16)) + 5 = nI (6 * (i % 16) + 5) from nI_add (6 * (i % 16)) 5]
                refine xw_iald dd_M_start_174 (H1.2.1 6 (by decide) (by decide)) (vp_in_nI (show 6 * (i % 16) + 5 < 96 by omega) (by decide)) ?_
                rw [nI_clamp (by omega), n4 (i % 16) 5 (Nat.mod_lt _ (by decide)) (by decide)]
                refine xw_bipush 64 dd_M_start_175 (by decide) ?_
                refine xw_iand dd_M_start_177 ?_
                refine xw_if_ne 222 dd_M_start_178 (by decide) (fun hc => absurd hc (((p2 i).mp hok).2.2.2 i (Nat.le_refl _) (by omega) rfl)) (fun hc => ?_)
                refine xw_aloadR_n dd_M_start_181 rfl ?_
                refine xw_get fl_M_75 dd_M_start_182 H1.1 rfl ?_
                refine xw_iload_n dd_M_start_185 rfl ?_
                refine xw_aloadR_n dd_M_start_186 rfl ?_
                refine xw_get fl_M_29 dd_M_start_187 H1.1 rfl ?_
                refine xw_bipush 6 dd_M_start_190 (by decide) ?_
                refine xw_iload_n dd_M_start_192 rfl ?_
                refine xw_bipush 16 dd_M_start_193 (by decide) ?_
                refine xw_irem dd_M_start_195 (by decide) ?_
                rw [show nI i - nI i / 16 * 16 = nI (i % 16) from pk_rem (a := i) (d := 16) (by omega) (by decide) (by decide)]
                refine xw_imul dd_M_start_196 ?_
                rw [show (6 : Int32) * nI (i % 16) = nI (6 * (i % 16)) from pk_mul 6 (i % 16)]
                refine xw_iald dd_M_start_197 (H1.2.1 6 (by decide) (by decide)) (vp_in_nI (show 6 * (i % 16) + 0 < 96 by omega) (by decide)) ?_
                rw [nI_clamp (by omega), show A1 6 (6 * (i % 16)) = (sv_rg V) (i % 16) 0 from n4 (i % 16) 0 (Nat.mod_lt _ (by decide)) (by decide)]
                have ixn : vp_in (nI js.length) 16 := vp_in_nI (show js.length < 16 by omega) (by decide)
                refine xw_iastA dd_M_start_198 (H1.2.1 20 (by decide) (by decide)) ixn (by have := H.2.2; omega) (fun h4 n40 fn40 => ?_)
                rw [nI_clamp (by omega)] at n40
                obtain ⟨H4, fr4⟩ := H1.setA (i := 20) (by decide) n40 fn40
                refine xw_aloadR_n dd_M_start_199 rfl ?_
                refine xw_get fl_M_78 dd_M_start_200 H4.1 rfl ?_
                refine xw_iload_n dd_M_start_203 rfl ?_
                refine xw_aloadR_n dd_M_start_204 rfl ?_
                refine xw_get fl_M_29 dd_M_start_205 H4.1 rfl ?_
                refine xw_bipush 6 dd_M_start_208 (by decide) ?_
                refine xw_iload_n dd_M_start_210 rfl ?_
                refine xw_bipush 16 dd_M_start_211 (by decide) ?_
                refine xw_irem dd_M_start_213 (by decide) ?_
                rw [show nI l - nI l / 16 * 16 = nI (l % 16) from pk_rem (a := l) (d := 16) (by omega) (by decide) (by decide)]
                refine xw_imul dd_M_start_214 ?_
                rw [show (6 : Int32) * nI (l % 16) = nI (6 * (l % 16)) from pk_mul 6 (l % 16)]
                refine xw_iconst 5 dd_M_start_215 (by decide) ?_
                refine xw_iadd dd_M_start_216 ?_
                rw [show nI (6 * (l % 16)) + 5 = nI (6 * (l % 16) + 5) from nI_add (6 * (l % 16)) 5]
                refine xw_iald dd_M_start_217 (H4.2.1 6 (by decide) (by decide)) (vp_in_nI (show 6 * (l % 16) + 5 < 96 by omega) (by decide)) ?_
                rw [nI_clamp (by omega), (show uA A1 20 (upd (A1 20) js.length (sv_rg V (i % 16) 0)) 6 (6 * (l % 16) + 5) = sv_rg V (l % 16) 5 from n4 (l % 16) 5 (Nat.mod_lt _ (by decide)) (by decide))]
                refine xw_iastA dd_M_start_218 (show h4 (o + 21) = some (.inl (0, (16, .inl (A1 21)))) from H4.2.1 21 (by decide) (by decide)) ixn (by have := H.2.2; omega) (fun h5 n50 fn50 => ?_)
                rw [nI_clamp (by omega)] at n50
                obtain ⟨H5, fr5⟩ := H4.setA (i := 21) (f := upd (A1 21) js.length (sv_rg V (l % 16) 5)) (by decide) n50 fn50
                refine xw_iinc dd_M_start_219 rfl (nI_1 js.length) (by decide) ?_
                refine xw_iinc dd_M_start_222 rfl (nI_1 i) (by decide) ?_
                refine xw_goto 31 dd_M_start_225 (by decide) ?_
                have hjl : (js ++ [i]).length = js.length + 1 := by
                  rw [List.length_append]
                  rfl
                rw [← hjl]
                refine ih (i + 1) (js ++ [i]) _ _ _ _ h5 (by omega) (by omega) (List.pairwise_append.mpr ⟨j1, List.pairwise_cons.mpr ⟨(fun b hb => by cases hb), List.Pairwise.nil⟩, fun a ha b hb => ?_⟩) (fun x => ?_) (by omega) H5 (fun q hq => ?_) (fun j g hg => ?_) (fr1.trans (fr4.trans fr5))
                · rw [List.mem_singleton] at hb
                  rw [hb]
                  exact ((j2 a).mp ha).2
                · rw [List.mem_append, List.mem_singleton, j2]
                  constructor
                  · rintro (⟨u, w⟩ | u)
                    · exact ⟨u, by omega⟩
                    · rw [u]
                      exact ⟨hok, by omega⟩
                  · rintro ⟨u, w⟩
                    by_cases e : x = i
                    · exact Or.inr e
                    · exact Or.inl ⟨u, by omega⟩
                · rw [uA_n _ _ (by omega), uA_n _ _ (by omega)]
                  exact eA q hq
                · show upd (A1 20) js.length (sv_rg V (i % 16) 0) j = g.1 ∧ upd (A1 21) js.length (sv_rg V (l % 16) 5) j = g.2
                  rw [List.map_append] at hg
                  by_cases e : j < js.length
                  · rw [List.getElem?_append_left (by rw [List.length_map]; exact e)] at hg
                    rw [pk_un (by omega), pk_un (by omega)]
                    exact ent j g hg
                  · have hj2 := (List.getElem?_eq_some_iff.mp hg).1
                    rw [List.length_append, List.length_map] at hj2
                    have hj2 : j < js.length + 1 := hj2
                    have ej : j = js.length := by omega
                    subst ej
                    rw [List.getElem?_append_right (by rw [List.length_map]; exact Nat.le_refl _), List.length_map, Nat.sub_self] at hg
                    have hg : some (sv_rg V (i % 16) 0, lr (fun s => sv_rg V (s % 16) 0) (fun s => sv_rg V (s % 16) 5) (sv_hd V) (sv_rg V (i % 16) 0)) = some g := hg
                    rw [hlr] at hg
                    cases hg
                    exact ⟨pk_us, pk_us⟩
              | succ r ihr =>
                intro k hkl hik hrun
                refine xw_iload dd_M_start_83 rfl ?_
                refine xw_iload_n dd_M_start_85 rfl ?_
                refine xw_icmp_ge 156 dd_M_start_86 (by decide) (fun hc => absurd hc (nI_ge (by omega) (by omega))) (fun hc => ?_)
                refine xw_iload dd_M_start_89 rfl ?_
                refine xw_if_eq 156 dd_M_start_91 (by decide) (fun hc => absurd hc (by decide)) (fun hc => ?_)
                have yes : (sv_rg V (k % 16) 0 = sv_rg V (i % 16) 0 → ¬ cl_ (sv_rg V (k % 16) 5)) → xa_W G mm_M_start 3 0 0 143 [some (.ref o), some (.int (nI js.length)), some (.int (nI i)), some (.int (nI l)), some (.int 1), some (.int (nI k))] [] h1 z1 (mqz G h z1 o (0, nI (sv_recall (sv_hd V) (sv_rg V)).length, sv_ends (sv_recall (sv_hd V) (sv_rg V)).length (sv_back V)) A) := by
                  intro hy
                  refine xw_iconst 1 dd_M_start_143 (by decide) ?_
                  refine xw_goto 148 dd_M_start_144 (by decide) ?_
                  refine xw_istore dd_M_start_148 (by decide) ?_
                  refine xw_iinc dd_M_start_150 rfl (nI_1 k) (by decide) ?_
                  refine xw_goto 83 dd_M_start_153 (by decide) ?_
                  refine ihr (k + 1) (by omega) (by omega) (fun k' a b c => ?_)
                  by_cases e : k' = k
                  · rw [e] at c ⊢
                    exact hy c
                  · exact hrun k' a (by omega) c
                refine xw_aloadR_n dd_M_start_94 rfl ?_
                refine xw_get fl_M_29 dd_M_start_95 H1.1 rfl ?_
                refine xw_bipush 6 dd_M_start_98 (by decide) ?_
                refine xw_iload dd_M_start_100 rfl ?_
                refine xw_bipush 16 dd_M_start_102 (by decide) ?_
                refine xw_irem dd_M_start_104 (by decide) ?_
                rw [show nI k - nI k / 16 * 16 = nI (k % 16) from pk_rem (a := k) (d := 16) (by omega) (by decide) (by decide)]
                refine xw_imul dd_M_start_105 ?_
                rw [show (6 : Int32) * nI (k % 16) = nI (6 * (k % 16)) from pk_mul 6 (k % 16)]
                refine xw_iald dd_M_start_106 (H1.2.1 6 (by decide) (by decide)) (vp_in_nI (show 6 * (k % 16) + 0 < 96 by omega) (by decide)) ?_
                rw [nI_clamp (by omega), show A1 6 (6 * (k % 16)) = (sv_rg V) (k % 16) 0 from n4 (k % 16) 0 (Nat.mod_lt _ (by decide)) (by decide)]
                refine xw_aloadR_n dd_M_start_107 rfl ?_
                refine xw_get fl_M_29 dd_M_start_108 H1.1 rfl ?_
                refine xw_bipush 6 dd_M_start_111 (by decide) ?_
                refine xw_iload_n dd_M_start_113 rfl ?_
                refine xw_bipush 16 dd_M_start_114 (by decide) ?_
                refine xw_irem dd_M_start_116 (by decide) ?_
                rw [show nI i - nI i / 16 * 16 = nI (i % 16) from pk_rem (a := i) (d := 16) (by omega) (by decide) (by decide)]
                refine xw_imul dd_M_start_117 ?_
                rw [show (6 : Int32) * nI (i % 16) = nI (6 * (i % 16)) from pk_mul 6 (i % 16)]
                refine xw_iald dd_M_start_118 (H1.2.1 6 (by decide) (by decide)) (vp_in_nI (show 6 * (i % 16) + 0 < 96 by omega) (by decide)) ?_
                rw [nI_clamp (by omega), show A1 6 (6 * (i % 16)) = (sv_rg V) (i % 16) 0 from n4 (i % 16) 0 (Nat.mod_lt _ (by decide)) (by decide)]
                refine xw_icmp_ne 143 dd_M_start_119 (by decide) (fun hne => yes (fun q => absurd q hne)) (fun heq => ?_)
                refine xw_aloadR_n dd_M_start_122 rfl ?_
                refine xw_get fl_M_29 dd_M_start_123 H1.1 rfl ?_
                refine xw_bipush 6 dd_M_start_126 (by decide) ?_
                refine xw_iload dd_M_start_128 rfl ?_
                refine xw_bipush 16 dd_M_start_130 (by decide) ?_
                refine xw_irem dd_M_start_132 (by decide) ?_
                rw [show nI k - nI k / 16 * 16 = nI (k % 16) from pk_rem (a := k) (d := 16) (by omega) (by decide) (by decide)]
                refine xw_imul dd_M_start_133 ?_
                rw [show (6 : Int32) * nI (k % 16) = nI (6 * (k % 16)) from pk_mul 6 (k % 16)]
                refine xw_iconst 5 dd_M_start_134 (by decide) ?_
                refine xw_iadd dd_M_start_135 ?_
                rw [show nI (6 * (k % 16)) + 5 = nI (6 * (k % 16) + 5) from nI_add (6 * (k % 16)) 5]
                refine xw_iald dd_M_start_136 (H1.2.1 6 (by decide) (by decide)) (vp_in_nI (show 6 * (k % 16) + 5 < 96 by omega) (by decide)) ?_
                rw [nI_clamp (by omega), n4 (k % 16) 5 (Nat.mod_lt _ (by decide)) (by decide)]
                refine xw_bipush 64 dd_M_start_137 (by decide) ?_
                refine xw_iand dd_M_start_139 ?_
                refine xw_if_ne 147 dd_M_start_140 (by decide) (fun hck => ?_) (fun hck => yes (fun _ q => q hck))
                refine xw_iconst 0 dd_M_start_147 (by decide) ?_
                refine xw_istore dd_M_start_148 (by decide) ?_
                refine xw_iinc dd_M_start_150 rfl (nI_1 k) (by decide) ?_
                refine xw_goto 83 dd_M_start_153 (by decide) ?_
                exact dead (k + 1) l (fun q => ((p2 i).mp q).2.2.2 k hik (by omega) heq hck)
            refine xw_iconst 1 dd_M_start_73 (by decide) ?_
            refine xw_goto 78 dd_M_start_74 (by decide) ?_
            refine xw_istore dd_M_start_78 (by decide) ?_
            refine xw_iload_n dd_M_start_80 rfl ?_
            refine xw_istore dd_M_start_81 (by decide) ?_
            exact inner (l - i) i (by omega) (Nat.le_refl _) (fun k' a b _ => by omega)
        · refine xw_if_eq 77 dd_M_start_50 (by decide) (fun hc => ?_) (fun hc => absurd rfl hc)
          refine xw_iconst 0 dd_M_start_77 (by decide) ?_
          refine xw_istore dd_M_start_78 (by decide) ?_
          refine xw_iload_n dd_M_start_80 rfl ?_
          refine xw_istore dd_M_start_81 (by decide) ?_
          exact dead i l (fun q => hfst ((p2 i).mp q).2.2.1)
    refine xw_iconst 0 dd_M_start_24 (by decide) ?_
    refine xw_istore_n dd_M_start_25 (by decide) ?_
    refine xw_aloadR_n dd_M_start_26 rfl ?_
    refine xw_cl0 (ct_M_tailNow H3 (V3 A (fun _ _ => rfl))) (iv_M_start_27 H3.1) ok_M_tailNow rfl rfl rfl ?_ (fun _ _ _ q => by cases q.1)
    rintro v h3 z3 ⟨hv, rfl, rfl⟩
    cases hv
    refine xw_istore_n dd_M_start_30 (by decide) ?_
    refine loop (sv_hd V - rg_tl (sv_hd V)) (rg_tl (sv_hd V)) [] none none none A h3 (by omega) (Nat.le_refl _) List.Pairwise.nil (fun x => ⟨(fun q => by cases q), fun q => ?_⟩) (by show 0 + _ ≤ _; omega) H3 (fun _ _ => rfl) (fun j g hg => ?_) fr03
    · have := ((p2 x).mp q.1).1
      omega
    · have hg : ([] : List (Int32 × Int32))[j]? = some g := hg
      simp at hg
end SG
