/-! lists: more that is written -/
theorem al_x.mod {G : xa_G} {h h1 : xa_H} {a ea cap : Nat} {xs : List Nat} {mc : Int32} (hA : al_x G h a ea cap xs) (h2 : h1 a = some (.inr (8, [.int mc, .ref ea, .int (nI xs.length)]))) (h3 : ∀ b, b ≠ a → h1 b = h b) : al_x G h1 a ea cap xs := by
  have hne := hA.ne
  obtain ⟨hBa, hcap, f, ⟨-, g2, g3, g4⟩, hf⟩ := hA
  exact ⟨hBa, hcap, f, ⟨⟨mc, h2⟩, (h3 ea (fun e => hne e.symm)).trans g2, g3, g4⟩, hf⟩
theorem xo_obj {ci : Nat} (h : xa_A ci "java/lang/Object") : ci ≠ 8 := by
  intro e
  subst e
  obtain ⟨r, q1, q2⟩ := h
  cases q1
  rcases q2 with q2 | q2
  · exact absurd q2 (by decide)
  · exact absurd q2 (by decide)
theorem xo_in.keep {h h1 : xa_H} {xs : List Nat} (ho : xo_in h xs) (hk : ∀ b ci fs, h b = some (.inr (ci, fs)) → ci ≠ 8 → h1 b = h b) : xo_in h1 xs := by
  intro x hx
  obtain ⟨ci, fs, g1, g2⟩ := ho x hx
  exact ⟨ci, fs, (hk x ci fs g1 (xo_obj g2)).trans g1, g2⟩
section AV
variable {G : xa_G} {h : xa_H} {sz : Nat}
theorem ct_A_add1 {a ea cap v ci : Nat} {fs : List Value} {xs : List Nat} (hA : al_x G h a ea cap xs) (ho : xo_in h xs) (hc : cap < 400000) (hv : h v = some (.inr (ci, fs))) (hci : xa_A ci "java/lang/Object") : xa_T G mm_A_add1 6 1 (al_pay xs.length cap) [.ref a, .ref v] h sz (xq_list G h sz a ea cap xs.length (xs ++ [v]) (some (.int 1))) := by
  have hne := hA.ne
  have hA0 := hA
  obtain ⟨hBa, hcap, f, ⟨⟨mc, h1⟩, h2, h3, h4⟩, hf⟩ := hA
  refine xt_o ok_A_add1 rfl rfl ?_
  refine xw_dom (fun hd hB => ?_)
  have hla := hd _ _ h1
  refine xw_aloadR_n dd_A_add1_0 rfl ?_
  refine xw_dup dd_A_add1_1 rfl ?_
  refine xw_get fl_A_63 dd_A_add1_2 h1 rfl ?_
  refine xw_iconst 1 dd_A_add1_5 (by decide) ?_
  refine xw_iadd dd_A_add1_6 ?_
  refine xw_putA fl_A_63 fz_A_63 (by decide) dd_A_add1_7 h1 rfl hBa rfl rfl (fun h5 hn5 hf5 => ?_)
  refine xw_aloadR_n dd_A_add1_10 rfl ?_
  refine xw_aloadR_n dd_A_add1_11 rfl ?_
  refine xw_aloadR_n dd_A_add1_12 rfl ?_
  refine xw_get fl_A_9 dd_A_add1_13 hn5 rfl ?_
  refine xw_aloadR_n dd_A_add1_16 rfl ?_
  refine xw_get fl_A_48 dd_A_add1_17 hn5 rfl ?_
  have hkeep : ∀ b ci fs, h b = some (.inr (ci, fs)) → ci ≠ 8 → h5 b = h b := by
    intro b ci fs hb hne8
    refine hf5 b (fun e => ?_)
    subst e
    rw [hb] at h1
    cases h1
    exact hne8 rfl
  refine xw_less (kc' := 0 + 1) (ks' := 0 + al_pay xs.length cap) (by omega) (by omega) ?_
  refine xw_cl (ct_A_add2 (hA0.mod hn5 hf5) (ho.keep hkeep) hc ((hkeep v ci fs hv (xo_obj hci)).trans hv) hci) (iv_A_add1_20 hn5) ok_A_add2 rfl rfl rfl ?_ (fun _ _ _ q => by cases q.1)
  rintro v' h' z1 ⟨hv', ea', cap', g1, g2, g3⟩
  cases hv'
  refine xw_iconst 1 dd_A_add1_23 (by decide) ?_
  refine xw_zret dd_A_add1_24 rfl rfl ⟨rfl, ea', cap', g1, fun b b1 b2 b3 => (g2 b b1 b2 b3).trans (hf5 b b1), ?_⟩
  rcases g3 with ⟨q1, q2, q3, q4⟩ | q
  · exact Or.inl ⟨q1, q2, q3, q4.trans (hf5 sz (by omega))⟩
  · exact Or.inr ⟨q.1, q.2.1, q.2.2.1, q.2.2.2.1, q.2.2.2.2.trans (hf5 ea (fun e => hne e.symm))⟩
theorem ct_A_rangeCheckForAdd {a ea cap i : Nat} {xs : List Nat} (hA : al_x G h a ea cap xs) (hi : i ≤ xs.length) : xa_T G mm_A_rangeCheckForAdd 0 0 0 [.ref a, .int (nI i)] h sz (xq_same h sz none) := by
  obtain ⟨hBa, hcap, f, ⟨⟨mc, h1⟩, h2, h3, h4⟩, hf⟩ := hA
  refine xt_o ok_A_rangeCheckForAdd rfl rfl ?_
  refine xw_iload_n dd_A_rangeCheckForAdd_0 rfl ?_
  refine xw_aloadR_n dd_A_rangeCheckForAdd_1 rfl ?_
  refine xw_get fl_A_48 dd_A_rangeCheckForAdd_2 h1 rfl ?_
  refine xw_icmp_gt 12 dd_A_rangeCheckForAdd_5 (by decide) (fun hc => absurd hc (nI_nlt hi (by omega))) (fun hc => ?_)
  refine xw_iload_n dd_A_rangeCheckForAdd_8 rfl ?_
  refine xw_if_ge 25 dd_A_rangeCheckForAdd_9 (by decide) (fun hc => ?_) (fun hc => absurd (nI_pos' (by omega)) hc)
  exact xw_vret dd_A_rangeCheckForAdd_25 rfl ⟨rfl, rfl, rfl⟩
/-- an element comes in between -/
theorem al_ins {f g : Nat → Option Nat} {xs : List Nat} {i v : Nat} (hi : i ≤ xs.length) (hf : ∀ (j y : Nat), xs[j]? = some y → f j = some y) (hg : ∀ j, j < xs.length → g j = f j) : ∀ (j y : Nat), (xs.insertIdx i v)[j]? = some y → va_up (va_cpy g g i (i + 1) (xs.length - i)) i (some v) j = some y := by
  intro j y hj
  rw [List.getElem?_insertIdx] at hj
  by_cases hji : j < i
  · rw [if_pos hji] at hj
    rw [va_up_ne _ _ (by omega), pk_cpy_out (by omega), hg j (by omega)]
    exact hf j y hj
  · rw [if_neg hji] at hj
    by_cases hje : j = i
    · subst hje
      simp [hi] at hj
      subst hj
      exact va_up_self ..
    · rw [if_neg hje] at hj
      have hlt := (List.getElem?_eq_some_iff.mp hj).1
      rw [va_up_ne _ _ hje, pk_cpy_in (by omega) (by omega), show i + (j - (i + 1)) = j - 1 by omega, hg _ hlt]
      exact hf _ y hj
theorem ct_A_add0 {a ea cap v ci i : Nat} {fs : List Value} {xs : List Nat} (hA : al_x G h a ea cap xs) (hi : i ≤ xs.length) (ho : xo_in h xs) (hc : cap < 400000) (hv : h v = some (.inr (ci, fs))) (hci : xa_A ci "java/lang/Object") : xa_T G mm_A_add0 6 1 (al_pay xs.length cap) [.ref a, .int (nI i), .ref v] h sz (xq_list G h sz a ea cap xs.length (xs.insertIdx i v) none) := by
  have hne := hA.ne
  have hA0 := hA
  obtain ⟨hBa, hcap, f, ⟨⟨mc, h1⟩, h2, h3, h4⟩, hf⟩ := hA
  have hlen : (xs.insertIdx i v).length = xs.length + 1 := by rw [List.length_insertIdx]; simp [hi]
  refine xt_o ok_A_add0 rfl rfl ?_
  refine xw_dom (fun hd hB => ?_)
  have hla := hd _ _ h1
  have hle := hd _ _ h2
  have hlv := hd _ _ hv
  refine xw_aloadR_n dd_A_add0_0 rfl ?_
  refine xw_iload_n dd_A_add0_1 rfl ?_
  refine xw_cl0 (ct_A_rangeCheckForAdd hA0 hi) (iv_A_add0_2 h1) ok_A_rangeCheckForAdd rfl rfl rfl ?_ (fun _ _ _ q => by cases q.1)
  rintro v' h' z1 ⟨hv', rfl, rfl⟩
  cases hv'
  refine xw_aloadR_n dd_A_add0_5 rfl ?_
  refine xw_dup dd_A_add0_6 rfl ?_
  refine xw_get fl_A_63 dd_A_add0_7 h1 rfl ?_
  refine xw_iconst 1 dd_A_add0_10 (by decide) ?_
  refine xw_iadd dd_A_add0_11 ?_
  refine xw_putA fl_A_63 fz_A_63 (by decide) dd_A_add0_12 h1 rfl hBa rfl rfl (fun h5 hn5 hf5 => ?_)
  have hA5 := hA0.mod hn5 hf5
  have hkeep : ∀ b ci fs, h' b = some (.inr (ci, fs)) → ci ≠ 8 → h5 b = h' b := by
    intro b ci fs hb hne8
    refine hf5 b (fun e => ?_)
    subst e
    rw [hb] at h1
    cases h1
    exact hne8 rfl
  have ho5 := ho.keep hkeep
  have hv5 := (hkeep v ci fs hv (xo_obj hci)).trans hv
  have h25 : h5 ea = some (xr_q 3 cap f) := (hf5 ea (fun e => hne e.symm)).trans h2
  refine xw_aloadR_n dd_A_add0_15 rfl ?_
  refine xw_get fl_A_48 dd_A_add0_16 hn5 rfl ?_
  refine xw_dup dd_A_add0_19 rfl ?_
  refine xw_istore_n dd_A_add0_20 (by decide) ?_
  refine xw_aloadR_n dd_A_add0_21 rfl ?_
  refine xw_get fl_A_9 dd_A_add0_22 hn5 rfl ?_
  refine xw_dup dd_A_add0_25 rfl ?_
  refine xw_astoreR dd_A_add0_26 (by decide) ?_
  refine xw_alenQ (t := 3) rfl dd_A_add0_28 h25 ?_
  have tail : ∀ (h6 : xa_H) (z e2 c2 : Nat) (g : Nat → Option Nat) (m2 : Int32), h6 a = some (.inr (8, [.int m2, .ref e2, .int (nI xs.length)])) → h6 e2 = some (xr_q 3 c2 g) → (∀ j, j < xs.length → g j = f j) → xs.length < c2 → c2 < 1000000 → G.2.2.1 ≤ e2 → e2 ≠ a → v ≠ e2 → h6 v = some (.inr (ci, fs)) → xo_in h6 xs →
      (∀ h7 : xa_H, al_x G h7 a e2 c2 (xs.insertIdx i v) → (∀ b, b ≠ a → b ≠ e2 → h7 b = h6 b) → xq_list G h' z1 a ea cap xs.length (xs.insertIdx i v) none (.returned none) h7 z) →
      xa_W G mm_A_add0 6 0 0 38 [some (.ref a), some (.int (nI i)), some (.ref v), some (.int (nI xs.length)), some (.ref e2)] [] h6 z (xq_list G h' z1 a ea cap xs.length (xs.insertIdx i v) none) := by
    intro h6 z e2 c2 g m2 k1 k2 k3 k4 k5 k6 k7 kv k8 k9 kq
    refine xw_aloadR dd_A_add0_38 rfl ?_
    refine xw_iload_n dd_A_add0_40 rfl ?_
    refine xw_aloadR dd_A_add0_41 rfl ?_
    refine xw_iload_n dd_A_add0_43 rfl ?_
    refine xw_iconst 1 dd_A_add0_44 (by decide) ?_
    refine xw_iadd dd_A_add0_45 ?_
    refine xw_iload_n dd_A_add0_46 rfl ?_
    refine xw_iload_n dd_A_add0_47 rfl ?_
    refine xw_isub dd_A_add0_48 ?_
    refine xw_copyA iw_260 dd_A_add0_49 k2 k2 i (i + 1) (xs.length - i) (by omega) (by omega) (by omega) rfl (nI_1 i) (pk_sub hi) (by omega) (by omega) ?_ k6 rfl rfl (fun h7 hn7 hf7 => ?_)
    · intro x1 hx1 y hy
      rw [k3 _ (by omega)] at hy
      exact al_x.all (G := G) (a := a) (ea := ea) (cap := cap) hf k9 (i + x1) (by omega) y hy
    refine xw_aloadR dd_A_add0_52 rfl ?_
    refine xw_iload_n dd_A_add0_54 rfl ?_
    refine xw_aloadR_n dd_A_add0_55 rfl ?_
    refine xw_aastA (t := 3) rfl hci dd_A_add0_56 hn7 ((hf7 v kv).trans k8) (vp_in_nI (by omega) (by omega)) k6 (fun h8 hn8 hf8 => ?_)
    rw [nI_clamp (by omega)] at hn8
    refine xw_aloadR_n dd_A_add0_57 rfl ?_
    refine xw_iload_n dd_A_add0_58 rfl ?_
    refine xw_iconst 1 dd_A_add0_59 (by decide) ?_
    refine xw_iadd dd_A_add0_60 ?_
    rw [nI_1]
    refine xw_putA fl_A_48 fz_A_48 (by decide) dd_A_add0_61 ((hf8 a (fun e => k7 e.symm)).trans ((hf7 a (fun e => k7 e.symm)).trans k1)) rfl hBa rfl rfl (fun h9 hn9 hf9 => ?_)
    refine xw_vret dd_A_add0_64 rfl (kq h9 ⟨hBa, Or.inr ⟨by omega, k6⟩, _, ⟨⟨m2, by rw [hlen]; exact hn9⟩, (hf9 e2 k7).trans hn8, by omega, k5⟩, al_ins hi hf k3⟩ (fun b b1 b2 => (hf9 b b1).trans ((hf8 b b2).trans (hf7 b b2))))
  refine xw_icmp_ne 38 dd_A_add0_29 (by decide) (fun hc0 => ?_) (fun hc0 => ?_)
  · have hlt : xs.length < cap := by
      by_cases e : xs.length = cap
      · exact absurd (by rw [e]) hc0
      · omega
    refine xw_less (kc' := 0) (ks' := 0) (by omega) (by omega) ?_
    refine tail h5 z1 ea cap f _ hn5 h25 (fun _ _ => rfl) hlt h4 (by omega) (fun e => hne e.symm) (fun e => ?_) hv5 ho5 (fun h7 q1 q2 => ⟨rfl, ea, cap, q1, fun b b1 b2 _ => (q2 b b1 b2).trans (hf5 b b1), Or.inl ⟨rfl, rfl, rfl, (q2 z1 (by omega) (by omega)).trans (hf5 z1 (by omega))⟩⟩)
    subst e
    rw [hv] at h2
    cases h2
  · have heq : xs.length = cap := by
      by_cases e : xs.length = cap
      · exact e
      · exact absurd ((nI_eq (by omega) (by omega)).mp hc0) e
    refine xw_aloadR_n dd_A_add0_32 rfl ?_
    refine xw_less (kc' := 0 + 1) (ks' := 0 + al_cap cap) (by omega) (by unfold al_pay; rw [if_pos heq]; omega) ?_
    have hall : xo_all h5 f cap := by
      have := al_x.all (G := G) (a := a) (ea := ea) (cap := cap) hf ho5
      rw [heq] at this
      exact this
    refine xw_cl (ct_A_grow0 (f := f) ⟨⟨_, by rw [heq] at hn5; exact hn5⟩, h25, by omega, h4⟩ (by omega) (by omega) hBa hall) (iv_A_add0_33 hn5) ok_A_grow0 rfl rfl rfl ?_ (fun _ _ _ q => by cases q.1)
    rintro v' h6 z2 ⟨hv', rfl, ⟨f', ⟨⟨mc', g1⟩, g2, g3, g4⟩, g5⟩, g6⟩
    cases hv'
    have hcc : cap < al_cap cap := by
      unfold al_cap
      split <;> omega
    have hva : v ≠ a := fun e => by
      subst e
      rw [hv] at h1
      cases h1
      exact xo_obj hci rfl
    refine xw_astoreR dd_A_add0_36 (by decide) ?_
    refine tail h6 (z1 + 1) z1 (al_cap cap) f' mc' (by rw [heq]; exact g1) g2 (fun j hj => g5 j (by omega)) (by omega) g4 hB (by omega) (by omega) ((g6 v (by omega) hva).trans hv5) (ho5.keep ?_) (fun h7 q1 q2 => ⟨rfl, z1, al_cap cap, q1, fun b b1 b2 b3 => (q2 b b1 b3).trans ((g6 b b3 b1).trans (hf5 b b1)), Or.inr ⟨rfl, rfl, rfl, heq, (q2 ea (fun e => hne e.symm) (by omega)).trans ((g6 ea (by omega) (fun e => hne e.symm)).trans (hf5 ea (fun e => hne e.symm)))⟩⟩)
    intro b cb fb hb hb8
    have hb5 : h' b = some (.inr (cb, fb)) := by
      by_cases e : b = a
      · subst e
        rw [hn5] at hb
        cases hb
        exact absurd rfl hb8
      · rw [← hf5 b e]; exact hb
    have := hd _ _ hb5
    refine g6 b (by omega) (fun e => ?_)
    subst e
    rw [hb5] at h1
    cases h1
    exact hb8 rfl
end AV
