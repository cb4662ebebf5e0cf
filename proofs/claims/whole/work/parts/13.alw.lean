/-! lists, as lists of addresses: what is written -/
def al_x (G : xa_G) (h : xa_H) (a ea cap : Nat) (xs : List Nat) : Prop := G.2.2.1 ≤ a ∧ ((cap = 0 ∧ ea = G.2.2.2.1) ∨ (0 < cap ∧ G.2.2.1 ≤ ea)) ∧ ∃ f, al_at h a ea xs.length cap f ∧ ∀ (i x : Nat), xs[i]? = some x → f i = some x
/-- objects that may lie in lists -/
def xo_in (h : xa_H) (xs : List Nat) : Prop := ∀ x ∈ xs, ∃ ci fs, h x = some (.inr (ci, fs)) ∧ xa_A ci "java/lang/Object"
theorem al_x.ne {G : xa_G} {h : xa_H} {a ea cap : Nat} {xs : List Nat} (hA : al_x G h a ea cap xs) : a ≠ ea := by
  obtain ⟨-, -, f, ⟨⟨mc, h1⟩, h2, -⟩, -⟩ := hA
  intro e
  subst e
  rw [h1] at h2
  cases h2
theorem al_x.cell {G : xa_G} {h : xa_H} {a ea cap : Nat} {xs : List Nat} (hA : al_x G h a ea cap xs) : ∃ fs, h a = some (.inr (8, fs)) := by
  obtain ⟨-, -, f, ⟨⟨mc, h1⟩, h2, -⟩, -⟩ := hA
  exact ⟨_, h1⟩
theorem al_x.len {G : xa_G} {h : xa_H} {a ea cap : Nat} {xs : List Nat} (hA : al_x G h a ea cap xs) : xs.length ≤ cap ∧ cap < 1000000 := by
  obtain ⟨-, -, f, ⟨-, -, h3, h4⟩, -⟩ := hA
  exact ⟨h3, h4⟩
theorem al_x.all {G : xa_G} {h : xa_H} {a ea cap : Nat} {xs : List Nat} {f : Nat → Option Nat} (hf : ∀ (i x : Nat), xs[i]? = some x → f i = some x) (ho : xo_in h xs) : xo_all h f xs.length := by
  intro i hi y hy
  obtain ⟨x, hx⟩ : ∃ x, xs[i]? = some x := ⟨xs[i], List.getElem?_eq_getElem hi⟩
  have e := (hf i x hx).symm.trans hy
  cases e
  exact ho _ (List.mem_of_getElem? hx)
/-- a change of the list alone -/
def xq_upd (G : xa_G) (h : xa_H) (sz a ea cap : Nat) (xs' : List Nat) (v : Option Value) : Outcome → xa_H → Nat → Prop := fun o h' z => o = .returned v ∧ z = sz ∧ al_x G h' a ea cap xs' ∧ ∀ b, b ≠ a → b ≠ ea → h' b = h b
/-- a change of the list, whose array may have been replaced -/
def xq_list (G : xa_G) (h : xa_H) (sz a ea cap n : Nat) (xs' : List Nat) (v : Option Value) : Outcome → xa_H → Nat → Prop := fun o h' z => o = .returned v ∧ ∃ ea' cap', al_x G h' a ea' cap' xs' ∧ (∀ b, b ≠ a → b ≠ ea → b ≠ sz → h' b = h b) ∧ ((ea' = ea ∧ cap' = cap ∧ z = sz ∧ h' sz = h sz) ∨ (ea' = sz ∧ cap' = al_cap cap ∧ z = sz + 1 ∧ n = cap ∧ h' ea = h ea))
def al_pay (n cap : Nat) : Nat := if n = cap then al_cap cap else 0
section AW
variable {G : xa_G} {h : xa_H} {sz : Nat}
theorem ct_A_size' {a ea cap : Nat} {xs : List Nat} (hA : al_x G h a ea cap xs) : xa_T G mm_A_size 0 0 0 [.ref a] h sz (xq_same h sz (some (.int (nI xs.length)))) := by
  obtain ⟨-, -, f, hA, -⟩ := hA
  exact ct_A_size hA
theorem ct_A_get' {a ea cap i x : Nat} {xs : List Nat} (hA : al_x G h a ea cap xs) (hi : xs[i]? = some x) : xa_T G mm_A_get 2 0 0 [.ref a, .int (nI i)] h sz (xq_same h sz (some (.ref x))) := by
  obtain ⟨-, -, f, hA, hf⟩ := hA
  have := ct_A_get (G := G) (sz := sz) hA (List.getElem?_eq_some_iff.mp hi).1
  rw [hf i x hi] at this
  exact this
theorem ct_A_isEmpty' {a ea cap : Nat} {xs : List Nat} (hA : al_x G h a ea cap xs) : xa_T G mm_A_isEmpty 0 0 0 [.ref a] h sz (xq_same h sz (some (.int (if xs.length = 0 then 1 else 0)))) := by
  obtain ⟨-, -, f, hA, -⟩ := hA
  exact ct_A_isEmpty hA
theorem ct_A_set {a ea cap i v x ci : Nat} {fs : List Value} {xs : List Nat} (hA : al_x G h a ea cap xs) (hi : xs[i]? = some x) (hv : h v = some (.inr (ci, fs))) (hci : xa_A ci "java/lang/Object") : xa_T G mm_A_set 2 0 0 [.ref a, .int (nI i), .ref v] h sz (xq_upd G h sz a ea cap (xs.set i v) (some (.ref x))) := by
  have hne := hA.ne
  obtain ⟨hBa, hcap, f, hA, hf⟩ := hA
  have hA0 := hA
  obtain ⟨⟨mc, h1⟩, h2, h3, h4⟩ := hA
  have hil := (List.getElem?_eq_some_iff.mp hi).1
  have hBe : G.2.2.1 ≤ ea := by omega
  refine xt_o ok_A_set rfl rfl ?_
  refine xw_iload_n dd_A_set_0 rfl ?_
  refine xw_aloadR_n dd_A_set_1 rfl ?_
  refine xw_get fl_A_48 dd_A_set_2 h1 rfl ?_
  refine xw_cl0 (ct_O_checkIndex (nI_pos (by omega)) (nI_lt hil (by omega))) iv_A_set_5 ok_O_checkIndex rfl rfl rfl ?_ (fun _ _ _ q => by cases q.1)
  rintro v' h' z1 ⟨hv', rfl, rfl⟩
  cases hv'
  refine xw_pop dd_A_set_8 rfl ?_
  refine xw_aloadR_n dd_A_set_9 rfl ?_
  refine xw_iload_n dd_A_set_10 rfl ?_
  refine xw_cl0 (ct_A_elementData hA0 (by omega)) (iv_A_set_11 h1) ok_A_elementData rfl rfl rfl ?_ (fun _ _ _ q => by cases q.1)
  rintro v' h' z1 ⟨hv', rfl, rfl⟩
  cases hv'
  rw [hf i x hi]
  refine xw_astoreR_n (a := x) dd_A_set_14 (by decide) ?_
  refine xw_aloadR_n dd_A_set_15 rfl ?_
  refine xw_get fl_A_9 dd_A_set_16 h1 rfl ?_
  refine xw_iload_n dd_A_set_19 rfl ?_
  refine xw_aloadR_n dd_A_set_20 rfl ?_
  refine xw_aastA (t := 3) rfl hci dd_A_set_21 h2 hv (vp_in_nI (by omega) (by omega)) hBe (fun h5 hn5 hf5 => ?_)
  rw [nI_clamp (by omega)] at hn5
  refine xw_aloadR_n (a := x) dd_A_set_22 rfl ?_
  refine xw_aretR dd_A_set_23 rfl (Or.inl ⟨_, rfl⟩) ⟨rfl, rfl, ⟨hBa, hcap, _, ⟨⟨mc, (hf5 a hne).trans (by rw [List.length_set]; exact h1)⟩, hn5, by rw [List.length_set]; exact h3, h4⟩, ?_⟩, fun b _ hb => hf5 b hb⟩
  intro j y hj
  by_cases hji : j = i
  · subst hji
    rw [List.getElem?_set_self hil] at hj
    cases hj
    exact va_up_self ..
  · rw [List.getElem?_set_ne (fun e => hji e.symm)] at hj
    rw [va_up_ne _ _ hji]
    exact hf j y hj
theorem ct_A_add2 {a ea cap v ci : Nat} {fs : List Value} {xs : List Nat} (hA : al_x G h a ea cap xs) (ho : xo_in h xs) (hc : cap < 400000) (hv : h v = some (.inr (ci, fs))) (hci : xa_A ci "java/lang/Object") : xa_T G mm_A_add2 5 1 (al_pay xs.length cap) [.ref a, .ref v, .ref ea, .int (nI xs.length)] h sz (xq_list G h sz a ea cap xs.length (xs ++ [v]) none) := by
  have hne := hA.ne
  obtain ⟨hBa, hcap, f, hA, hf⟩ := hA
  have hA0 := hA
  obtain ⟨⟨mc, h1⟩, h2, h3, h4⟩ := hA
  refine xt_o ok_A_add2 rfl rfl ?_
  refine xw_dom (fun hd hB => ?_)
  have hla := hd _ _ h1
  have hle := hd _ _ h2
  refine xw_iload_n dd_A_add2_0 rfl ?_
  refine xw_aloadR_n dd_A_add2_1 rfl ?_
  refine xw_alenQ (t := 3) rfl dd_A_add2_2 h2 ?_
  have happ : ∀ (g : Nat → Option Nat), (∀ j, j < xs.length → g j = f j) → ∀ (i x : Nat), (xs ++ [v])[i]? = some x → va_up g xs.length (some v) i = some x := by
    intro g hg i x hi
    by_cases hi2 : i < xs.length
    · rw [List.getElem?_append_left hi2] at hi
      rw [va_up_ne _ _ (by omega), hg i hi2]
      exact hf i x hi
    · rw [List.getElem?_append_right (by omega)] at hi
      have hlt := (List.getElem?_eq_some_iff.mp hi).1
      simp at hlt
      have he : i = xs.length := by omega
      subst he
      simp at hi
      subst hi
      exact va_up_self ..
  refine xw_icmp_ne 11 dd_A_add2_3 (by decide) (fun hc0 => ?_) (fun hc0 => ?_)
  · have hlt : xs.length < cap := by
      by_cases e : xs.length = cap
      · exact absurd (by rw [e]) hc0
      · omega
    refine xw_aloadR_n dd_A_add2_11 rfl ?_
    refine xw_iload_n dd_A_add2_12 rfl ?_
    refine xw_aloadR_n dd_A_add2_13 rfl ?_
    refine xw_aastA (t := 3) rfl hci dd_A_add2_14 h2 hv (vp_in_nI hlt (by omega)) (by omega) (fun h5 hn5 hf5 => ?_)
    rw [nI_clamp (by omega)] at hn5
    refine xw_aloadR_n dd_A_add2_15 rfl ?_
    refine xw_iload_n dd_A_add2_16 rfl ?_
    refine xw_iconst 1 dd_A_add2_17 (by decide) ?_
    refine xw_iadd dd_A_add2_18 ?_
    rw [nI_1]
    refine xw_putA fl_A_48 fz_A_48 (by decide) dd_A_add2_19 ((hf5 a hne).trans h1) rfl hBa rfl rfl (fun h6 hn6 hf6 => ?_)
    refine xw_vret dd_A_add2_22 rfl ⟨rfl, ea, cap, ⟨hBa, hcap, _, ⟨⟨mc, by simpa using hn6⟩, (hf6 ea (fun e => hne e.symm)).trans hn5, by simp; omega, h4⟩, happ f (fun _ _ => rfl)⟩, fun b b1 b2 _ => (hf6 b b1).trans (hf5 b b2), Or.inl ⟨rfl, rfl, rfl, (hf6 sz (by omega)).trans (hf5 sz (by omega))⟩⟩
  · have heq : xs.length = cap := by
      by_cases e : xs.length = cap
      · exact e
      · exact absurd ((nI_eq (by omega) (by omega)).mp hc0) e
    refine xw_aloadR_n dd_A_add2_6 rfl ?_
    refine xw_less (kc' := 0 + 1) (ks' := 0 + al_cap cap) (by omega) (by unfold al_pay; rw [if_pos heq]; omega) ?_
    have hall : xo_all h f cap := by
      have := al_x.all (G := G) (a := a) (ea := ea) (cap := cap) hf ho
      rw [heq] at this
      exact this
    refine xw_cl (ct_A_grow0 (by rw [heq] at hA0; exact hA0) (by omega) (by omega) hBa hall) (iv_A_add2_7 h1) ok_A_grow0 rfl rfl rfl ?_ (fun _ _ _ q => by cases q.1)
    rintro v' h' z1 ⟨hv', rfl, ⟨f', ⟨⟨mc', g1⟩, g2, g3, g4⟩, g5⟩, g6⟩
    cases hv'
    have hcc : cap < al_cap cap := by
      unfold al_cap
      split <;> omega
    refine xw_astoreR_n dd_A_add2_10 (by decide) ?_
    refine xw_aloadR_n dd_A_add2_11 rfl ?_
    refine xw_iload_n dd_A_add2_12 rfl ?_
    refine xw_aloadR_n dd_A_add2_13 rfl ?_
    have hva : v ≠ a := by
      intro e
      subst e
      rw [hv] at h1
      cases h1
      obtain ⟨r, q1, q2⟩ := hci
      cases q1
      rcases q2 with q2 | q2
      · exact absurd q2 (by decide)
      · exact absurd q2 (by decide)
    have hlv := hd _ _ hv
    refine xw_aastA (t := 3) rfl hci dd_A_add2_14 g2 ((g6 v (by omega) hva).trans hv) (vp_in_nI (by omega) (by omega)) (by omega) (fun h5 hn5 hf5 => ?_)
    rw [nI_clamp (by omega)] at hn5
    refine xw_aloadR_n dd_A_add2_15 rfl ?_
    refine xw_iload_n dd_A_add2_16 rfl ?_
    refine xw_iconst 1 dd_A_add2_17 (by decide) ?_
    refine xw_iadd dd_A_add2_18 ?_
    rw [nI_1]
    refine xw_putA fl_A_48 fz_A_48 (by decide) dd_A_add2_19 ((hf5 a (by omega)).trans g1) rfl hBa rfl rfl (fun h6 hn6 hf6 => ?_)
    refine xw_vret dd_A_add2_22 rfl ⟨rfl, sz, al_cap cap, ⟨hBa, Or.inr ⟨by omega, hB⟩, _, ⟨⟨mc', by simpa using hn6⟩, (hf6 sz (by omega)).trans hn5, by simp; omega, g4⟩, happ f' (fun j hj => g5 j (by omega))⟩, fun b b1 b2 b3 => (hf6 b b1).trans ((hf5 b b3).trans (g6 b b3 b1)), Or.inr ⟨rfl, rfl, rfl, heq, (hf6 ea (fun e => hne e.symm)).trans ((hf5 ea (by omega)).trans (g6 ea (by omega) (fun e => hne e.symm)))⟩⟩
end AW
