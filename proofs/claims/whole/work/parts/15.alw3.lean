/-! lists: remove, clear, new -/
theorem al_del {f : Nat → Option Nat} {xs : List Nat} {i : Nat} (hf : ∀ (j y : Nat), xs[j]? = some y → f j = some y) (hi : i < xs.length) : ∀ (j y : Nat), (xs.eraseIdx i)[j]? = some y → va_up (va_cpy f f (i + 1) i (xs.length - 1 - i)) (xs.length - 1) none j = some y := by
  intro j y hj
  have hlt := (List.getElem?_eq_some_iff.mp hj).1
  rw [List.length_eraseIdx, if_pos hi] at hlt
  rw [List.getElem?_eraseIdx] at hj
  rw [va_up_ne _ _ (by omega)]
  by_cases hji : j < i
  · rw [if_pos hji] at hj
    rw [pk_cpy_out (by omega)]
    exact hf j y hj
  · rw [if_neg hji] at hj
    rw [pk_cpy_in (by omega) (by omega), show i + 1 + (j - i) = j + 1 by omega]
    exact hf _ y hj
section AU
variable {G : xa_G} {h : xa_H} {sz : Nat}
theorem ct_A_fastRemove {a ea cap i : Nat} {xs : List Nat} (hA : al_x G h a ea cap xs) (ho : xo_in h xs) (hi : i < xs.length) : xa_T G mm_A_fastRemove 1 0 0 [.ref a, .ref ea, .int (nI i)] h sz (xq_upd G h sz a ea cap (xs.eraseIdx i) none) := by
  have hne := hA.ne
  obtain ⟨hBa, hcap, f, ⟨⟨mc, h1⟩, h2, h3, h4⟩, hf⟩ := hA
  have hlen : (xs.eraseIdx i).length = xs.length - 1 := by rw [List.length_eraseIdx, if_pos hi]
  have hBe : G.2.2.1 ≤ ea := by omega
  refine xt_o ok_A_fastRemove rfl rfl ?_
  refine xw_aloadR_n dd_A_fastRemove_0 rfl ?_
  refine xw_dup dd_A_fastRemove_1 rfl ?_
  refine xw_get fl_A_63 dd_A_fastRemove_2 h1 rfl ?_
  refine xw_iconst 1 dd_A_fastRemove_5 (by decide) ?_
  refine xw_iadd dd_A_fastRemove_6 ?_
  refine xw_putA fl_A_63 fz_A_63 (by decide) dd_A_fastRemove_7 h1 rfl hBa rfl rfl (fun h5 hn5 hf5 => ?_)
  have h25 : h5 ea = some (xr_q 3 cap f) := (hf5 ea (fun e => hne e.symm)).trans h2
  have hkeep : ∀ b ci fs, h b = some (.inr (ci, fs)) → ci ≠ 8 → h5 b = h b := by
    intro b ci fs hb hne8
    refine hf5 b (fun e => ?_)
    subst e
    rw [hb] at h1
    cases h1
    exact hne8 rfl
  have ho5 := ho.keep hkeep
  refine xw_aloadR_n dd_A_fastRemove_10 rfl ?_
  refine xw_get fl_A_48 dd_A_fastRemove_11 hn5 rfl ?_
  refine xw_iconst 1 dd_A_fastRemove_14 (by decide) ?_
  refine xw_isub dd_A_fastRemove_15 ?_
  have e1 : nI xs.length - 1 = nI (xs.length - 1) := by
    have := nI_pred (xs.length - 1)
    rw [show xs.length - 1 + 1 = xs.length by omega] at this
    exact this
  rw [e1]
  refine xw_dup dd_A_fastRemove_16 rfl ?_
  refine xw_istore_n dd_A_fastRemove_17 (by decide) ?_
  refine xw_iload_n dd_A_fastRemove_18 rfl ?_
  have tail : ∀ (h6 : xa_H) (m2 : Int32), h6 a = some (.inr (8, [.int m2, .ref ea, .int (nI xs.length)])) → h6 ea = some (xr_q 3 cap (va_cpy f f (i + 1) i (xs.length - 1 - i))) → (∀ b, b ≠ a → b ≠ ea → h6 b = h b) → xa_W G mm_A_fastRemove 1 0 0 34 [some (.ref a), some (.ref ea), some (.int (nI i)), some (.int (nI (xs.length - 1)))] [] h6 sz (xq_upd G h sz a ea cap (xs.eraseIdx i) none) := by
    intro h6 m2 k1 k2 k3
    refine xw_aloadR_n dd_A_fastRemove_34 rfl ?_
    refine xw_aloadR_n dd_A_fastRemove_35 rfl ?_
    refine xw_iload_n dd_A_fastRemove_36 rfl ?_
    refine xw_dup_x1 dd_A_fastRemove_37 rfl rfl ?_
    refine xw_putA fl_A_48 fz_A_48 (by decide) dd_A_fastRemove_38 k1 rfl hBa rfl rfl (fun h7 hn7 hf7 => ?_)
    refine xw_null dd_A_fastRemove_41 ?_
    refine xw_aastNA (t := 3) rfl dd_A_fastRemove_42 ((hf7 ea (fun e => hne e.symm)).trans k2) (vp_in_nI (by omega) (by omega)) hBe (fun h8 hn8 hf8 => ?_)
    rw [nI_clamp (by omega)] at hn8
    exact xw_vret dd_A_fastRemove_43 rfl ⟨rfl, rfl, ⟨hBa, hcap, _, ⟨⟨m2, by rw [hlen]; exact (hf8 a hne).trans hn7⟩, hn8, by omega, h4⟩, al_del hf hi⟩, fun b b1 b2 => (hf8 b b2).trans ((hf7 b b1).trans (k3 b b1 b2))⟩
  refine xw_icmp_le 34 dd_A_fastRemove_19 (by decide) (fun hc => ?_) (fun hc => ?_)
  · have hl : xs.length - 1 - i = 0 := by
      have := (nI_leI (a := xs.length - 1) (b := i) (by omega) (by omega)).mp hc
      omega
    refine tail h5 _ hn5 ?_ (fun b b1 _ => hf5 b b1)
    rw [h25, hl]
    congr 3
    funext j
    rw [pk_cpy_out (by omega)]
  · refine xw_aloadR_n dd_A_fastRemove_22 rfl ?_
    refine xw_iload_n dd_A_fastRemove_23 rfl ?_
    refine xw_iconst 1 dd_A_fastRemove_24 (by decide) ?_
    refine xw_iadd dd_A_fastRemove_25 ?_
    refine xw_aloadR_n dd_A_fastRemove_26 rfl ?_
    refine xw_iload_n dd_A_fastRemove_27 rfl ?_
    refine xw_iload_n dd_A_fastRemove_28 rfl ?_
    refine xw_iload_n dd_A_fastRemove_29 rfl ?_
    refine xw_isub dd_A_fastRemove_30 ?_
    refine xw_copyA iw_260 dd_A_fastRemove_31 h25 h25 (i + 1) i (xs.length - 1 - i) (by omega) (by omega) (by omega) (nI_1 i) rfl (pk_sub (by omega)) (by omega) (by omega) ?_ hBe rfl rfl (fun h7 hn7 hf7 => ?_)
    · intro x1 hx1 y hy
      exact al_x.all (G := G) (a := a) (ea := ea) (cap := cap) hf ho5 (i + 1 + x1) (by omega) y hy
    exact tail h7 _ ((hf7 a hne).trans hn5) hn7 (fun b b1 b2 => (hf7 b b2).trans (hf5 b b1))
theorem ct_A_remove {a ea cap i y : Nat} {xs : List Nat} (hA : al_x G h a ea cap xs) (ho : xo_in h xs) (hi : xs[i]? = some y) : xa_T G mm_A_remove 2 0 0 [.ref a, .int (nI i)] h sz (xq_upd G h sz a ea cap (xs.eraseIdx i) (some (.ref y))) := by
  have hA0 := hA
  have hil := (List.getElem?_eq_some_iff.mp hi).1
  obtain ⟨hBa, hcap, f, ⟨⟨mc, h1⟩, h2, h3, h4⟩, hf⟩ := hA
  refine xt_o ok_A_remove rfl rfl ?_
  refine xw_iload_n dd_A_remove_0 rfl ?_
  refine xw_aloadR_n dd_A_remove_1 rfl ?_
  refine xw_get fl_A_48 dd_A_remove_2 h1 rfl ?_
  refine xw_cl0 (ct_O_checkIndex (nI_pos (by omega)) (nI_lt hil (by omega))) iv_A_remove_5 ok_O_checkIndex rfl rfl rfl ?_ (fun _ _ _ q => by cases q.1)
  rintro v' h' z1 ⟨hv', rfl, rfl⟩
  cases hv'
  refine xw_pop dd_A_remove_8 rfl ?_
  refine xw_aloadR_n dd_A_remove_9 rfl ?_
  refine xw_get fl_A_9 dd_A_remove_10 h1 rfl ?_
  refine xw_astoreR_n dd_A_remove_13 (by decide) ?_
  refine xw_aloadR_n dd_A_remove_14 rfl ?_
  refine xw_iload_n dd_A_remove_15 rfl ?_
  refine xw_aald (t := 3) rfl dd_A_remove_16 h2 (vp_in_nI (by omega) (by omega)) ?_
  rw [nI_clamp (by omega), hf i y hi]
  refine xw_astoreR_n (a := y) dd_A_remove_17 (by decide) ?_
  refine xw_aloadR_n dd_A_remove_18 rfl ?_
  refine xw_aloadR_n dd_A_remove_19 rfl ?_
  refine xw_iload_n dd_A_remove_20 rfl ?_
  refine xw_cl0 (ct_A_fastRemove hA0 ho hil) (iv_A_remove_21 h1) ok_A_fastRemove rfl rfl rfl ?_ (fun _ _ _ q => by cases q.1)
  rintro v' h6 z2 ⟨hv', rfl, q1, q2⟩
  cases hv'
  refine xw_aloadR_n (a := y) dd_A_remove_24 rfl ?_
  exact xw_aretR dd_A_remove_25 rfl (Or.inl ⟨_, rfl⟩) ⟨rfl, rfl, q1, q2⟩
def xq_clr (G : xa_G) (h : xa_H) (sz a ea cap : Nat) : Outcome → xa_H → Nat → Prop := fun o h' z => o = .returned none ∧ z = sz ∧ al_x G h' a ea cap [] ∧ ∀ b, b ≠ a → (b ≠ ea ∨ cap = 0) → h' b = h b
theorem ct_A_clear {a ea cap : Nat} {xs : List Nat} (hA : al_x G h a ea cap xs) : xa_T G mm_A_clear 0 0 0 [.ref a] h sz (xq_clr G h sz a ea cap) := by
  have hne := hA.ne
  obtain ⟨hBa, hcap, f, ⟨⟨mc, h1⟩, h2, h3, h4⟩, hf⟩ := hA
  have loop : ∀ (k i : Nat) (h6 : xa_H) (m2 : Int32) (g : Nat → Option Nat), i + k = xs.length → h6 a = some (.inr (8, [.int m2, .ref ea, .int (nI 0)])) → h6 ea = some (xr_q 3 cap g) → (∀ b, b ≠ a → (b ≠ ea ∨ cap = 0) → h6 b = h b) → xa_W G mm_A_clear 0 0 0 27 [some (.ref a), some (.ref ea), some (.int (nI xs.length)), some (.int (nI i))] [] h6 sz (xq_clr G h sz a ea cap) := by
    intro k
    induction k with
    | zero =>
      intro i h6 m2 g hk k1 k2 k3
      refine xw_iload_n dd_A_clear_27 rfl ?_
      refine xw_iload_n dd_A_clear_28 rfl ?_
      refine xw_icmp_ge 42 dd_A_clear_29 (by decide) (fun hc => ?_) (fun hc => absurd (nI_le (by omega) (by omega)) hc)
      exact xw_vret dd_A_clear_42 rfl ⟨rfl, rfl, ⟨hBa, hcap, g, ⟨⟨m2, k1⟩, k2, Nat.zero_le _, h4⟩, fun i y hy => by simp at hy⟩, k3⟩
    | succ k ih =>
      intro i h6 m2 g hk k1 k2 k3
      refine xw_iload_n dd_A_clear_27 rfl ?_
      refine xw_iload_n dd_A_clear_28 rfl ?_
      refine xw_icmp_ge 42 dd_A_clear_29 (by decide) (fun hc => absurd hc (nI_ge (by omega) (by omega))) (fun hc => ?_)
      refine xw_aloadR_n dd_A_clear_32 rfl ?_
      refine xw_iload_n dd_A_clear_33 rfl ?_
      refine xw_null dd_A_clear_34 ?_
      refine xw_aastNA (t := 3) rfl dd_A_clear_35 k2 (vp_in_nI (by omega) (by omega)) (by omega) (fun h8 hn8 hf8 => ?_)
      refine xw_iinc dd_A_clear_36 rfl (nI_1 i) (by decide) ?_
      refine xw_goto 27 dd_A_clear_39 (by decide) ?_
      exact ih (i + 1) h8 m2 _ (by omega) ((hf8 a hne).trans k1) hn8 (fun b b1 b2 => (hf8 b (b2.resolve_right (by omega))).trans (k3 b b1 b2))
  refine xt_o ok_A_clear rfl rfl ?_
  refine xw_aloadR_n dd_A_clear_0 rfl ?_
  refine xw_dup dd_A_clear_1 rfl ?_
  refine xw_get fl_A_63 dd_A_clear_2 h1 rfl ?_
  refine xw_iconst 1 dd_A_clear_5 (by decide) ?_
  refine xw_iadd dd_A_clear_6 ?_
  refine xw_putA fl_A_63 fz_A_63 (by decide) dd_A_clear_7 h1 rfl hBa rfl rfl (fun h5 hn5 hf5 => ?_)
  refine xw_aloadR_n dd_A_clear_10 rfl ?_
  refine xw_get fl_A_9 dd_A_clear_11 hn5 rfl ?_
  refine xw_astoreR_n dd_A_clear_14 (by decide) ?_
  refine xw_aloadR_n dd_A_clear_15 rfl ?_
  refine xw_get fl_A_48 dd_A_clear_16 hn5 rfl ?_
  refine xw_istore_n dd_A_clear_19 (by decide) ?_
  refine xw_aloadR_n dd_A_clear_20 rfl ?_
  refine xw_iconst 0 dd_A_clear_21 (by decide) ?_
  refine xw_dup_x1 dd_A_clear_22 rfl rfl ?_
  refine xw_putA fl_A_48 fz_A_48 (by decide) dd_A_clear_23 hn5 rfl hBa rfl rfl (fun h6 hn6 hf6 => ?_)
  refine xw_istore_n dd_A_clear_26 (by decide) ?_
  exact loop xs.length 0 h6 _ f (by omega) hn6 ((hf6 ea (fun e => hne e.symm)).trans ((hf5 ea (fun e => hne e.symm)).trans h2)) (fun b b1 _ => (hf6 b b1).trans (hf5 b b1))
theorem ct_C_init {a : Nat} : xa_T G mm_C_init 1 0 0 [.ref a] h sz (xq_same h sz none) := by
  refine xt_o ok_C_init rfl rfl ?_
  refine xw_aloadR_n dd_C_init_0 rfl ?_
  refine xw_objInit iw_58 wo_in wo_co (by decide) (by decide) dd_C_init_1 ?_
  exact xw_vret dd_C_init_4 rfl ⟨rfl, rfl, rfl⟩
theorem ct_B_init {a : Nat} {fs : List Value} {f1 f2 f0 : Value} (ha : h a = some (.inr (8, [f0, f1, f2]))) (hBa : G.2.2.1 ≤ a) : xa_T G mm_B_init 2 0 0 [.ref a] h sz (fun o h' z => o = .returned none ∧ z = sz ∧ h' a = some (.inr (8, [.int 0, f1, f2])) ∧ ∀ b, b ≠ a → h' b = h b) := by
  refine xt_o ok_B_init rfl rfl ?_
  refine xw_aloadR_n dd_B_init_0 rfl ?_
  refine xw_cl0 ct_C_init iv_B_init_1 ok_C_init rfl rfl rfl ?_ (fun _ _ _ q => by cases q.1)
  rintro v' h' z1 ⟨hv', rfl, rfl⟩
  cases hv'
  refine xw_aloadR_n dd_B_init_4 rfl ?_
  refine xw_iconst 0 dd_B_init_5 (by decide) ?_
  refine xw_putA fl_B_7 fz_B_7 (by decide) dd_B_init_6 ha rfl hBa rfl rfl (fun h5 hn5 hf5 => ?_)
  exact xw_vret dd_B_init_9 rfl ⟨rfl, rfl, hn5, hf5⟩
/-- a new list -/
theorem ct_A_init {a : Nat} {f : Nat → Option Nat} {f1 f0 : Value} (ha : h a = some (.inr (8, [f0, f1, .int 0]))) (hBa : G.2.2.1 ≤ a) (hu : h G.2.2.2.1 = some (xr_q 3 0 f)) : xa_T G mm_A_init 3 0 0 [.ref a] h sz (fun o h' z => o = .returned none ∧ z = sz ∧ al_x G h' a G.2.2.2.1 0 [] ∧ ∀ b, b ≠ a → h' b = h b) := by
  refine xt_o ok_A_init rfl rfl ?_
  refine xw_aloadR_n dd_A_init_0 rfl ?_
  refine xw_cl0 (ct_B_init (fs := []) ha hBa) iv_A_init_1 ok_B_init rfl rfl rfl ?_ (fun _ _ _ q => by cases q.1)
  rintro v' h' z1 ⟨hv', rfl, k1, k2⟩
  cases hv'
  refine xw_aloadR_n dd_A_init_4 rfl ?_
  refine xw_empty iw_59 dd_A_init_5 ?_
  refine xw_putA fl_A_9 fz_A_9 (by decide) dd_A_init_8 k1 rfl hBa rfl rfl (fun h5 hn5 hf5 => ?_)
  have hne : G.2.2.2.1 ≠ a := fun e => by
    rw [e, ha] at hu
    cases hu
  exact xw_vret dd_A_init_11 rfl ⟨rfl, rfl, ⟨hBa, Or.inl ⟨rfl, rfl⟩, f, ⟨⟨0, hn5⟩, (hf5 _ hne).trans ((k2 _ hne).trans hu), Nat.le_refl _, by decide⟩, fun i y hy => by simp at hy⟩, fun b b1 => (hf5 b b1).trans (k2 b b1)⟩
end AU
