/-! pages: the files shown, then none -/
theorem pgs_none {fs : List sv_E} {g : Int32} (hn : fs.find? (fun e => decide (g < e.1)) = none) : ∀ (k i : Nat) (pg : Nat → Int32) (n : Nat), (sv_pgs fs k i pg g n).2 = (g, n) ∧ ∀ j, (sv_pgs fs k i pg g n).1 j = if i ≤ j ∧ j < i + k then -1 else pg j
  | 0, i, pg, n => ⟨rfl, fun j => by rw [if_neg (by omega)]; rfl⟩
  | k + 1, i, pg, n => by
    have h := pgs_none hn k (i + 1) (upd pg i (-1)) n
    have hs : sv_pgs fs (k + 1) i pg g n = sv_pgs fs k (i + 1) (upd pg i (-1)) g n := by
      show (match fs.find? (fun e => decide (g < e.1)) with
        | none => sv_pgs fs k (i + 1) (upd pg i (-1)) g n
        | some e => sv_pgs fs k (i + 1) (upd pg i e.1) e.1 (n + 1)) = _
      rw [hn]
    rw [hs]
    refine ⟨h.1, fun j => ?_⟩
    rw [h.2 j]
    by_cases hj : i + 1 ≤ j ∧ j < i + 1 + k
    · rw [if_pos hj, if_pos (by omega)]
    · rw [if_neg hj]
      by_cases e : j = i
      · rw [e, pk_us, if_pos (by omega)]
      · rw [pk_un e, if_neg (by omega)]
theorem pgs_all {fs : List sv_E} : ∀ (k i : Nat) (pg : Nat → Int32) (g : Int32), i ≤ (sv_pgs fs k i pg g i).2.2 ∧ (sv_pgs fs k i pg g i).2.2 ≤ i + k ∧ (∀ j, j < i → (sv_pgs fs k i pg g i).1 j = pg j) ∧ (∀ j, i ≤ j → j < (sv_pgs fs k i pg g i).2.2 → (sv_find fs ((sv_pgs fs k i pg g i).1 j)).isSome = true) ∧ ∀ j, (sv_pgs fs k i pg g i).2.2 ≤ j → j < i + k → (sv_pgs fs k i pg g i).1 j = -1
  | 0, i, pg, g => ⟨Nat.le_refl _, Nat.le_refl _, fun _ _ => rfl, fun j h1 h2 => by
      have h2 : j < i := h2
      omega, fun j h1 h2 => by
      have h1 : i ≤ j := h1
      omega⟩
  | k + 1, i, pg, g => by
    cases hn : fs.find? (fun e => decide (g < e.1)) with
    | none =>
      obtain ⟨h1, h2⟩ := pgs_none hn (k + 1) i pg i
      have h3 : (sv_pgs fs (k + 1) i pg g i).2.2 = i := by rw [h1]
      rw [h3]
      refine ⟨Nat.le_refl _, by omega, fun j hj => ?_, fun j j1 j2 => by omega, fun j j1 j2 => ?_⟩
      · rw [h2 j, if_neg (by omega)]
      · rw [h2 j, if_pos (by omega)]
    | some e =>
      have hs : sv_pgs fs (k + 1) i pg g i = sv_pgs fs k (i + 1) (upd pg i e.1) e.1 (i + 1) := by
        show (match fs.find? (fun e => decide (g < e.1)) with
          | none => sv_pgs fs k (i + 1) (upd pg i (-1)) g i
          | some e => sv_pgs fs k (i + 1) (upd pg i e.1) e.1 (i + 1)) = _
        rw [hn]
      obtain ⟨q1, q2, q3, q4, q5⟩ := pgs_all (fs := fs) k (i + 1) (upd pg i e.1) e.1
      rw [hs]
      refine ⟨by omega, by omega, fun j hj => ?_, fun j j1 j2 => ?_, fun j j1 j2 => q5 j j1 (by omega)⟩
      · rw [q3 j (by omega), pk_un (by omega)]
      · by_cases ej : j = i
        · rw [ej, q3 i (by omega), pk_us]
          have hm := List.mem_of_find?_eq_some hn
          cases hf : sv_find fs e.1 with
          | none => exact absurd rfl (fx_none hf e hm)
          | some _ => rfl
        · exact q4 j (by omega) j2
theorem cps_stop {fs : List sv_E} {pg : Nat → Int32} {C : List sv_E × Nat} : ∀ (k i : Nat), (∀ j, i ≤ j → j < i + k → sv_find fs (pg j) = none) → sv_cps fs pg k i C = C
  | 0, _, _ => rfl
  | k + 1, i, h => by
    have h0 : sv_now fs C (pg i) = C := by
      unfold sv_now
      rw [h i (by omega) (by omega)]
    show sv_cps fs pg k (i + 1) (sv_now fs C (pg i)) = C
    rw [h0]
    exact cps_stop k (i + 1) (fun j j1 j2 => h j (by omega) (by omega))
