/-! start -/
theorem endG_head {V : sv_V} {g : Int32 × Int32} {gs : List (Int32 × Int32)} (h : sv_gs V = g :: gs) : sv_gs (sv_endG V g) = gs ∧ sv_fs (sv_endG V g) = sv_fs V ∧ sv_lt (sv_endG V g) = sv_lt V ∧ sv_hd (sv_endG V g) = sv_hd V + 1 ∧ sv_on (sv_endG V g) = sv_on V := by
  obtain ⟨fs, lt, hd, rg, gs0, on, lf⟩ := V
  have h : gs0 = g :: gs := h
  subst h
  refine ⟨?_, rfl, rfl, rfl, rfl⟩
  show (g :: gs).eraseP (fun x => decide (x.1 = g.1)) = gs
  rw [List.eraseP_cons_of_pos (by simp)]
theorem ends_s {k : Nat} {V : sv_V} {g : Int32 × Int32} {gs : List (Int32 × Int32)} (h : sv_gs V = g :: gs) : sv_ends (k + 1) V = sv_ends k (sv_endG V g) := by
  show (match (sv_gs V).head? with
    | none => sv_ends k V
    | some g => sv_ends k (sv_endG V g)) = _
  rw [h]
  rfl
theorem iR.ends {m : Nat} : ∀ (gs : List (Int32 × Int32)) (V : sv_V), sv_gs V = gs → iR m V → sv_on V = true → iR m (sv_ends gs.length V) ∧ sv_gs (sv_ends gs.length V) = [] ∧ sv_fs (sv_ends gs.length V) = sv_fs V ∧ sv_lt (sv_ends gs.length V) = sv_lt V ∧ sv_hd (sv_ends gs.length V) = sv_hd V + gs.length ∧ sv_on (sv_ends gs.length V) = true
  | [], V, h, H, hon => ⟨H, h, rfl, rfl, rfl, hon⟩
  | g :: gs, V, h, H, hon => by
    have e := endG_head h
    have hs : sv_ends (g :: gs).length V = sv_ends gs.length (sv_endG V g) := ends_s h
    rw [hs]
    obtain ⟨q1, q2, q3, q4, q5, q6⟩ := iR.ends gs (sv_endG V g) e.1 (H.endG hon (by
      rw [h]
      unfold sv_gOf
      rw [List.find?_cons_of_pos (by simp)])) (e.2.2.2.2.trans hon)
    refine ⟨q1, q2, q3.trans e.2.1, q4.trans e.2.2.1, ?_, q6⟩
    rw [q5, e.2.2.2.1, List.length_cons]
    omega
theorem rec_is {m : Nat} {V : sv_V} (H : iR m V) : ∃ is : List Nat, is.Pairwise (fun a b => a < b) ∧ (∀ i, i ∈ is ↔ rg_tl (sv_hd V) ≤ i ∧ i < sv_hd V ∧ (fst_ (fun s => sv_rg V (s % 16) 0) (fun s => sv_rg V (s % 16) 5) (rg_tl (sv_hd V)) i ∧ run_ (fun s => sv_rg V (s % 16) 0) (fun s => sv_rg V (s % 16) 5) (sv_hd V) i)) ∧ sv_recall (sv_hd V) (sv_rg V) = is.map (fun i => (sv_rg V (i % 16) 0, lr (fun s => sv_rg V (s % 16) 0) (fun s => sv_rg V (s % 16) 5) (sv_hd V) (sv_rg V (i % 16) 0))) := by
  have htl : rg_tl (sv_hd V) ≤ sv_hd V := by
    have := H.2.2.2.2.2
    unfold rg_tl
    split <;> omega
  have h1 : rg_tl (sv_hd V) + (sv_hd V - rg_tl (sv_hd V)) = sv_hd V := by omega
  have := rec_char (rg := sv_rg V) (F := fun s => sv_rg V (s % 16) 0) (R := fun s => sv_rg V (s % 16) 5) (fun _ => rfl) (fun _ => rfl) (t := rg_tl (sv_hd V)) (sv_hd V - rg_tl (sv_hd V)) (by rw [h1]; exact H.2.2.2.1)
  rw [h1] at this
  exact this
theorem iR.back {m : Nat} {V : sv_V} (H : iR m V) : iR m (sv_back V) := by
  obtain ⟨is, p1, p2, p3⟩ := rec_is H
  obtain ⟨fs, lt, hd, rg, gs, on, lf⟩ := V
  obtain ⟨a1, a2, a3, a4, a5, a6⟩ := H
  have p3 : sv_recall hd rg = is.map (fun i => (rg (i % 16) 0, lr (fun s => rg (s % 16) 0) (fun s => rg (s % 16) 5) hd (rg (i % 16) 0))) := p3
  refine ⟨a1, fun g hg => ?_, (fun q => absurd rfl q), a4, fun _ i h1 h2 h3 h4 => ?_, a6⟩
  · have hg : g ∈ sv_recall hd rg := hg
    rw [p3] at hg
    obtain ⟨i, hi, rfl⟩ := List.mem_map.mp hg
    obtain ⟨q1, q2, -⟩ := (p2 i).mp hi
    exact a1 i q1 q2
  · have h1 : rg_tl hd ≤ i := h1
    have h2 : i < hd := h2
    have h3 : ∀ k, i < k → k < hd → rg (k % 16) 0 ≠ rg (i % 16) 0 := h3
    have h4 : ¬ cl_ (rg (i % 16) 5) := h4
    show ∃ g, sv_gOf (sv_recall hd rg) (rg (i % 16) 0) = some g ∧ rg (i % 16) 5 ||| g.2 = g.2
    obtain ⟨i0, v1, v2, v3, v4⟩ := ok_ex (F := fun s => rg (s % 16) 0) (R := fun s => rg (s % 16) 5) (f := rg (i % 16) 0) (t := rg_tl hd) (h := hd) i h1 h2 rfl (fun k k1 k2 k3 => by
      by_cases e : k = i
      · rw [e]
        exact h4
      · exact absurd k3 (h3 k (by omega) k2))
    have hlr : lr (fun s => rg (s % 16) 0) (fun s => rg (s % 16) 5) hd (rg (i % 16) 0) = rg (i % 16) 5 := lr_near (F := fun s => rg (s % 16) 0) (R := fun s => rg (s % 16) 5) (f := rg (i % 16) 0) (j := i) rfl hd h2 h3
    have hmem : (rg (i0 % 16) 0, lr (fun s => rg (s % 16) 0) (fun s => rg (s % 16) 5) hd (rg (i0 % 16) 0)) ∈ sv_recall hd rg := by
      rw [p3]
      exact List.mem_map.mpr ⟨i0, (p2 i0).mpr ⟨v1, v2, v3⟩, rfl⟩
    have v4 : rg (i0 % 16) 0 = rg (i % 16) 0 := v4
    cases hg : sv_gOf (sv_recall hd rg) (rg (i % 16) 0) with
    | none =>
      have := List.find?_eq_none.mp hg _ hmem
      exact absurd (by simpa using v4) this
    | some g =>
      have hg1 : g.1 = rg (i % 16) 0 := by simpa using List.find?_some hg
      have hgm := List.mem_of_find?_eq_some hg
      rw [p3] at hgm
      obtain ⟨j, hj, rfl⟩ := List.mem_map.mp hgm
      have hg1 : rg (j % 16) 0 = rg (i % 16) 0 := hg1
      refine ⟨_, rfl, ?_⟩
      show rg (i % 16) 5 ||| lr (fun s => rg (s % 16) 0) (fun s => rg (s % 16) 5) hd (rg (j % 16) 0) = lr (fun s => rg (s % 16) 0) (fun s => rg (s % 16) 5) hd (rg (j % 16) 0)
      rw [hg1, hlr, Int32.or_self]
theorem iV.start {n : Nat} {V : sv_V} (H : iV n V) : iV (n + 1) (sv_start V).2 := by
  unfold sv_start
  by_cases hon : sv_on V = true
  · rw [if_pos hon]
    exact H.up
  · rw [if_neg hon]
    have hb := H.2.1.back
    have hgs : sv_gs (sv_back V) = sv_recall (sv_hd V) (sv_rg V) := rfl
    have hl := rec_len (sv_hd V) (sv_rg V)
    obtain ⟨q1, q2, q3, q4, q5, q6⟩ := iR.ends _ (sv_back V) hgs hb rfl
    have q3 : sv_fs (sv_ends (sv_recall (sv_hd V) (sv_rg V)).length (sv_back V)) = sv_fs V := q3
    have q4 : sv_lt (sv_ends (sv_recall (sv_hd V) (sv_rg V)).length (sv_back V)) = sv_lt V := q4
    have q5 : sv_hd (sv_ends (sv_recall (sv_hd V) (sv_rg V)).length (sv_back V)) = sv_hd V + (sv_recall (sv_hd V) (sv_rg V)).length := q5
    have h2 := H.2.2.2.1
    have h4 := H.2.2.2.2
    show iV (n + 1) (sv_ends (sv_recall (sv_hd V) (sv_rg V)).length (sv_back V))
    generalize sv_ends (sv_recall (sv_hd V) (sv_rg V)).length (sv_back V) = W at q1 q2 q3 q4 q5 ⊢
    exact ⟨by rw [q3, q4]; exact H.1, by rw [q4]; exact q1, by rw [q2]; exact Nat.zero_le _, by rw [q3, q4]; omega, by omega⟩
