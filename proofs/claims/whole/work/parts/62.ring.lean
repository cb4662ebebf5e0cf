/-! what stays true of the ring and the gatherings -/
theorem cl_or (a : Int32) : (a ||| 64) &&& 64 = 64 := by
  apply Int32.toBitVec_inj.mp
  rw [Int32.toBitVec_and, Int32.toBitVec_or]
  ext i hi
  simp
  intro h
  simp [h]
theorem or_up {a b c : Int32} (h : a ||| b = b) : a ||| (b ||| c) = b ||| c := by rw [← Int32.or_assoc, h]
theorem or_tr {a b c : Int32} (h1 : a ||| b = b) (h2 : b ||| c = c) : a ||| c = c := by
  rw [← h2, ← Int32.or_assoc, h1]
def iR (m : Nat) (V : sv_V) : Prop := (∀ s, rg_tl (sv_hd V) ≤ s → s < sv_hd V → 0 < sv_rg V (s % 16) 0 ∧ sv_rg V (s % 16) 0 ≤ nI m) ∧ (∀ g ∈ sv_gs V, 0 < g.1 ∧ g.1 ≤ nI m) ∧ (¬ sv_on V = true → sv_gs V = []) ∧ mono_ (fun s => sv_rg V (s % 16) 0) (fun s => sv_rg V (s % 16) 5) (rg_tl (sv_hd V)) (sv_hd V) ∧ (sv_on V = true → ∀ i, rg_tl (sv_hd V) ≤ i → i < sv_hd V → (∀ k, i < k → k < sv_hd V → sv_rg V (k % 16) 0 ≠ sv_rg V (i % 16) 0) → ¬ cl_ (sv_rg V (i % 16) 5) → ∃ g, sv_gOf (sv_gs V) (sv_rg V (i % 16) 0) = some g ∧ sv_rg V (i % 16) 5 ||| g.2 = g.2) ∧ 1 ≤ sv_hd V
theorem tl_le (hd : Nat) : rg_tl hd ≤ rg_tl (hd + 1) ∧ 1 ≤ rg_tl hd := by
  unfold rg_tl
  split <;> split <;> omega
theorem tl_in {hd s : Nat} (h1 : rg_tl (hd + 1) ≤ s) (h2 : s < hd) : s % 16 ≠ hd % 16 := by
  unfold rg_tl at h1
  split at h1 <;> omega
theorem iR.app {m : Nat} {V : sv_V} {e : sv_E} {r : Int32} {gs' : List (Int32 × Int32)} (H : iR m V) (hon : sv_on V = true) (he : 0 < e.1 ∧ e.1 ≤ nI m) (hP : ∀ i, rg_tl (sv_hd V) ≤ i → i < sv_hd V → sv_rg V (i % 16) 0 = e.1 → (∀ k, i < k → k < sv_hd V → sv_rg V (k % 16) 0 ≠ e.1) → ¬ cl_ (sv_rg V (i % 16) 5) → sv_rg V (i % 16) 5 ||| r = r) (hg : ∀ g ∈ gs', 0 < g.1 ∧ g.1 ≤ nI m) (hsame : ∀ f, f ≠ e.1 → sv_gOf gs' f = sv_gOf (sv_gs V) f) (hnew : ¬ cl_ r → ∃ g, sv_gOf gs' e.1 = some g ∧ r ||| g.2 = g.2) : iR m (sv_setG (sv_app V e r) gs') := by
  obtain ⟨fs, lt, hd, rg, gs, on, lf⟩ := V
  obtain ⟨a1, a2, a3, a4, a5, a6⟩ := H
  have hon : on = true := hon
  have a4 : mono_ (fun s => rg (s % 16) 0) (fun s => rg (s % 16) 5) (rg_tl hd) hd := a4
  have hP : ∀ i, rg_tl hd ≤ i → i < hd → rg (i % 16) 0 = e.1 → (∀ k, i < k → k < hd → rg (k % 16) 0 ≠ e.1) → ¬ cl_ (rg (i % 16) 5) → rg (i % 16) 5 ||| r = r := hP
  have tl := tl_le hd
  have old : ∀ s, rg_tl (hd + 1) ≤ s → s < hd → (if s % 16 = hd % 16 then sv_item e r else rg (s % 16)) = rg (s % 16) := fun s h1 h2 => if_neg (tl_in h1 h2)
  have new : (if hd % 16 = hd % 16 then sv_item e r else rg (hd % 16)) = sv_item e r := if_pos rfl
  have i0 : sv_item e r 0 = e.1 := rfl
  have i5 : sv_item e r 5 = r := rfl
  refine ⟨?_, hg, ?_, ?_, ?_, ?_⟩
  · intro s h1 h2
    have h1 : rg_tl (hd + 1) ≤ s := h1
    have h2 : s < hd + 1 := h2
    show 0 < (if s % 16 = hd % 16 then sv_item e r else rg (s % 16)) 0 ∧ (if s % 16 = hd % 16 then sv_item e r else rg (s % 16)) 0 ≤ nI m
    by_cases es : s = hd
    · rw [es, new, i0]
      exact he
    · rw [old s h1 (by omega)]
      exact a1 s (by show rg_tl hd ≤ s; omega) (by show s < hd; omega)
  · intro q
    exact absurd hon q
  · intro i j h1 h2 h3 h4 h5
    have h1 : rg_tl (hd + 1) ≤ i := h1
    have h3 : j < hd + 1 := h3
    have h4 : (if i % 16 = hd % 16 then sv_item e r else rg (i % 16)) 0 = (if j % 16 = hd % 16 then sv_item e r else rg (j % 16)) 0 := h4
    have h5 : ∀ k, i ≤ k → k < j → (if k % 16 = hd % 16 then sv_item e r else rg (k % 16)) 0 = (if i % 16 = hd % 16 then sv_item e r else rg (i % 16)) 0 → ¬ cl_ ((if k % 16 = hd % 16 then sv_item e r else rg (k % 16)) 5) := h5
    show (if i % 16 = hd % 16 then sv_item e r else rg (i % 16)) 5 ||| (if j % 16 = hd % 16 then sv_item e r else rg (j % 16)) 5 = (if j % 16 = hd % 16 then sv_item e r else rg (j % 16)) 5
    have oi := old i h1 (by omega)
    rw [oi] at h4 h5 ⊢
    have h5' : ∀ k, i ≤ k → k < j → rg (k % 16) 0 = rg (i % 16) 0 → ¬ cl_ (rg (k % 16) 5) := fun k k1 k2 k3 => by
      have := h5 k k1 k2
      rw [old k (by omega) (by omega)] at this
      exact this k3
    by_cases ej : j = hd
    · rw [ej, new, i0] at h4
      rw [ej, new, i5]
      rw [ej] at h5' h2
      obtain ⟨l, l1, l2, l3, l4⟩ := near (F := fun s => rg (s % 16) 0) (f := e.1) h4 (hd - i - 1)
      rw [show i + (hd - i - 1) + 1 = hd by omega] at l2 l4
      have hl : rg (l % 16) 5 ||| r = r := hP l (by omega) l2 l3 l4 (h5' l l1 l2 (l3.trans h4.symm))
      by_cases eil : i = l
      · rw [eil]
        exact hl
      · exact or_tr (a4 i l (by omega) (by omega) l2 (h4.trans l3.symm) (fun k k1 k2 k3 => h5' k k1 (by omega) k3)) hl
    · rw [old j (by omega) (by omega)] at h4 ⊢
      exact a4 i j (by omega) h2 (by omega) h4 h5'
  · intro _ i h1 h2 h3 h4
    have h1 : rg_tl (hd + 1) ≤ i := h1
    have h2 : i < hd + 1 := h2
    have h3 : ∀ k, i < k → k < hd + 1 → (if k % 16 = hd % 16 then sv_item e r else rg (k % 16)) 0 ≠ (if i % 16 = hd % 16 then sv_item e r else rg (i % 16)) 0 := h3
    have h4 : ¬ cl_ ((if i % 16 = hd % 16 then sv_item e r else rg (i % 16)) 5) := h4
    show ∃ g, sv_gOf gs' ((if i % 16 = hd % 16 then sv_item e r else rg (i % 16)) 0) = some g ∧ (if i % 16 = hd % 16 then sv_item e r else rg (i % 16)) 5 ||| g.2 = g.2
    by_cases ei : i = hd
    · rw [ei, new, i5] at h4
      rw [ei, new, i0, i5]
      exact hnew h4
    · have hih : i < hd := by omega
      rw [old i h1 hih] at h3 h4 ⊢
      have hne := h3 hd hih (by omega)
      rw [new, i0] at hne
      rw [hsame _ (fun q => hne q.symm)]
      refine a5 hon i (by show rg_tl hd ≤ i; omega) hih (fun k k1 k2 => ?_) h4
      have k2 : k < hd := k2
      have := h3 k k1 (by omega)
      rw [old k (by omega) k2] at this
      exact this
  · show 1 ≤ hd + 1
    omega
theorem iR.up {m m' : Nat} {V : sv_V} (H : iR m V) (h : nI m ≤ nI m') : iR m' V := ⟨fun s a b => ⟨(H.1 s a b).1, Int32.le_trans (H.1 s a b).2 h⟩, fun g hg => ⟨(H.2.1 g hg).1, Int32.le_trans (H.2.1 g hg).2 h⟩, H.2.2⟩
theorem iR.spend {m : Nat} {V : sv_V} (H : iR m V) : iR m (sv_spend V).2 ∧ ((sv_spend V).1 = true → sv_on (sv_spend V).2 = sv_on V) ∧ (sv_gs (sv_spend V).2).length ≤ (sv_gs V).length := by
  obtain ⟨fs, lt, hd, rg, gs, on, lf⟩ := V
  obtain ⟨a1, a2, a3, a4, a5, a6⟩ := H
  unfold sv_spend
  simp only
  by_cases h : lf = 0
  · rw [if_pos h]
    exact ⟨⟨a1, (fun g hg => by cases hg), fun _ => rfl, a4, (fun q => by cases q), a6⟩, (fun q => by cases q), Nat.zero_le _⟩
  · rw [if_neg h]
    exact ⟨⟨a1, a2, a3, a4, a5, a6⟩, fun _ => rfl, Nat.le_refl _⟩
theorem gof_take {f f' : Int32} (h : f' ≠ f) : ∀ gs : List (Int32 × Int32), sv_gOf (sv_take gs f) f' = sv_gOf gs f'
  | [] => rfl
  | g :: gs => by
    unfold sv_take sv_gOf
    by_cases hg : g.1 = f
    · rw [List.eraseP_cons_of_pos (by simpa using hg), List.find?_cons_of_neg (by simpa using fun q : g.1 = f' => h (q.symm.trans hg))]
    · rw [List.eraseP_cons_of_neg (by simpa using hg)]
      by_cases hg' : g.1 = f'
      · rw [List.find?_cons_of_pos (by simpa using hg'), List.find?_cons_of_pos (by simpa using hg')]
      · rw [List.find?_cons_of_neg (by simpa using hg'), List.find?_cons_of_neg (by simpa using hg')]
        have := gof_take h gs
        unfold sv_take sv_gOf at this
        exact this
theorem gof_gather {f r : Int32} : ∀ gs : List (Int32 × Int32), sv_gOf (sv_gather gs f r).2 f = some (f, (sv_gather gs f r).1) ∧ (∀ f', f' ≠ f → sv_gOf (sv_gather gs f r).2 f' = sv_gOf gs f') ∧ (∀ g, sv_gOf gs f = some g → (sv_gather gs f r).1 = g.2 ||| r ∧ (sv_gather gs f r).2.length = gs.length) ∧ ∀ g ∈ (sv_gather gs f r).2, g.1 = f ∨ ∃ g' ∈ gs, g.1 = g'.1
  | [] => by
    refine ⟨?_, fun f' h => ?_, (fun g hg => by cases hg), fun g hg => ?_⟩
    · unfold sv_gather sv_gOf
      rw [List.find?_cons_of_pos (by simp)]
    · unfold sv_gather sv_gOf
      rw [List.find?_cons_of_neg (by simpa using fun q : f = f' => h q.symm)]
    · unfold sv_gather at hg
      rw [List.mem_singleton] at hg
      rw [hg]
      exact Or.inl rfl
  | g0 :: gs => by
    obtain ⟨q1, q2, q3, q4⟩ := gof_gather (f := f) (r := r) gs
    unfold sv_gather
    by_cases h0 : g0.1 = f
    · rw [if_pos h0]
      refine ⟨?_, fun f' h => ?_, fun g hg => ?_, fun g hg => ?_⟩
      · unfold sv_gOf
        rw [List.find?_cons_of_pos (by simpa using h0), h0]
      · unfold sv_gOf
        rw [List.find?_cons_of_neg (by simpa using fun q : g0.1 = f' => h (q.symm.trans h0)), List.find?_cons_of_neg (by simpa using fun q : g0.1 = f' => h (q.symm.trans h0))]
      · unfold sv_gOf at hg
        rw [List.find?_cons_of_pos (by simpa using h0)] at hg
        cases hg
        exact ⟨rfl, rfl⟩
      · rcases List.mem_cons.mp hg with q | q
        · rw [q]
          exact Or.inl h0
        · exact Or.inr ⟨g, List.mem_cons_of_mem _ q, rfl⟩
    · rw [if_neg h0]
      refine ⟨?_, fun f' h => ?_, fun g hg => ?_, fun g hg => ?_⟩
      · unfold sv_gOf at q1 ⊢
        rw [List.find?_cons_of_neg (by simpa using h0)]
        exact q1
      · have := q2 f' h
        unfold sv_gOf at this ⊢
        by_cases hf : g0.1 = f'
        · rw [List.find?_cons_of_pos (by simpa using hf), List.find?_cons_of_pos (by simpa using hf)]
        · rw [List.find?_cons_of_neg (by simpa using hf), List.find?_cons_of_neg (by simpa using hf)]
          exact this
      · unfold sv_gOf at hg
        rw [List.find?_cons_of_neg (by simpa using h0)] at hg
        obtain ⟨w1, w2⟩ := q3 g hg
        refine ⟨w1, ?_⟩
        show (sv_gather gs f r).2.length + 1 = gs.length + 1
        rw [w2]
      · rcases List.mem_cons.mp hg with q | q
        · rw [q]
          exact Or.inr ⟨g0, List.mem_cons_self .., rfl⟩
        · rcases q4 g q with w | ⟨g', w1, w2⟩
          · exact Or.inl w
          · exact Or.inr ⟨g', List.mem_cons_of_mem _ w1, w2⟩
/-- a gathering is closed -/
theorem iR.endG {m : Nat} {V : sv_V} {g : Int32 × Int32} (H : iR m V) (hon : sv_on V = true) (hg : sv_gOf (sv_gs V) g.1 = some g) : iR m (sv_endG V g) := by
  have hgm : g ∈ sv_gs V := List.mem_of_find?_eq_some hg
  have hfile : ((sv_find (sv_fs V) g.1).getD (g.1, 0, 0, 0, 0)).1 = g.1 := by
    cases hf : sv_find (sv_fs V) g.1 with
    | none => rfl
    | some e => exact (by simpa using List.find?_some hf : e.1 = g.1)
  unfold sv_endG
  refine H.app hon (by rw [hfile]; exact H.2.1 g hgm) (fun i h1 h2 h3 h4 h5 => ?_) (fun x hx => H.2.1 x (List.mem_of_mem_eraseP hx)) (fun f hf => ?_) (fun q => ?_)
  · rw [hfile] at h3 h4
    obtain ⟨g', w1, w2⟩ := H.2.2.2.2.1 hon i h1 h2 (fun k k1 k2 => by rw [h3]; exact h4 k k1 k2) h5
    rw [h3, hg] at w1
    cases w1
    exact or_up w2
  · rw [hfile] at hf
    exact gof_take hf _
  · exfalso
    refine q ?_
    unfold cl_
    rw [cl_or]
    decide
/-- a note of a change is written -/
theorem iR.noted {m : Nat} {V : sv_V} {e : sv_E} {r : Int32} (H : iR m V) (hon : sv_on V = true) (he : 0 < e.1 ∧ e.1 ≤ nI m) : iR m (sv_app (sv_setG V (sv_gather (sv_gs V) e.1 r).2) e (sv_gather (sv_gs V) e.1 r).1) := by
  obtain ⟨q1, q2, q3, q4⟩ := gof_gather (f := e.1) (r := r) (sv_gs V)
  have := H.app (e := e) (r := (sv_gather (sv_gs V) e.1 r).1) (gs' := (sv_gather (sv_gs V) e.1 r).2) hon he (fun i h1 h2 h3 h4 h5 => ?_) (fun x hx => ?_) q2 (fun _ => ⟨_, q1, Int32.or_self⟩)
  · exact this
  · obtain ⟨g', w1, w2⟩ := H.2.2.2.2.1 hon i h1 h2 (fun k k1 k2 => by rw [h3]; exact h4 k k1 k2) h5
    rw [h3] at w1
    rw [(q3 g' w1).1]
    exact or_up w2
  · rcases q4 x hx with w | ⟨g', w1, w2⟩
    · rw [w]
      exact he
    · rw [w2]
      exact H.2.1 g' w1
theorem iR.closeG {m : Nat} {V : sv_V} {g : Int32 × Int32} (H : iR m V) (hon : sv_on V = true) (hg : sv_gOf (sv_gs V) g.1 = some g) : iR m (sv_closeG V g).2 ∧ ((sv_closeG V g).1 = true → sv_on (sv_closeG V g).2 = true) := by
  obtain ⟨s1, s2, -⟩ := H.spend
  unfold sv_closeG
  by_cases hs : (sv_spend V).1 = true
  · rw [if_pos hs]
    have hgs := sp_gs hs
    have ho := (s2 hs).trans hon
    exact ⟨s1.endG ho (by rw [hgs]; exact hg), fun _ => ho⟩
  · rw [if_neg hs]
    exact ⟨s1, (fun q => by cases q)⟩
theorem iR.open_ {m : Nat} {V : sv_V} {f : Int32} (H : iR m V) (hon : sv_on V = true) : iR m (sv_open V f).2 ∧ ((sv_open V f).1 = true → sv_on (sv_open V f).2 = true) := by
  unfold sv_open
  split
  · exact ⟨H, fun _ => hon⟩
  · split
    · exact ⟨H, fun _ => hon⟩
    · rename_i g hg
      refine H.closeG hon ?_
      cases hgs : sv_gs V with
      | nil =>
        rw [hgs] at hg
        cases hg
      | cons a l =>
        rw [hgs] at hg
        cases hg
        unfold sv_gOf
        rw [List.find?_cons_of_pos (by simp)]
theorem iR.note {m : Nat} {V : sv_V} {e : sv_E} {r : Int32} (H : iR m V) (hon : sv_on V = true) (he : 0 < e.1 ∧ e.1 ≤ nI m) : iR m (sv_note V e r).2 ∧ ((sv_note V e r).1 = true → sv_on (sv_note V e r).2 = true) := by
  obtain ⟨s1, s2, -⟩ := H.spend
  unfold sv_note
  by_cases hs : (sv_spend V).1 = true
  · rw [if_pos hs]
    have ho := (s2 hs).trans hon
    exact ⟨s1.noted ho he, fun _ => ho⟩
  · rw [if_neg hs]
    exact ⟨s1, (fun q => by cases q)⟩
theorem nt_len {V : sv_V} {e : sv_E} {r : Int32} (h3 : (sv_gs V).length ≤ 3) (hr : (sv_gs V).length < 3 ∨ (sv_gOf (sv_gs V) e.1).isSome = true) : (sv_gs (sv_note V e r).2).length ≤ 3 := by
  unfold sv_note
  by_cases hs : (sv_spend V).1 = true
  · rw [if_pos hs]
    show (sv_gather (sv_gs (sv_spend V).2) e.1 r).2.length ≤ 3
    rw [sp_gs hs]
    rcases hr with q | q
    · have := sg_len (sv_gs V) e.1 r
      omega
    · obtain ⟨g, hg⟩ := Option.isSome_iff_exists.mp q
      rw [((gof_gather (f := e.1) (r := r) (sv_gs V)).2.2.1 g hg).2]
      exact h3
  · rw [if_neg hs]
    have := (sp_len V).1
    exact Nat.le_trans this h3
theorem iR.chg {m : Nat} {V : sv_V} {e : sv_E} {r : Int32} (H : iR m V) (hon : sv_on V = true) (he : 0 < e.1 ∧ e.1 ≤ nI m) (h3 : (sv_gs V).length ≤ 3) : iR m (sv_chg V e r).2 ∧ ((sv_chg V e r).1 = true → sv_on (sv_chg V e r).2 = true) ∧ (sv_gs (sv_chg V e r).2).length ≤ 3 := by
  obtain ⟨o1, o2⟩ := H.open_ (f := e.1) hon
  have o3 := (op_fs V e.1).2.2
  unfold sv_chg
  by_cases ho : (sv_open V e.1).1 = true
  · rw [if_pos ho]
    obtain ⟨n1, n2⟩ := o1.note (e := e) (r := r) (o2 ho) he
    exact ⟨n1, n2, nt_len (by omega) (open_room h3 ho)⟩
  · rw [if_neg ho]
    exact ⟨o1, (fun q => by cases q), by show (sv_gs (sv_open V e.1).2).length ≤ 3; omega⟩
theorem ch_fs (V : sv_V) (e : sv_E) (r : Int32) : sv_fs (sv_chg V e r).2 = sv_fs V ∧ sv_hd (sv_chg V e r).2 ≤ sv_hd V + 2 := by
  have o1 := op_fs V e.1
  unfold sv_chg
  by_cases ho : (sv_open V e.1).1 = true
  · rw [if_pos ho]
    have n1 := nt_fs (sv_open V e.1).2 e r
    exact ⟨n1.1.trans o1.1, by omega⟩
  · rw [if_neg ho]
    exact ⟨o1.1, by show sv_hd (sv_open V e.1).2 ≤ _; omega⟩
