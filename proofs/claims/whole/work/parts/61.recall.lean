/-! what the kept notes leave open: the first note of each file's last unclosed run -/
def cl_ (r : Int32) : Prop := ¬ r &&& 64 = 0
/-- the nearest note of the file before it is a closing one, if there is one -/
def fst_ (F R : Nat → Int32) (t i : Nat) : Prop := ∀ j, t ≤ j → j < i → F j = F i → (∀ k, j < k → k < i → F k ≠ F i) → cl_ (R j)
/-- no note of the file from it on is a closing one -/
def run_ (F R : Nat → Int32) (h i : Nat) : Prop := ∀ k, i ≤ k → k < h → F k = F i → ¬ cl_ (R k)
def lr (F R : Nat → Int32) : Nat → Int32 → Int32
  | 0, _ => 0
  | h + 1, f => if F h = f then R h else lr F R h f
/-- reasons gather until they are closed -/
def mono_ (F R : Nat → Int32) (t h : Nat) : Prop := ∀ i j, t ≤ i → i < j → j < h → F i = F j → (∀ k, i ≤ k → k < j → F k = F i → ¬ cl_ (R k)) → R i ||| R j = R j
theorem near {F : Nat → Int32} {f : Int32} {i : Nat} (hi : F i = f) : ∀ n, ∃ j, i ≤ j ∧ j < i + n + 1 ∧ F j = f ∧ ∀ k, j < k → k < i + n + 1 → F k ≠ f
  | 0 => ⟨i, by omega, by omega, hi, fun k h1 h2 => by omega⟩
  | n + 1 => by
    by_cases h : F (i + n + 1) = f
    · exact ⟨i + n + 1, by omega, by omega, h, fun k h1 h2 => by omega⟩
    · obtain ⟨j, j1, j2, j3, j4⟩ := near hi n
      refine ⟨j, j1, by omega, j3, fun k h1 h2 => ?_⟩
      by_cases e : k = i + n + 1
      · rw [e]
        exact h
      · exact j4 k h1 (by omega)
theorem lr_near {F R : Nat → Int32} {f : Int32} {j : Nat} (hj : F j = f) : ∀ h, j < h → (∀ k, j < k → k < h → F k ≠ f) → lr F R h f = R j
  | 0, h1, _ => by omega
  | h + 1, h1, h2 => by
    unfold lr
    by_cases e : j = h
    · subst e
      rw [if_pos hj]
    · rw [if_neg (h2 h (by omega) (by omega))]
      exact lr_near hj h (by omega) (fun k a b => h2 k a (by omega))
theorem ok_ex {F R : Nat → Int32} {f : Int32} {t h : Nat} : ∀ j, t ≤ j → j < h → F j = f → run_ F R h j → ∃ i, t ≤ i ∧ i < h ∧ (fst_ F R t i ∧ run_ F R h i) ∧ F i = f := by
  intro j
  induction j using Nat.strongRecOn with
  | ind j ih =>
    intro j1 j2 j3 j4
    by_cases hf : fst_ F R t j
    · exact ⟨j, j1, j2, ⟨hf, j4⟩, j3⟩
    · have : ∃ j', t ≤ j' ∧ j' < j ∧ F j' = F j ∧ (∀ k, j' < k → k < j → F k ≠ F j) ∧ ¬ cl_ (R j') := by
        refine Classical.byContradiction (fun hn => hf (fun j' a b c d => ?_))
        refine Classical.byContradiction (fun hc => hn ⟨j', a, b, c, d, hc⟩)
      obtain ⟨j', a, b, c, d, e⟩ := this
      refine ih j' b a (by omega) (c.trans j3) (fun k k1 k2 k3 => ?_)
      by_cases ek : k = j'
      · rw [ek]
        exact e
      · by_cases kj : k < j
        · exact absurd (k3.trans c) (d k (by omega) kj)
        · exact j4 k (by omega) k2 (k3.trans c)
theorem map_take {F : Nat → Int32} {val : Nat → Int32 × Int32} {f : Int32} (hv : ∀ i, (val i).1 = F i) : ∀ {l : List Nat}, l.Pairwise (fun a b => F a ≠ F b) → sv_take (l.map val) f = (l.filter (fun i => decide (F i ≠ f))).map val
  | [], _ => rfl
  | i :: l, hp => by
    have hp := List.pairwise_cons.mp hp
    unfold sv_take
    rw [List.map_cons]
    by_cases h : F i = f
    · rw [List.eraseP_cons_of_pos (by rw [hv i]; simpa using h), List.filter_cons_of_neg (by simpa using h)]
      rw [List.filter_eq_self.mpr (fun j hj => by
        have := hp.1 j hj
        rw [h] at this
        simpa using fun q : F j = f => this q.symm)]
    · rw [List.eraseP_cons_of_neg (by rw [hv i]; simpa using h), List.filter_cons_of_pos (by simpa using h), List.map_cons]
      have := map_take (f := f) hv hp.2
      unfold sv_take at this
      rw [this]
theorem map_gather {F : Nat → Int32} {val val' : Nat → Int32 × Int32} {f r : Int32} (hv : ∀ i, (val i).1 = F i) (hn : ∀ i, F i ≠ f → val' i = val i) (hy : ∀ i, F i = f → val' i = ((val i).1, (val i).2 ||| r)) : ∀ {l : List Nat}, l.Pairwise (fun a b => F a ≠ F b) → (∃ i ∈ l, F i = f) → (sv_gather (l.map val) f r).2 = l.map val'
  | [], _, h => by
    obtain ⟨i, hi, _⟩ := h
    cases hi
  | i :: l, hp, he => by
    have hp := List.pairwise_cons.mp hp
    rw [List.map_cons, List.map_cons]
    unfold sv_gather
    rw [hv i]
    by_cases h : F i = f
    · rw [if_pos h]
      show (F i, (val i).2 ||| r) :: l.map val = _
      rw [hy i h, hv i]
      have : l.map val = l.map val' := List.map_congr_left (fun j hj => (hn j (fun q => hp.1 j hj (h.trans q.symm))).symm)
      rw [this]
    · rw [if_neg h]
      show val i :: (sv_gather (l.map val) f r).2 = _
      rw [map_gather hv hn hy hp.2 (by
        obtain ⟨j, hj, hjf⟩ := he
        rcases List.mem_cons.mp hj with q | q
        · rw [q] at hjf
          exact absurd hjf h
        · exact ⟨j, q, hjf⟩), hn i h]
theorem ok_dist {F R : Nat → Int32} {t h : Nat} {is : List Nat} (hs : is.Pairwise (fun a b => a < b)) (hm : ∀ i ∈ is, t ≤ i ∧ i < h ∧ (fst_ F R t i ∧ run_ F R h i)) : is.Pairwise (fun a b => F a ≠ F b) := by
  induction is with
  | nil => exact List.Pairwise.nil
  | cons a l ih =>
    have hs := List.pairwise_cons.mp hs
    refine List.pairwise_cons.mpr ⟨fun b hb q => ?_, ih hs.2 (fun i hi => hm i (List.mem_cons_of_mem _ hi))⟩
    have ha := hm a (List.mem_cons_self ..)
    have hb2 := hm b (List.mem_cons_of_mem _ hb)
    have hab := hs.1 b hb
    obtain ⟨j, j1, j2, j3, j4⟩ := near q (b - a - 1)
    rw [show a + (b - a - 1) + 1 = b by omega] at j2 j4
    exact ha.2.2.2 j j1 (by omega) (j3.trans q.symm) (hb2.2.2.1 j (by omega) j2 j3 j4)
theorem rcs_snoc (rg : Nat → Nat → Int32) : ∀ (k s : Nat) (gs : List (Int32 × Int32)), sv_rcs rg (k + 1) s gs = sv_rc rg (sv_rcs rg k s gs) (s + k)
  | 0, _, _ => rfl
  | k + 1, s, gs => by
    show sv_rcs rg (k + 1) (s + 1) (sv_rc rg gs s) = _
    rw [rcs_snoc rg k (s + 1) (sv_rc rg gs s), show s + 1 + k = s + (k + 1) by omega]
    rfl
theorem rec_char {rg : Nat → Nat → Int32} {F R : Nat → Int32} (hF : ∀ s, F s = rg (s % 16) 0) (hR : ∀ s, R s = rg (s % 16) 5) {t : Nat} : ∀ n, mono_ F R t (t + n) → ∃ is : List Nat, is.Pairwise (fun a b => a < b) ∧ (∀ i, i ∈ is ↔ t ≤ i ∧ i < t + n ∧ (fst_ F R t i ∧ run_ F R (t + n) i)) ∧ sv_rcs rg n t [] = is.map (fun i => (F i, lr F R (t + n) (F i)))
  | 0, _ => ⟨[], List.Pairwise.nil, fun i => ⟨(fun h => by cases h), fun h => by omega⟩, rfl⟩
  | n + 1, hmono => by
    obtain ⟨is, p1, p2, p3⟩ := rec_char hF hR n (fun i j a b c d e => hmono i j a b (by omega) d e)
    have pd := ok_dist p1 (fun i hi => (p2 i).mp hi)
    rw [rcs_snoc, p3]
    unfold sv_rc
    rw [← hF (t + n), ← hR (t + n)]
    have hlr : ∀ f, lr F R (t + (n + 1)) f = if F (t + n) = f then R (t + n) else lr F R (t + n) f := fun f => rfl
    have hrun : ∀ i, i < t + n → (run_ F R (t + (n + 1)) i ↔ run_ F R (t + n) i ∧ (F (t + n) = F i → ¬ cl_ (R (t + n)))) := by
      intro i hi
      constructor
      · intro q
        exact ⟨fun k a b c => q k a (by omega) c, fun c => q (t + n) (by omega) (by omega) c⟩
      · rintro ⟨q1, q2⟩ k a b c
        by_cases e : k = t + n
        · rw [e] at c ⊢
          exact q2 c
        · exact q1 k a (by omega) c
    have hlt : ∀ i ∈ is, i < t + n := fun i hi => ((p2 i).mp hi).2.1
    by_cases hc : R (t + n) &&& 64 = 0
    · rw [if_pos hc]
      have hnc : ¬ cl_ (R (t + n)) := fun q => q hc
      by_cases hex : ∃ i ∈ is, F i = F (t + n)
      · refine ⟨is, p1, fun i => ?_, ?_⟩
        · constructor
          · intro hi
            obtain ⟨a, b, c, d⟩ := (p2 i).mp hi
            exact ⟨a, by omega, c, (hrun i b).mpr ⟨d, fun _ => hnc⟩⟩
          · rintro ⟨a, b, c, d⟩
            by_cases e : i = t + n
            · exfalso
              obtain ⟨i0, q1, q2⟩ := hex
              obtain ⟨u1, u2, u3, u4⟩ := (p2 i0).mp q1
              obtain ⟨j, j1, j2, j3, j4⟩ := near q2 (t + n - i0 - 1)
              rw [show i0 + (t + n - i0 - 1) + 1 = t + n by omega] at j2 j4
              rw [e] at c
              exact u4 j j1 j2 (j3.trans q2.symm) (c j (by omega) j2 j3 j4)
            · exact (p2 i).mpr ⟨a, by omega, c, ((hrun i (by omega)).mp d).1⟩
        · refine map_gather (F := F) (fun _ => rfl) (fun i hi => ?_) (fun i hi => ?_) pd hex
          · rw [hlr, if_neg (fun q => hi q.symm)]
          · rw [hlr, if_pos hi.symm]
            obtain ⟨i0, q1, q2⟩ := hex
            obtain ⟨u1, u2, u3, u4⟩ := (p2 i0).mp q1
            obtain ⟨j, j1, j2, j3, j4⟩ := near q2 (t + n - i0 - 1)
            rw [show i0 + (t + n - i0 - 1) + 1 = t + n by omega] at j2 j4
            have h1 : lr F R (t + n) (F i) = R j := by
              rw [hi]
              exact lr_near j3 (t + n) j2 j4
            have h2 := hmono j (t + n) (by omega) j2 (by omega) j3 (fun k a b c => by
              by_cases e : k = j
              · rw [e]
                exact u4 j j1 j2 (j3.trans q2.symm)
              · exact absurd (c.trans j3) (j4 k (by omega) b))
            show (F i, R (t + n)) = (F i, lr F R (t + n) (F i) ||| R (t + n))
            rw [h1, h2]
      · refine ⟨is ++ [t + n], List.pairwise_append.mpr ⟨p1, List.pairwise_cons.mpr ⟨(fun b hb => by cases hb), List.Pairwise.nil⟩, fun a ha b hb => by
          rw [List.mem_singleton] at hb
          rw [hb]
          exact hlt a ha⟩, fun i => ?_, ?_⟩
        · rw [List.mem_append, List.mem_singleton]
          constructor
          · rintro (hi | hi)
            · obtain ⟨a, b, c, d⟩ := (p2 i).mp hi
              exact ⟨a, by omega, c, (hrun i b).mpr ⟨d, fun _ => hnc⟩⟩
            · rw [hi]
              refine ⟨by omega, by omega, fun j a b c d => ?_, fun k a b c => ?_⟩
              · refine Classical.byContradiction (fun hcl => ?_)
                obtain ⟨i0, v1, v2, v3, v4⟩ := ok_ex (F := F) (R := R) (f := F (t + n)) (t := t) (h := t + n) j a b c (fun k k1 k2 k3 => by
                  by_cases e : k = j
                  · rw [e]
                    exact hcl
                  · exact absurd (k3.trans c) (d k (by omega) k2))
                exact hex ⟨i0, (p2 i0).mpr ⟨v1, v2, v3⟩, v4⟩
              · rw [show k = t + n by omega]
                exact hnc
          · rintro ⟨a, b, c, d⟩
            by_cases e : i = t + n
            · exact Or.inr e
            · exact Or.inl ((p2 i).mpr ⟨a, by omega, c, ((hrun i (by omega)).mp d).1⟩)
        · have hn : (is.map (fun i => (F i, lr F R (t + n) (F i)))).find? (fun g => decide (g.1 = F (t + n))) = none := by
            refine List.find?_eq_none.mpr (fun g hg q => ?_)
            obtain ⟨i, hi, rfl⟩ := List.mem_map.mp hg
            exact hex ⟨i, hi, by simpa using q⟩
          rw [sg_none hn, List.map_append, List.map_singleton, hlr, if_pos rfl]
          show is.map (fun i => (F i, lr F R (t + n) (F i))) ++ _ = _
          rw [List.map_congr_left (g := fun i => (F i, lr F R (t + (n + 1)) (F i))) (fun i hi => by
            rw [hlr, if_neg (fun q => hex ⟨i, hi, q.symm⟩)])]
    · rw [if_neg hc]
      have hcl : cl_ (R (t + n)) := hc
      refine ⟨is.filter (fun i => decide (F i ≠ F (t + n))), List.Pairwise.sublist (List.filter_sublist ..) p1, fun i => ?_, ?_⟩
      · rw [List.mem_filter]
        constructor
        · rintro ⟨hi, q⟩
          have q : F i ≠ F (t + n) := by simpa using q
          obtain ⟨a, b, c, d⟩ := (p2 i).mp hi
          exact ⟨a, by omega, c, (hrun i b).mpr ⟨d, fun w => absurd w.symm q⟩⟩
        · rintro ⟨a, b, c, d⟩
          by_cases e : i = t + n
          · exact absurd hcl (d (t + n) (by omega) (by omega) (by rw [e]))
          · have := (hrun i (by omega)).mp d
            exact ⟨(p2 i).mpr ⟨a, by omega, c, this.1⟩, by simpa using fun q : F i = F (t + n) => this.2 q.symm hcl⟩
      · rw [map_take (F := F) (fun _ => rfl) pd]
        refine List.map_congr_left (fun i hi => ?_)
        have q : F i ≠ F (t + n) := by simpa using (List.mem_filter.mp hi).2
        rw [hlr, if_neg (fun w => q w.symm)]
