/-! a change by its steps; files in order -/
def sv_srt (fs : List sv_E) : Prop := fs.Pairwise (fun a b => a.1 < b.1)
theorem srt_lt {fs : List sv_E} (hs : sv_srt fs) {i j : Nat} {a b : sv_E} (ha : fs[i]? = some a) (hb : fs[j]? = some b) (hij : i < j) : a.1 < b.1 := by
  obtain ⟨h1, e1⟩ := List.getElem?_eq_some_iff.mp ha
  obtain ⟨h2, e2⟩ := List.getElem?_eq_some_iff.mp hb
  have := List.pairwise_iff_getElem.mp hs i j h1 h2 hij
  rw [e1, e2] at this
  exact this
theorem pos_at {fs : List sv_E} (hs : sv_srt fs) {i : Nat} {e : sv_E} (he : fs[i]? = some e) : sv_pos fs e.1 = i := by
  have hi := (List.getElem?_eq_some_iff.mp he).1
  refine sf_pos (fun j hj e' he' => srt_lt hs he' he hj) (fun e' he' => ?_) (by omega)
  rw [he] at he'
  cases he'
  exact fun q => Int32.not_lt.mpr (Int32.le_refl _) q
theorem put_set {fs : List sv_E} (hs : sv_srt fs) {i m : Nat} {e e' : sv_E} (he : fs[i]? = some e) (h1 : e'.1 = e.1) : sv_put fs m e' = fs.set i e' := by
  unfold sv_put
  rw [h1, pos_at hs he, he]
  exact if_pos (by simp)
theorem pos_end {fs : List sv_E} {n : Int32} (h : ∀ e ∈ fs, e.1 < n) : sv_pos fs n = fs.length := by
  refine sf_pos (fun j hj e' he' => h e' (List.mem_of_getElem? he')) (fun e' he' => ?_) (Nat.le_refl _)
  have := (List.getElem?_eq_some_iff.mp he').1
  omega
theorem put_app {fs : List sv_E} {m : Nat} {e' : sv_E} (h : ∀ e ∈ fs, e.1 < e'.1) (hl : fs.length < m) : sv_put fs m e' = fs ++ [e'] := by
  unfold sv_put
  rw [pos_end h, List.getElem?_eq_none (Nat.le_refl _)]
  rw [if_neg (by simp), if_pos hl, List.insertIdx_length_self]
theorem op_fs (V : sv_V) (f : Int32) : sv_fs (sv_open V f).2 = sv_fs V ∧ sv_hd (sv_open V f).2 ≤ sv_hd V + 1 ∧ (sv_gs (sv_open V f).2).length ≤ (sv_gs V).length := by
  rw [sv_open_way]
  split
  · exact ⟨rfl, Nat.le_succ _, Nat.le_refl _⟩
  · rename_i g _
    have := cg_len V g
    exact ⟨this.2.2, this.2.1, this.1⟩
theorem nt_fs (V : sv_V) (e : sv_E) (r : Int32) : sv_fs (sv_note V e r).2 = sv_fs V ∧ sv_hd (sv_note V e r).2 ≤ sv_hd V + 1 := by
  have h1 := sp_len V
  unfold sv_note
  split
  · refine ⟨?_, ?_⟩
    · show sv_fs (sv_spend V).2 = _
      exact h1.2.2
    · show sv_hd (sv_spend V).2 + 1 ≤ _
      omega
  · refine ⟨h1.2.2, ?_⟩
    show sv_hd (sv_spend V).2 ≤ _
    omega
/-- room for a gathering, once it has been made -/
theorem open_room {V : sv_V} {f : Int32} (hg : (sv_gs V).length ≤ 3) (ho : (sv_open V f).1 = true) : (sv_gs (sv_open V f).2).length < 3 ∨ (sv_gOf (sv_gs (sv_open V f).2) f).isSome = true := by
  by_cases hc : (sv_gs V).length < 3 ∨ (sv_gOf (sv_gs V) f).isSome = true
  · have : sv_open V f = (true, V) := by
      unfold sv_open
      rw [if_pos hc]
    rw [this]
    exact hc
  · have h3 : (sv_gs V).length = 3 := by
      have := fun q => hc (Or.inl q)
      omega
    have h0 : (sv_gs V)[0]? = some ((sv_gs V)[0]'(by omega)) := List.getElem?_eq_getElem (by omega)
    have hop : sv_open V f = sv_closeG V ((sv_gs V)[0]'(by omega)) := by
      unfold sv_open
      rw [if_neg hc, List.head?_eq_getElem?, h0]
    rw [hop] at ho ⊢
    have hs : (sv_spend V).1 = true := by
      by_cases q : (sv_spend V).1 = true
      · exact q
      · unfold sv_closeG at ho
        rw [if_neg q] at ho
        cases ho
    refine Or.inl ?_
    unfold sv_closeG
    rw [if_pos hs]
    show (sv_take (sv_gs (sv_spend V).2) ((sv_gs V)[0]'(by omega)).1).length < 3
    rw [sp_gs hs]
    have := sf_erase (p := fun g : Int32 × Int32 => decide (g.1 = ((sv_gs V)[0]'(by omega)).1)) (es := sv_gs V) (i := 0) rfl h0 (decide_eq_true rfl)
    unfold sv_take
    rw [← this, List.length_eraseIdx, if_pos (by omega)]
    omega
