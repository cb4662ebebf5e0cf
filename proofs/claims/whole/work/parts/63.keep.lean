/-! what stays true of the files; of the volume, call by call -/
def iF (lt : Nat) (fs : List sv_E) : Prop := sv_srt fs ∧ fs.length ≤ 20 ∧ ∀ e ∈ fs, (0 < e.1 ∧ e.1 ≤ nI lt) ∧ (e.2.1 = 0 ∨ e.2.1 = 1) ∧ (e.2.2.1 = 0 ∨ ∃ e' ∈ fs, e'.1 = e.2.2.1)
theorem find_ex {fs : List sv_E} {f : Int32} : (sv_find fs f).isSome = true ↔ ∃ e ∈ fs, e.1 = f := by
  unfold sv_find
  rw [List.find?_isSome]
  exact ⟨fun ⟨e, a, b⟩ => ⟨e, a, by simpa using b⟩, fun ⟨e, a, b⟩ => ⟨e, a, by simpa using b⟩⟩
/-- a file is set anew, with its number -/
theorem iF.set {lt : Nat} {fs : List sv_E} {i : Nat} {e e' : sv_E} (H : iF lt fs) (he : fs[i]? = some e) (h1 : e'.1 = e.1) (h2 : e'.2.1 = 0 ∨ e'.2.1 = 1) (h3 : e'.2.2.1 = 0 ∨ ∃ x ∈ fs, x.1 = e'.2.2.1) : iF lt (fs.set i e') := by
  have hi := (List.getElem?_eq_some_iff.mp he).1
  have hnum : ∀ f, (∃ x ∈ fs, x.1 = f) → ∃ x ∈ fs.set i e', x.1 = f := by
    rintro f ⟨x, hx, hf⟩
    obtain ⟨j, hj⟩ := List.mem_iff_getElem?.mp hx
    by_cases e : i = j
    · refine ⟨e', List.mem_iff_getElem?.mpr ⟨i, by rw [List.getElem?_set, if_pos rfl, if_pos hi]⟩, ?_⟩
      rw [← e, he] at hj
      cases hj
      exact h1.trans hf
    · exact ⟨x, List.mem_iff_getElem?.mpr ⟨j, by rw [List.getElem?_set, if_neg e]; exact hj⟩, hf⟩
  refine ⟨?_, by rw [List.length_set]; exact H.2.1, fun x hx => ?_⟩
  · refine List.pairwise_iff_getElem.mpr (fun a b ha hb hab => ?_)
    rw [List.length_set] at ha hb
    have key : ∀ (c : Nat) (hc : c < fs.length), ((fs.set i e')[c]'(by rw [List.length_set]; exact hc)).1 = (fs[c]).1 := by
      intro c hc
      rw [List.getElem_set]
      split
      · rename_i q
        subst q
        have := (List.getElem?_eq_some_iff.mp he).2
        rw [this]
        exact h1
      · rfl
    rw [key a ha, key b hb]
    exact List.pairwise_iff_getElem.mp H.1 a b ha hb hab
  · obtain ⟨j, hj⟩ := List.mem_iff_getElem?.mp hx
    rw [List.getElem?_set] at hj
    by_cases q : i = j
    · rw [if_pos q, if_pos (by omega)] at hj
      cases hj
      have := H.2.2 e (List.mem_of_getElem? he)
      rw [h1]
      exact ⟨this.1, h2, h3.imp id (hnum _)⟩
    · rw [if_neg q] at hj
      have := H.2.2 x (List.mem_of_getElem? hj)
      exact ⟨this.1, this.2.1, this.2.2.imp id (hnum _)⟩
theorem iF.app {lt : Nat} {fs : List sv_E} {e' : sv_E} (H : iF lt fs) (hl : fs.length < 20) (hlt : lt < 2000000) (h1 : e'.1 = nI (lt + 1)) (h2 : e'.2.1 = 0 ∨ e'.2.1 = 1) (h3 : e'.2.2.1 = 0 ∨ ∃ x ∈ fs, x.1 = e'.2.2.1) : iF (lt + 1) (fs ++ [e']) := by
  have hup : nI lt < nI (lt + 1) := nI_lt (by omega) (by omega)
  refine ⟨?_, by rw [List.length_append]; show fs.length + 1 ≤ 20; omega, fun x hx => ?_⟩
  · refine List.pairwise_append.mpr ⟨H.1, List.pairwise_cons.mpr ⟨(fun b hb => by cases hb), List.Pairwise.nil⟩, fun a ha b hb => ?_⟩
    rw [List.mem_singleton] at hb
    rw [hb, h1]
    exact Int32.lt_of_le_of_lt (H.2.2 a ha).1.2 hup
  · rcases List.mem_append.mp hx with q | q
    · have := H.2.2 x q
      exact ⟨⟨this.1.1, Int32.le_trans this.1.2 (Int32.le_of_lt hup)⟩, this.2.1, this.2.2.imp id (fun ⟨y, a, b⟩ => ⟨y, List.mem_append_left _ a, b⟩)⟩
    · rw [List.mem_singleton] at q
      rw [q, h1]
      exact ⟨⟨nI_lt (a := 0) (by omega) (by omega), Int32.le_refl _⟩, h2, h3.imp id (fun ⟨y, a, b⟩ => ⟨y, List.mem_append_left _ a, b⟩)⟩
theorem iF.del {lt : Nat} {fs : List sv_E} {f : Int32} (H : iF lt fs) (hn : fs.find? (fun e => decide (e.2.2.1 = f)) = none) : iF lt (fs.eraseP (fun e => decide (e.1 = f))) := by
  have hne : ∀ e ∈ fs, e.2.2.1 ≠ f := fun e he q => by
    have := List.find?_eq_none.mp hn e he
    exact this (by simpa using q)
  refine ⟨srt_er H.1, Nat.le_trans (List.Sublist.length_le (List.eraseP_sublist ..)) H.2.1, fun e he => ?_⟩
  have hm := List.mem_of_mem_eraseP he
  have := H.2.2 e hm
  refine ⟨this.1, this.2.1, this.2.2.imp id (fun ⟨y, a, b⟩ => ⟨y, (mem_er (srt_dn H.1)).mpr ⟨a, fun q => hne e hm (b.symm.trans q)⟩, b⟩)⟩
/-- the volume, after n calls -/
def iV (n : Nat) (V : sv_V) : Prop := iF (sv_lt V) (sv_fs V) ∧ iR (sv_lt V + 1) V ∧ (sv_gs V).length ≤ 3 ∧ 2 * sv_lt V ≤ n + (sv_fs V).length ∧ sv_hd V ≤ 1 + 20 * n
theorem iV.of {n : Nat} {W : sv_V} {fs' : List sv_E} (h1 : iF (sv_lt W) fs') (h2 : iR (sv_lt W + 1) W) (h3 : (sv_gs W).length ≤ 3) (h4 : 2 * sv_lt W ≤ n + fs'.length) (h5 : sv_hd W ≤ 1 + 20 * n) : iV n (sv_setF W fs') := by
  obtain ⟨fs, lt, hd, rg, gs, on, lf⟩ := W
  exact ⟨h1, h2, h3, h4, h5⟩
theorem iV.ofL {n : Nat} {W : sv_V} {fs' : List sv_E} (h1 : iF (sv_lt W + 1) fs') (h2 : iR (sv_lt W + 1 + 1) W) (h3 : (sv_gs W).length ≤ 3) (h4 : 2 * (sv_lt W + 1) ≤ n + fs'.length) (h5 : sv_hd W ≤ 1 + 20 * n) : iV n (sv_incL (sv_setF W fs')) := by
  obtain ⟨fs, lt, hd, rg, gs, on, lf⟩ := W
  exact ⟨h1, h2, h3, h4, h5⟩
theorem iV.up {n : Nat} {V : sv_V} (H : iV n V) : iV (n + 1) V := ⟨H.1, H.2.1, H.2.2.1, by have := H.2.2.2.1; omega, by have := H.2.2.2.2; omega⟩
theorem iV.lt {n : Nat} {V : sv_V} (hn : n ≤ 512) (H : iV n V) : sv_lt V ≤ 266 := by
  have := H.2.2.2.1
  have := H.1.2.1
  omega
theorem iV.num {n : Nat} {V : sv_V} (hn : n ≤ 512) (H : iV n V) {x : Int32} (hx : 0 < x ∧ x ≤ nI (sv_lt V + 1)) : 0 < x ∧ x < 270 := by
  have := H.lt hn
  exact ⟨hx.1, Int32.lt_of_le_of_lt hx.2 (nI_lt (b := 270) (by omega) (by decide))⟩
theorem iV.fnum {n : Nat} {V : sv_V} (hn : n ≤ 512) (H : iV n V) {e : sv_E} (he : e ∈ sv_fs V) : 0 < e.1 ∧ e.1 ≤ nI (sv_lt V + 1) := by
  have h1 := (H.1.2.2 e he).1
  have := H.lt hn
  exact ⟨h1.1, Int32.le_trans h1.2 (nI_le (by omega) (by omega))⟩
theorem iV.cls {n : Nat} {V : sv_V} {f : Int32} (H : iV n V) : iV (n + 1) (sv_cls V f).2.2 := by
  unfold sv_cls
  by_cases hon : sv_on V = true
  · rw [if_pos hon]
    cases hg : sv_gOf (sv_gs V) f with
    | none => exact H.up
    | some g =>
      have hgf : g.1 = f := by simpa using List.find?_some hg
      obtain ⟨c1, -⟩ := H.2.1.closeG hon (g := g) (by rw [hgf]; exact hg)
      have c2 := cg_len V g
      have c3 := cg_lt V g
      show iV (n + 1) (sv_closeG V g).2
      refine ⟨by rw [c3, c2.2.2]; exact H.1, by rw [c3]; exact c1, Nat.le_trans c2.1 H.2.2.1, ?_, ?_⟩
      · rw [c3, c2.2.2]
        have := H.2.2.2.1
        omega
      · have := H.2.2.2.2
        omega
  · rw [if_neg hon]
    exact H.up
/-- the note of a change, then a write -/
theorem iV.step {n : Nat} {V : sv_V} {e : sv_E} {r : Int32} (H : iV n V) (hon : sv_on V = true) (he : 0 < e.1 ∧ e.1 ≤ nI (sv_lt V + 1)) : iR (sv_lt V + 1) (sv_spend (sv_chg V e r).2).2 ∧ (sv_gs (sv_spend (sv_chg V e r).2).2).length ≤ 3 ∧ sv_fs (sv_spend (sv_chg V e r).2).2 = sv_fs V ∧ sv_lt (sv_spend (sv_chg V e r).2).2 = sv_lt V ∧ sv_hd (sv_spend (sv_chg V e r).2).2 ≤ sv_hd V + 2 := by
  obtain ⟨c1, c2, c3⟩ := H.2.1.chg (e := e) (r := r) hon he H.2.2.1
  obtain ⟨d1, d2⟩ := ch_fs V e r
  obtain ⟨s1, s2, s3⟩ := c1.spend
  have s4 := sp_len (sv_chg V e r).2
  exact ⟨s1, Nat.le_trans s3 c3, s4.2.2.trans d1, (sp_lt _).trans (ch_lt V e r), by rw [s4.2.1]; exact d2⟩
theorem iV.chg1 {n : Nat} {V : sv_V} {e : sv_E} {r : Int32} (H : iV n V) (hon : sv_on V = true) (he : 0 < e.1 ∧ e.1 ≤ nI (sv_lt V + 1)) : iV (n + 1) (sv_chg V e r).2 := by
  obtain ⟨c1, c2, c3⟩ := H.2.1.chg (e := e) (r := r) hon he H.2.2.1
  obtain ⟨d1, d2⟩ := ch_fs V e r
  have d3 := ch_lt V e r
  refine ⟨by rw [d1, d3]; exact H.1, by rw [d3]; exact c1, c3, ?_, ?_⟩
  · rw [d1, d3]
    have := H.2.2.2.1
    omega
  · have := H.2.2.2.2
    omega
theorem iV.spd {n : Nat} {V : sv_V} {e : sv_E} {r : Int32} (H : iV n V) (hon : sv_on V = true) (he : 0 < e.1 ∧ e.1 ≤ nI (sv_lt V + 1)) : iV (n + 1) (sv_spend (sv_chg V e r).2).2 := by
  obtain ⟨s1, s2, s3, s4, s5⟩ := H.step (e := e) (r := r) hon he
  refine ⟨by rw [s3, s4]; exact H.1, by rw [s4]; exact s1, s2, ?_, ?_⟩
  · rw [s3, s4]
    have := H.2.2.2.1
    omega
  · have := H.2.2.2.2
    omega
/-- a change is done that leaves the numbers as they are -/
theorem iV.do_ {n : Nat} {V : sv_V} {i : Nat} {e e' : sv_E} {r : Int32} (H : iV n V) (hon : sv_on V = true) (he : (sv_fs V)[i]? = some e) (hn : 0 < e.1 ∧ e.1 ≤ nI (sv_lt V + 1)) (h1 : e'.1 = e.1) (h2 : e'.2.1 = 0 ∨ e'.2.1 = 1) (h3 : e'.2.2.1 = 0 ∨ ∃ x ∈ sv_fs V, x.1 = e'.2.2.1) : iV (n + 1) (sv_do V e' r).2 := by
  have hb : 0 < e'.1 ∧ e'.1 ≤ nI (sv_lt V + 1) := by
    rw [h1]
    exact hn
  unfold sv_do
  by_cases hc : (sv_chg V e' r).1 = true
  · rw [if_pos hc]
    obtain ⟨s1, s2, s3, s4, s5⟩ := H.step (e := e') (r := r) hon hb
    by_cases hs : (sv_spend (sv_chg V e' r).2).1 = true
    · rw [if_pos hs]
      show iV (n + 1) (sv_setF (sv_spend (sv_chg V e' r).2).2 (sv_put (sv_fs (sv_spend (sv_chg V e' r).2).2) 20 e'))
      rw [s3, put_set H.1.1 he h1]
      generalize (sv_spend (sv_chg V e' r).2).2 = W at s1 s2 s3 s4 s5 ⊢
      have h20 := H.2.2.2.1
      have h4 := H.2.2.2.2
      exact iV.of (by rw [s4]; exact H.1.set he h1 h2 h3) (by rw [s4]; exact s1) s2 (by rw [s4, List.length_set]; omega) (by omega)
    · rw [if_neg hs]
      exact H.spd hon hb
  · rw [if_neg hc]
    exact H.chg1 hon hb
theorem iV.chn {n : Nat} {V : sv_V} {f : Int32} (hn : n ≤ 512) (H : iV n V) : iV (n + 1) (sv_chn V f).2.2 := by
  unfold sv_chn
  by_cases hon : sv_on V = true
  · rw [if_pos hon]
    cases hf : sv_find (sv_fs V) f with
    | none => exact H.up
    | some e =>
      have hef : e.1 = f := by simpa using List.find?_some hf
      have hm := List.mem_of_find?_eq_some hf
      obtain ⟨i, hi⟩ := List.mem_iff_getElem?.mp hm
      have hd := fun r => H.do_ (r := r) (e' := (f, e.2.1, e.2.2.1, e.2.2.2.1, e.2.2.2.2 + 1)) hon hi (H.fnum hn hm) hef.symm (H.1.2.2 e hm).2.1 (H.1.2.2 e hm).2.2
      simp only
      split
      · exact H.up
      · split
        · exact hd 2
        · exact hd 2
  · rw [if_neg hon]
    exact H.up
theorem iV.rem {n : Nat} {V : sv_V} {f : Int32} (hn : n ≤ 512) (H : iV n V) : iV (n + 1) (sv_rem V f).2.2 := by
  unfold sv_rem
  by_cases hon : sv_on V = true
  · rw [if_pos hon]
    cases hf : sv_find (sv_fs V) f with
    | none => exact H.up
    | some e =>
      have hef : e.1 = f := by simpa using List.find?_some hf
      have hm := List.mem_of_find?_eq_some hf
      simp only
      by_cases hp : ((sv_fs V).find? (fun e => decide (e.2.2.1 = f))).isSome = true
      · rw [if_pos hp]
        exact H.up
      · rw [if_neg hp]
        by_cases hc : (sv_chg V e 32).1 = true
        · rw [if_pos hc]
          obtain ⟨s1, s2, s3, s4, s5⟩ := H.step (e := e) (r := 32) hon (H.fnum hn hm)
          by_cases hs : (sv_spend (sv_chg V e 32).2).1 = true
          · rw [if_pos hs, s3]
            show iV (n + 1) (sv_setF (sv_spend (sv_chg V e 32).2).2 ((sv_fs V).eraseP (fun e => decide (e.1 = f))))
            generalize (sv_spend (sv_chg V e 32).2).2 = W at s1 s2 s3 s4 s5 ⊢
            have h2 := H.2.2.2.1
            have h4 := H.2.2.2.2
            exact iV.of (by rw [s4]; exact H.1.del (Option.not_isSome_iff_eq_none.mp hp)) (by rw [s4]; exact s1) s2 (by rw [s4, List.length_eraseP_of_mem hm (by simpa using hef)]; omega) (by omega)
          · rw [if_neg hs]
            exact H.spd hon (H.fnum hn hm)
        · rw [if_neg hc]
          exact H.chg1 hon (H.fnum hn hm)
  · rw [if_neg hon]
    exact H.up
theorem fold_in {fs : List sv_E} {p : Int32} (h : cd_fold fs p = 0) : p = 0 ∨ ∃ x ∈ fs, x.1 = p := by
  by_cases h0 : p = 0
  · exact Or.inl h0
  · refine Or.inr (find_ex.mp ?_)
    cases hf : sv_find fs p with
    | none =>
      have := (cd_fold_3 fs p).mpr ⟨h0, hf⟩
      omega
    | some _ => rfl
theorem iV.mk {n : Nat} {V : sv_V} {p fl nm : Int32} (hn : n ≤ 512) (hfl : fl = 0 ∨ fl = 1) (H : iV n V) : iV (n + 1) (sv_mk V p fl nm).2.2 := by
  unfold sv_mk
  by_cases hk : mkc V p nm = 0
  · rw [if_pos hk]
    have hon : sv_on V = true := by
      unfold mkc at hk
      by_cases q : sv_on V = true
      · exact q
      · rw [if_neg q] at hk
        cases hk
    have hl : (sv_fs V).length < 20 := by
      unfold mkc at hk
      rw [if_pos hon] at hk
      by_cases q : 20 ≤ (sv_fs V).length
      · rw [if_pos q] at hk
        cases hk
      · omega
    have hfo : cd_fold (sv_fs V) p = 0 := by
      unfold mkc at hk
      rw [if_pos hon, if_neg (by omega)] at hk
      by_cases q : nm = 0
      · rw [if_pos q] at hk
        cases hk
      · rw [if_neg q] at hk
        by_cases w : cd_fold (sv_fs V) p = 0
        · exact w
        · rw [if_neg w] at hk
          exact hk
    have hlt := H.lt hn
    have hup : nI (sv_lt V) < nI (sv_lt V + 1) := nI_lt (by omega) (by omega)
    have hb : 0 < nI (sv_lt V + 1) ∧ nI (sv_lt V + 1) ≤ nI (sv_lt V + 1) := ⟨nI_lt (a := 0) (by omega) (by omega), Int32.le_refl _⟩
    have hlow : ∀ e ∈ sv_fs V, e.1 < nI (sv_lt V + 1) := fun e he => Int32.lt_of_le_of_lt (H.1.2.2 e he).1.2 hup
    have hput : sv_put (sv_fs V) 20 (nI (sv_lt V + 1), fl, p, nm, 0) = sv_fs V ++ [(nI (sv_lt V + 1), fl, p, nm, 0)] := put_app hlow hl
    unfold sv_do
    by_cases hc : (sv_chg V (nI (sv_lt V + 1), fl, p, nm, 0) 1).1 = true
    · rw [if_pos hc]
      obtain ⟨s1, s2, s3, s4, s5⟩ := H.step (e := (nI (sv_lt V + 1), fl, p, nm, 0)) (r := 1) hon hb
      by_cases hs : (sv_spend (sv_chg V (nI (sv_lt V + 1), fl, p, nm, 0) 1).2).1 = true
      · rw [if_pos hs]
        show iV (n + 1) (sv_incL (sv_setF (sv_spend (sv_chg V (nI (sv_lt V + 1), fl, p, nm, 0) 1).2).2 (sv_put (sv_fs (sv_spend (sv_chg V (nI (sv_lt V + 1), fl, p, nm, 0) 1).2).2) 20 (nI (sv_lt V + 1), fl, p, nm, 0))))
        rw [s3, hput]
        generalize (sv_spend (sv_chg V (nI (sv_lt V + 1), fl, p, nm, 0) 1).2).2 = W at s1 s2 s3 s4 s5 ⊢
        have h2 := H.2.2.2.1
        have h4 := H.2.2.2.2
        refine iV.ofL (by rw [s4]; exact H.1.app hl (by omega) rfl hfl (fold_in hfo)) (by rw [s4]; exact s1.up (nI_le (by omega) (by omega))) s2 ?_ (by omega)
        rw [s4, List.length_append]
        show _ ≤ n + 1 + ((sv_fs V).length + 1)
        omega
      · rw [if_neg hs]
        exact H.spd hon hb
    · rw [if_neg hc]
      exact H.chg1 hon hb
  · rw [if_neg hk]
    exact H.up
theorem iV.ren {n : Nat} {V : sv_V} {f p nm : Int32} (hn : n ≤ 512) (H : iV n V) : iV (n + 1) (sv_ren V f p nm).2.2 := by
  unfold sv_ren
  by_cases hk : rnc V f p nm = 0
  · rw [if_pos hk]
    have hon : sv_on V = true := by
      unfold rnc at hk
      by_cases q : sv_on V = true
      · exact q
      · rw [if_neg q] at hk
        cases hk
    cases hf : sv_find (sv_fs V) f with
    | none => exact H.up
    | some e =>
      have hfo : cd_fold (sv_fs V) p = 0 := by
        unfold rnc at hk
        rw [if_pos hon] at hk
        by_cases q : nm = 0
        · rw [if_pos q] at hk
          cases hk
        · rw [if_neg q, hf, if_pos (show (some e).isSome = true from rfl)] at hk
          by_cases w : cd_fold (sv_fs V) p = 0
          · exact w
          · rw [if_neg w] at hk
            exact hk
      have hef : e.1 = f := by simpa using List.find?_some hf
      have hm := List.mem_of_find?_eq_some hf
      obtain ⟨i, hi⟩ := List.mem_iff_getElem?.mp hm
      show iV (n + 1) (sv_rnm V e f p nm).2
      unfold sv_rnm
      split
      · exact H.up
      · by_cases hc : (sv_chg V e 4).1 = true
        · rw [if_pos hc]
          have hb := H.fnum hn hm
          obtain ⟨c1, c2, c3⟩ := H.2.1.chg (e := e) (r := 4) hon hb H.2.2.1
          obtain ⟨d1, d2⟩ := ch_fs V e 4
          have d3 := ch_lt V e 4
          generalize (sv_chg V e 4).2 = W at c1 c2 c3 d1 d2 d3 ⊢
          have hb' : 0 < (f, e.2.1, p, nm, e.2.2.2.2).1 ∧ (f, e.2.1, p, nm, e.2.2.2.2).1 ≤ nI (sv_lt W + 1) := by
            rw [d3]
            rw [hef] at hb
            exact hb
          have onW := c2 hc
          generalize (if p = e.2.2.1 then (8 : Int32) else 24) = r
          obtain ⟨u1, u2, u3⟩ := c1.chg (e := (f, e.2.1, p, nm, e.2.2.2.2)) (r := r) onW (by rw [d3] at hb'; exact hb') c3
          obtain ⟨v1, v2⟩ := ch_fs W (f, e.2.1, p, nm, e.2.2.2.2) r
          have v3 := ch_lt W (f, e.2.1, p, nm, e.2.2.2.2) r
          obtain ⟨s1, -, s3⟩ := u1.spend
          have s4 := sp_len (sv_chg W (f, e.2.1, p, nm, e.2.2.2.2) r).2
          have s5 := sp_lt (sv_chg W (f, e.2.1, p, nm, e.2.2.2.2) r).2
          have h2 := H.2.2.2.1
          have h4 := H.2.2.2.2
          unfold sv_do
          by_cases hc2 : (sv_chg W (f, e.2.1, p, nm, e.2.2.2.2) r).1 = true
          · rw [if_pos hc2]
            by_cases hs : (sv_spend (sv_chg W (f, e.2.1, p, nm, e.2.2.2.2) r).2).1 = true
            · rw [if_pos hs]
              show iV (n + 1) (sv_setF (sv_spend (sv_chg W (f, e.2.1, p, nm, e.2.2.2.2) r).2).2 (sv_put (sv_fs (sv_spend (sv_chg W (f, e.2.1, p, nm, e.2.2.2.2) r).2).2) 20 (f, e.2.1, p, nm, e.2.2.2.2)))
              rw [s4.2.2, v1, d1, put_set H.1.1 hi hef.symm]
              have s6 := s4.2.1
              generalize (sv_spend (sv_chg W (f, e.2.1, p, nm, e.2.2.2.2) r).2).2 = X at s1 s3 s5 s6 ⊢
              exact iV.of (by rw [s5, v3, d3]; exact H.1.set hi hef.symm (H.1.2.2 e hm).2.1 (fold_in hfo)) (by rw [s5, v3, d3]; exact s1) (Nat.le_trans s3 u3) (by rw [s5, v3, d3, List.length_set]; omega) (by omega)
            · rw [if_neg hs]
              show iV (n + 1) (sv_spend (sv_chg W (f, e.2.1, p, nm, e.2.2.2.2) r).2).2
              have s6 := s4.2.1
              have s7 := s4.2.2
              generalize (sv_spend (sv_chg W (f, e.2.1, p, nm, e.2.2.2.2) r).2).2 = X at s1 s3 s5 s6 s7 ⊢
              exact ⟨by rw [s5, v3, d3, s7, v1, d1]; exact H.1, by rw [s5, v3, d3]; exact s1, Nat.le_trans s3 u3, by rw [s5, v3, d3, s7, v1, d1]; omega, by omega⟩
          · rw [if_neg hc2]
            show iV (n + 1) (sv_chg W (f, e.2.1, p, nm, e.2.2.2.2) r).2
            generalize (sv_chg W (f, e.2.1, p, nm, e.2.2.2.2) r).2 = X at u1 u3 v1 v2 v3 ⊢
            exact ⟨by rw [v3, d3, v1, d1]; exact H.1, by rw [v3, d3]; exact u1, u3, by rw [v3, d3, v1, d1]; omega, by omega⟩
        · rw [if_neg hc]
          exact H.chg1 hon (H.fnum hn hm)
  · rw [if_neg hk]
    exact H.up
theorem iV.cut {n : Nat} {V : sv_V} {k : Int32} (H : iV n V) : iV (n + 1) (sv_cut V k).2.2 := by
  unfold sv_cut
  split
  · exact H.up
  · exact H.up
