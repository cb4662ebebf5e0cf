/-! NotedVolumeModel: its state, what it looks up (by program: wip/whole/mk35.py) -/
def mo_n (i : Nat) : Nat := if i ≤ 5 then 20 else if i = 6 then 96 else if i ≤ 8 then 4 else if i ≤ 12 then 3 else if i = 13 then 12 else if i = 14 then 3 else if i ≤ 19 then 840 else 16
def mo_a (i : Nat) (f : Nat → Int32) : xa_E := if i = 11 then .inl (2, (3, .inl f)) else .inl (0, (mo_n i, .inl f))
/-- the model's own cell: numbers by the field, arrays behind it -/
abbrev mo_c (o : Nat) (K : Nat → Int32) : xa_E := .inr (9, [.int (K 0), .int (K 1), .ref (o + 1), .ref (o + 2), .ref (o + 3), .ref (o + 4), .ref (o + 5), .int (K 7), .int (K 8), .ref (o + 6), .int (K 10), .ref (o + 7), .ref (o + 8), .int (K 13), .int (K 14), .ref (o + 9), .ref (o + 10), .ref (o + 11), .ref (o + 12), .ref (o + 13), .ref (o + 14), .ref (o + 15), .ref (o + 16), .ref (o + 17), .ref (o + 18), .ref (o + 19), .ref (o + 20), .ref (o + 21)])
def mo_at (G : xa_G) (h : xa_H) (o : Nat) (K : Nat → Int32) (A : Nat → Nat → Int32) : Prop := h o = some (mo_c o K) ∧ (∀ i, 1 ≤ i → i ≤ 21 → h (o + i) = some (mo_a i (A i))) ∧ G.2.2.1 ≤ o
def uA (A : Nat → Nat → Int32) (i : Nat) (f : Nat → Int32) : Nat → Nat → Int32 := fun j => if j = i then f else A j
theorem uA_s (A : Nat → Nat → Int32) (i : Nat) (f : Nat → Int32) : uA A i f i = f := if_pos rfl
theorem uA_n (A : Nat → Nat → Int32) {i j : Nat} (f : Nat → Int32) (h : j ≠ i) : uA A i f j = A j := if_neg h
/-- nothing beside the model changes -/
def frM (o : Nat) (h h1 : xa_H) : Prop := ∀ b, (b < o ∨ o + 21 < b) → h1 b = h b
theorem frM.refl {o : Nat} {h : xa_H} : frM o h h := fun _ _ => rfl
theorem frM.trans {o : Nat} {h h1 h2 : xa_H} (H1 : frM o h h1) (H2 : frM o h1 h2) : frM o h h2 := fun b hb => (H2 b hb).trans (H1 b hb)
theorem mo_at.setA {G : xa_G} {h h1 : xa_H} {o i : Nat} {K : Nat → Int32} {A : Nat → Nat → Int32} {f : Nat → Int32} (H : mo_at G h o K A) (hi : 1 ≤ i ∧ i ≤ 21) (h2 : h1 (o + i) = some (mo_a i f)) (h3 : ∀ b, b ≠ o + i → h1 b = h b) : mo_at G h1 o K (uA A i f) ∧ frM o h h1 := by
  refine ⟨⟨(h3 o (by omega)).trans H.1, fun j j1 j2 => ?_, H.2.2⟩, fun b hb => h3 b (by omega)⟩
  by_cases e : j = i
  · subst e
    rw [uA_s]
    exact h2
  · rw [uA_n _ _ e, h3 (o + j) (by omega)]
    exact H.2.1 j j1 j2
theorem mo_at.setK {G : xa_G} {h h1 : xa_H} {o : Nat} {K K' : Nat → Int32} {A : Nat → Nat → Int32} (H : mo_at G h o K A) (h2 : h1 o = some (mo_c o K')) (h3 : ∀ b, b ≠ o → h1 b = h b) : mo_at G h1 o K' A ∧ frM o h h1 :=
  ⟨⟨h2, fun j j1 j2 => (h3 (o + j) (by omega)).trans (H.2.1 j j1 j2), H.2.2⟩, fun b hb => h3 b (by omega)⟩
/-- files, in their order -/
def rF (fs : List sv_E) (K : Nat → Int32) (A : Nat → Nat → Int32) : Prop := K 1 = nI fs.length ∧ fs.length ≤ 20 ∧ ∀ i e, fs[i]? = some e → A 1 i = e.1 ∧ A 2 i = e.2.1 ∧ A 3 i = e.2.2.1 ∧ A 4 i = e.2.2.2.1 ∧ A 5 i = e.2.2.2.2
/-- notes -/
def rN (hd : Nat) (rg : Nat → Nat → Int32) (K : Nat → Int32) (A : Nat → Nat → Int32) : Prop := K 8 = nI hd ∧ 1 ≤ hd ∧ hd < 1000000 ∧ ∀ s k, s < 16 → k < 6 → A 6 (6 * s + k) = rg s k
/-- gatherings -/
def rG (gs : List (Int32 × Int32)) (K : Nat → Int32) (A : Nat → Nat → Int32) : Prop := K 10 = nI gs.length ∧ gs.length ≤ 3 ∧ ∀ i g, gs[i]? = some g → A 7 i = g.1 ∧ A 8 i = g.2
/-- where the first lies that is sought: -1 if none -/
def sv_ix {α : Type} (p : α → Bool) (l : List α) : Int32 := match l.findIdx? p with
  | none => -1
  | some i => nI i
theorem ix_none {α : Type} {p : α → Bool} {l : List α} (h : l.find? p = none) : sv_ix p l = -1 := by
  unfold sv_ix
  rw [List.findIdx?_eq_none_iff.mpr (fun x hx => by simpa using List.find?_eq_none.mp h x hx)]
theorem ix_some {α : Type} {p : α → Bool} : ∀ {l : List α} {i : Nat} {e : α}, (l.take i).find? p = none → l[i]? = some e → p e = true → l.findIdx? p = some i
  | [], i, e, _, he, _ => by simp at he
  | a :: l, 0, e, _, he, hp => by
    simp at he
    subst he
    rw [List.findIdx?_cons, hp]
    rfl
  | a :: l, i + 1, e, hn, he, hp => by
    simp at he
    rw [List.take_succ_cons, List.find?_cons] at hn
    have ha : p a = false := by
      cases hpa : p a with
      | true => rw [hpa] at hn; cases hn
      | false => rfl
    rw [ha] at hn
    rw [List.findIdx?_cons, ha, ix_some hn he hp]
    rfl
section MO
variable {G : xa_G} {h : xa_H} {sz o : Nat} {K : Nat → Int32} {A : Nat → Nat → Int32}
theorem ct_M_placeOf {fs : List sv_E} {n : Int32} (H : mo_at G h o K A) (hF : rF fs K A) : xa_T G mm_M_placeOf 0 0 0 [.ref o, .int n] h sz (xq_same h sz (some (.int (sv_ix (fun e => decide (e.1 = n)) fs)))) := by
  obtain ⟨k1, k2, k3⟩ := hF
  have loop : ∀ (k i : Nat), i + k = fs.length → (fs.take i).find? (fun e => decide (e.1 = n)) = none → xa_W G mm_M_placeOf 0 0 0 2 [some (.ref o), some (.int n), some (.int (nI i))] [] h sz (xq_same h sz (some (.int (sv_ix (fun e => decide (e.1 = n)) fs)))) := by
    intro k
    induction k with
    | zero =>
      intro i hk hn
      refine xw_iload_n dd_M_placeOf_2 rfl ?_
      refine xw_aloadR_n dd_M_placeOf_3 rfl ?_
      refine xw_get fl_M_84 dd_M_placeOf_4 H.1 rfl ?_
      rw [k1]
      refine xw_icmp_ge 28 dd_M_placeOf_7 (by decide) (fun hc => ?_) (fun hc => absurd (nI_le (by omega) (by omega)) hc)
      refine xw_iconst (-1) dd_M_placeOf_28 (by decide) ?_
      exact xw_iret dd_M_placeOf_29 rfl ⟨by rw [ix_none (sf_end hn (by omega))], rfl, rfl⟩
    | succ k ih =>
      intro i hk hn
      have hi : i < fs.length := by omega
      have he : fs[i]? = some fs[i] := List.getElem?_eq_getElem hi
      refine xw_iload_n dd_M_placeOf_2 rfl ?_
      refine xw_aloadR_n dd_M_placeOf_3 rfl ?_
      refine xw_get fl_M_84 dd_M_placeOf_4 H.1 rfl ?_
      rw [k1]
      refine xw_icmp_ge 28 dd_M_placeOf_7 (by decide) (fun hc => absurd hc (nI_ge (by omega) (by omega))) (fun hc => ?_)
      refine xw_aloadR_n dd_M_placeOf_10 rfl ?_
      refine xw_get fl_M_7 dd_M_placeOf_11 H.1 rfl ?_
      refine xw_iload_n dd_M_placeOf_14 rfl ?_
      refine xw_iald dd_M_placeOf_15 (H.2.1 1 (by decide) (by decide)) (vp_in_nI (show i < 20 by omega) (by decide)) ?_
      rw [nI_clamp (by omega), (k3 i _ he).1]
      refine xw_iload_n dd_M_placeOf_16 rfl ?_
      refine xw_icmp_ne 22 dd_M_placeOf_17 (by decide) (fun hc2 => ?_) (fun hc2 => ?_)
      · refine xw_iinc dd_M_placeOf_22 rfl (nI_1 i) (by decide) ?_
        refine xw_goto 2 dd_M_placeOf_25 (by decide) ?_
        exact ih (i + 1) (by omega) (sf_step hn he (decide_eq_false hc2))
      · refine xw_iload_n dd_M_placeOf_20 rfl ?_
        exact xw_iret dd_M_placeOf_21 rfl ⟨by unfold sv_ix; rw [ix_some hn he (decide_eq_true hc2)], rfl, rfl⟩
  refine xt_o ok_M_placeOf rfl rfl ?_
  refine xw_iconst 0 dd_M_placeOf_0 (by decide) ?_
  refine xw_istore_n dd_M_placeOf_1 (by decide) ?_
  exact loop fs.length 0 (by omega) rfl
theorem ct_M_gatheringOf {gs : List (Int32 × Int32)} {n : Int32} (H : mo_at G h o K A) (hF : rG gs K A) : xa_T G mm_M_gatheringOf 0 0 0 [.ref o, .int n] h sz (xq_same h sz (some (.int (sv_ix (fun e => decide (e.1 = n)) gs)))) := by
  obtain ⟨k1, k2, k3⟩ := hF
  have loop : ∀ (k i : Nat), i + k = gs.length → (gs.take i).find? (fun e => decide (e.1 = n)) = none → xa_W G mm_M_gatheringOf 0 0 0 2 [some (.ref o), some (.int n), some (.int (nI i))] [] h sz (xq_same h sz (some (.int (sv_ix (fun e => decide (e.1 = n)) gs)))) := by
    intro k
    induction k with
    | zero =>
      intro i hk hn
      refine xw_iload_n dd_M_gatheringOf_2 rfl ?_
      refine xw_aloadR_n dd_M_gatheringOf_3 rfl ?_
      refine xw_get fl_M_95 dd_M_gatheringOf_4 H.1 rfl ?_
      rw [k1]
      refine xw_icmp_ge 28 dd_M_gatheringOf_7 (by decide) (fun hc => ?_) (fun hc => absurd (nI_le (by omega) (by omega)) hc)
      refine xw_iconst (-1) dd_M_gatheringOf_28 (by decide) ?_
      exact xw_iret dd_M_gatheringOf_29 rfl ⟨by rw [ix_none (sf_end hn (by omega))], rfl, rfl⟩
    | succ k ih =>
      intro i hk hn
      have hi : i < gs.length := by omega
      have he : gs[i]? = some gs[i] := List.getElem?_eq_getElem hi
      refine xw_iload_n dd_M_gatheringOf_2 rfl ?_
      refine xw_aloadR_n dd_M_gatheringOf_3 rfl ?_
      refine xw_get fl_M_95 dd_M_gatheringOf_4 H.1 rfl ?_
      rw [k1]
      refine xw_icmp_ge 28 dd_M_gatheringOf_7 (by decide) (fun hc => absurd hc (nI_ge (by omega) (by omega))) (fun hc => ?_)
      refine xw_aloadR_n dd_M_gatheringOf_10 rfl ?_
      refine xw_get fl_M_32 dd_M_gatheringOf_11 H.1 rfl ?_
      refine xw_iload_n dd_M_gatheringOf_14 rfl ?_
      refine xw_iald dd_M_gatheringOf_15 (H.2.1 7 (by decide) (by decide)) (vp_in_nI (show i < 4 by omega) (by decide)) ?_
      rw [nI_clamp (by omega), (k3 i _ he).1]
      refine xw_iload_n dd_M_gatheringOf_16 rfl ?_
      refine xw_icmp_ne 22 dd_M_gatheringOf_17 (by decide) (fun hc2 => ?_) (fun hc2 => ?_)
      · refine xw_iinc dd_M_gatheringOf_22 rfl (nI_1 i) (by decide) ?_
        refine xw_goto 2 dd_M_gatheringOf_25 (by decide) ?_
        exact ih (i + 1) (by omega) (sf_step hn he (decide_eq_false hc2))
      · refine xw_iload_n dd_M_gatheringOf_20 rfl ?_
        exact xw_iret dd_M_gatheringOf_21 rfl ⟨by unfold sv_ix; rw [ix_some hn he (decide_eq_true hc2)], rfl, rfl⟩
  refine xt_o ok_M_gatheringOf rfl rfl ?_
  refine xw_iconst 0 dd_M_gatheringOf_0 (by decide) ?_
  refine xw_istore_n dd_M_gatheringOf_1 (by decide) ?_
  exact loop gs.length 0 (by omega) rfl
theorem ct_M_named {fs : List sv_E} {p nm : Int32} (H : mo_at G h o K A) (hF : rF fs K A) : xa_T G mm_M_named 0 0 0 [.ref o, .int p, .int nm] h sz (xq_same h sz (some (.int (match sv_nmd fs p nm with
    | none => -1
    | some e => e.1)))) := by
  obtain ⟨k1, k2, k3⟩ := hF
  have loop : ∀ (k i : Nat), i + k = fs.length → (fs.take i).find? (fun e => decide (e.2.2.1 = p ∧ e.2.2.2.1 = nm)) = none → xa_W G mm_M_named 0 0 0 2 [some (.ref o), some (.int p), some (.int nm), some (.int (nI i))] [] h sz (xq_same h sz (some (.int (match sv_nmd fs p nm with
      | none => -1
      | some e => e.1)))) := by
    intro k
    induction k with
    | zero =>
      intro i hk hn
      refine xw_iload_n dd_M_named_2 rfl ?_
      refine xw_aloadR_n dd_M_named_3 rfl ?_
      refine xw_get fl_M_84 dd_M_named_4 H.1 rfl ?_
      rw [k1]
      refine xw_icmp_ge 43 dd_M_named_7 (by decide) (fun hc => ?_) (fun hc => absurd (nI_le (by omega) (by omega)) hc)
      refine xw_iconst (-1) dd_M_named_43 (by decide) ?_
      have hq : sv_nmd fs p nm = none := sf_end hn (by omega)
      exact xw_iret dd_M_named_44 rfl ⟨by rw [hq], rfl, rfl⟩
    | succ k ih =>
      intro i hk hn
      have hi : i < fs.length := by omega
      have he : fs[i]? = some fs[i] := List.getElem?_eq_getElem hi
      refine xw_iload_n dd_M_named_2 rfl ?_
      refine xw_aloadR_n dd_M_named_3 rfl ?_
      refine xw_get fl_M_84 dd_M_named_4 H.1 rfl ?_
      rw [k1]
      refine xw_icmp_ge 43 dd_M_named_7 (by decide) (fun hc => absurd hc (nI_ge (by omega) (by omega))) (fun hc => ?_)
      refine xw_aloadR_n dd_M_named_10 rfl ?_
      refine xw_get fl_M_16 dd_M_named_11 H.1 rfl ?_
      refine xw_iload_n dd_M_named_14 rfl ?_
      refine xw_iald dd_M_named_15 (H.2.1 3 (by decide) (by decide)) (vp_in_nI (show i < 20 by omega) (by decide)) ?_
      rw [nI_clamp (by omega), (k3 i _ he).2.2.1]
      refine xw_iload_n dd_M_named_16 rfl ?_
      refine xw_icmp_ne 37 dd_M_named_17 (by decide) (fun hc2 => ?_) (fun hc2 => ?_)
      · refine xw_iinc dd_M_named_37 rfl (nI_1 i) (by decide) ?_
        refine xw_goto 2 dd_M_named_40 (by decide) ?_
        exact ih (i + 1) (by omega) (sf_step hn he (decide_eq_false (fun q => hc2 q.1)))
      · refine xw_aloadR_n dd_M_named_20 rfl ?_
        refine xw_get fl_M_19 dd_M_named_21 H.1 rfl ?_
        refine xw_iload_n dd_M_named_24 rfl ?_
        refine xw_iald dd_M_named_25 (H.2.1 4 (by decide) (by decide)) (vp_in_nI (show i < 20 by omega) (by decide)) ?_
        rw [nI_clamp (by omega), (k3 i _ he).2.2.2.1]
        refine xw_iload_n dd_M_named_26 rfl ?_
        refine xw_icmp_ne 37 dd_M_named_27 (by decide) (fun hc3 => ?_) (fun hc3 => ?_)
        · refine xw_iinc dd_M_named_37 rfl (nI_1 i) (by decide) ?_
          refine xw_goto 2 dd_M_named_40 (by decide) ?_
          exact ih (i + 1) (by omega) (sf_step hn he (decide_eq_false (fun q => hc3 q.2)))
        · refine xw_aloadR_n dd_M_named_30 rfl ?_
          refine xw_get fl_M_7 dd_M_named_31 H.1 rfl ?_
          refine xw_iload_n dd_M_named_34 rfl ?_
          refine xw_iald dd_M_named_35 (H.2.1 1 (by decide) (by decide)) (vp_in_nI (show i < 20 by omega) (by decide)) ?_
          rw [nI_clamp (by omega), (k3 i _ he).1]
          have hq : sv_nmd fs p nm = some fs[i] := sf_hit hn he (decide_eq_true ⟨hc2, hc3⟩)
          exact xw_iret dd_M_named_36 rfl ⟨by rw [hq], rfl, rfl⟩
  refine xt_o ok_M_named rfl rfl ?_
  refine xw_iconst 0 dd_M_named_0 (by decide) ?_
  refine xw_istore_n dd_M_named_1 (by decide) ?_
  exact loop fs.length 0 (by omega) rfl
end MO
