/-! NotedVolumeModel: its subscribers -/
/-- the copy of a subscriber, in the model's order -/
def rC (s : Nat) (ms : List sv_E) (A : Nat → Nat → Int32) : Prop := A 14 s = nI ms.length ∧ ms.length ≤ 280 ∧ ∀ i e, ms[i]? = some e → A 15 (280 * s + i) = e.1 ∧ A 16 (280 * s + i) = e.2.1 ∧ A 17 (280 * s + i) = e.2.2.1 ∧ A 18 (280 * s + i) = e.2.2.2.1 ∧ A 19 (280 * s + i) = e.2.2.2.2
/-- the same files, each once -/
def rP (ms cs : List sv_E) : Prop := dn ms ∧ ∀ e, e ∈ ms ↔ e ∈ cs
/-- a subscriber but for its copy -/
def rO (s : Nat) (S : sv_S) (A : Nat → Nat → Int32) : Prop := A 9 s = nI (su_cur S) ∧ A 10 s = su_mask S ∧ A 11 s = (if su_ls S = true then 1 else 0) ∧ A 12 s = su_gr S ∧ ∀ k, k < 4 → A 13 (4 * s + k) = su_pg S k
def rS1 (s : Nat) (S : sv_S) (A : Nat → Nat → Int32) : Prop := rO s S A ∧ ∃ ms, rC s ms A ∧ rP ms (su_cp S)
def rS (S : Nat → sv_S) (A : Nat → Nat → Int32) : Prop := ∀ s, s < 3 → rS1 s (S s) A
/-- what is a subscriber's own is as it was -/
def ag (t : Nat) (A A' : Nat → Nat → Int32) : Prop := (∀ q, (9 ≤ q ∧ q ≤ 12 ∨ q = 14) → A' q t = A q t) ∧ (∀ k, k < 4 → A' 13 (4 * t + k) = A 13 (4 * t + k)) ∧ ∀ q, 15 ≤ q → q ≤ 19 → ∀ i, i < 280 → A' q (280 * t + i) = A q (280 * t + i)
/-- only what is a subscriber's own has changed -/
def onS (s : Nat) (A A' : Nat → Nat → Int32) : Prop := (∀ t, t ≠ s → ag t A A') ∧ ∀ q, (q < 9 ∨ 19 < q) → A' q = A q
/-- only its copy has changed -/
def onC (s : Nat) (A A' : Nat → Nat → Int32) : Prop := onS s A A' ∧ ∀ q, q < 14 → A' q = A q
theorem ag.refl {t : Nat} {A : Nat → Nat → Int32} : ag t A A := ⟨fun _ _ => rfl, fun _ _ => rfl, fun _ _ _ _ _ => rfl⟩
theorem ag.trans {t : Nat} {A A1 A2 : Nat → Nat → Int32} (h1 : ag t A A1) (h2 : ag t A1 A2) : ag t A A2 := ⟨fun q hq => (h2.1 q hq).trans (h1.1 q hq), fun k hk => (h2.2.1 k hk).trans (h1.2.1 k hk), fun q q1 q2 i hi => (h2.2.2 q q1 q2 i hi).trans (h1.2.2 q q1 q2 i hi)⟩
theorem onS.refl {s : Nat} {A : Nat → Nat → Int32} : onS s A A := ⟨fun _ _ => ag.refl, fun _ _ => rfl⟩
theorem onS.trans {s : Nat} {A A1 A2 : Nat → Nat → Int32} (h1 : onS s A A1) (h2 : onS s A1 A2) : onS s A A2 := ⟨fun t ht => (h1.1 t ht).trans (h2.1 t ht), fun q hq => (h2.2 q hq).trans (h1.2 q hq)⟩
theorem onC.refl {s : Nat} {A : Nat → Nat → Int32} : onC s A A := ⟨onS.refl, fun _ _ => rfl⟩
theorem onC.trans {s : Nat} {A A1 A2 : Nat → Nat → Int32} (h1 : onC s A A1) (h2 : onC s A1 A2) : onC s A A2 := ⟨h1.1.trans h2.1, fun q hq => (h2.2 q hq).trans (h1.2 q hq)⟩
theorem rC.cg {t : Nat} {ms : List sv_E} {A A' : Nat → Nat → Int32} (H : rC t ms A) (h14 : A' 14 t = A 14 t) (hc : ∀ q, 15 ≤ q → q ≤ 19 → ∀ i, i < 280 → A' q (280 * t + i) = A q (280 * t + i)) : rC t ms A' := by
  refine ⟨h14.trans H.1, H.2.1, fun i e he => ?_⟩
  have hi : i < 280 := by
    have := (List.getElem?_eq_some_iff.mp he).1
    have := H.2.1
    omega
  rw [hc 15 (by decide) (by decide) i hi, hc 16 (by decide) (by decide) i hi, hc 17 (by decide) (by decide) i hi, hc 18 (by decide) (by decide) i hi, hc 19 (by decide) (by decide) i hi]
  exact H.2.2 i e he
theorem rO.cg {t : Nat} {S : sv_S} {A A' : Nat → Nat → Int32} (H : rO t S A) (h9 : A' 9 t = A 9 t) (h10 : A' 10 t = A 10 t) (h11 : A' 11 t = A 11 t) (h12 : A' 12 t = A 12 t) (h13 : ∀ k, k < 4 → A' 13 (4 * t + k) = A 13 (4 * t + k)) : rO t S A' := ⟨h9.trans H.1, h10.trans H.2.1, h11.trans H.2.2.1, h12.trans H.2.2.2.1, fun k hk => (h13 k hk).trans (H.2.2.2.2 k hk)⟩
theorem rS1.cg {t : Nat} {S : sv_S} {A A' : Nat → Nat → Int32} (H : rS1 t S A) (h : ag t A A') : rS1 t S A' := by
  obtain ⟨h1, ms, h2, h3⟩ := H
  exact ⟨h1.cg (h.1 9 (by omega)) (h.1 10 (by omega)) (h.1 11 (by omega)) (h.1 12 (by omega)) h.2.1, ms, h2.cg (h.1 14 (Or.inr rfl)) h.2.2, h3⟩
theorem rS.st {S : Nat → sv_S} {s : Nat} {S' : sv_S} {A A' : Nat → Nat → Int32} (H : rS S A) (h : onS s A A') (h1 : rS1 s S' A') : rS (vw S s S') A' := by
  intro t ht
  unfold vw
  by_cases e : t = s
  · rw [if_pos e, e]
    exact h1
  · rw [if_neg e]
    exact (H t ht).cg (h.1 t e)
theorem rS.cg {S : Nat → sv_S} {A A' : Nat → Nat → Int32} (H : rS S A) (h : ∀ i, 9 ≤ i → i ≤ 19 → A' i = A i) : rS S A' := by
  intro t ht
  refine (H t ht).cg ⟨fun q hq => ?_, fun k _ => ?_, fun q q1 q2 i _ => ?_⟩
  · rw [h q (by omega) (by omega)]
  · rw [h 13 (by decide) (by decide)]
  · rw [h q (by omega) (by omega)]
theorem rV.onS {s : Nat} {V : sv_V} {K : Nat → Int32} {A A' : Nat → Nat → Int32} (H : rV V K A) (h : onS s A A') : rV V K A' := ⟨H.1.cg rfl (fun i _ i2 => h.2 i (by omega)), H.2.1.cg rfl (h.2 6 (by decide)), H.2.2.1.cg rfl (h.2 7 (by decide)) (h.2 8 (by decide)), H.2.2.2.1, H.2.2.2.2.1, H.2.2.2.2.2⟩
/-- one number of a subscriber is set -/
theorem onS_1 {s q : Nat} (A : Nat → Nat → Int32) (v : Int32) (hq : 9 ≤ q ∧ q ≤ 12 ∨ q = 14) : onS s A (uA A q (upd (A q) s v)) := by
  refine ⟨fun t ht => ⟨fun r hr => ?_, fun k hk => ?_, fun r r1 r2 i hi => ?_⟩, fun r hr => uA_n _ _ (by omega)⟩
  · by_cases e : r = q
    · rw [e, uA_s, pk_un ht]
    · rw [uA_n _ _ e]
  · rw [uA_n _ _ (by omega)]
  · rw [uA_n _ _ (by omega)]
theorem onS_p {s k : Nat} (A : Nat → Nat → Int32) (v : Int32) (hk : k < 4) : onS s A (uA A 13 (upd (A 13) (4 * s + k) v)) := by
  refine ⟨fun t ht => ⟨fun r hr => ?_, fun j hj => ?_, fun r r1 r2 i hi => ?_⟩, fun r hr => uA_n _ _ (by omega)⟩
  · rw [uA_n _ _ (by omega)]
  · rw [uA_s, pk_un (by omega)]
  · rw [uA_n _ _ (by omega)]
theorem onC_c {s q i : Nat} (A : Nat → Nat → Int32) (v : Int32) (hq : 15 ≤ q ∧ q ≤ 19) (hi : i < 280) : onC s A (uA A q (upd (A q) (280 * s + i) v)) := by
  refine ⟨⟨fun t ht => ⟨fun r hr => ?_, fun k hk => ?_, fun r r1 r2 j hj => ?_⟩, fun r hr => uA_n _ _ (by omega)⟩, fun r hr => uA_n _ _ (by omega)⟩
  · rw [uA_n _ _ (by omega)]
  · rw [uA_n _ _ (by omega)]
  · by_cases e : r = q
    · rw [e, uA_s, pk_un (by omega)]
    · rw [uA_n _ _ e]
theorem onC_n {s : Nat} (A : Nat → Nat → Int32) (v : Int32) : onC s A (uA A 14 (upd (A 14) s v)) := ⟨onS_1 A v (Or.inr rfl), fun _ _ => uA_n _ _ (by omega)⟩
/-- a method of the model ends that has changed a subscriber -/
def mqo (G : xa_G) (h : xa_H) (sz o : Nat) (K : Nat → Int32) (A : Nat → Nat → Int32) (s : Nat) (S' : sv_S) (v : Option Value) : Outcome → xa_H → Nat → Prop := fun o' h' z => o' = .returned v ∧ z = sz ∧ (∃ A', mo_at G h' o K A' ∧ onS s A A' ∧ rS1 s S' A') ∧ frM o h h'
/-- one that has changed its copy -/
def mqk (G : xa_G) (h : xa_H) (sz o : Nat) (K : Nat → Int32) (A : Nat → Nat → Int32) (s : Nat) (ms' : List sv_E) : Outcome → xa_H → Nat → Prop := fun o' h' z => o' = .returned none ∧ z = sz ∧ (∃ A', mo_at G h' o K A' ∧ onC s A A' ∧ rC s ms' A') ∧ frM o h h'
/-- a call of the model ends: code, answer, the subscribers; the volume as it was -/
def mqs (G : xa_G) (h : xa_H) (sz o : Nat) (V : sv_V) (r : Nat × Int32 × (Nat → sv_S)) (v : Option Value) : Outcome → xa_H → Nat → Prop := fun o' h' z => o' = .returned v ∧ z = sz ∧ (∃ K' A', mo_at G h' o K' A' ∧ rV V K' A' ∧ rS r.2.2 A' ∧ K' 0 = nI r.1) ∧ frM o h h'
