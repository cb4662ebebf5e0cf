/-! files by their numbers: lists in order, lists with distinct numbers -/
def dn (l : List sv_E) : Prop := l.Pairwise (fun a b => a.1 ≠ b.1)
theorem lt_ne {a b : Int32} (h : a < b) : a ≠ b := fun e => by
  rw [e] at h
  exact Int32.not_lt.mpr (Int32.le_refl _) h
theorem srt_dn {l : List sv_E} (h : sv_srt l) : dn l := List.Pairwise.imp (R := fun a b : sv_E => a.1 < b.1) (fun q => lt_ne q) h
theorem nd_len : ∀ (l m : List Int32), l.Pairwise (fun a b => a ≠ b) → (∀ x ∈ l, x ∈ m) → l.length ≤ m.length
  | [], _, _, _ => Nat.zero_le _
  | a :: l, m, hp, hs => by
    have hm := hs a (List.mem_cons_self ..)
    have hp := List.pairwise_cons.mp hp
    have hl := List.length_erase_of_mem hm
    have h0 : 0 < m.length := List.length_pos_of_mem hm
    have := nd_len l (m.erase a) hp.2 (fun x hx => (List.mem_erase_of_ne (fun e => hp.1 x hx e.symm)).mpr (hs x (List.mem_cons_of_mem _ hx)))
    show l.length + 1 ≤ m.length
    omega
theorem dn_len {l m : List sv_E} (hp : dn l) (hs : ∀ e ∈ l, e ∈ m) : l.length ≤ m.length := by
  have := nd_len (l.map (fun e => e.1)) (m.map (fun e => e.1)) (List.pairwise_map.mpr (show l.Pairwise (fun a b : sv_E => a.1 ≠ b.1) from hp)) (fun x hx => by
    obtain ⟨e, he, rfl⟩ := List.mem_map.mp hx
    exact List.mem_map.mpr ⟨e, hs e he, rfl⟩)
  rw [List.length_map, List.length_map] at this
  exact this
/-- as many members at most as there are numbers -/
theorem dn_bd {l : List sv_E} {m : List Int32} (hp : dn l) (hs : ∀ e ∈ l, e.1 ∈ m) : l.length ≤ m.length := by
  have := nd_len (l.map (fun e => e.1)) m (List.pairwise_map.mpr (show l.Pairwise (fun a b : sv_E => a.1 ≠ b.1) from hp)) (fun x hx => by
    obtain ⟨e, he, rfl⟩ := List.mem_map.mp hx
    exact hs e he)
  rw [List.length_map] at this
  exact this
theorem dn_eq {l : List sv_E} (hp : dn l) {a b : sv_E} (ha : a ∈ l) (hb : b ∈ l) (h : a.1 = b.1) : a = b := by
  induction l with
  | nil => cases ha
  | cons c l ih =>
    have hp := List.pairwise_cons.mp hp
    rcases List.mem_cons.mp ha with qa | qa
    · rcases List.mem_cons.mp hb with qb | qb
      · rw [qa, qb]
      · exact absurd (qa ▸ h) (hp.1 b qb)
    · rcases List.mem_cons.mp hb with qb | qb
      · exact absurd (qb ▸ h.symm) (hp.1 a qa)
      · exact ih hp.2 qa qb
theorem mem_er {l : List sv_E} {f : Int32} {e : sv_E} (hp : dn l) : e ∈ l.eraseP (fun e => decide (e.1 = f)) ↔ e ∈ l ∧ e.1 ≠ f := by
  induction l with
  | nil =>
    constructor
    · intro h
      cases h
    · intro h
      cases h.1
  | cons c l ih =>
    have hp := List.pairwise_cons.mp hp
    by_cases hc : c.1 = f
    · rw [List.eraseP_cons_of_pos (by simpa using hc)]
      constructor
      · intro h
        exact ⟨List.mem_cons_of_mem _ h, fun q => hp.1 e h (hc.trans q.symm)⟩
      · rintro ⟨h, q⟩
        rcases List.mem_cons.mp h with rfl | h
        · exact absurd hc q
        · exact h
    · rw [List.eraseP_cons_of_neg (by simpa using hc), List.mem_cons, ih hp.2, List.mem_cons]
      constructor
      · rintro (rfl | ⟨h1, h2⟩)
        · exact ⟨Or.inl rfl, hc⟩
        · exact ⟨Or.inr h1, h2⟩
      · rintro ⟨h1 | h1, h2⟩
        · exact Or.inl h1
        · exact Or.inr ⟨h1, h2⟩
theorem srt_er {l : List sv_E} {p : sv_E → Bool} (h : sv_srt l) : sv_srt (l.eraseP p) := List.Pairwise.sublist (List.eraseP_sublist ..) h
theorem srt_fl {l : List sv_E} {p : sv_E → Bool} (h : sv_srt l) : sv_srt (l.filter p) := List.Pairwise.sublist (List.filter_sublist ..) h
theorem ins_app {α : Type} (a : α) : ∀ (l1 l2 : List α), (l1 ++ l2).insertIdx l1.length a = l1 ++ a :: l2
  | [], _ => rfl
  | b :: l1, l2 => by
    show (b :: (l1 ++ l2)).insertIdx (l1.length + 1) a = b :: (l1 ++ a :: l2)
    rw [List.insertIdx_succ_cons, ins_app a l1 l2]
theorem set_app {α : Type} (a b : α) : ∀ (l1 l2 : List α), (l1 ++ b :: l2).set l1.length a = l1 ++ a :: l2
  | [], _ => rfl
  | c :: l1, l2 => by
    show (c :: (l1 ++ b :: l2)).set (l1.length + 1) a = c :: (l1 ++ a :: l2)
    rw [List.set_cons_succ, set_app a b l1 l2]
/-- a file put in: those below, itself, those above -/
theorem put_split {cs : List sv_E} {m : Nat} {e' : sv_E} (hs : sv_srt cs) (hl : cs.length < m) : ∃ l1 l2, sv_put cs m e' = l1 ++ e' :: l2 ∧ (∀ a ∈ l1, a.1 < e'.1) ∧ (∀ a ∈ l2, e'.1 < a.1) ∧ sv_srt l1 ∧ sv_srt l2 ∧ ∀ e, (e ∈ cs ∧ e.1 ≠ e'.1) ↔ (e ∈ l1 ∨ e ∈ l2) := by
  have hsp : cs.takeWhile (fun e => decide (e.1 < e'.1)) ++ cs.dropWhile (fun e => decide (e.1 < e'.1)) = cs := List.takeWhile_append_dropWhile
  have h1 : ∀ a ∈ cs.takeWhile (fun e => decide (e.1 < e'.1)), a.1 < e'.1 := by
    intro a ha
    have hall := List.all_takeWhile (p := fun e : sv_E => decide (e.1 < e'.1)) (l := cs)
    simpa using List.all_eq_true.mp hall a ha
  have hd : ∀ b l, cs.dropWhile (fun e => decide (e.1 < e'.1)) = b :: l → ¬ b.1 < e'.1 := by
    intro b l hb q
    have := List.head?_dropWhile_not (p := fun e : sv_E => decide (e.1 < e'.1)) cs
    rw [hb] at this
    simp at this
    exact Int32.not_lt.mpr this q
  generalize hl1 : cs.takeWhile (fun e => decide (e.1 < e'.1)) = l1 at hsp h1
  generalize hl2 : cs.dropWhile (fun e => decide (e.1 < e'.1)) = l2 at hsp hd
  have hpos : sv_pos cs e'.1 = l1.length := by
    unfold sv_pos
    rw [hl1]
  have hp := hs
  rw [← hsp] at hp
  have hpp := List.pairwise_append.mp hp
  unfold sv_put
  rw [hpos]
  cases l2 with
  | nil =>
    have hcs : cs = l1 := by
      rw [← hsp, List.append_nil]
    refine ⟨l1, [], ?_, h1, (fun a ha => by cases ha), hpp.1, List.Pairwise.nil, fun e => ?_⟩
    · rw [if_neg (by rw [hcs, List.getElem?_eq_none (Nat.le_refl _)]; simp), if_pos hl]
      have := ins_app e' l1 []
      rw [List.append_nil] at this
      rw [hcs]
      exact this
    · rw [hcs]
      exact ⟨fun q => Or.inl q.1, fun q => q.elim (fun q => ⟨q, fun w => Int32.not_lt.mpr (Int32.le_refl _) (w ▸ h1 e q)⟩) (fun q => by cases q)⟩
  | cons b l2 =>
    have hb : ¬ b.1 < e'.1 := hd b l2 rfl
    have hq := List.pairwise_cons.mp hpp.2.1
    have hg : cs[l1.length]? = some b := by
      rw [← hsp, List.getElem?_append_right (Nat.le_refl _), Nat.sub_self]
      rfl
    rw [hg]
    by_cases hbe : b.1 = e'.1
    · refine ⟨l1, l2, ?_, h1, (fun a ha => hbe ▸ hq.1 a ha), hpp.1, hq.2, fun e => ?_⟩
      · rw [if_pos (by simpa using hbe)]
        rw [← hsp]
        exact set_app e' b l1 l2
      · rw [← hsp, List.mem_append, List.mem_cons]
        constructor
        · rintro ⟨q | q | q, w⟩
          · exact Or.inl q
          · exact absurd (q ▸ hbe) w
          · exact Or.inr q
        · rintro (q | q)
          · exact ⟨Or.inl q, fun w => Int32.not_lt.mpr (Int32.le_refl _) (w ▸ h1 e q)⟩
          · exact ⟨Or.inr (Or.inr q), fun w => Int32.not_lt.mpr (Int32.le_refl _) (w ▸ hbe ▸ hq.1 e q)⟩
    · have hlt : e'.1 < b.1 := Int32.lt_of_le_of_ne (Int32.not_lt.mp hb) (fun w => hbe w.symm)
      have h2 : ∀ a ∈ b :: l2, e'.1 < a.1 := by
        intro a ha
        rcases List.mem_cons.mp ha with rfl | ha
        · exact hlt
        · exact Int32.lt_trans hlt (hq.1 a ha)
      refine ⟨l1, b :: l2, ?_, h1, h2, hpp.1, hpp.2.1, fun e => ?_⟩
      · rw [if_neg (by simpa using hbe), if_pos hl]
        rw [← hsp]
        exact ins_app e' l1 (b :: l2)
      · rw [← hsp, List.mem_append]
        constructor
        · rintro ⟨q, w⟩
          exact q
        · intro q
          refine ⟨q, fun w => ?_⟩
          rcases q with q | q
          · exact Int32.not_lt.mpr (Int32.le_refl _) (w ▸ h1 e q)
          · exact Int32.not_lt.mpr (Int32.le_refl _) (w ▸ h2 e q)
theorem mem_put {cs : List sv_E} {m : Nat} {e e' : sv_E} (hs : sv_srt cs) (hl : cs.length < m) : e ∈ sv_put cs m e' ↔ e = e' ∨ (e ∈ cs ∧ e.1 ≠ e'.1) := by
  obtain ⟨l1, l2, h1, -, -, -, -, h2⟩ := put_split (e' := e') hs hl
  rw [h1, h2, List.mem_append, List.mem_cons]
  constructor
  · rintro (q | q | q)
    · exact Or.inr (Or.inl q)
    · exact Or.inl q
    · exact Or.inr (Or.inr q)
  · rintro (q | q | q)
    · exact Or.inr (Or.inl q)
    · exact Or.inl q
    · exact Or.inr (Or.inr q)
theorem srt_put {cs : List sv_E} {m : Nat} {e' : sv_E} (hs : sv_srt cs) (hl : cs.length < m) : sv_srt (sv_put cs m e') := by
  obtain ⟨l1, l2, h1, h2, h3, h4, h5, -⟩ := put_split (e' := e') hs hl
  rw [h1]
  refine List.pairwise_append.mpr ⟨h4, List.pairwise_cons.mpr ⟨h3, h5⟩, fun a ha b hb => ?_⟩
  rcases List.mem_cons.mp hb with rfl | hb
  · exact h2 a ha
  · exact Int32.lt_trans (h2 a ha) (h3 b hb)
/-- the members of a list in which a place is set anew -/
theorem mem_st {l : List sv_E} {i : Nat} {a e e' : sv_E} (hp : dn l) (ha : l[i]? = some a) (h1 : e'.1 = a.1 ∨ ∀ b ∈ l, b.1 ≠ e'.1) : (e ∈ l.set i e' ↔ e = e' ∨ (e ∈ l ∧ e.1 ≠ a.1)) ∧ dn (l.set i e') := by
  obtain ⟨hi, hia⟩ := List.getElem?_eq_some_iff.mp ha
  have hl : l = l.take i ++ a :: l.drop (i + 1) := by
    rw [← hia, List.getElem_cons_drop, List.take_append_drop]
  have hlen : (l.take i).length = i := by
    rw [List.length_take]
    omega
  have hset : l.set i e' = l.take i ++ e' :: l.drop (i + 1) := by
    have := set_app e' a (l.take i) (l.drop (i + 1))
    rw [← hl, hlen] at this
    exact this
  generalize l.take i = l1 at hl hset
  generalize l.drop (i + 1) = l2 at hl hset
  rw [hset]
  rw [hl] at hp h1
  have hpp := List.pairwise_append.mp hp
  have hq := List.pairwise_cons.mp hpp.2.1
  have n1 : ∀ b ∈ l1, b.1 ≠ a.1 := fun b hb => hpp.2.2 b hb a (List.mem_cons_self ..)
  have n2 : ∀ b ∈ l2, a.1 ≠ b.1 := hq.1
  have m1 : ∀ b ∈ l1, b.1 ≠ e'.1 := fun b hb => h1.elim (fun w => w ▸ n1 b hb) (fun w => w b (List.mem_append_left _ hb))
  have m2 : ∀ b ∈ l2, e'.1 ≠ b.1 := fun b hb => h1.elim (fun w => w ▸ n2 b hb) (fun w q => w b (List.mem_append_right _ (List.mem_cons_of_mem _ hb)) q.symm)
  constructor
  · rw [hl, List.mem_append, List.mem_cons, List.mem_append, List.mem_cons]
    constructor
    · rintro (q | q | q)
      · exact Or.inr ⟨Or.inl q, n1 e q⟩
      · exact Or.inl q
      · exact Or.inr ⟨Or.inr (Or.inr q), fun w => n2 e q w.symm⟩
    · rintro (q | ⟨q | q | q, w⟩)
      · exact Or.inr (Or.inl q)
      · exact Or.inl q
      · exact absurd (q ▸ rfl) w
      · exact Or.inr (Or.inr q)
  · refine List.pairwise_append.mpr ⟨hpp.1, List.pairwise_cons.mpr ⟨m2, hq.2⟩, fun x hx b hb => ?_⟩
    rcases List.mem_cons.mp hb with rfl | hb
    · exact m1 x hx
    · exact hpp.2.2 x hx b (List.mem_cons_of_mem _ hb)
theorem mem_ap {l : List sv_E} {e e' : sv_E} (hp : dn l) (h1 : ∀ b ∈ l, b.1 ≠ e'.1) : (e ∈ l ++ [e'] ↔ e = e' ∨ (e ∈ l ∧ e.1 ≠ e'.1)) ∧ dn (l ++ [e']) := by
  constructor
  · rw [List.mem_append, List.mem_singleton]
    constructor
    · rintro (q | q)
      · exact Or.inr ⟨q, h1 e q⟩
      · exact Or.inl q
    · rintro (q | q)
      · exact Or.inr q
      · exact Or.inl q.1
  · refine List.pairwise_append.mpr ⟨hp, List.pairwise_cons.mpr ⟨(fun b hb => by cases hb), List.Pairwise.nil⟩, fun x hx b hb => ?_⟩
    rw [List.mem_singleton] at hb
    rw [hb]
    exact h1 x hx
/-- a place is taken by the last -/
def ms_out (ms : List sv_E) (k : Nat) : List sv_E := match ms.getLast? with
  | none => ms
  | some z => ms.dropLast.set k z
theorem out_len {ms : List sv_E} (k : Nat) : (ms_out ms k).length = ms.length - 1 := by
  unfold ms_out
  cases h : ms.getLast? with
  | none =>
    rw [List.getLast?_eq_none_iff.mp h]
    rfl
  | some z => simp
theorem mem_out {ms : List sv_E} {k : Nat} {a e : sv_E} (hp : dn ms) (ha : ms[k]? = some a) : (e ∈ ms_out ms k ↔ e ∈ ms ∧ e.1 ≠ a.1) ∧ dn (ms_out ms k) := by
  unfold ms_out
  cases h : ms.getLast? with
  | none =>
    rw [List.getLast?_eq_none_iff.mp h] at ha
    simp at ha
  | some z =>
    obtain ⟨ini, rfl⟩ := List.getLast?_eq_some_iff.mp h
    have hk := (List.getElem?_eq_some_iff.mp ha).1
    rw [List.length_append] at hk
    have hk : k < ini.length + 1 := hk
    show (e ∈ (ini ++ [z]).dropLast.set k z ↔ _) ∧ dn ((ini ++ [z]).dropLast.set k z)
    rw [List.dropLast_concat]
    have hpp := List.pairwise_append.mp hp
    have hz : ∀ b ∈ ini, b.1 ≠ z.1 := fun b hb => hpp.2.2 b hb z (List.mem_singleton.mpr rfl)
    by_cases hkl : k < ini.length
    · rw [List.getElem?_append_left hkl] at ha
      have haz := hz a (List.mem_of_getElem? ha)
      obtain ⟨q1, q2⟩ := mem_st (e := e) (e' := z) hpp.1 ha (Or.inr hz)
      refine ⟨?_, q2⟩
      rw [q1, List.mem_append, List.mem_singleton]
      constructor
      · rintro (q | q)
        · exact ⟨Or.inr q, fun w => haz (by rw [← w, q])⟩
        · exact ⟨Or.inl q.1, q.2⟩
      · rintro ⟨q | q, w⟩
        · exact Or.inr ⟨q, w⟩
        · exact Or.inl q
    · have hke : k = ini.length := by omega
      subst hke
      rw [List.getElem?_append_right (Nat.le_refl _), Nat.sub_self] at ha
      simp at ha
      subst ha
      rw [List.set_eq_of_length_le (Nat.le_refl _)]
      refine ⟨?_, hpp.1⟩
      rw [List.mem_append, List.mem_singleton]
      constructor
      · intro q
        exact ⟨Or.inl q, hz e q⟩
      · rintro ⟨q | q, w⟩
        · exact q
        · exact absurd (q ▸ rfl) w
/-- a file in order, all of which lies in another as long, is that other -/
theorem srt_same : ∀ {fs cs : List sv_E}, sv_srt fs → sv_srt cs → fs.length = cs.length → (∀ e ∈ fs, e ∈ cs) → cs = fs
  | [], [], _, _, _, _ => rfl
  | [], _ :: _, _, _, h, _ => by cases h
  | _ :: _, [], _, _, h, _ => by cases h
  | a :: fs, b :: cs, h1, h2, hl, hs => by
    have p1 := List.pairwise_cons.mp h1
    have p2 := List.pairwise_cons.mp h2
    have hl2 : fs.length = cs.length := Nat.succ.inj hl
    have hab : a = b := by
      rcases List.mem_cons.mp (hs a (List.mem_cons_self ..)) with q | q
      · exact q
      · exfalso
        have hba := p2.1 a q
        have := dn_len (l := a :: fs) (m := cs) (srt_dn h1) (fun e he => by
          rcases List.mem_cons.mp (hs e he) with w | w
          · exfalso
            rcases List.mem_cons.mp he with u | u
            · rw [← u, w] at hba
              exact Int32.not_lt.mpr (Int32.le_refl _) hba
            · have := p1.1 e u
              rw [w] at this
              exact Int32.not_lt.mpr (Int32.le_of_lt hba) this
          · exact w)
        have : fs.length + 1 ≤ cs.length := this
        omega
    subst hab
    have := srt_same (fs := fs) (cs := cs) p1.2 p2.2 hl2 (fun e he => by
      rcases List.mem_cons.mp (hs e (List.mem_cons_of_mem _ he)) with w | w
      · have := p1.1 e he
        rw [w] at this
        exact absurd this (Int32.not_lt.mpr (Int32.le_refl _))
      · exact w)
    rw [this]
