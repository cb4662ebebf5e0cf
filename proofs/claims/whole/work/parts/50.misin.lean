/-! NotedVolumeModel: isIn (by program: wip/whole/mk50.py) -/
/-- the folder that a file lies in -/
def sv_nx (fs : List sv_E) (a : Int32) : Int32 := match sv_find fs a with
  | none => a
  | some e => e.2.2.1
def sv_ch (fs : List sv_E) : Int32 → Nat → Int32
  | a, 0 => a
  | a, j + 1 => sv_ch fs (sv_nx fs a) j
theorem ch_s (fs : List sv_E) : ∀ (a : Int32) (j : Nat), sv_ch fs a (j + 1) = sv_nx fs (sv_ch fs a j)
  | _, 0 => rfl
  | a, j + 1 => by
    show sv_ch fs (sv_nx fs a) (j + 1) = _
    rw [ch_s fs (sv_nx fs a) j]
    rfl
theorem ch_add (fs : List sv_E) (a : Int32) (i : Nat) : ∀ j, sv_ch fs a (i + j) = sv_ch fs (sv_ch fs a i) j
  | 0 => rfl
  | j + 1 => by
    show sv_ch fs a (i + j + 1) = _
    rw [ch_s, ch_s, ch_add fs a i j]
theorem in_ch (fs : List sv_E) (f : Int32) : ∀ (k : Nat) (a : Int32), sv_in fs f k a = true ↔ ∃ j, j < k ∧ sv_ch fs a j = f
  | 0, a => ⟨(fun q => by cases q), fun ⟨j, hj, _⟩ => by omega⟩
  | k + 1, a => by
    unfold sv_in
    by_cases h : a = f
    · rw [if_pos h]
      exact ⟨fun _ => ⟨0, by omega, h⟩, fun _ => rfl⟩
    · rw [if_neg h]
      cases hf : sv_find fs a with
      | none =>
        have hs : ∀ j, sv_ch fs a j = a := by
          intro j
          induction j with
          | zero => rfl
          | succ j ih =>
            rw [ch_s, ih]
            unfold sv_nx
            rw [hf]
        refine ⟨(fun q => by cases q), fun ⟨j, _, hj⟩ => ?_⟩
        rw [hs j] at hj
        exact absurd hj h
      | some e =>
        have hx : sv_nx fs a = e.2.2.1 := by
          unfold sv_nx
          rw [hf]
        show sv_in fs f k e.2.2.1 = true ↔ _
        rw [in_ch fs f k e.2.2.1]
        constructor
        · rintro ⟨j, hj, hc⟩
          refine ⟨j + 1, by omega, ?_⟩
          show sv_ch fs (sv_nx fs a) j = f
          rw [hx]
          exact hc
        · rintro ⟨j, hj, hc⟩
          cases j with
          | zero => exact absurd hc h
          | succ j =>
            refine ⟨j, by omega, ?_⟩
            have hc : sv_ch fs (sv_nx fs a) j = f := hc
            rw [hx] at hc
            exact hc
/-- no more places than values -/
theorem holes (g : Nat → Int32) : ∀ (j : Nat) (m : List Int32), (∀ i, i < j → g i ∈ m) → (∀ i k, i < k → k < j → g i ≠ g k) → j ≤ m.length
  | 0, _, _, _ => Nat.zero_le _
  | j + 1, m, h1, h2 => by
    have hm := h1 j (by omega)
    have hl := List.length_erase_of_mem hm
    have hp : 0 < m.length := List.length_pos_of_mem hm
    have := holes g j (m.erase (g j)) (fun i hi => (List.mem_erase_of_ne (h2 i j hi (by omega))).mpr (h1 i (by omega))) (fun i k hi hk => h2 i k hi (by omega))
    omega
theorem ch_ph {fs : List sv_E} {a f : Int32} : ∀ j, sv_ch fs a j = f → ∃ j', j' ≤ fs.length ∧ sv_ch fs a j' = f := by
  intro j
  induction j using Nat.strongRecOn with
  | ind j ih =>
    intro hj
    by_cases hx : ∃ i, i < j ∧ sv_ch fs a i = f
    · obtain ⟨i, hi, hc⟩ := hx
      exact ih i hi hc
    · refine ⟨j, ?_, hj⟩
      have := holes (sv_ch fs a) j (fs.map (fun e => e.1)) (fun i hi => ?_) (fun i k hi hk he => ?_)
      · rw [List.length_map] at this
        exact this
      · cases hf : sv_find fs (sv_ch fs a i) with
        | none =>
          exfalso
          have hs : ∀ n, sv_ch fs a (i + n) = sv_ch fs a i := by
            intro n
            induction n with
            | zero => rfl
            | succ n ihn =>
              show sv_ch fs a (i + n + 1) = _
              rw [ch_s, ihn]
              unfold sv_nx
              rw [hf]
          have := hs (j - i)
          rw [show i + (j - i) = j by omega, hj] at this
          exact hx ⟨i, hi, this.symm⟩
        | some e =>
          have h1 : e.1 = sv_ch fs a i := by simpa using List.find?_some hf
          exact List.mem_map.mpr ⟨e, List.mem_of_find?_eq_some hf, h1⟩
      · refine hx ⟨i + (j - k), by omega, ?_⟩
        rw [ch_add, he, ← ch_add, show k + (j - k) = j by omega]
        exact hj
theorem in_21 {fs : List sv_E} {a f : Int32} (hl : fs.length ≤ 20) : sv_in fs f 21 a = true ↔ ∃ j, sv_ch fs a j = f := by
  rw [in_ch]
  constructor
  · rintro ⟨j, _, hj⟩
    exact ⟨j, hj⟩
  · rintro ⟨j, hj⟩
    obtain ⟨j', h1, h2⟩ := ch_ph j hj
    exact ⟨j', by omega, h2⟩
section MI
variable {G : xa_G} {h : xa_H} {sz o : Nat} {K : Nat → Int32} {A : Nat → Nat → Int32}
theorem ct_M_isIn {fs : List sv_E} {a f : Int32} (H : mo_at G h o K A) (hF : rF fs K A) (hpos : ∀ e ∈ fs, 0 < e.1) (hcl : ∀ e ∈ fs, e.2.2.1 = 0 ∨ (sv_find fs e.2.2.1).isSome = true) (ha : a = 0 ∨ (sv_find fs a).isSome = true) : xa_T G mm_M_isIn 1 0 0 [.ref o, .int a, .int f] h sz (xq_same h sz (some (.int (if sv_in fs f 21 a = true then 1 else 0)))) := by
  obtain ⟨k1, k2, k3⟩ := id hF
  have yes : ∀ (c : Int32) (k : Nat), c = f → (∃ j, sv_ch fs a j = f) → xa_W G mm_M_isIn 1 0 0 40 [some (.ref o), some (.int a), some (.int f), some (.int c), some (.int (nI k))] [] h sz (xq_same h sz (some (.int (if sv_in fs f 21 a = true then 1 else 0)))) := by
    intro c k hcf hx
    refine xw_iload_n dd_M_isIn_40 rfl ?_
    refine xw_iload_n dd_M_isIn_41 rfl ?_
    refine xw_icmp_ne 49 dd_M_isIn_42 (by decide) (fun hc => absurd hcf hc) (fun hc => ?_)
    refine xw_iconst 1 dd_M_isIn_45 (by decide) ?_
    refine xw_goto 50 dd_M_isIn_46 (by decide) ?_
    exact xw_zret dd_M_isIn_50 rfl rfl ⟨by rw [if_pos ((in_21 k2).mpr hx)], rfl, rfl⟩
  have no : ∀ (c : Int32) (k : Nat), c ≠ f → (¬ ∃ j, sv_ch fs a j = f) → xa_W G mm_M_isIn 1 0 0 40 [some (.ref o), some (.int a), some (.int f), some (.int c), some (.int (nI k))] [] h sz (xq_same h sz (some (.int (if sv_in fs f 21 a = true then 1 else 0)))) := by
    intro c k hcf hx
    refine xw_iload_n dd_M_isIn_40 rfl ?_
    refine xw_iload_n dd_M_isIn_41 rfl ?_
    refine xw_icmp_ne 49 dd_M_isIn_42 (by decide) (fun hc => ?_) (fun hc => absurd hc hcf)
    refine xw_iconst 0 dd_M_isIn_49 (by decide) ?_
    exact xw_zret dd_M_isIn_50 rfl rfl ⟨by rw [if_neg (fun q => hx ((in_21 k2).mp q))], rfl, rfl⟩
  have h0 : sv_find fs 0 = none := by
    refine List.find?_eq_none.mpr (fun e he q => ?_)
    have h1 : e.1 = 0 := by simpa using q
    have := hpos e he
    rw [h1] at this
    exact absurd this (by decide)
  have hn0 : sv_nx fs 0 = 0 := by
    unfold sv_nx
    rw [h0]
  have loop : ∀ (r k : Nat) (c : Int32), k + r = fs.length + 1 → c = sv_ch fs a k → (∀ j, j < k → sv_ch fs a j ≠ f) → (c = 0 ∨ (sv_find fs c).isSome = true) → xa_W G mm_M_isIn 1 0 0 5 [some (.ref o), some (.int a), some (.int f), some (.int c), some (.int (nI k))] [] h sz (xq_same h sz (some (.int (if sv_in fs f 21 a = true then 1 else 0)))) := by
    intro r
    induction r with
    | zero =>
      intro k c hk hc0 hb hcl2
      refine xw_iload dd_M_isIn_5 rfl ?_
      refine xw_aloadR_n dd_M_isIn_7 rfl ?_
      refine xw_get fl_M_84 dd_M_isIn_8 H.1 rfl ?_
      rw [k1]
      refine xw_icmp_gt 40 dd_M_isIn_11 (by decide) (fun hc => ?_) (fun hc => absurd (nI_lt (by omega) (by omega)) hc)
      by_cases hcf : c = f
      · exact yes c k hcf ⟨k, by rw [← hc0]; exact hcf⟩
      · refine no c k hcf (fun ⟨j, hj⟩ => ?_)
        obtain ⟨j', q1, q2⟩ := ch_ph j hj
        exact hb j' (by omega) q2
    | succ r ih =>
      intro k c hk hc0 hb hcl2
      refine xw_iload dd_M_isIn_5 rfl ?_
      refine xw_aloadR_n dd_M_isIn_7 rfl ?_
      refine xw_get fl_M_84 dd_M_isIn_8 H.1 rfl ?_
      rw [k1]
      refine xw_icmp_gt 40 dd_M_isIn_11 (by decide) (fun hc => absurd hc (nI_nlt (by omega) (by omega))) (fun hc => ?_)
      refine xw_iload_n dd_M_isIn_14 rfl ?_
      refine xw_iload_n dd_M_isIn_15 rfl ?_
      refine xw_icmp_eq 40 dd_M_isIn_16 (by decide) (fun hcf => yes c k hcf ⟨k, by rw [← hc0]; exact hcf⟩) (fun hcf => ?_)
      refine xw_iload_n dd_M_isIn_19 rfl ?_
      refine xw_if_eq 40 dd_M_isIn_20 (by decide) (fun hc2 => ?_) (fun hc2 => ?_)
      · refine no c k hcf (fun ⟨j, hj⟩ => ?_)
        have hs : ∀ n, sv_ch fs a (k + n) = 0 := by
          intro n
          induction n with
          | zero =>
            show sv_ch fs a k = 0
            rw [← hc0]
            exact hc2
          | succ n ihn =>
            show sv_ch fs a (k + n + 1) = 0
            rw [ch_s, ihn, hn0]
        by_cases hjk : j < k
        · exact hb j hjk hj
        · have := hs (j - k)
          rw [show k + (j - k) = j by omega, hj] at this
          exact hcf (hc2.trans this.symm)
      · have hsome := hcl2.resolve_left hc2
        refine xw_aloadR_n dd_M_isIn_23 rfl ?_
        refine xw_get fl_M_16 dd_M_isIn_24 H.1 rfl ?_
        refine xw_aloadR_n dd_M_isIn_27 rfl ?_
        refine xw_iload_n dd_M_isIn_28 rfl ?_
        refine xw_cl0 (ct_M_placeOf H hF) (iv_M_isIn_29 H.1) ok_M_placeOf rfl rfl rfl ?_ (fun _ _ _ q => by cases q.1)
        rintro v h sz ⟨hv, rfl, rfl⟩
        cases hv
        rcases fx (fun e : sv_E => decide (e.1 = c)) fs with ⟨w1, w2⟩ | ⟨i, e, he, w1, w2, w3, -⟩
        · have w1' : sv_find fs c = none := w1
          rw [w1'] at hsome
          cases hsome
        · have hi := (List.getElem?_eq_some_iff.mp he).1
          have hix : sv_ix (fun e : sv_E => decide (e.1 = c)) fs = nI i := by
            unfold sv_ix
            rw [w2]
          have w1' : sv_find fs c = some e := w1
          have hx : sv_nx fs c = e.2.2.1 := by
            unfold sv_nx
            rw [w1']
          rw [hix]
          refine xw_iald dd_M_isIn_32 (H.2.1 3 (by decide) (by decide)) (vp_in_nI (show i < 20 by omega) (by decide)) ?_
          rw [nI_clamp (by omega), (k3 i e he).2.2.1]
          refine xw_istore_n dd_M_isIn_33 (by decide) ?_
          refine xw_iinc dd_M_isIn_34 rfl (nI_1 k) (by decide) ?_
          refine xw_goto 5 dd_M_isIn_37 (by decide) ?_
          refine ih (k + 1) e.2.2.1 (by omega) (by rw [ch_s, ← hc0, hx]) (fun j hj => ?_) (hcl e (List.mem_of_getElem? he))
          by_cases hjk : j < k
          · exact hb j hjk
          · rw [show j = k by omega, ← hc0]
            exact hcf
  refine xt_o ok_M_isIn rfl rfl ?_
  refine xw_iload_n dd_M_isIn_0 rfl ?_
  refine xw_istore_n dd_M_isIn_1 (by decide) ?_
  refine xw_iconst 0 dd_M_isIn_2 (by decide) ?_
  refine xw_istore dd_M_isIn_3 (by decide) ?_
  exact loop (fs.length + 1) 0 a (by omega) rfl (fun j hj => by omega) ha
end MI
