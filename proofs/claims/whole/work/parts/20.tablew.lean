/-! FileTable: what is written (by program: wip/whole/mk20.py) -/
theorem sf_erase {α : Type} {p : α → Bool} : ∀ {es : List α} {i : Nat} {e : α}, (es.take i).find? p = none → es[i]? = some e → p e = true → es.eraseIdx i = es.eraseP p
  | [], i, e, _, he, _ => by simp at he
  | a :: es, 0, e, _, he, hp => by
    simp at he
    subst he
    simp [hp]
  | a :: es, i + 1, e, hn, he, hp => by
    simp at he
    rw [List.take_succ_cons, List.find?_cons] at hn
    have ha : p a = false := by
      cases hpa : p a with
      | true => rw [hpa] at hn; cases hn
      | false => rfl
    rw [ha] at hn
    rw [List.eraseIdx_cons_succ, List.eraseP_cons, ha, sf_erase hn he hp]
    rfl
theorem sf_none {α : Type} {p : α → Bool} : ∀ {es : List α}, es.find? p = none → es.eraseP p = es
  | [], _ => rfl
  | a :: es, hn => by
    rw [List.find?_cons] at hn
    have ha : p a = false := by
      cases hpa : p a with
      | true => rw [hpa] at hn; cases hn
      | false => rfl
    rw [ha] at hn
    rw [List.eraseP_cons, ha, sf_none hn]
    rfl
theorem en_l.set {h : xa_H} {xs : List Nat} {es : List sv_E} {i y : Nat} {e : sv_E} (H : en_l h xs es) (hy : h y = some (en_c e)) : en_l h (xs.set i y) (es.set i e) := by
  unfold en_l at H ⊢
  rw [List.map_set, List.map_set, H, hy]
theorem en_l.ins {h : xa_H} {y : Nat} {e : sv_E} (hy : h y = some (en_c e)) : ∀ {xs : List Nat} {es : List sv_E} {i : Nat}, en_l h xs es → en_l h (xs.insertIdx i y) (es.insertIdx i e)
  | [], [], 0, _ => by
    show [h y] = [some (en_c e)]
    rw [hy]
  | [], [], i + 1, H => by simpa using H
  | x1 :: xs, e1 :: es, 0, H => by
    unfold en_l at H ⊢
    simp only [List.insertIdx_zero, List.map_cons] at H ⊢
    rw [hy, H]
  | x1 :: xs, e1 :: es, i + 1, H => by
    unfold en_l at H
    simp only [List.map_cons, List.cons.injEq] at H
    have := en_l.ins hy (i := i) (show en_l h xs es from H.2)
    unfold en_l at this ⊢
    simp only [List.insertIdx_succ_cons, List.map_cons]
    rw [H.1, this]
  | [], e1 :: es, i, H => by
    have := en_l.len H
    simp at this
  | x1 :: xs, [], i, H => by
    have := en_l.len H
    simp at this
theorem en_l.del {h : xa_H} : ∀ {xs : List Nat} {es : List sv_E} {i : Nat}, en_l h xs es → en_l h (xs.eraseIdx i) (es.eraseIdx i)
  | [], [], i, H => by simpa using H
  | x1 :: xs, e1 :: es, 0, H => by
    unfold en_l at H ⊢
    simp only [List.map_cons, List.cons.injEq] at H
    exact H.2
  | x1 :: xs, e1 :: es, i + 1, H => by
    unfold en_l at H
    simp only [List.map_cons, List.cons.injEq] at H
    have := en_l.del (i := i) (show en_l h xs es from H.2)
    unfold en_l at this ⊢
    simp only [List.eraseIdx_cons_succ, List.map_cons]
    rw [H.1, this]
  | [], e1 :: es, i, H => by
    have := en_l.len H
    simp at this
  | x1 :: xs, [], i, H => by
    have := en_l.len H
    simp at this
/-- where a number stands, or would -/
def sv_pos (es : List sv_E) (n : Int32) : Nat := (es.takeWhile (fun e => decide (e.1 < n))).length
/-- a file comes in at the place of its number, over what it was like there before -/
def sv_put (es : List sv_E) (most : Nat) (e : sv_E) : List sv_E := if (es[sv_pos es e.1]?).any (fun e' => decide (e'.1 = e.1)) = true then es.set (sv_pos es e.1) e else if es.length < most then es.insertIdx (sv_pos es e.1) e else es
/-- does the array of a table of that capacity grow by it? -/
def sv_gro (es : List sv_E) (most cap : Nat) (e : sv_E) : Bool := !((es[sv_pos es e.1]?).any (fun e' => decide (e'.1 = e.1))) && (decide (es.length < most) && decide (es.length = cap))
/-- a table's list has changed; its array has been replaced where g says so -/
def xq_fp (G : xa_G) (h : xa_H) (sz t a ea cap : Nat) (most : Int32) (es' : List sv_E) (g : Bool) : Outcome → xa_H → Nat → Prop := fun o h' z => o = .returned none ∧ (∃ xs', ft_at G h' t a (if g = true then sz else ea) (if g = true then al_cap cap else cap) most xs' es') ∧ z = (if g = true then sz + 1 else sz) ∧ (∀ b, b ≠ a → (b ≠ ea ∨ cap = 0) → b ≠ sz → h' b = h b) ∧ (g = false → h' sz = h sz)
theorem sf_pos : ∀ {es : List sv_E} {n : Int32} {i : Nat}, (∀ j, j < i → ∀ e, es[j]? = some e → e.1 < n) → (∀ e, es[i]? = some e → ¬ e.1 < n) → i ≤ es.length → sv_pos es n = i
  | [], n, i, _, _, hi => by
    simp at hi
    subst hi
    rfl
  | a :: es, n, 0, _, h2, _ => by
    have ha : ¬ a.1 < n := h2 a rfl
    unfold sv_pos
    rw [List.takeWhile_cons]
    simp [ha]
  | a :: es, n, i + 1, h1, h2, hi => by
    have ha : a.1 < n := h1 0 (by omega) a rfl
    have := sf_pos (es := es) (n := n) (i := i) (fun j hj e he => h1 (j + 1) (by omega) e (by simpa using he)) (fun e he => h2 e (by simpa using he)) (by simpa using hi)
    unfold sv_pos at this ⊢
    rw [List.takeWhile_cons]
    simp [ha, this]
/-- a table's list has changed, the array kept -/
def xq_fu (G : xa_G) (h : xa_H) (sz t a ea cap : Nat) (most : Int32) (es' : List sv_E) : Outcome → xa_H → Nat → Prop := fun o h' z => o = .returned none ∧ z = sz ∧ (∃ xs', ft_at G h' t a ea cap most xs' es') ∧ ∀ b, b ≠ a → (b ≠ ea ∨ cap = 0) → h' b = h b
theorem ft_ne {G : xa_G} {h : xa_H} {t a ea cap : Nat} {most : Int32} {xs : List Nat} {es : List sv_E} (H : ft_at G h t a ea cap most xs es) : t ≠ a ∧ t ≠ ea ∧ a ≠ ea ∧ (∀ y e, h y = some (en_c e) → y ≠ a ∧ y ≠ ea ∧ y ≠ t) := by
  obtain ⟨hT, hA, hE⟩ := H
  have hne := hA.ne
  obtain ⟨-, -, f, ⟨⟨mc, h1⟩, h2, -⟩, -⟩ := hA
  refine ⟨fun e => ?_, fun e => ?_, hne, fun y e hy => ⟨fun q => ?_, fun q => ?_, fun q => ?_⟩⟩
  · subst e; rw [hT] at h1; cases h1
  · subst e; rw [hT] at h2; cases h2
  · subst q; rw [hy] at h1; cases h1
  · subst q; rw [hy] at h2; cases h2
  · subst q; rw [hy] at hT; cases hT
section FW
variable {G : xa_G} {h : xa_H} {sz : Nat}
theorem ct_F_put {t a ea cap mst x1 : Nat} {xs : List Nat} {es : List sv_E} {e : sv_E} (H : ft_at G h t a ea cap (nI mst) xs es) (hx1 : h x1 = some (en_c e)) (hm : mst < 100000) (hc : cap < 400000) : xa_T G mm_F_put 7 1 (if sv_gro es mst cap e = true then al_cap cap else 0) [.ref t, .ref x1] h sz (xq_fp G h sz t a ea cap (nI mst) (sv_put es mst e) (sv_gro es mst cap e)) := by
  have H0 := H
  obtain ⟨k1, k2, k3, k4⟩ := ft_ne H
  obtain ⟨hT, hA, hE⟩ := H
  obtain ⟨fs, hAc⟩ := hA.cell
  have hlen := hE.len
  have hcl := hA.len
  have tail : ∀ i, i ≤ es.length → (∀ j, j < i → ∀ e', es[j]? = some e' → e'.1 < e.1) → (∀ e', es[i]? = some e' → ¬ e'.1 < e.1) → xa_W G mm_F_put 7 1 (if sv_gro es mst cap e = true then al_cap cap else 0) 40 [some (.ref t), some (.ref x1), some (.int (nI i))] [] h sz (xq_fp G h sz t a ea cap (nI mst) (sv_put es mst e) (sv_gro es mst cap e)) := by
    intro i hi q1 q2
    have hp := sf_pos q1 q2 hi
    refine xw_dom (fun hd hBz => ?_)
    have hlt := hd _ _ hT
    have hin : ¬ (∃ e', es[i]? = some e' ∧ e'.1 = e.1) → xa_W G mm_F_put 7 1 (if sv_gro es mst cap e = true then al_cap cap else 0) 85 [some (.ref t), some (.ref x1), some (.int (nI i))] [] h sz (xq_fp G h sz t a ea cap (nI mst) (sv_put es mst e) (sv_gro es mst cap e)) := by
      intro hno
      have hsel : ¬ (es[sv_pos es e.1]?).any (fun e' => decide (e'.1 = e.1)) = true := by
        rw [hp]
        intro q
        cases hh : es[i]? with
        | none => rw [hh] at q; cases q
        | some e' =>
          rw [hh] at q
          exact hno ⟨e', hh, by simpa using q⟩
      refine xw_aloadR_n dd_F_put_85 rfl ?_
      refine xw_get fl_F_10 dd_F_put_86 hT rfl ?_
      refine xw_cl0 (ct_A_size' hA) (iv_F_put_89 hAc) ok_A_size rfl rfl rfl ?_ (fun _ _ _ q => by cases q.1)
      rintro v h sz ⟨hv, rfl, rfl⟩
      cases hv
      refine xw_aloadR_n dd_F_put_92 rfl ?_
      refine xw_get fl_F_16 dd_F_put_93 hT rfl ?_
      refine xw_icmp_ge 108 dd_F_put_96 (by decide) (fun hc0 => ?_) (fun hc0 => ?_)
      · have hge : ¬ es.length < mst := by
          have := (nI_leI (a := mst) (b := xs.length) (by omega) (by omega)).mp hc0
          omega
        have hg : sv_gro es mst cap e = false := by
          unfold sv_gro
          rw [decide_eq_false hge]
          simp
        refine xw_vret dd_F_put_108 rfl ⟨rfl, ⟨xs, ?_⟩, ?_, fun _ _ _ _ => rfl, fun _ => rfl⟩
        · unfold sv_put
          rw [if_neg hsel, if_neg hge, hg]
          exact H0
        · rw [hg]; rfl
      · have hlt2 : es.length < mst := by
          by_cases q : mst ≤ xs.length
          · exact absurd (nI_le q (by omega)) hc0
          · omega
        refine xw_aloadR_n dd_F_put_99 rfl ?_
        refine xw_get fl_F_10 dd_F_put_100 hT rfl ?_
        refine xw_iload_n dd_F_put_103 rfl ?_
        refine xw_aloadR_n dd_F_put_104 rfl ?_
        have hpay : al_pay xs.length cap ≤ (if sv_gro es mst cap e = true then al_cap cap else 0) := by
          unfold al_pay sv_gro
          by_cases q : xs.length = cap
          · rw [if_pos q, if_pos (by
              rw [Bool.not_eq_true] at hsel
              rw [hsel, decide_eq_true hlt2, decide_eq_true (by omega : es.length = cap)]
              rfl)]
            exact Nat.le_refl _
          · rw [if_neg q]
            exact Nat.zero_le _
        refine xw_less (kc' := 0 + 1) (ks' := 0 + al_pay xs.length cap) (by omega) (by omega) ?_
        refine xw_cl (ct_A_add0 (i := i) hA (by omega) hE.obj hc hx1 xo_1) (iv_F_put_105 hAc) ok_A_add0 rfl rfl rfl ?_ (fun _ _ _ q => by cases q.1)
        rintro v h' z1 ⟨hv, ea', cap', g1, g2, g3⟩
        cases hv
        have hke : ∀ y e', h y = some (en_c e') → h' y = h y := fun y e' hy => by
          have hly := hd _ _ hy
          exact g2 y (k4 y e' hy).1 (k4 y e' hy).2.1 (by omega)
        have hE' : en_l h' (xs.insertIdx i x1) (sv_put es mst e) := by
          unfold sv_put
          rw [if_neg hsel, if_pos hlt2, hp]
          exact en_l.ins ((hke x1 e hx1).trans hx1) (hE.keep hke)
        have hT' := (g2 t k1 k2 (by omega)).trans hT
        have hgl := g1.len
        rw [List.length_insertIdx, if_pos (by omega)] at hgl
        rcases g3 with ⟨r1, r2, r3, r4⟩ | ⟨r1, r2, r3, r4, r5⟩
        · subst r1 r2 r3
          have hg : sv_gro es mst cap' e = false := by
            unfold sv_gro
            rw [decide_eq_false (by omega : ¬ es.length = cap')]
            simp
          refine xw_vret dd_F_put_108 rfl ⟨rfl, ⟨xs.insertIdx i x1, ?_⟩, ?_, fun b b1 b2 b3 => g2 b b1 (b2.resolve_right (by omega)) b3, fun _ => r4⟩
          · rw [hg]
            exact ⟨hT', g1, hE'⟩
          · rw [hg]; rfl
        · subst r1 r2 r3
          have hg : sv_gro es mst cap e = true := by
            unfold sv_gro
            rw [Bool.not_eq_true] at hsel
            rw [hsel, decide_eq_true hlt2, decide_eq_true (by omega : es.length = cap)]
            rfl
          refine xw_vret dd_F_put_108 rfl ⟨rfl, ⟨xs.insertIdx i x1, ?_⟩, ?_, fun b b1 b2 b3 => (Decidable.em (b = ea)).elim (fun q => by rw [q]; exact r5) (fun q => g2 b b1 q b3), fun q => by rw [hg] at q; cases q⟩
          · rw [hg]
            exact ⟨hT', g1, hE'⟩
          · rw [hg]; rfl
    refine xw_iload_n dd_F_put_40 rfl ?_
    refine xw_aloadR_n dd_F_put_41 rfl ?_
    refine xw_get fl_F_10 dd_F_put_42 hT rfl ?_
    refine xw_cl0 (ct_A_size' hA) (iv_F_put_45 hAc) ok_A_size rfl rfl rfl ?_ (fun _ _ _ q => by cases q.1)
    rintro v h sz ⟨hv, rfl, rfl⟩
    cases hv
    refine xw_icmp_ge 85 dd_F_put_48 (by decide) (fun hc0 => ?_) (fun hc0 => ?_)
    · refine hin ?_
      rintro ⟨e', w1, w2⟩
      have w3 := (List.getElem?_eq_some_iff.mp w1).1
      exact absurd hc0 (nI_ge (by omega) (by omega))
    · have hil : i < es.length := by
        by_cases q : xs.length ≤ i
        · exact absurd (nI_le q (by omega)) hc0
        · omega
      obtain ⟨y, e', hx, hes, he⟩ := hE.at hil
      refine xw_aloadR_n dd_F_put_51 rfl ?_
      refine xw_get fl_F_10 dd_F_put_52 hT rfl ?_
      refine xw_iload_n dd_F_put_55 rfl ?_
      refine xw_cl0 (ct_A_get' hA hx) (iv_F_put_56 hAc) ok_A_get rfl rfl rfl ?_ (fun _ _ _ q => by cases q.1)
      rintro v h sz ⟨hv, rfl, rfl⟩
      cases hv
      refine xw_cast cc_F_28 ⟨_, _, rfl⟩ dd_F_put_59 he ?_
      refine xw_get fl_F_30 dd_F_put_62 he rfl ?_
      refine xw_aloadR_n dd_F_put_65 rfl ?_
      refine xw_get fl_F_30 dd_F_put_66 hx1 rfl ?_
      refine xw_icmp_ne 85 dd_F_put_69 (by decide) (fun hc2 => ?_) (fun hc2 => ?_)
      · refine hin ?_
        rintro ⟨e2, w1, w2⟩
        rw [hes] at w1
        cases w1
        exact hc2 w2
      · refine xw_aloadR_n dd_F_put_72 rfl ?_
        refine xw_get fl_F_10 dd_F_put_73 hT rfl ?_
        refine xw_iload_n dd_F_put_76 rfl ?_
        refine xw_aloadR_n dd_F_put_77 rfl ?_
        refine xw_cl0 (ct_A_set hA hx hx1 xo_1) (iv_F_put_78 hAc) ok_A_set rfl rfl rfl ?_ (fun _ _ _ q => by cases q.1)
        rintro v h' z1 ⟨hv, rfl, g1, g2⟩
        cases hv
        refine xw_pop dd_F_put_81 rfl ?_
        refine xw_goto 108 dd_F_put_82 (by decide) ?_
        have hke : ∀ y e', h y = some (en_c e') → h' y = h y := fun y e' hy => g2 y (k4 y e' hy).1 (k4 y e' hy).2.1
        have hle := hd _ _ hAc
        obtain ⟨-, -, f0, ⟨-, w2, -⟩, -⟩ := hA
        have hlea := hd _ _ w2
        have hsel : (es[sv_pos es e.1]?).any (fun e' => decide (e'.1 = e.1)) = true := by
          rw [hp, hes]
          exact decide_eq_true hc2
        have hg : sv_gro es mst cap e = false := by
          unfold sv_gro
          rw [hsel]
          rfl
        refine xw_vret dd_F_put_108 rfl ⟨rfl, ⟨xs.set i x1, ?_⟩, ?_, fun b b1 b2 _ => g2 b b1 (b2.resolve_right (by omega)), fun _ => g2 _ (by omega) (by omega)⟩
        · rw [hg]
          refine ⟨(g2 t k1 k2).trans hT, g1, ?_⟩
          unfold sv_put
          rw [if_pos hsel, hp]
          exact (hE.keep hke).set ((hke x1 e hx1).trans hx1)
        · rw [hg]; rfl
  have loop : ∀ (k i : Nat), i + k = es.length → (∀ j, j < i → ∀ e', es[j]? = some e' → e'.1 < e.1) → xa_W G mm_F_put 7 1 (if sv_gro es mst cap e = true then al_cap cap else 0) 2 [some (.ref t), some (.ref x1), some (.int (nI i))] [] h sz (xq_fp G h sz t a ea cap (nI mst) (sv_put es mst e) (sv_gro es mst cap e)) := by
    intro k
    induction k with
    | zero =>
      intro i hk hn
      refine xw_iload_n dd_F_put_2 rfl ?_
      refine xw_aloadR_n dd_F_put_3 rfl ?_
      refine xw_get fl_F_10 dd_F_put_4 hT rfl ?_
      refine xw_cl0 (ct_A_size' hA) (iv_F_put_7 hAc) ok_A_size rfl rfl rfl ?_ (fun _ _ _ q => by cases q.1)
      rintro v h sz ⟨hv, rfl, rfl⟩
      cases hv
      refine xw_icmp_ge 40 dd_F_put_10 (by decide) (fun hc => ?_) (fun hc => absurd (nI_le (by omega) (by omega)) hc)
      refine tail i (by omega) hn (fun e' w => ?_)
      have := (List.getElem?_eq_some_iff.mp w).1
      omega
    | succ k ih =>
      intro i hk hn
      obtain ⟨y, e', hx, hes, he⟩ := hE.at (i := i) (by omega)
      refine xw_iload_n dd_F_put_2 rfl ?_
      refine xw_aloadR_n dd_F_put_3 rfl ?_
      refine xw_get fl_F_10 dd_F_put_4 hT rfl ?_
      refine xw_cl0 (ct_A_size' hA) (iv_F_put_7 hAc) ok_A_size rfl rfl rfl ?_ (fun _ _ _ q => by cases q.1)
      rintro v h sz ⟨hv, rfl, rfl⟩
      cases hv
      refine xw_icmp_ge 40 dd_F_put_10 (by decide) (fun hc => absurd hc (nI_ge (by omega) (by omega))) (fun hc => ?_)
      refine xw_aloadR_n dd_F_put_13 rfl ?_
      refine xw_get fl_F_10 dd_F_put_14 hT rfl ?_
      refine xw_iload_n dd_F_put_17 rfl ?_
      refine xw_cl0 (ct_A_get' hA hx) (iv_F_put_18 hAc) ok_A_get rfl rfl rfl ?_ (fun _ _ _ q => by cases q.1)
      rintro v h sz ⟨hv, rfl, rfl⟩
      cases hv
      refine xw_cast cc_F_28 ⟨_, _, rfl⟩ dd_F_put_21 he ?_
      refine xw_get fl_F_30 dd_F_put_24 he rfl ?_
      refine xw_aloadR_n dd_F_put_27 rfl ?_
      refine xw_get fl_F_30 dd_F_put_28 hx1 rfl ?_
      refine xw_icmp_ge 40 dd_F_put_31 (by decide) (fun hc2 => ?_) (fun hc2 => ?_)
      · refine tail i (by omega) hn (fun e2 w => ?_)
        rw [hes] at w
        cases w
        exact Int32.not_lt.mpr hc2
      · refine xw_iinc dd_F_put_34 rfl (nI_1 i) (by decide) ?_
        refine xw_goto 2 dd_F_put_37 (by decide) ?_
        refine ih (i + 1) (by omega) (fun j hj e2 w => ?_)
        by_cases hji : j = i
        · subst hji
          rw [hes] at w
          cases w
          exact Int32.not_le.mp hc2
        · exact hn j (by omega) e2 w
  refine xt_o ok_F_put rfl rfl ?_
  refine xw_iconst 0 dd_F_put_0 (by decide) ?_
  refine xw_istore_n dd_F_put_1 (by decide) ?_
  exact loop es.length 0 (by omega) (fun j hj => by omega)
theorem ct_F_drop {t a ea cap : Nat} {most n : Int32} {xs : List Nat} {es : List sv_E} (H : ft_at G h t a ea cap most xs es) : xa_T G mm_F_drop 3 0 0 [.ref t, .int n] h sz (xq_fu G h sz t a ea cap most (es.eraseP (fun e => decide (e.1 = n)))) := by
  have H0 := H
  obtain ⟨k1, k2, k3, k4⟩ := ft_ne H
  obtain ⟨hT, hA, hE⟩ := H
  obtain ⟨fs, hAc⟩ := hA.cell
  have hlen := hE.len
  have hcl := hA.len
  have loop : ∀ (k i : Nat), i + k = es.length → (es.take i).find? (fun e => decide (e.1 = n)) = none → xa_W G mm_F_drop 3 0 0 2 [some (.ref t), some (.int n), some (.int (nI i))] [] h sz (xq_fu G h sz t a ea cap most (es.eraseP (fun e => decide (e.1 = n)))) := by
    intro k
    induction k with
    | zero =>
      intro i hk hn
      refine xw_iload_n dd_F_drop_2 rfl ?_
      refine xw_aloadR_n dd_F_drop_3 rfl ?_
      refine xw_get fl_F_10 dd_F_drop_4 hT rfl ?_
      refine xw_cl0 (ct_A_size' hA) (iv_F_drop_7 hAc) ok_A_size rfl rfl rfl ?_ (fun _ _ _ q => by cases q.1)
      rintro v h sz ⟨hv, rfl, rfl⟩
      cases hv
      refine xw_icmp_ge 47 dd_F_drop_10 (by decide) (fun hc => ?_) (fun hc => absurd (nI_le (by omega) (by omega)) hc)
      exact xw_vret dd_F_drop_47 rfl ⟨rfl, rfl, ⟨xs, by rw [sf_none (sf_end hn (by omega))]; exact H0⟩, fun _ _ _ => rfl⟩
    | succ k ih =>
      intro i hk hn
      obtain ⟨y, e, hx, hes, he⟩ := hE.at (i := i) (by omega)
      refine xw_iload_n dd_F_drop_2 rfl ?_
      refine xw_aloadR_n dd_F_drop_3 rfl ?_
      refine xw_get fl_F_10 dd_F_drop_4 hT rfl ?_
      refine xw_cl0 (ct_A_size' hA) (iv_F_drop_7 hAc) ok_A_size rfl rfl rfl ?_ (fun _ _ _ q => by cases q.1)
      rintro v h sz ⟨hv, rfl, rfl⟩
      cases hv
      refine xw_icmp_ge 47 dd_F_drop_10 (by decide) (fun hc => absurd hc (nI_ge (by omega) (by omega))) (fun hc => ?_)
      refine xw_aloadR_n dd_F_drop_13 rfl ?_
      refine xw_get fl_F_10 dd_F_drop_14 hT rfl ?_
      refine xw_iload_n dd_F_drop_17 rfl ?_
      refine xw_cl0 (ct_A_get' hA hx) (iv_F_drop_18 hAc) ok_A_get rfl rfl rfl ?_ (fun _ _ _ q => by cases q.1)
      rintro v h sz ⟨hv, rfl, rfl⟩
      cases hv
      refine xw_cast cc_F_28 ⟨_, _, rfl⟩ dd_F_drop_21 he ?_
      refine xw_get fl_F_30 dd_F_drop_24 he rfl ?_
      refine xw_iload_n dd_F_drop_27 rfl ?_
      refine xw_icmp_ne 41 dd_F_drop_28 (by decide) (fun hc2 => ?_) (fun hc2 => ?_)
      · refine xw_iinc dd_F_drop_41 rfl (nI_1 i) (by decide) ?_
        refine xw_goto 2 dd_F_drop_44 (by decide) ?_
        exact ih (i + 1) (by omega) (sf_step hn hes (decide_eq_false hc2))
      · refine xw_aloadR_n dd_F_drop_31 rfl ?_
        refine xw_get fl_F_10 dd_F_drop_32 hT rfl ?_
        refine xw_iload_n dd_F_drop_35 rfl ?_
        refine xw_cl0 (ct_A_remove hA hE.obj hx) (iv_F_drop_36 hAc) ok_A_remove rfl rfl rfl ?_ (fun _ _ _ q => by cases q.1)
        rintro v h' z1 ⟨hv, rfl, g1, g2⟩
        cases hv
        refine xw_pop dd_F_drop_39 rfl ?_
        have hke : ∀ y e', h y = some (en_c e') → h' y = h y := fun y e' hy => g2 y (k4 y e' hy).1 (k4 y e' hy).2.1
        exact xw_vret dd_F_drop_40 rfl ⟨rfl, rfl, ⟨_, (g2 t k1 k2).trans hT, g1, by rw [← sf_erase hn hes (decide_eq_true hc2)]; exact (hE.keep hke).del⟩, fun b b1 b2 => g2 b b1 (b2.resolve_right (by have := (List.getElem?_eq_some_iff.mp hx).1; omega))⟩
  refine xt_o ok_F_drop rfl rfl ?_
  refine xw_iconst 0 dd_F_drop_0 (by decide) ?_
  refine xw_istore_n dd_F_drop_1 (by decide) ?_
  exact loop es.length 0 (by omega) rfl
/-- those that stay -/
def sv_out (lo hi : Int32) (e : sv_E) : Bool := !(decide (lo < e.1) && decide (e.1 ≤ hi))
theorem ct_F_dropRange {t a ea cap : Nat} {most lo hi : Int32} {xs : List Nat} {es : List sv_E} (H : ft_at G h t a ea cap most xs es) : xa_T G mm_F_dropRange 3 0 0 [.ref t, .int lo, .int hi] h sz (xq_fu G h sz t a ea cap most (es.filter (sv_out lo hi))) := by
  obtain ⟨fs0, hAc0⟩ := H.2.1.cell
  have hlen0 := H.2.2.len
  have hcl0 := H.2.1.len
  have loop : ∀ (k : Nat) (h1 : xa_H) (ys : List Nat) (o : Option Value), k ≤ es.length → ft_at G h1 t a ea cap most ys (es.take k ++ (es.drop k).filter (sv_out lo hi)) → (∀ b, b ≠ a → (b ≠ ea ∨ cap = 0) → h1 b = h b) → xa_W G mm_F_dropRange 3 0 0 10 [some (.ref t), some (.int lo), some (.int hi), some (.int (nI k - 1)), o] [] h1 sz (xq_fu G h sz t a ea cap most (es.filter (sv_out lo hi))) := by
    intro k
    induction k with
    | zero =>
      intro h1 ys o hk H1 hf
      refine xw_iload_n dd_F_dropRange_10 rfl ?_
      refine xw_if_lt 57 dd_F_dropRange_11 (by decide) (fun hc => ?_) (fun hc => absurd (by decide) hc)
      exact xw_vret dd_F_dropRange_57 rfl ⟨rfl, rfl, ⟨ys, by simpa using H1⟩, hf⟩
    | succ k ih =>
      intro h1 ys o hk H1 hf
      have H0 := H1
      obtain ⟨k1, k2, k3, k4⟩ := ft_ne H1
      obtain ⟨hT, hA, hE⟩ := H1
      obtain ⟨fs, hAc⟩ := hA.cell
      have hcl := hA.len
      have hlt : k < es.length := by omega
      have hat : (es.take (k + 1) ++ (es.drop (k + 1)).filter (sv_out lo hi))[k]? = some es[k] := by
        rw [List.getElem?_append_left (by simp; omega), List.getElem?_take_of_lt (by omega), List.getElem?_eq_getElem hlt]
      obtain ⟨y, e, hx, hes, he⟩ := hE.at (i := k) (by simp; omega)
      rw [hat] at hes
      cases hes
      have hdrop : es.drop k = es[k] :: es.drop (k + 1) := (List.getElem_cons_drop hlt).symm
      have htake : es.take (k + 1) = es.take k ++ [es[k]] := by rw [List.take_add_one, List.getElem?_eq_getElem hlt]; rfl
      refine xw_iload_n dd_F_dropRange_10 rfl ?_
      rw [nI_pred]
      refine xw_if_lt 57 dd_F_dropRange_11 (by decide) (fun hc => absurd hc (nI_pos (by omega))) (fun hc => ?_)
      have hnx : ∀ (h2 : xa_H) (zs : List Nat) (o2 : Option Value), ft_at G h2 t a ea cap most zs (es.take k ++ (es.drop k).filter (sv_out lo hi)) → (∀ b, b ≠ a → (b ≠ ea ∨ cap = 0) → h2 b = h b) → xa_W G mm_F_dropRange 3 0 0 51 [some (.ref t), some (.int lo), some (.int hi), some (.int (nI k)), o2] [] h2 sz (xq_fu G h sz t a ea cap most (es.filter (sv_out lo hi))) := by
        intro h2 zs o2 H2 hf2
        refine xw_iinc dd_F_dropRange_51 rfl (v := nI k - 1) (by rw [Int32.sub_eq_add_neg]; rfl) (by decide) ?_
        refine xw_goto 10 dd_F_dropRange_54 (by decide) ?_
        exact ih h2 zs o2 (by omega) H2 hf2
      refine xw_aloadR_n dd_F_dropRange_14 rfl ?_
      refine xw_get fl_F_10 dd_F_dropRange_15 hT rfl ?_
      refine xw_iload_n (x := nI k) dd_F_dropRange_18 rfl ?_
      refine xw_cl0 (ct_A_get' hA hx) (iv_F_dropRange_19 hAc) ok_A_get rfl rfl rfl ?_ (fun _ _ _ q => by cases q.1)
      rintro v h1 sz ⟨hv, rfl, rfl⟩
      cases hv
      refine xw_cast cc_F_28 ⟨_, _, rfl⟩ dd_F_dropRange_22 he ?_
      refine xw_get fl_F_30 dd_F_dropRange_25 he rfl ?_
      refine xw_istore dd_F_dropRange_28 (by decide) ?_
      refine xw_iload dd_F_dropRange_30 rfl ?_
      refine xw_iload_n dd_F_dropRange_32 rfl ?_
      refine xw_icmp_le 51 dd_F_dropRange_33 (by decide) (fun hc1 => ?_) (fun hc1 => ?_)
      · have hkp : sv_out lo hi es[k] = true := by
          unfold sv_out
          rw [decide_eq_false (Int32.not_lt.mpr hc1)]
          rfl
        exact hnx h1 ys _ (by rw [hdrop, List.filter_cons, if_pos hkp]; rw [htake, List.append_assoc] at H0; exact H0) hf
      · refine xw_iload dd_F_dropRange_36 rfl ?_
        refine xw_iload_n dd_F_dropRange_38 rfl ?_
        refine xw_icmp_gt 51 dd_F_dropRange_39 (by decide) (fun hc2 => ?_) (fun hc2 => ?_)
        · have hkp : sv_out lo hi es[k] = true := by
            unfold sv_out
            rw [decide_eq_false (Int32.not_le.mpr hc2), Bool.and_false]
            rfl
          exact hnx h1 ys _ (by rw [hdrop, List.filter_cons, if_pos hkp]; rw [htake, List.append_assoc] at H0; exact H0) hf
        · have hkp : ¬ sv_out lo hi es[k] = true := by
            unfold sv_out
            rw [decide_eq_true (Int32.not_le.mp hc1), decide_eq_true (Int32.not_lt.mp hc2)]
            decide
          refine xw_aloadR_n dd_F_dropRange_42 rfl ?_
          refine xw_get fl_F_10 dd_F_dropRange_43 hT rfl ?_
          refine xw_iload_n dd_F_dropRange_46 rfl ?_
          refine xw_cl0 (ct_A_remove hA hE.obj hx) (iv_F_dropRange_47 hAc) ok_A_remove rfl rfl rfl ?_ (fun _ _ _ q => by cases q.1)
          rintro v h' z1 ⟨hv, rfl, g1, g2⟩
          cases hv
          refine xw_pop dd_F_dropRange_50 rfl ?_
          have hke : ∀ y e', h1 y = some (en_c e') → h' y = h1 y := fun y e' hy => g2 y (k4 y e' hy).1 (k4 y e' hy).2.1
          have hE2 := (hE.keep hke).del (i := k)
          have hdel : (es.take (k + 1) ++ (es.drop (k + 1)).filter (sv_out lo hi)).eraseIdx k = es.take k ++ (es.drop k).filter (sv_out lo hi) := by
            rw [hdrop, List.filter_cons, if_neg hkp, htake, List.append_assoc, List.eraseIdx_append_of_length_le (by simp; omega)]
            have : k - (es.take k).length = 0 := by simp; omega
            rw [this]
            rfl
          rw [hdel] at hE2
          exact hnx h' _ _ ⟨(g2 t k1 k2).trans hT, g1, hE2⟩ (fun b b1 b2 => (g2 b b1 (b2.resolve_right (by have := (List.getElem?_eq_some_iff.mp hx).1; omega))).trans (hf b b1 b2))
  refine xt_o ok_F_dropRange rfl rfl ?_
  obtain ⟨hT, hA, hE⟩ := id H
  refine xw_aloadR_n dd_F_dropRange_0 rfl ?_
  refine xw_get fl_F_10 dd_F_dropRange_1 hT rfl ?_
  refine xw_cl0 (ct_A_size' hA) (iv_F_dropRange_4 hAc0) ok_A_size rfl rfl rfl ?_ (fun _ _ _ q => by cases q.1)
  rintro v h' z1 ⟨hv, rfl, rfl⟩
  cases hv
  refine xw_iconst 1 dd_F_dropRange_7 (by decide) ?_
  refine xw_isub dd_F_dropRange_8 ?_
  refine xw_istore_n dd_F_dropRange_9 (by decide) ?_
  rw [hlen0]
  exact loop es.length h' xs none (Nat.le_refl _) (by simpa using H) (fun _ _ _ => rfl)
theorem ct_F_isLike {t a ea cap t2 a2 ea2 cap2 : Nat} {most most2 : Int32} {xs ys : List Nat} {es es2 : List sv_E} (H : ft_at G h t a ea cap most xs es) (H2 : ft_at G h t2 a2 ea2 cap2 most2 ys es2) : xa_T G mm_F_isLike 3 0 0 [.ref t, .ref t2] h sz (xq_same h sz (some (.int (if es = es2 then 1 else 0)))) := by
  obtain ⟨hT, hA, hE⟩ := H
  obtain ⟨fs, hAc⟩ := hA.cell
  have hlen := hE.len
  have hcl := hA.len
  obtain ⟨hT2, hA2, hE2⟩ := H2
  obtain ⟨fs2, hAc2⟩ := hA2.cell
  have hlen2 := hE2.len
  have hcl2 := hA2.len
  have loop : es.length = es2.length → ∀ (k i : Nat), i + k = es.length → es.take i = es2.take i → xa_W G mm_F_isLike 3 0 0 21 [some (.ref t), some (.ref t2), some (.int (nI i))] [] h sz (xq_same h sz (some (.int (if es = es2 then 1 else 0)))) := by
    intro hl12 k
    induction k with
    | zero =>
      intro i hk hn
      refine xw_iload_n dd_F_isLike_21 rfl ?_
      refine xw_aloadR_n dd_F_isLike_22 rfl ?_
      refine xw_get fl_F_10 dd_F_isLike_23 hT rfl ?_
      refine xw_cl0 (ct_A_size' hA) (iv_F_isLike_26 hAc) ok_A_size rfl rfl rfl ?_ (fun _ _ _ q => by cases q.1)
      rintro v h sz ⟨hv, rfl, rfl⟩
      cases hv
      refine xw_icmp_ge 68 dd_F_isLike_29 (by decide) (fun hc => ?_) (fun hc => absurd (nI_le (by omega) (by omega)) hc)
      refine xw_iconst 1 dd_F_isLike_68 (by decide) ?_
      refine xw_zret dd_F_isLike_69 rfl rfl ⟨?_, rfl, rfl⟩
      rw [List.take_of_length_le (by omega), List.take_of_length_le (by omega)] at hn
      rw [if_pos hn]
    | succ k ih =>
      intro i hk hn
      obtain ⟨y, e, hx, hes, he⟩ := hE.at (i := i) (by omega)
      obtain ⟨y2, e2, hx2, hes2, he2⟩ := hE2.at (i := i) (by omega)
      refine xw_iload_n dd_F_isLike_21 rfl ?_
      refine xw_aloadR_n dd_F_isLike_22 rfl ?_
      refine xw_get fl_F_10 dd_F_isLike_23 hT rfl ?_
      refine xw_cl0 (ct_A_size' hA) (iv_F_isLike_26 hAc) ok_A_size rfl rfl rfl ?_ (fun _ _ _ q => by cases q.1)
      rintro v h sz ⟨hv, rfl, rfl⟩
      cases hv
      refine xw_icmp_ge 68 dd_F_isLike_29 (by decide) (fun hc => absurd hc (nI_ge (by omega) (by omega))) (fun hc => ?_)
      refine xw_aloadR_n dd_F_isLike_32 rfl ?_
      refine xw_get fl_F_10 dd_F_isLike_33 hT rfl ?_
      refine xw_iload_n dd_F_isLike_36 rfl ?_
      refine xw_cl0 (ct_A_get' hA hx) (iv_F_isLike_37 hAc) ok_A_get rfl rfl rfl ?_ (fun _ _ _ q => by cases q.1)
      rintro v h sz ⟨hv, rfl, rfl⟩
      cases hv
      refine xw_cast cc_F_28 ⟨_, _, rfl⟩ dd_F_isLike_40 he ?_
      refine xw_aloadR_n dd_F_isLike_43 rfl ?_
      refine xw_get fl_F_10 dd_F_isLike_44 hT2 rfl ?_
      refine xw_iload_n dd_F_isLike_47 rfl ?_
      refine xw_cl0 (ct_A_get' hA2 hx2) (iv_F_isLike_48 hAc2) ok_A_get rfl rfl rfl ?_ (fun _ _ _ q => by cases q.1)
      rintro v h sz ⟨hv, rfl, rfl⟩
      cases hv
      refine xw_cast cc_F_28 ⟨_, _, rfl⟩ dd_F_isLike_51 he2 ?_
      refine xw_cl0 (ct_E_isLike he he2) (iv_F_isLike_54 he) ok_E_isLike rfl rfl rfl ?_ (fun _ _ _ q => by cases q.1)
      rintro v h sz ⟨hv, rfl, rfl⟩
      cases hv
      by_cases hee : e = e2
      · rw [if_pos hee]
        refine xw_if_ne 62 dd_F_isLike_57 (by decide) (fun hc2 => ?_) (fun hc2 => absurd hc2 (by decide))
        refine xw_iinc dd_F_isLike_62 rfl (nI_1 i) (by decide) ?_
        refine xw_goto 21 dd_F_isLike_65 (by decide) ?_
        refine ih (i + 1) (by omega) ?_
        rw [List.take_add_one, List.take_add_one, hn, hes, hes2, hee]
      · rw [if_neg hee]
        refine xw_if_ne 62 dd_F_isLike_57 (by decide) (fun hc2 => absurd rfl hc2) (fun hc2 => ?_)
        refine xw_iconst 0 dd_F_isLike_60 (by decide) ?_
        refine xw_zret dd_F_isLike_61 rfl rfl ⟨?_, rfl, rfl⟩
        rw [if_neg (fun q => hee ?_)]
        rw [q, hes2] at hes
        exact (Option.some.inj hes).symm
  refine xt_o ok_F_isLike rfl rfl ?_
  refine xw_aloadR_n dd_F_isLike_0 rfl ?_
  refine xw_get fl_F_10 dd_F_isLike_1 hT rfl ?_
  refine xw_cl0 (ct_A_size' hA) (iv_F_isLike_4 hAc) ok_A_size rfl rfl rfl ?_ (fun _ _ _ q => by cases q.1)
  rintro v h sz ⟨hv, rfl, rfl⟩
  cases hv
  refine xw_aloadR_n dd_F_isLike_7 rfl ?_
  refine xw_get fl_F_10 dd_F_isLike_8 hT2 rfl ?_
  refine xw_cl0 (ct_A_size' hA2) (iv_F_isLike_11 hAc2) ok_A_size rfl rfl rfl ?_ (fun _ _ _ q => by cases q.1)
  rintro v h sz ⟨hv, rfl, rfl⟩
  cases hv
  refine xw_icmp_eq 19 dd_F_isLike_14 (by decide) (fun hc => ?_) (fun hc => ?_)
  · refine xw_iconst 0 dd_F_isLike_19 (by decide) ?_
    refine xw_istore_n dd_F_isLike_20 (by decide) ?_
    have hl12 : es.length = es2.length := by
      have := (nI_eq (by omega) (by omega)).mp hc
      omega
    exact loop hl12 es.length 0 (by omega) rfl
  · refine xw_iconst 0 dd_F_isLike_17 (by decide) ?_
    refine xw_zret dd_F_isLike_18 rfl rfl ⟨?_, rfl, rfl⟩
    rw [if_neg (fun q => hc ?_)]
    rw [hlen, hlen2, q]
end FW
