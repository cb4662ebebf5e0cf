/-! NotedVolume: its state (by program: wip/whole/mk26.py) -/
abbrev vo_c (x lt : Nat) (on : Bool) (lf : Int32) : xa_E := .inr (0, [.ref (x + 1), .ref (x + 3), .ref (x + 5), .ref (x + 7), .int (nI (lt + 1)), .int (if on = true then 1 else 0), .int lf])
def vc_r (h : xa_H) (x hd : Nat) (rg : Nat → Nat → Int32) : Prop := ∃ f, rg_at h (x + 3) (x + 4) hd f ∧ rn_at h f hd rg
def vc_a (h : xa_H) (x : Nat) : Prop := ∃ g, h (x + 7) = some (xr_q 5 3 g) ∧ ∀ s, s < 3 → g s = some (x + 8 + 4 * s)
def vo_d (ar cp : Nat → Nat) : Prop := ∀ i j, i < 5 → j < 5 → i ≠ j → ar i ≠ ar j ∨ cp i = 0
def vo_p (G : xa_G) (x hd : Nat) (S : Nat → sv_S) (ar cp : Nat → Nat) : Prop := G.2.2.1 ≤ x ∧ cp 0 ≤ 28 ∧ cp 1 ≤ 22 ∧ (∀ s, s < 3 → cp (2 + s) = su_cap (S s) ∧ su_cap (S s) ≤ 766 ∧ su_cur (S s) ≤ hd) ∧ vo_d ar cp
/-- the volume at x: what it is, its subscribers; the arrays of its lists, and their capacities -/
def vo_at (G : xa_G) (h : xa_H) (x : Nat) (V : sv_V) (S : Nat → sv_S) (ar cp : Nat → Nat) : Prop := h x = some (vo_c x (sv_lt V) (sv_on V) (sv_lf V)) ∧ (∃ xs, ft_at G h (x + 1) (x + 2) (ar 0) (cp 0) (nI 20) xs (sv_fs V)) ∧ vc_r h x (sv_hd V) (sv_rg V) ∧ gh_at G h (x + 5) (x + 6) (ar 1) (cp 1) (sv_gs V) ∧ vc_a h x ∧ (∀ s, s < 3 → su_at G h (x + 8 + 4 * s) (x + 9 + 4 * s) (x + 10 + 4 * s) (ar (2 + s)) (x + 11 + 4 * s) (S s)) ∧ vo_p G x (sv_hd V) S ar cp
def vs (G : xa_G) (h : xa_H) (x : Nat) (V : sv_V) (S : Nat → sv_S) : Prop := ∃ ar cp, vo_at G h x V S ar cp
/-- what no call on the volume changes -/
def frV (x : Nat) (h h1 : xa_H) : Prop := ∀ b e, h b = some e → (xt e = 1 ∨ ((x + 20 ≤ b ∨ b < x) ∧ (xt e = 9 ∨ (100 ≤ xt e ∧ xt e ≤ 102)))) → h1 b = some e
theorem frV.trans {x : Nat} {h h1 h2 : xa_H} (H1 : frV x h h1) (H2 : frV x h1 h2) : frV x h h2 := fun b e hb hp => H2 b e (H1 b e hb hp) hp
theorem frV.refl {x : Nat} {h : xa_H} : frV x h h := fun _ _ hb _ => hb
theorem su_at.kp {G : xa_G} {h h1 : xa_H} {o t a ea p : Nat} {S : sv_S} (H : su_at G h o t a ea p S) (hk : ∀ b e, h b = some e → ((b = o ∧ xt e = 7) ∨ (b = p ∧ xt e = 100) ∨ (b = t ∧ xt e = 2) ∨ (b = a ∧ xt e = 8) ∨ (b = ea ∧ xt e = 103) ∨ xt e = 1) → h1 b = some e) : su_at G h1 o t a ea p S := by
  obtain ⟨h1', ⟨xs, h2⟩, h3, h4⟩ := H
  exact ⟨hk _ _ h1' (Or.inl ⟨rfl, rfl⟩), ⟨xs, h2.kp (fun b e hb hc => hk b e hb (Or.inr (Or.inr hc)))⟩, hk _ _ h3 (Or.inr (Or.inl ⟨rfl, rfl⟩)), h4⟩
theorem vc_r.kp {h h1 : xa_H} {x hd : Nat} {rg : Nat → Nat → Int32} (H : vc_r h x hd rg) (hk : ∀ b e, h b = some e → ((b = x + 3 ∧ xt e = 4) ∨ (b = x + 4 ∧ xt e = 104) ∨ xt e = 3 ∨ xt e = 1) → h1 b = some e) : vc_r h1 x hd rg := by
  obtain ⟨f, h2, h3⟩ := H
  exact ⟨f, h2.kp (fun b e hb hc => hk b e hb (by omega)), h3.kp (fun b e hb hc => hk b e hb (by omega))⟩
theorem vc_a.kp {h h1 : xa_H} {x : Nat} (H : vc_a h x) (hk : ∀ b e, h b = some e → (b = x + 7 ∧ xt e = 105) → h1 b = some e) : vc_a h1 x := by
  obtain ⟨g, h2, h3⟩ := H
  exact ⟨g, hk _ _ h2 ⟨rfl, rfl⟩, h3⟩
def vu (f : Nat → Nat) (i v : Nat) : Nat → Nat := fun j => if j = i then v else f j
theorem vu_s (f : Nat → Nat) (i v : Nat) : vu f i v i = v := if_pos rfl
theorem vu_n (f : Nat → Nat) {i j : Nat} (v : Nat) (h : j ≠ i) : vu f i v j = f j := if_neg h
theorem vo_d.upd {ar cp : Nat → Nat} {sz k ea' cap' : Nat} (hD : vo_d ar cp) (hl : ∀ j, j < 5 → ar j < sz) (hk : k < 5) (he : er sz (ar k) (cp k) ea' cap') : vo_d (vu ar k ea') (vu cp k cap') := by
  intro i j hi hj hij
  by_cases e1 : i = k
  · subst e1
    rw [vu_s, vu_s, vu_n _ _ (fun q => hij q.symm)]
    rcases he with ⟨rfl, rfl⟩ | q
    · exact hD i j hi hj hij
    · have := hl j hj
      exact Or.inl (by omega)
  · rw [vu_n _ _ e1, vu_n _ _ e1]
    by_cases e2 : j = k
    · subst e2
      rw [vu_s]
      rcases he with ⟨rfl, rfl⟩ | q
      · exact hD i j hi hj hij
      · have := hl i hi
        exact Or.inl (by omega)
    · rw [vu_n _ _ e2]
      exact hD i j hi hj hij
section VO
variable {G : xa_G} {h h1 : xa_H} {sz x : Nat} {V : sv_V} {S : Nat → sv_S} {ar cp : Nat → Nat}
theorem vo_at.lt (H : vo_at G h x V S ar cp) (hd : xd_h h sz) : ∀ j, j < 5 → ar j < sz := by
  obtain ⟨-, ⟨xs, h2⟩, -, ⟨ys, h4⟩, -, h6, -⟩ := H
  intro j hj
  rcases (show j = 0 ∨ j = 1 ∨ ∃ s, s < 3 ∧ j = 2 + s by
    by_cases e0 : j = 0
    · exact Or.inl e0
    by_cases e1 : j = 1
    · exact Or.inr (Or.inl e1)
    exact Or.inr (Or.inr ⟨j - 2, by omega, by omega⟩)) with rfl | rfl | ⟨s, hs, rfl⟩
  · exact ft_lt hd h2
  · obtain ⟨-, ⟨-, -, g, ⟨-, k4, -⟩, -⟩, -⟩ := h4
    exact hd _ _ k4
  · obtain ⟨-, ⟨zs, k2⟩, -⟩ := h6 s hs
    exact ft_lt hd k2
/-- the numbers of the volume's own cell have changed -/
theorem vo_at.setX {fs : List sv_E} {lt hd lt' : Nat} {rg : Nat → Nat → Int32} {gs : List (Int32 × Int32)} {on on' : Bool} {lf lf' : Int32} (H : vo_at G h x (fs, lt, hd, rg, gs, on, lf) S ar cp) (hx : h1 x = some (vo_c x lt' on' lf')) (hk : ∀ b e, h b = some e → ¬ (xt e = 0 ∧ b = x) → h1 b = some e) : vo_at G h1 x (fs, lt', hd, rg, gs, on', lf') S ar cp := by
  obtain ⟨h1', ⟨xs, h2⟩, h3, h4, h5, h6, h7⟩ := H
  exact ⟨hx, ⟨xs, h2.kp (fun b e hb hc => hk b e hb (by omega))⟩, h3.kp (fun b e hb hc => hk b e hb (by omega)), h4.kp (fun b e hb hc => hk b e hb (by omega)), h5.kp (fun b e hb hc => hk b e hb (by omega)), fun s hs => (h6 s hs).kp (fun b e hb hc => hk b e hb (by omega)), h7⟩
/-- the files have changed -/
theorem vo_at.setF {fs fs' : List sv_E} {lt hd ea' cap' : Nat} {xs' : List Nat} {rg : Nat → Nat → Int32} {gs : List (Int32 × Int32)} {on : Bool} {lf : Int32} (H : vo_at G h x (fs, lt, hd, rg, gs, on, lf) S ar cp) (hdm : xd_h h sz) (hF : ft_at G h1 (x + 1) (x + 2) ea' cap' (nI 20) xs' fs') (he : er sz (ar 0) (cp 0) ea' cap') (hc0 : cap' ≤ 28) (hk : ∀ b e, h b = some e → ¬ ((xt e = 8 ∧ b = x + 2) ∨ (xt e = 103 ∧ b = ar 0 ∧ cp 0 ≠ 0)) → h1 b = some e) : vo_at G h1 x (fs', lt, hd, rg, gs, on, lf) S (vu ar 0 ea') (vu cp 0 cap') := by
  have hlt := H.lt hdm
  obtain ⟨h1', ⟨xs, h2⟩, h3, h4, h5, h6, h7⟩ := H
  obtain ⟨p1, p2, p3, p4, p5⟩ := id h7
  have d1 := p5 0 1 (by omega) (by omega) (by omega)
  refine ⟨hk _ _ h1' (by simp [xt]), ⟨xs', hF⟩, h3.kp (fun b e hb hc => hk b e hb (by omega)), h4.kp (fun b e hb hc => hk b e hb (by omega)), h5.kp (fun b e hb hc => hk b e hb (by omega)), fun s hs => ?_, p1, hc0, p3, fun s hs => ?_, p5.upd hlt (by omega) he⟩
  · have d2 := p5 0 (2 + s) (by omega) (by omega) (by omega)
    rw [vu_n _ _ (by omega)]
    exact (h6 s hs).kp (fun b e hb hc => hk b e hb (by omega))
  · rw [vu_n _ _ (by omega)]
    exact p4 s hs
/-- the ring has changed -/
theorem vo_at.setR {fs : List sv_E} {lt hd hd' : Nat} {rg rg' : Nat → Nat → Int32} {gs : List (Int32 × Int32)} {on : Bool} {lf : Int32} (H : vo_at G h x (fs, lt, hd, rg, gs, on, lf) S ar cp) (hR : vc_r h1 x hd' rg') (hle : hd ≤ hd') (hk : ∀ b e, h b = some e → ¬ ((xt e = 4 ∧ b = x + 3) ∨ (xt e = 104 ∧ b = x + 4)) → h1 b = some e) : vo_at G h1 x (fs, lt, hd', rg', gs, on, lf) S ar cp := by
  obtain ⟨h1', ⟨xs, h2⟩, h3, h4, h5, h6, h7⟩ := H
  obtain ⟨p1, p2, p3, p4, p5⟩ := id h7
  exact ⟨hk _ _ h1' (by simp [xt]), ⟨xs, h2.kp (fun b e hb hc => hk b e hb (by omega))⟩, hR, h4.kp (fun b e hb hc => hk b e hb (by omega)), h5.kp (fun b e hb hc => hk b e hb (by omega)), fun s hs => (h6 s hs).kp (fun b e hb hc => hk b e hb (by omega)), p1, p2, p3, fun s hs => ⟨(p4 s hs).1, (p4 s hs).2.1, Nat.le_trans (p4 s hs).2.2 hle⟩, p5⟩
/-- the gatherings have changed -/
theorem vo_at.setG {fs : List sv_E} {lt hd ea' cap' : Nat} {rg : Nat → Nat → Int32} {gs gs' : List (Int32 × Int32)} {on : Bool} {lf : Int32} (H : vo_at G h x (fs, lt, hd, rg, gs, on, lf) S ar cp) (hdm : xd_h h sz) (hF : gh_at G h1 (x + 5) (x + 6) ea' cap' gs') (he : er sz (ar 1) (cp 1) ea' cap') (hc0 : cap' ≤ 22) (hk : ∀ b e, h b = some e → ¬ ((xt e = 8 ∧ b = x + 6) ∨ (xt e = 103 ∧ b = ar 1 ∧ cp 1 ≠ 0) ∨ xt e = 5) → h1 b = some e) : vo_at G h1 x (fs, lt, hd, rg, gs', on, lf) S (vu ar 1 ea') (vu cp 1 cap') := by
  have hlt := H.lt hdm
  obtain ⟨h1', ⟨xs, h2⟩, h3, h4, h5, h6, h7⟩ := H
  obtain ⟨p1, p2, p3, p4, p5⟩ := id h7
  have d1 := p5 1 0 (by omega) (by omega) (by omega)
  refine ⟨hk _ _ h1' (by simp [xt]), ⟨xs, h2.kp (fun b e hb hc => hk b e hb (by omega))⟩, h3.kp (fun b e hb hc => hk b e hb (by omega)), hF, h5.kp (fun b e hb hc => hk b e hb (by omega)), fun s hs => ?_, p1, p2, hc0, fun s hs => ?_, p5.upd hlt (by omega) he⟩
  · have d2 := p5 1 (2 + s) (by omega) (by omega) (by omega)
    rw [vu_n _ _ (by omega)]
    exact (h6 s hs).kp (fun b e hb hc => hk b e hb (by omega))
  · rw [vu_n _ _ (by omega)]
    exact p4 s hs
def vw (S : Nat → sv_S) (k : Nat) (S' : sv_S) : Nat → sv_S := fun j => if j = k then S' else S j
/-- a subscriber has changed -/
theorem vo_at.setS {k ea' : Nat} {S' : sv_S} (H : vo_at G h x V S ar cp) (hkl : k < 3) (hdm : xd_h h sz) (hF : su_at G h1 (x + 8 + 4 * k) (x + 9 + 4 * k) (x + 10 + 4 * k) ea' (x + 11 + 4 * k) S') (he : er sz (ar (2 + k)) (cp (2 + k)) ea' (su_cap S')) (hc0 : su_cap S' ≤ 766) (hc1 : su_cur S' ≤ sv_hd V) (hk : ∀ b e, h b = some e → ¬ ((xt e = 7 ∧ b = x + 8 + 4 * k) ∨ (xt e = 100 ∧ b = x + 11 + 4 * k) ∨ (xt e = 8 ∧ b = x + 10 + 4 * k) ∨ (xt e = 103 ∧ b = ar (2 + k) ∧ cp (2 + k) ≠ 0)) → h1 b = some e) : vo_at G h1 x V (vw S k S') (vu ar (2 + k) ea') (vu cp (2 + k) (su_cap S')) := by
  have hlt := H.lt hdm
  obtain ⟨h1', ⟨xs, h2⟩, h3, h4, h5, h6, h7⟩ := H
  obtain ⟨p1, p2, p3, p4, p5⟩ := id h7
  have d0 := p5 (2 + k) 0 (by omega) (by omega) (by omega)
  have d1 := p5 (2 + k) 1 (by omega) (by omega) (by omega)
  refine ⟨hk _ _ h1' (by simp [xt]), ⟨xs, ?_⟩, h3.kp (fun b e hb hc => hk b e hb (by omega)), ?_, h5.kp (fun b e hb hc => hk b e hb (by omega)), fun s hs => ?_, p1, ?_, ?_, fun s hs => ?_, p5.upd hlt (by omega) he⟩
  · rw [vu_n _ _ (by omega), vu_n _ _ (by omega)]
    exact h2.kp (fun b e hb hc => hk b e hb (by omega))
  · rw [vu_n _ _ (by omega), vu_n _ _ (by omega)]
    exact h4.kp (fun b e hb hc => hk b e hb (by omega))
  · by_cases e : s = k
    · subst e
      rw [vu_s]
      unfold vw
      rw [if_pos rfl]
      exact hF
    · have d2 := p5 (2 + k) (2 + s) (by omega) (by omega) (by omega)
      rw [vu_n _ _ (by omega)]
      unfold vw
      rw [if_neg e]
      exact (h6 s hs).kp (fun b e hb hc => hk b e hb (by omega))
  · rw [vu_n _ _ (by omega)]; exact p2
  · rw [vu_n _ _ (by omega)]; exact p3
  · unfold vw
    by_cases e : s = k
    · subst e
      rw [vu_s, if_pos rfl]
      exact ⟨rfl, hc0, hc1⟩
    · rw [vu_n _ _ (by omega), if_neg e]
      exact p4 s hs
/-- a new cell beside it -/
theorem vo_at.new {e : xa_E} (H : vo_at G h x V S ar cp) (hd : xd_h h sz) : vo_at G (xa_up h sz e) x V S ar cp := by
  have hk : ∀ b e', h b = some e' → xa_up h sz e b = some e' := fun b e' hb => (xa_up_ne h e (by have := hd _ _ hb; omega)).trans hb
  obtain ⟨h1', ⟨xs, h2⟩, h3, h4, h5, h6, h7⟩ := H
  exact ⟨hk _ _ h1', ⟨xs, h2.kp (fun b e hb _ => hk b e hb)⟩, h3.kp (fun b e hb _ => hk b e hb), h4.kp (fun b e hb _ => hk b e hb), h5.kp (fun b e hb _ => hk b e hb), fun s hs => (h6 s hs).kp (fun b e hb _ => hk b e hb), h7⟩
theorem vo_at.kp0 (H : vo_at G h x V S ar cp) (hk : ∀ b e', h b = some e' → h1 b = some e') : vo_at G h1 x V S ar cp := by
  obtain ⟨h1', ⟨xs, h2⟩, h3, h4, h5, h6, h7⟩ := H
  exact ⟨hk _ _ h1', ⟨xs, h2.kp (fun b e hb _ => hk b e hb)⟩, h3.kp (fun b e hb _ => hk b e hb), h4.kp (fun b e hb _ => hk b e hb), h5.kp (fun b e hb _ => hk b e hb), fun s hs => (h6 s hs).kp (fun b e hb _ => hk b e hb), h7⟩
theorem frV_new {e : xa_E} (hd : xd_h h sz) : frV x h (xa_up h sz e) := fun b e' hb _ => (xa_up_ne h e (by have := hd _ _ hb; omega)).trans hb
end VO
section VP
variable {G : xa_G} {h : xa_H} {sz x : Nat} {V : sv_V} {S : Nat → sv_S} {ar cp : Nat → Nat}
theorem ct_V_spendWrite (H : vo_at G h x V S ar cp) : xa_T G mm_V_spendWrite 2 0 0 [.ref x] h sz (fun o h' z => o = .returned (some (.int (if (sv_spend V).1 = true then 1 else 0))) ∧ z = sz ∧ vo_at G h' x (sv_spend V).2 S ar cp ∧ ∀ b e, h b = some e → ¬ ((xt e = 0 ∧ b = x) ∨ (xt e = 8 ∧ b = x + 6) ∨ (xt e = 103 ∧ b = ar 1 ∧ cp 1 ≠ 0)) → h' b = some e) := by
  obtain ⟨fs, lt, hd, rg, gs, on, lf⟩ := V
  obtain ⟨h1, ⟨xs, h2⟩, h3, h4, h5, h6, h7⟩ := id H
  refine xt_o ok_V_spendWrite rfl rfl ?_
  refine xw_dom (fun hdm _ => ?_)
  refine xw_aloadR_n dd_V_spendWrite_0 rfl ?_
  refine xw_get fl_V_47 dd_V_spendWrite_1 h1 rfl ?_
  refine xw_if_ne 21 dd_V_spendWrite_4 (by decide) (fun hc => ?_) (fun hc => ?_)
  · have hc : ¬ lf = 0 := hc
    have hs : sv_spend (fs, lt, hd, rg, gs, on, lf) = (true, (fs, lt, hd, rg, gs, on, if 0 < lf then lf - 1 else lf)) := by
      unfold sv_spend
      simp only
      rw [if_neg hc]
    rw [hs]
    refine xw_aloadR_n dd_V_spendWrite_21 rfl ?_
    refine xw_get fl_V_47 dd_V_spendWrite_22 h1 rfl ?_
    refine xw_if_le 38 dd_V_spendWrite_25 (by decide) (fun hc2 => ?_) (fun hc2 => ?_)
    · have hc2 : lf ≤ 0 := hc2
      rw [if_neg (Int32.not_lt.mpr hc2)]
      refine xw_iconst 1 dd_V_spendWrite_38 (by decide) ?_
      exact xw_zret dd_V_spendWrite_39 rfl rfl ⟨rfl, rfl, H, fun _ _ hb _ => hb⟩
    · have hc2 : ¬ lf ≤ 0 := hc2
      rw [if_pos (Int32.not_le.mp hc2)]
      refine xw_aloadR_n dd_V_spendWrite_28 rfl ?_
      refine xw_dup dd_V_spendWrite_29 rfl ?_
      refine xw_get fl_V_47 dd_V_spendWrite_30 h1 rfl ?_
      refine xw_iconst 1 dd_V_spendWrite_33 (by decide) ?_
      refine xw_isub dd_V_spendWrite_34 ?_
      refine xw_putA fl_V_47 fz_V_47 (by decide) dd_V_spendWrite_35 h1 rfl h7.1 rfl rfl (fun h9 n9 f9 => ?_)
      refine xw_iconst 1 dd_V_spendWrite_38 (by decide) ?_
      have hk : ∀ b e, h b = some e → ¬ (xt e = 0 ∧ b = x) → h9 b = some e := fun b e hb hn => (f9 b (fun q => hn ⟨by subst q; rw [h1] at hb; cases hb; rfl, q⟩)).trans hb
      exact xw_zret dd_V_spendWrite_39 rfl rfl ⟨rfl, rfl, H.setX n9 hk, fun b e hb hn => hk b e hb (fun q => hn (Or.inl q))⟩
  · have hc : lf = 0 := hc
    have hs : sv_spend (fs, lt, hd, rg, gs, on, lf) = (false, (fs, lt, hd, rg, [], false, lf)) := by
      unfold sv_spend
      simp only
      rw [if_pos hc]
    rw [hs]
    refine xw_aloadR_n dd_V_spendWrite_7 rfl ?_
    refine xw_iconst 0 dd_V_spendWrite_8 (by decide) ?_
    refine xw_putA fl_V_43 fz_V_43 (by decide) dd_V_spendWrite_9 h1 rfl h7.1 rfl rfl (fun h9 n9 f9 => ?_)
    have hk : ∀ b e, h b = some e → ¬ (xt e = 0 ∧ b = x) → h9 b = some e := fun b e hb hn => (f9 b (fun q => hn ⟨by subst q; rw [h1] at hb; cases hb; rfl, q⟩)).trans hb
    have H9 : vo_at G h9 x (fs, lt, hd, rg, gs, false, lf) S ar cp := H.setX n9 hk
    obtain ⟨g1, ⟨ys, g2⟩, g3, g4, g5, g6, g7⟩ := id H9
    refine xw_aloadR_n dd_V_spendWrite_12 rfl ?_
    refine xw_get fl_V_28 dd_V_spendWrite_13 n9 rfl ?_
    have hHc : ∃ q, h9 (x + 5) = some (.inr (6, q)) := by
      obtain ⟨_, w, -⟩ := g4
      exact ⟨_, w⟩
    obtain ⟨q, hHc⟩ := hHc
    refine xw_dom (fun hdm9 _ => ?_)
    refine xw_cl0 (ct_H_forget g4) (iv_V_spendWrite_16 hHc) ok_H_forget rfl rfl rfl ?_ (fun _ _ _ q => by cases q.1)
    rintro v h10 z1 ⟨hv, rfl, u1, u2⟩
    cases hv
    obtain ⟨_, ⟨cw, ⟨-, -, gg, ⟨⟨_, c3⟩, c4, -⟩, -⟩, -⟩⟩ := id g4
    have hk2 : ∀ b e, h9 b = some e → ¬ ((xt e = 8 ∧ b = x + 6) ∨ (xt e = 103 ∧ b = ar 1 ∧ cp 1 ≠ 0) ∨ xt e = 5) → h10 b = some e := fun b e hb hn => (u2 b (fun w => by
        subst w
        rw [c3] at hb
        cases hb
        exact hn (Or.inl ⟨rfl, rfl⟩)) (by
        by_cases w : cp 1 = 0
        · exact Or.inr w
        · refine Or.inl (fun w2 => hn (Or.inr (Or.inl ⟨?_, w2, w⟩)))
          subst w2
          rw [c4] at hb
          cases hb
          rfl)).trans hb
    refine xw_iconst 0 dd_V_spendWrite_19 (by decide) ?_
    have H10 := H9.setG hdm9 u1 (Or.inl ⟨rfl, rfl⟩) g7.2.2.1 hk2
    have e1 : vu ar 1 (ar 1) = ar := funext (fun j => by unfold vu; split <;> simp_all)
    have e2 : vu cp 1 (cp 1) = cp := funext (fun j => by unfold vu; split <;> simp_all)
    rw [e1, e2] at H10
    refine xw_zret dd_V_spendWrite_20 rfl rfl ⟨rfl, rfl, H10, fun b e hb hn => ?_⟩
    refine (u2 b (fun w => ?_) ?_).trans (hk b e hb (fun q => hn (Or.inl q)))
    · subst w
      rw [hk _ e hb (fun q => hn (Or.inl q))] at c3
      cases c3
      exact hn (Or.inr (Or.inl ⟨rfl, rfl⟩))
    · by_cases w : cp 1 = 0
      · exact Or.inr w
      · refine Or.inl (fun w2 => hn (Or.inr (Or.inr ⟨?_, w2, w⟩)))
        subst w2
        rw [hk _ e hb (fun q => hn (Or.inl q))] at c4
        cases c4
        rfl
end VP
