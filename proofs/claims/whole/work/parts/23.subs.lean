/-! Subscriber (by program: wip/whole/mk23.py) -/
section NA
variable {G : xa_G} {M : xa_M} {dp kc ks pc : Nat} {L : List (Option Value)} {st : List Value} {h : xa_H} {sz : Nat} {Q : Outcome → xa_H → Nat → Prop}
theorem xw_inewA {N : Nat} {n : Int32} (hd : decode M.2.1 pc = .ok (.newarray .int, 2)) (hn : ¬ n < 0) (hN : n.toNatClampNeg = N) (hby : N * 4 ≤ 536870912) (kk : ∀ h1 : xa_H, h1 sz = some (.inl (0, (N, .inl (fun _ => 0)))) → (∀ b, b ≠ sz → h1 b = h b) → xa_W G M dp kc ks (pc + 2) L (.ref sz :: st) h1 (sz + 1) Q) : xa_W G M dp (kc + 1) (ks + N) pc L (.int n :: st) h sz Q :=
  xw_newa (atype := .int) (ty := .int) (t := 0) (a0 := (N, .inl (fun _ => 0))) rfl (fun _ q => by cases q) rfl ar_int hd (fun _ => rfl) hn hN hby (kk _ (xa_up_eq _ _ _) (fun _ hb => xa_up_ne _ _ hb))
end NA
/-- what sort of cell it is -/
def xt (e : xa_E) : Nat := match e with
  | .inr (c, _) => c
  | .inl (t, _) => 100 + t
theorem ft_at.kp {G : xa_G} {h h1 : xa_H} {t a ea cap : Nat} {most : Int32} {xs : List Nat} {es : List sv_E} (H : ft_at G h t a ea cap most xs es) (hk : ∀ b e, h b = some e → ((b = t ∧ xt e = 2) ∨ (b = a ∧ xt e = 8) ∨ (b = ea ∧ xt e = 103) ∨ xt e = 1) → h1 b = some e) : ft_at G h1 t a ea cap most xs es := by
  obtain ⟨hT, ⟨k1, k2, g, ⟨⟨mc, k3⟩, k4, k5, k6⟩, k7⟩, hE⟩ := H
  exact ⟨hk _ _ hT (Or.inl ⟨rfl, rfl⟩), ⟨k1, k2, g, ⟨⟨mc, hk _ _ k3 (Or.inr (Or.inl ⟨rfl, rfl⟩))⟩, hk _ _ k4 (Or.inr (Or.inr (Or.inl ⟨rfl, rfl⟩))), k5, k6⟩, k7⟩, hE.keep (fun y e hy => (hk _ _ hy (Or.inr (Or.inr (Or.inr rfl)))).trans hy.symm)⟩
theorem gh_at.kp {G : xa_G} {h h1 : xa_H} {t a ea cap : Nat} {gs : List (Int32 × Int32)} (H : gh_at G h t a ea cap gs) (hk : ∀ b e, h b = some e → ((b = t ∧ xt e = 6) ∨ (b = a ∧ xt e = 8) ∨ (b = ea ∧ xt e = 103) ∨ xt e = 5) → h1 b = some e) : gh_at G h1 t a ea cap gs := by
  obtain ⟨xs, hT, ⟨k1, k2, g, ⟨⟨mc, k3⟩, k4, k5, k6⟩, k7⟩, hE, hnd, hB⟩ := H
  exact ⟨xs, hk _ _ hT (Or.inl ⟨rfl, rfl⟩), ⟨k1, k2, g, ⟨⟨mc, hk _ _ k3 (Or.inr (Or.inl ⟨rfl, rfl⟩))⟩, hk _ _ k4 (Or.inr (Or.inr (Or.inl ⟨rfl, rfl⟩))), k5, k6⟩, k7⟩, hE.keep (fun y e hy => (hk _ _ hy (Or.inr (Or.inr (Or.inr rfl)))).trans hy.symm), hnd, hB⟩
theorem rg_at.kp {h h1 : xa_H} {r c hd : Nat} {f : Nat → Option Nat} (H : rg_at h r c hd f) (hk : ∀ b e, h b = some e → ((b = r ∧ xt e = 4) ∨ (b = c ∧ xt e = 104)) → h1 b = some e) : rg_at h1 r c hd f := ⟨hk _ _ H.1 (Or.inl ⟨rfl, rfl⟩), hk _ _ H.2.1 (Or.inr ⟨rfl, rfl⟩), H.2.2⟩
theorem rn_at.kp {h h1 : xa_H} {hd : Nat} {f : Nat → Option Nat} {rg : Nat → Nat → Int32} (H : rn_at h f hd rg) (hk : ∀ b e, h b = some e → (xt e = 3 ∨ xt e = 1) → h1 b = some e) : rn_at h1 f hd rg := by
  intro s h2 h3
  obtain ⟨y, ey, e, r, w1, w2, w3, w4⟩ := H s h2 h3
  exact ⟨y, ey, e, r, w1, hk _ _ w2 (Or.inl rfl), hk _ _ w3 (Or.inr rfl), w4⟩
/-- cells of different sorts are different cells -/
theorem xt_ne {h : xa_H} {a b : Nat} {e e' : xa_E} (ha : h a = some e) (hb : h b = some e') (hn : xt e ≠ xt e') : a ≠ b := by
  intro q
  subst q
  rw [ha] at hb
  cases hb
  exact hn rfl
/-! what a subscriber is: copy, its capacity, page, cursor, mask, listing, the greatest number shown -/
abbrev sv_S : Type := List sv_E × Nat × (Nat → Int32) × Nat × Int32 × Bool × Int32
abbrev su_cp (S : sv_S) : List sv_E := S.1
abbrev su_cap (S : sv_S) : Nat := S.2.1
abbrev su_pg (S : sv_S) : Nat → Int32 := S.2.2.1
abbrev su_cur (S : sv_S) : Nat := S.2.2.2.1
abbrev su_mask (S : sv_S) : Int32 := S.2.2.2.2.1
abbrev su_ls (S : sv_S) : Bool := S.2.2.2.2.2.1
abbrev su_gr (S : sv_S) : Int32 := S.2.2.2.2.2.2
def sv_scan (rg : Nat → Nat → Int32) (mask : Int32) : Nat → Nat → Option Nat
  | 0, _ => none
  | k + 1, s => if rg (s % 16) 5 &&& mask = 0 then sv_scan rg mask k (s + 1) else some s
/-- reading: the answer, the new cursor -/
def sv_read (hd : Nat) (rg : Nat → Nat → Int32) (cur : Nat) (mask : Int32) : Int32 × Nat := if cur < rg_tl hd then (-1, cur) else match sv_scan rg mask (hd - cur) cur with
  | some s => (nI s, s + 1)
  | none => (0, hd)
def sv_pgs (fs : List sv_E) : Nat → Nat → (Nat → Int32) → Int32 → Nat → (Nat → Int32) × Int32 × Nat
  | 0, _, pg, g, n => (pg, g, n)
  | k + 1, i, pg, g, n => match fs.find? (fun e => decide (g < e.1)) with
    | none => sv_pgs fs k (i + 1) (upd pg i (-1)) g n
    | some e => sv_pgs fs k (i + 1) (upd pg i e.1) e.1 (n + 1)
def sv_pag (fs : List sv_E) (S : sv_S) : (Nat → Int32) × Int32 × Nat := sv_pgs fs 4 0 (su_pg S) (su_gr S) 0
/-- a page is shown -/
def sv_page (fs : List sv_E) (S : sv_S) : sv_S := (su_cp S, su_cap S, (sv_pag fs S).1, su_cur S, su_mask S, decide ((sv_pag fs S).2.2 = 4), (sv_pag fs S).2.1)
def sv_lst (hd : Nat) (S : sv_S) : sv_S := (su_cp S, su_cap S, su_pg S, hd, su_mask S, true, 0)
def sv_sub (hd : Nat) (mask : Int32) (S : sv_S) : sv_S := (su_cp S, su_cap S, (fun i => if i < 4 then -1 else su_pg S i), hd, mask, false, su_gr S)
def sv_setC (c : Nat) (S : sv_S) : sv_S := (su_cp S, su_cap S, su_pg S, c, su_mask S, su_ls S, su_gr S)
/-- copies with their capacity -/
def sv_putc (C : List sv_E × Nat) (e : sv_E) : List sv_E × Nat := (sv_put C.1 512 e, if sv_gro C.1 512 C.2 e = true then al_cap C.2 else C.2)
def sv_now (fs : List sv_E) (C : List sv_E × Nat) (f : Int32) : List sv_E × Nat := match sv_find fs f with
  | none => C
  | some e => sv_putc C e
def sv_cps (fs : List sv_E) (pg : Nat → Int32) : Nat → Nat → List sv_E × Nat → List sv_E × Nat
  | 0, _, C => C
  | k + 1, i, C => sv_cps fs pg k (i + 1) (sv_now fs C (pg i))
def sv_del (C : List sv_E × Nat) (f : Int32) : List sv_E × Nat := (C.1.eraseP (fun e => decide (e.1 = f)), C.2)
/-- copy by a page -/
def sv_cpC (fs : List sv_E) (S : sv_S) : List sv_E × Nat := sv_cps fs (su_pg (sv_page fs S)) 4 0 ((su_cp S).filter (sv_out (su_gr S) (if su_ls (sv_page fs S) = true then su_gr (sv_page fs S) else 2147483647)), su_cap S)
def sv_setCp (C : List sv_E × Nat) (S : sv_S) : sv_S := (C.1, C.2, su_pg S, su_cur S, su_mask S, su_ls S, su_gr S)
def sv_cpg (fs : List sv_E) (S : sv_S) : sv_S := sv_setCp (sv_cpC fs S) (sv_page fs S)
/-- copy by a note -/
def sv_cnt (fs : List sv_E) (C : List sv_E × Nat) (e : sv_E) (r : Int32) : List sv_E × Nat := if r &&& 64 = 0 then if r &&& 32 = 0 then sv_putc C e else sv_del C e.1 else sv_now fs (sv_del C e.1) e.1
def sv_nt (rg : Nat → Nat → Int32) (s : Nat) : sv_E := (rg (s % 16) 0, rg (s % 16) 1, rg (s % 16) 2, rg (s % 16) 3, rg (s % 16) 4)
/-- an action of the follower -/
def sv_act (hd : Nat) (rg : Nat → Nat → Int32) (fs : List sv_E) (S : sv_S) : Bool × sv_S := if su_ls S = true then (true, sv_cpg fs S) else if su_cur S < rg_tl hd then (true, sv_lst hd S) else match sv_scan rg 127 (hd - su_cur S) (su_cur S) with
  | some s => (true, sv_setCp (sv_cnt fs (su_cp S, su_cap S) (sv_nt rg s) (rg (s % 16) 5)) (sv_setC (s + 1) S))
  | none => (false, sv_setC hd S)
theorem sv_capC (C : List sv_E × Nat) (e : sv_E) : C.2 ≤ (sv_putc C e).2 := by
  unfold sv_putc
  simp only
  split
  · unfold al_cap; split <;> omega
  · omega
theorem sv_pay (C : List sv_E × Nat) (e : sv_E) : (if sv_gro C.1 512 C.2 e = true then al_cap C.2 else 0) ≤ 4 * ((sv_putc C e).2 - C.2) := by
  unfold sv_putc
  simp only
  split
  · unfold al_cap; split <;> omega
  · omega
theorem sv_cap766 {C : List sv_E × Nat} (e : sv_E) (h : C.2 ≤ 766) : (sv_putc C e).2 ≤ 766 := by
  unfold sv_putc
  simp only
  split
  · rename_i q
    unfold sv_gro at q
    simp at q
    unfold al_cap
    split <;> omega
  · omega
theorem sv_nowC (fs : List sv_E) (C : List sv_E × Nat) (f : Int32) : C.2 ≤ (sv_now fs C f).2 := by
  unfold sv_now
  split
  · omega
  · exact sv_capC ..
theorem sv_now766 (fs : List sv_E) {C : List sv_E × Nat} (f : Int32) (h : C.2 ≤ 766) : (sv_now fs C f).2 ≤ 766 := by
  unfold sv_now
  split
  · omega
  · exact sv_cap766 _ h
theorem sv_cpsC (fs : List sv_E) (pg : Nat → Int32) : ∀ (k i : Nat) (C : List sv_E × Nat), C.2 ≤ (sv_cps fs pg k i C).2
  | 0, _, _ => Nat.le_refl _
  | k + 1, i, C => Nat.le_trans (sv_nowC fs C (pg i)) (sv_cpsC fs pg k (i + 1) _)
theorem sv_cps766 (fs : List sv_E) (pg : Nat → Int32) : ∀ (k i : Nat) (C : List sv_E × Nat), C.2 ≤ 766 → (sv_cps fs pg k i C).2 ≤ 766
  | 0, _, _, h => h
  | k + 1, i, C, h => sv_cps766 fs pg k (i + 1) _ (sv_now766 fs (pg i) h)
theorem sv_cntC (fs : List sv_E) (C : List sv_E × Nat) (e : sv_E) (r : Int32) : C.2 ≤ (sv_cnt fs C e r).2 := by
  unfold sv_cnt
  split
  · split
    · exact sv_capC ..
    · exact Nat.le_refl _
  · exact sv_nowC fs (sv_del C e.1) e.1
theorem sv_cnt766 (fs : List sv_E) {C : List sv_E × Nat} (e : sv_E) (r : Int32) (h : C.2 ≤ 766) : (sv_cnt fs C e r).2 ≤ 766 := by
  unfold sv_cnt
  split
  · split
    · exact sv_cap766 _ h
    · exact h
  · exact sv_now766 fs e.1 (show (sv_del C e.1).2 ≤ 766 from h)
theorem sv_actC (hd : Nat) (rg : Nat → Nat → Int32) (fs : List sv_E) (S : sv_S) : su_cap S ≤ su_cap (sv_act hd rg fs S).2 := by
  unfold sv_act
  split
  · exact sv_cpsC fs (su_pg (sv_page fs S)) 4 0 ((su_cp S).filter (sv_out (su_gr S) (if su_ls (sv_page fs S) = true then su_gr (sv_page fs S) else 2147483647)), su_cap S)
  · split
    · exact Nat.le_refl _
    · split
      · exact sv_cntC fs (su_cp S, su_cap S) _ _
      · exact Nat.le_refl _
theorem sv_act766 (hd : Nat) (rg : Nat → Nat → Int32) (fs : List sv_E) {S : sv_S} (h : su_cap S ≤ 766) : su_cap (sv_act hd rg fs S).2 ≤ 766 := by
  unfold sv_act
  split
  · exact sv_cps766 fs _ 4 0 _ h
  · split
    · exact h
    · split
      · exact sv_cnt766 fs (C := (su_cp S, su_cap S)) _ _ h
      · exact h
abbrev su_c (t p cur : Nat) (mask : Int32) (ls : Bool) (gr : Int32) : xa_E := .inr (7, [.ref t, .ref p, .int (nI cur), .int mask, .int (if ls = true then 1 else 0), .int gr])
abbrev pg_c (f : Nat → Int32) : xa_E := .inl (0, (4, .inl f))
/-- a subscriber at o, its copy's table at t, list at a, array at ea; the page at p -/
def su_at (G : xa_G) (h : xa_H) (o t a ea p : Nat) (S : sv_S) : Prop := h o = some (su_c t p (su_cur S) (su_mask S) (su_ls S) (su_gr S)) ∧ (∃ xs, ft_at G h t a ea (su_cap S) (nI 512) xs (su_cp S)) ∧ h p = some (pg_c (su_pg S)) ∧ G.2.2.1 ≤ o ∧ G.2.2.1 ≤ p
abbrev ft_k (a ea cap : Nat) : Nat → xa_E → Prop := fun b _ => b ≠ a ∧ (b ≠ ea ∨ cap = 0)
theorem ft_k_step {h h1 h2 : xa_H} {sz a ea cap ea1 cap1 : Nat} (hd : xd_h h sz) (H1 : xk h h1 (ft_k a ea cap)) (he : er sz ea cap ea1 cap1) (H2 : xk h1 h2 (ft_k a ea1 cap1)) : xk h h2 (ft_k a ea cap) := by
  intro b e hb hp
  refine H2 b e (H1 b e hb hp) ⟨hp.1, ?_⟩
  rcases he with ⟨rfl, rfl⟩ | q
  · exact hp.2
  · have := hd _ _ hb
    exact Or.inl (by omega)
section SB
variable {G : xa_G} {h : xa_H} {sz : Nat}
theorem ct_S_init {a : Nat} {f : Nat → Option Nat} (ha : h a = some (.inr (7, [.null, .null, .int 0, .int 0, .int 0, .int 0]))) (hB : G.2.2.1 ≤ a) (hu : h G.2.2.2.1 = some (xr_q 3 0 f)) : xa_T G mm_S_init 5 3 9 [.ref a] h sz (fun o h' z => o = .returned none ∧ z = sz + 3 ∧ su_at G h' a sz (sz + 1) G.2.2.2.1 (sz + 2) ([], 0, (fun i => if i < 4 then -1 else 0), 1, 127, false, 0) ∧ ∀ b, b ≠ a → b < sz → h' b = h b) := by
  refine xt_o ok_S_init rfl rfl ?_
  refine xw_dom (fun hd hBz => ?_)
  have hla := hd _ _ ha
  have hlu := hd _ _ hu
  refine xw_aloadR_n dd_S_init_0 rfl ?_
  refine xw_objInit ol_S_3 wo_in wo_co (by decide) (by decide) dd_S_init_1 ?_
  refine xw_aloadR_n dd_S_init_4 rfl ?_
  refine xw_less (kc' := 2 + 1) (ks' := 7 + 2) (by decide) (by decide) ?_
  refine xw_newA nw_S_9 dd_S_init_5 (fun h1 n1 f1 => ?_)
  refine xw_dup dd_S_init_8 rfl ?_
  refine xw_sipush 512 dd_S_init_9 (by decide) ?_
  refine xw_less (kc' := 1 + 1) (ks' := 4 + 3) (by decide) (by decide) ?_
  refine xw_cl (ct_F_init n1 hBz ((f1 _ (by omega)).trans hu)) iv_S_init_12 ok_F_init rfl rfl rfl ?_ (fun _ _ _ q => by cases q.1)
  rintro v h2 z1 ⟨hv, rfl, q1, q2⟩
  cases hv
  have hua : a ≠ G.2.2.2.1 := fun e => by
    rw [← e, ha] at hu
    cases hu
  refine xw_putA fl_S_14 fz_S_14 (by decide) dd_S_init_15 ((q2 a (by omega) (by omega)).trans ((f1 a (by omega)).trans ha)) rfl hB rfl rfl (fun h3 n3 f3 => ?_)
  refine xw_aloadR_n dd_S_init_18 rfl ?_
  refine xw_iconst 4 dd_S_init_19 (by decide) ?_
  refine xw_less (kc' := 0 + 1) (ks' := 0 + 4) (by decide) (by decide) ?_
  refine xw_inewA (N := 4) dd_S_init_20 (by decide) (by decide) (by decide) (fun h4 n4 f4 => ?_)
  refine xw_dup dd_S_init_22 rfl ?_
  refine xw_iconst 0 dd_S_init_23 (by decide) ?_
  refine xw_iconst (-1) dd_S_init_24 (by decide) ?_
  refine xw_iastA dd_S_init_25 n4 (vp_in_nI (n := 0) (by decide) (by decide)) (by omega) (fun h5 n5 f5 => ?_)
  refine xw_dup dd_S_init_26 rfl ?_
  refine xw_iconst 1 dd_S_init_27 (by decide) ?_
  refine xw_iconst (-1) dd_S_init_28 (by decide) ?_
  refine xw_iastA dd_S_init_29 n5 (vp_in_nI (n := 1) (by decide) (by decide)) (by omega) (fun h6 n6 f6 => ?_)
  refine xw_dup dd_S_init_30 rfl ?_
  refine xw_iconst 2 dd_S_init_31 (by decide) ?_
  refine xw_iconst (-1) dd_S_init_32 (by decide) ?_
  refine xw_iastA dd_S_init_33 n6 (vp_in_nI (n := 2) (by decide) (by decide)) (by omega) (fun h7 n7 f7 => ?_)
  refine xw_dup dd_S_init_34 rfl ?_
  refine xw_iconst 3 dd_S_init_35 (by decide) ?_
  refine xw_iconst (-1) dd_S_init_36 (by decide) ?_
  refine xw_iastA dd_S_init_37 n7 (vp_in_nI (n := 3) (by decide) (by decide)) (by omega) (fun h8 n8 f8 => ?_)
  have g8 : ∀ b, b ≠ sz + 2 → h8 b = h3 b := fun b hb => (f8 b hb).trans ((f7 b hb).trans ((f6 b hb).trans ((f5 b hb).trans (f4 b hb))))
  refine xw_putA fl_S_20 fz_S_20 (by decide) dd_S_init_38 ((g8 a (by omega)).trans n3) rfl hB rfl rfl (fun h9 n9 f9 => ?_)
  refine xw_aloadR_n dd_S_init_41 rfl ?_
  refine xw_iconst 1 dd_S_init_42 (by decide) ?_
  refine xw_putA fl_S_24 fz_S_24 (by decide) dd_S_init_43 n9 rfl hB rfl rfl (fun h10 n10 f10 => ?_)
  refine xw_aloadR_n dd_S_init_46 rfl ?_
  refine xw_bipush 127 dd_S_init_47 (by decide) ?_
  refine xw_putA fl_S_28 fz_S_28 (by decide) dd_S_init_49 n10 rfl hB rfl rfl (fun h11 n11 f11 => ?_)
  have g11 : ∀ b, b ≠ a → h11 b = h8 b := fun b hb => (f11 b hb).trans ((f10 b hb).trans (f9 b hb))
  have q1' : ft_at G h11 sz (sz + 1) G.2.2.2.1 0 512 [] [] := by
    obtain ⟨w0, ⟨w1, w2, g, ⟨⟨mc, w3⟩, w4, w5, w6⟩, w7⟩, -⟩ := q1
    have w3' := (g11 (sz + 1) (by omega)).trans ((g8 (sz + 1) (by omega)).trans ((f3 (sz + 1) (by omega)).trans w3))
    have w4' := (g11 G.2.2.2.1 (fun q => hua q.symm)).trans ((g8 G.2.2.2.1 (by omega)).trans ((f3 G.2.2.2.1 (fun q => hua q.symm)).trans w4))
    exact ⟨(g11 sz (by omega)).trans ((g8 sz (by omega)).trans ((f3 sz (by omega)).trans w0)), ⟨w1, w2, g, ⟨⟨mc, w3'⟩, w4', w5, w6⟩, w7⟩, rfl⟩
  refine xw_vret dd_S_init_52 rfl ⟨rfl, rfl, ⟨n11, ⟨[], q1'⟩, ?_, hB, by omega⟩, fun b b1 b2 => ?_⟩
  · rw [g11 (sz + 2) (by omega), n8]
    refine congrArg (fun f => some (pg_c f)) (funext (fun i => ?_))
    show upd (upd (upd (upd (fun _ => 0) 0 (-1)) 1 (-1)) 2 (-1)) 3 (-1) i = if i < 4 then -1 else 0
    unfold upd
    by_cases e3 : i = 3
    · subst e3; rfl
    by_cases e2 : i = 2
    · subst e2; rfl
    by_cases e1 : i = 1
    · subst e1; rfl
    by_cases e0 : i = 0
    · subst e0; rfl
    rw [if_neg e3, if_neg e2, if_neg e1, if_neg e0, if_neg (by omega)]
  · exact (g11 b b1).trans ((g8 b (by omega)).trans ((f3 b b1).trans ((q2 b (by omega) (by omega)).trans (f1 b (by omega)))))
theorem ct_S_beginAnew {o t a ea p r c hd : Nat} {S : sv_S} {f : Nat → Option Nat} {mask : Int32} (H : su_at G h o t a ea p S) (hR : rg_at h r c hd f) : xa_T G mm_S_beginAnew 1 0 0 [.ref o, .int mask, .ref r] h sz (fun o' h' z => o' = .returned none ∧ z = sz ∧ su_at G h' o t a ea p (sv_sub hd mask S) ∧ ∀ b, b ≠ o → b ≠ p → h' b = h b) := by
  obtain ⟨hO, ⟨xs, hF⟩, hP, hBo, hBp⟩ := H
  have hop : o ≠ p := xt_ne hO hP (by simp [xt])
  have hkp : ∀ h' : xa_H, (∀ b, b ≠ o → b ≠ p → h' b = h b) → ft_at G h' t a ea (su_cap S) (nI 512) xs (su_cp S) := fun h' hk => hF.kp (fun b e hb hc => by
    have e7 : xt e ≠ 7 ∧ xt e ≠ 100 := by rcases hc with ⟨-, q⟩ | ⟨-, q⟩ | ⟨-, q⟩ | q <;> omega
    rw [hk b (xt_ne hb hO (by simp [xt] at *; omega)) (xt_ne hb hP (by simp [xt] at *; omega))]
    exact hb)
  have loop : ∀ (k i : Nat) (h1 : xa_H) (pg : Nat → Int32), i + k = 4 → h1 o = some (su_c t p hd mask false (su_gr S)) → h1 p = some (pg_c pg) → (∀ j, pg j = if j < i then -1 else su_pg S j) → (∀ b, b ≠ o → b ≠ p → h1 b = h b) → xa_W G mm_S_beginAnew 1 0 0 20 [some (.ref o), some (.int mask), some (.ref r), some (.int (nI i))] [] h1 sz (fun o' h' z => o' = .returned none ∧ z = sz ∧ su_at G h' o t a ea p (sv_sub hd mask S) ∧ ∀ b, b ≠ o → b ≠ p → h' b = h b) := by
    intro k
    induction k with
    | zero =>
      intro i h1 pg hk k1 k2 k3 k4
      have : i = 4 := by omega
      subst this
      refine xw_iload_n dd_S_beginAnew_20 rfl ?_
      refine xw_iconst 4 dd_S_beginAnew_21 (by decide) ?_
      refine xw_icmp_ge 38 dd_S_beginAnew_22 (by decide) (fun hc => ?_) (fun hc => absurd (by decide) hc)
      refine xw_vret dd_S_beginAnew_38 rfl ⟨rfl, rfl, ⟨k1, ⟨xs, hkp h1 k4⟩, ?_, hBo, hBp⟩, k4⟩
      rw [k2]
      exact congrArg (fun f => some (pg_c f)) (funext k3)
    | succ k ih =>
      intro i h1 pg hk k1 k2 k3 k4
      refine xw_iload_n dd_S_beginAnew_20 rfl ?_
      refine xw_iconst 4 dd_S_beginAnew_21 (by decide) ?_
      refine xw_icmp_ge 38 dd_S_beginAnew_22 (by decide) (fun hc => absurd hc (nI_ge (a := i) (b := 4) (by omega) (by decide))) (fun hc => ?_)
      refine xw_aloadR_n dd_S_beginAnew_25 rfl ?_
      refine xw_get fl_S_20 dd_S_beginAnew_26 k1 rfl ?_
      refine xw_iload_n dd_S_beginAnew_29 rfl ?_
      refine xw_iconst (-1) dd_S_beginAnew_30 (by decide) ?_
      refine xw_iastA dd_S_beginAnew_31 k2 (vp_in_nI (by omega) (by decide)) hBp (fun h5 n5 f5 => ?_)
      rw [nI_clamp (by omega)] at n5
      refine xw_iinc dd_S_beginAnew_32 rfl (nI_1 i) (by decide) ?_
      refine xw_goto 20 dd_S_beginAnew_35 (by decide) ?_
      refine ih (i + 1) h5 _ (by omega) ((f5 o hop).trans k1) n5 (fun j => ?_) (fun b b1 b2 => (f5 b b2).trans (k4 b b1 b2))
      by_cases e : j = i
      · subst e
        rw [pk_us, if_pos (by omega)]
      · rw [pk_un e, k3]
        by_cases e2 : j < i
        · rw [if_pos e2, if_pos (by omega)]
        · rw [if_neg e2, if_neg (by omega)]
  refine xt_o ok_S_beginAnew rfl rfl ?_
  refine xw_aloadR_n dd_S_beginAnew_0 rfl ?_
  refine xw_iload_n dd_S_beginAnew_1 rfl ?_
  refine xw_putA fl_S_28 fz_S_28 (by decide) dd_S_beginAnew_2 hO rfl hBo rfl rfl (fun h1 n1 f1 => ?_)
  refine xw_aloadR_n dd_S_beginAnew_5 rfl ?_
  refine xw_aloadR_n dd_S_beginAnew_6 rfl ?_
  have hro : r ≠ o := xt_ne hR.1 hO (by simp [xt])
  have hco : c ≠ o := xt_ne hR.2.1 hO (by simp [xt])
  have hR1 : rg_at h1 r c hd f := ⟨(f1 r hro).trans hR.1, (f1 c hco).trans hR.2.1, hR.2.2⟩
  refine xw_cl0 (ct_R_nextSerial hR1) (iv_S_beginAnew_7 hR1.1) ok_R_nextSerial rfl rfl rfl ?_ (fun _ _ _ q => by cases q.1)
  rintro v h1 z1 ⟨hv, rfl, rfl⟩
  cases hv
  refine xw_putA fl_S_24 fz_S_24 (by decide) dd_S_beginAnew_10 n1 rfl hBo rfl rfl (fun h2 n2 f2 => ?_)
  refine xw_aloadR_n dd_S_beginAnew_13 rfl ?_
  refine xw_iconst 0 dd_S_beginAnew_14 (by decide) ?_
  refine xw_putA fl_S_37 fz_S_37 (by decide) dd_S_beginAnew_15 n2 rfl hBo rfl rfl (fun h3 n3 f3 => ?_)
  refine xw_iconst 0 dd_S_beginAnew_18 (by decide) ?_
  refine xw_istore_n dd_S_beginAnew_19 (by decide) ?_
  exact loop 4 0 h3 (su_pg S) rfl n3 ((f3 p (fun q => hop q.symm)).trans ((f2 p (fun q => hop q.symm)).trans ((f1 p (fun q => hop q.symm)).trans hP))) (fun j => by rw [if_neg (by omega)]) (fun b b1 _ => (f3 b b1).trans ((f2 b b1).trans (f1 b b1)))
theorem ct_S_beginListing {o t a ea p r c hd : Nat} {S : sv_S} {f : Nat → Option Nat} (H : su_at G h o t a ea p S) (hR : rg_at h r c hd f) : xa_T G mm_S_beginListing 1 0 0 [.ref o, .ref r] h sz (fun o' h' z => o' = .returned none ∧ z = sz ∧ su_at G h' o t a ea p (sv_lst hd S) ∧ ∀ b, b ≠ o → h' b = h b) := by
  obtain ⟨hO, ⟨xs, hF⟩, hP, hBo, hBp⟩ := H
  have hop : o ≠ p := xt_ne hO hP (by simp [xt])
  refine xt_o ok_S_beginListing rfl rfl ?_
  refine xw_aloadR_n dd_S_beginListing_0 rfl ?_
  refine xw_iconst 1 dd_S_beginListing_1 (by decide) ?_
  refine xw_putA fl_S_37 fz_S_37 (by decide) dd_S_beginListing_2 hO rfl hBo rfl rfl (fun h1 n1 f1 => ?_)
  refine xw_aloadR_n dd_S_beginListing_5 rfl ?_
  refine xw_iconst 0 dd_S_beginListing_6 (by decide) ?_
  refine xw_putA fl_S_54 fz_S_54 (by decide) dd_S_beginListing_7 n1 rfl hBo rfl rfl (fun h2 n2 f2 => ?_)
  refine xw_aloadR_n dd_S_beginListing_10 rfl ?_
  refine xw_aloadR_n dd_S_beginListing_11 rfl ?_
  have hro : r ≠ o := xt_ne hR.1 hO (by simp [xt])
  have hco : c ≠ o := xt_ne hR.2.1 hO (by simp [xt])
  have hR1 : rg_at h2 r c hd f := ⟨(f2 r hro).trans ((f1 r hro).trans hR.1), (f2 c hco).trans ((f1 c hco).trans hR.2.1), hR.2.2⟩
  refine xw_cl0 (ct_R_nextSerial hR1) (iv_S_beginListing_12 hR1.1) ok_R_nextSerial rfl rfl rfl ?_ (fun _ _ _ q => by cases q.1)
  rintro v h2 z1 ⟨hv, rfl, rfl⟩
  cases hv
  refine xw_putA fl_S_24 fz_S_24 (by decide) dd_S_beginListing_15 n2 rfl hBo rfl rfl (fun h3 n3 f3 => ?_)
  have g3 : ∀ b, b ≠ o → h3 b = h b := fun b b1 => (f3 b b1).trans ((f2 b b1).trans (f1 b b1))
  refine xw_vret dd_S_beginListing_18 rfl ⟨rfl, rfl, ⟨n3, ⟨xs, hF.kp (fun b e hb hc => ?_)⟩, (g3 p (fun q => hop q.symm)).trans hP, hBo, hBp⟩, g3⟩
  have e7 : xt e ≠ 7 := by rcases hc with ⟨-, q⟩ | ⟨-, q⟩ | ⟨-, q⟩ | q <;> omega
  rw [g3 b (xt_ne hb hO e7)]
  exact hb
theorem ct_S_takeNote {o t p r c hd cur : Nat} {mk gr : Int32} {ls : Bool} {f : Nat → Option Nat} {rg : Nat → Nat → Int32} {mask : Int32} (hO : h o = some (su_c t p cur mk ls gr)) (hBo : G.2.2.1 ≤ o) (hcur : cur ≤ hd) (hR : rg_at h r c hd f) (hN : rn_at h f hd rg) : xa_T G mm_S_takeNote 2 0 0 [.ref o, .ref r, .int mask] h sz (fun o' h' z => o' = .returned (some (.int (sv_read hd rg cur mask).1)) ∧ z = sz ∧ h' o = some (su_c t p (sv_read hd rg cur mask).2 mk ls gr) ∧ ∀ b, b ≠ o → h' b = h b) := by
  have hlim := hR.2.2
  have htl : rg_tl hd ≤ hd := by
    unfold rg_tl
    split <;> omega
  have loop : ∀ (k s : Nat) (ov : Option Value), s + k = hd → rg_tl hd ≤ s → ¬ cur < rg_tl hd → sv_scan rg mask k s = sv_scan rg mask (hd - cur) cur → xa_W G mm_S_takeNote 2 0 0 18 [some (.ref o), some (.ref r), some (.int mask), some (.int (nI s)), ov] [] h sz (fun o' h' z => o' = .returned (some (.int (sv_read hd rg cur mask).1)) ∧ z = sz ∧ h' o = some (su_c t p (sv_read hd rg cur mask).2 mk ls gr) ∧ ∀ b, b ≠ o → h' b = h b) := by
    intro k
    induction k with
    | zero =>
      intro s ov hk hs h0 hq
      have hrd : sv_read hd rg cur mask = (0, hd) := by
        unfold sv_read
        rw [if_neg h0, ← hq]
        rfl
      refine xw_iload_n dd_S_takeNote_18 rfl ?_
      refine xw_aloadR_n dd_S_takeNote_19 rfl ?_
      refine xw_cl0 (ct_R_nextSerial hR) (iv_S_takeNote_20 hR.1) ok_R_nextSerial rfl rfl rfl ?_ (fun _ _ _ q => by cases q.1)
      rintro v h1 z1 ⟨hv, rfl, rfl⟩
      cases hv
      refine xw_icmp_ge 62 dd_S_takeNote_23 (by decide) (fun hc => ?_) (fun hc => absurd (nI_le (by omega) (by omega)) hc)
      refine xw_aloadR_n dd_S_takeNote_62 rfl ?_
      refine xw_aloadR_n dd_S_takeNote_63 rfl ?_
      refine xw_cl0 (ct_R_nextSerial hR) (iv_S_takeNote_64 hR.1) ok_R_nextSerial rfl rfl rfl ?_ (fun _ _ _ q => by cases q.1)
      rintro v h1 z1 ⟨hv, rfl, rfl⟩
      cases hv
      refine xw_putA fl_S_24 fz_S_24 (by decide) dd_S_takeNote_67 hO rfl hBo rfl rfl (fun h2 n2 f2 => ?_)
      refine xw_iconst 0 dd_S_takeNote_70 (by decide) ?_
      exact xw_iret dd_S_takeNote_71 rfl ⟨by rw [hrd], rfl, by rw [hrd]; exact n2, f2⟩
    | succ k ih =>
      intro s ov hk hs h0 hq
      obtain ⟨y, ey, e, rr, w1, w2, w3, w4⟩ := hN s hs (by omega)
      refine xw_iload_n dd_S_takeNote_18 rfl ?_
      refine xw_aloadR_n dd_S_takeNote_19 rfl ?_
      refine xw_cl0 (ct_R_nextSerial hR) (iv_S_takeNote_20 hR.1) ok_R_nextSerial rfl rfl rfl ?_ (fun _ _ _ q => by cases q.1)
      rintro v h1 z1 ⟨hv, rfl, rfl⟩
      cases hv
      refine xw_icmp_ge 62 dd_S_takeNote_23 (by decide) (fun hc => absurd hc (nI_ge (by omega) (by omega))) (fun hc => ?_)
      refine xw_aloadR_n dd_S_takeNote_26 rfl ?_
      refine xw_iload_n dd_S_takeNote_27 rfl ?_
      refine xw_cl0 (ct_R_noteAt hR) (iv_S_takeNote_28 hR.1) ok_R_noteAt rfl rfl rfl ?_ (fun _ _ _ q => by cases q.1)
      rintro v h1 z1 ⟨hv, rfl, rfl⟩
      cases hv
      rw [if_pos ⟨nI_le hs (by omega), nI_lt (by omega) (by omega)⟩, nI_clamp (by omega), w1]
      refine xw_astore (r := some y) dd_S_takeNote_31 (by decide) ?_
      refine xw_aloadR dd_S_takeNote_33 rfl ?_
      refine xw_ifnullR dd_S_takeNote_35 ?_
      refine xw_aloadR dd_S_takeNote_38 rfl ?_
      refine xw_iload_n dd_S_takeNote_40 rfl ?_
      refine xw_cl0 (ct_N_hasAny w2) (iv_S_takeNote_41 w2) ok_N_hasAny rfl rfl rfl ?_ (fun _ _ _ q => by cases q.1)
      rintro v h1 z1 ⟨hv, rfl, rfl⟩
      cases hv
      have e5 : rg (s % 16) 5 = rr := by rw [w4]; rfl
      by_cases hz : rr &&& mask = 0
      · rw [if_pos hz]
        refine xw_if_eq 56 dd_S_takeNote_44 (by decide) (fun hc => ?_) (fun hc => absurd rfl hc)
        refine xw_iinc dd_S_takeNote_56 rfl (nI_1 s) (by decide) ?_
        refine xw_goto 18 dd_S_takeNote_59 (by decide) ?_
        refine ih (s + 1) _ (by omega) (by omega) h0 ?_
        rw [← hq, sv_scan, e5, if_pos hz]
      · rw [if_neg hz]
        refine xw_if_eq 56 dd_S_takeNote_44 (by decide) (fun hc => absurd hc (by decide)) (fun hc => ?_)
        have hrd : sv_read hd rg cur mask = (nI s, s + 1) := by
          unfold sv_read
          rw [if_neg h0, ← hq, sv_scan, e5, if_neg hz]
        refine xw_aloadR_n dd_S_takeNote_47 rfl ?_
        refine xw_iload_n dd_S_takeNote_48 rfl ?_
        refine xw_iconst 1 dd_S_takeNote_49 (by decide) ?_
        refine xw_iadd dd_S_takeNote_50 ?_
        rw [nI_1]
        refine xw_putA fl_S_24 fz_S_24 (by decide) dd_S_takeNote_51 hO rfl hBo rfl rfl (fun h2 n2 f2 => ?_)
        refine xw_iload_n dd_S_takeNote_54 rfl ?_
        exact xw_iret dd_S_takeNote_55 rfl ⟨by rw [hrd], rfl, by rw [hrd]; exact n2, f2⟩
  refine xt_o ok_S_takeNote rfl rfl ?_
  refine xw_aloadR_n dd_S_takeNote_0 rfl ?_
  refine xw_get fl_S_24 dd_S_takeNote_1 hO rfl ?_
  refine xw_aloadR_n dd_S_takeNote_4 rfl ?_
  refine xw_cl0 (ct_R_leastKept hR) (iv_S_takeNote_5 hR.1) ok_R_leastKept rfl rfl rfl ?_ (fun _ _ _ q => by cases q.1)
  rintro v h1 z1 ⟨hv, rfl, rfl⟩
  cases hv
  refine xw_icmp_ge 13 dd_S_takeNote_8 (by decide) (fun hc => ?_) (fun hc => ?_)
  · have hle : rg_tl hd ≤ cur := (nI_leI (by omega) (by omega)).mp hc
    refine xw_aloadR_n dd_S_takeNote_13 rfl ?_
    refine xw_get fl_S_24 dd_S_takeNote_14 hO rfl ?_
    refine xw_istore_n dd_S_takeNote_17 (by decide) ?_
    exact loop (hd - cur) cur _ (by omega) hle (by omega) rfl
  · have hlt : cur < rg_tl hd := by
      by_cases q : rg_tl hd ≤ cur
      · exact absurd (nI_le q (by omega)) hc
      · omega
    have hrd : sv_read hd rg cur mask = (-1, cur) := by
      unfold sv_read
      rw [if_pos hlt]
    refine xw_iconst (-1) dd_S_takeNote_11 (by decide) ?_
    exact xw_iret dd_S_takeNote_12 rfl ⟨by rw [hrd], rfl, by rw [hrd]; exact hO, fun _ _ => rfl⟩
theorem sv_pgsn (fs : List sv_E) : ∀ (k i : Nat) (pg : Nat → Int32) (g : Int32) (n : Nat), (sv_pgs fs k i pg g n).2.2 ≤ n + k
  | 0, _, _, _, _ => Nat.le_refl _
  | k + 1, i, pg, g, n => by
    unfold sv_pgs
    split
    · have := sv_pgsn fs k (i + 1) (upd pg i (-1)) g n
      omega
    · rename_i e _
      have := sv_pgsn fs k (i + 1) (upd pg i e.1) e.1 (n + 1)
      omega
theorem ct_S_showPage {o t p cur ft fa fea fcap : Nat} {mk gr most : Int32} {ls : Bool} {pg : Nat → Int32} {ys : List Nat} {fs : List sv_E} (hO : h o = some (su_c t p cur mk ls gr)) (hP : h p = some (pg_c pg)) (hBo : G.2.2.1 ≤ o) (hBp : G.2.2.1 ≤ p) (hF : ft_at G h ft fa fea fcap most ys fs) : xa_T G mm_S_showPage 4 0 0 [.ref o, .ref ft] h sz (fun o' h' z => o' = .returned (some (.int (nI (sv_pgs fs 4 0 pg gr 0).2.2))) ∧ z = sz ∧ h' o = some (su_c t p cur mk (decide ((sv_pgs fs 4 0 pg gr 0).2.2 = 4)) (sv_pgs fs 4 0 pg gr 0).2.1) ∧ h' p = some (pg_c (sv_pgs fs 4 0 pg gr 0).1) ∧ ∀ b, b ≠ o → b ≠ p → h' b = h b) := by
  have hop : o ≠ p := xt_ne hO hP (by simp [xt])
  have hkp : ∀ h' : xa_H, (∀ b, b ≠ o → b ≠ p → h' b = h b) → ft_at G h' ft fa fea fcap most ys fs := fun h' hk => hF.kp (fun b e hb hc => by
    have e7 : xt e ≠ 7 ∧ xt e ≠ 100 := by rcases hc with ⟨-, q⟩ | ⟨-, q⟩ | ⟨-, q⟩ | q <;> omega
    rw [hk b (xt_ne hb hO (by simp [xt] at *; omega)) (xt_ne hb hP (by simp [xt] at *; omega))]
    exact hb)
  have loop : ∀ (k i : Nat) (h1 : xa_H) (pg1 : Nat → Int32) (g1 : Int32) (n1 : Nat) (ov : Option Value), i + k = 4 → n1 ≤ i → h1 o = some (su_c t p cur mk ls g1) → h1 p = some (pg_c pg1) → sv_pgs fs k i pg1 g1 n1 = sv_pgs fs 4 0 pg gr 0 → (∀ b, b ≠ o → b ≠ p → h1 b = h b) → xa_W G mm_S_showPage 4 0 0 4 [some (.ref o), some (.ref ft), some (.int (nI n1)), some (.int (nI i)), ov] [] h1 sz (fun o' h' z => o' = .returned (some (.int (nI (sv_pgs fs 4 0 pg gr 0).2.2))) ∧ z = sz ∧ h' o = some (su_c t p cur mk (decide ((sv_pgs fs 4 0 pg gr 0).2.2 = 4)) (sv_pgs fs 4 0 pg gr 0).2.1) ∧ h' p = some (pg_c (sv_pgs fs 4 0 pg gr 0).1) ∧ ∀ b, b ≠ o → b ≠ p → h' b = h b) := by
    intro k
    induction k with
    | zero =>
      intro i h1 pg1 g1 n1 ov hk hn1 k1 k2 k3 k4
      have : i = 4 := by omega
      subst this
      rw [← k3]
      refine xw_iload_n dd_S_showPage_4 rfl ?_
      refine xw_iconst 4 dd_S_showPage_5 (by decide) ?_
      refine xw_icmp_ge 63 dd_S_showPage_6 (by decide) (fun hc => ?_) (fun hc => absurd (by decide) hc)
      refine xw_aloadR_n dd_S_showPage_63 rfl ?_
      refine xw_iload_n dd_S_showPage_64 rfl ?_
      refine xw_iconst 4 dd_S_showPage_65 (by decide) ?_
      refine xw_icmp_ne 73 dd_S_showPage_66 (by decide) (fun hc2 => ?_) (fun hc2 => ?_)
      · have hn : n1 ≠ 4 := fun q => hc2 (by rw [q]; rfl)
        refine xw_iconst 0 dd_S_showPage_73 (by decide) ?_
        refine xw_putA fl_S_37 fz_S_37 (by decide) dd_S_showPage_74 k1 rfl hBo rfl rfl (fun h2 n2 f2 => ?_)
        refine xw_iload_n dd_S_showPage_77 rfl ?_
        refine xw_iret dd_S_showPage_78 rfl ⟨rfl, rfl, ?_, (f2 p (fun q => hop q.symm)).trans k2, fun b b1 b2 => (f2 b b1).trans (k4 b b1 b2)⟩
        have e0 : decide ((sv_pgs fs 0 4 pg1 g1 n1).2.2 = 4) = false := decide_eq_false hn
        rw [e0]
        exact n2
      · have hn : n1 = 4 := by
          have := (nI_eq (a := n1) (b := 4) (by omega) (by decide)).mp hc2
          omega
        refine xw_iconst 1 dd_S_showPage_69 (by decide) ?_
        refine xw_goto 74 dd_S_showPage_70 (by decide) ?_
        refine xw_putA fl_S_37 fz_S_37 (by decide) dd_S_showPage_74 k1 rfl hBo rfl rfl (fun h2 n2 f2 => ?_)
        refine xw_iload_n dd_S_showPage_77 rfl ?_
        refine xw_iret dd_S_showPage_78 rfl ⟨rfl, rfl, ?_, (f2 p (fun q => hop q.symm)).trans k2, fun b b1 b2 => (f2 b b1).trans (k4 b b1 b2)⟩
        have e0 : decide ((sv_pgs fs 0 4 pg1 g1 n1).2.2 = 4) = true := decide_eq_true hn
        rw [e0]
        exact n2
    | succ k ih =>
      intro i h1 pg1 g1 n1 ov hk hn1 k1 k2 k3 k4
      have hF1 := hkp h1 k4
      refine xw_iload_n dd_S_showPage_4 rfl ?_
      refine xw_iconst 4 dd_S_showPage_5 (by decide) ?_
      refine xw_icmp_ge 63 dd_S_showPage_6 (by decide) (fun hc => absurd hc (nI_ge (a := i) (b := 4) (by omega) (by decide))) (fun hc => ?_)
      refine xw_aloadR_n dd_S_showPage_9 rfl ?_
      refine xw_aloadR_n dd_S_showPage_10 rfl ?_
      refine xw_get fl_S_54 dd_S_showPage_11 k1 rfl ?_
      refine xw_cl0 (ct_F_entryAbove hF1) (iv_S_showPage_14 hF1.1) ok_F_entryAbove rfl rfl rfl ?_ (fun _ _ _ q => by cases q.2.2.choose_spec.1)
      rintro v h1 sz ⟨rfl, rfl, r, hv, hr⟩
      cases hv
      rw [sv_pgs] at k3
      rcases hr with ⟨w1, rfl⟩ | ⟨e, y, w1, rfl, w3⟩
      · rw [w1] at k3
        refine xw_astore (r := none) dd_S_showPage_17 (by decide) ?_
        refine xw_aload (r := none) dd_S_showPage_19 rfl ?_
        refine xw_ifnonnullN dd_S_showPage_21 ?_
        refine xw_aloadR_n dd_S_showPage_24 rfl ?_
        refine xw_get fl_S_20 dd_S_showPage_25 k1 rfl ?_
        refine xw_iload_n dd_S_showPage_28 rfl ?_
        refine xw_iconst (-1) dd_S_showPage_29 (by decide) ?_
        refine xw_iastA dd_S_showPage_30 k2 (vp_in_nI (by omega) (by decide)) hBp (fun h5 n5 f5 => ?_)
        rw [nI_clamp (by omega)] at n5
        refine xw_goto 57 dd_S_showPage_31 (by decide) ?_
        refine xw_iinc dd_S_showPage_57 rfl (nI_1 i) (by decide) ?_
        refine xw_goto 4 dd_S_showPage_60 (by decide) ?_
        exact ih (i + 1) h5 _ g1 n1 _ (by omega) (by omega) ((f5 o hop).trans k1) n5 k3 (fun b b1 b2 => (f5 b b2).trans (k4 b b1 b2))
      · rw [w1] at k3
        refine xw_astore (r := some y) dd_S_showPage_17 (by decide) ?_
        refine xw_aloadR dd_S_showPage_19 rfl ?_
        refine xw_ifnonnullR 34 dd_S_showPage_21 (by decide) ?_
        refine xw_aloadR_n dd_S_showPage_34 rfl ?_
        refine xw_get fl_S_20 dd_S_showPage_35 k1 rfl ?_
        refine xw_iload_n dd_S_showPage_38 rfl ?_
        refine xw_aloadR dd_S_showPage_39 rfl ?_
        refine xw_get fl_S_61 dd_S_showPage_41 w3 rfl ?_
        refine xw_iastA dd_S_showPage_44 k2 (vp_in_nI (by omega) (by decide)) hBp (fun h5 n5 f5 => ?_)
        rw [nI_clamp (by omega)] at n5
        have hyp : y ≠ p := xt_ne w3 k2 (by simp [xt])
        have hyo : y ≠ o := xt_ne w3 k1 (by simp [xt])
        refine xw_aloadR_n dd_S_showPage_45 rfl ?_
        refine xw_aloadR dd_S_showPage_46 rfl ?_
        refine xw_get fl_S_61 dd_S_showPage_48 ((f5 y hyp).trans w3) rfl ?_
        refine xw_putA fl_S_54 fz_S_54 (by decide) dd_S_showPage_51 ((f5 o hop).trans k1) rfl hBo rfl rfl (fun h6 n6 f6 => ?_)
        refine xw_iinc dd_S_showPage_54 rfl (nI_1 n1) (by decide) ?_
        refine xw_iinc dd_S_showPage_57 rfl (nI_1 i) (by decide) ?_
        refine xw_goto 4 dd_S_showPage_60 (by decide) ?_
        exact ih (i + 1) h6 _ e.1 (n1 + 1) _ (by omega) (by omega) n6 ((f6 p (fun q => hop q.symm)).trans n5) k3 (fun b b1 b2 => (f6 b b1).trans ((f5 b b2).trans (k4 b b1 b2)))
  refine xt_o ok_S_showPage rfl rfl ?_
  refine xw_iconst 0 dd_S_showPage_0 (by decide) ?_
  refine xw_istore_n dd_S_showPage_1 (by decide) ?_
  refine xw_iconst 0 dd_S_showPage_2 (by decide) ?_
  refine xw_istore_n dd_S_showPage_3 (by decide) ?_
  exact loop 4 0 h pg gr 0 _ rfl (by omega) hO hP rfl (fun _ _ _ => rfl)
end SB
