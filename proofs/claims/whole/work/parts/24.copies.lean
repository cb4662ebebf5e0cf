/-! Subscriber: copies (by program: wip/whole/mk24.py) -/
/-- a copy has changed from C to C' -/
def cp_q (G : xa_G) (h : xa_H) (sz t a ea : Nat) (C C' : List sv_E × Nat) : Outcome → xa_H → Nat → Prop := fun o h' z => o = .returned none ∧ (∃ ea' xs', ft_at G h' t a ea' C'.2 (nI 512) xs' C'.1 ∧ er sz ea C.2 ea' C'.2) ∧ sz ≤ z ∧ xk h h' (ft_k a ea C.2)
theorem cp_put {G : xa_G} {h h' : xa_H} {sz t a ea z : Nat} {C : List sv_E × Nat} {e : sv_E} {o : Outcome} (hd : xd_h h sz) (q : xq_fp G h sz t a ea C.2 (nI 512) (sv_put C.1 512 e) (sv_gro C.1 512 C.2 e) o h' z) : cp_q G h sz t a ea C (sv_putc C e) o h' z := by
  obtain ⟨q1, ⟨xs', q2⟩, q3, q4, q5⟩ := q
  refine ⟨q1, ⟨_, xs', q2, ?_⟩, ?_, fun b e hb hp => (q4 b hp.1 hp.2 (by have := hd _ _ hb; omega)).trans hb⟩
  · unfold sv_putc er
    simp only
    split
    · exact Or.inr (Nat.le_refl _)
    · exact Or.inl ⟨rfl, rfl⟩
  · rw [q3]
    split <;> omega
theorem cp_del {G : xa_G} {h h' : xa_H} {sz t a ea z : Nat} {C : List sv_E × Nat} {es' : List sv_E} {o : Outcome} (q : xq_fu G h sz t a ea C.2 (nI 512) es' o h' z) : cp_q G h sz t a ea C (es', C.2) o h' z := by
  obtain ⟨q1, q2, ⟨xs', q3⟩, q4⟩ := q
  exact ⟨q1, ⟨ea, xs', q3, Or.inl ⟨rfl, rfl⟩⟩, by omega, fun b e hb hp => (q4 b hp.1 hp.2).trans hb⟩
theorem cp_trans {G : xa_G} {h h1 h2 : xa_H} {sz t a ea z1 z2 ea1 : Nat} {C C1 C2 : List sv_E × Nat} {o : Outcome} (hd : xd_h h sz) (he : er sz ea C.2 ea1 C1.2) (hz : sz ≤ z1) (hk : xk h h1 (ft_k a ea C.2)) (q : cp_q G h1 z1 t a ea1 C1 C2 o h2 z2) : cp_q G h sz t a ea C C2 o h2 z2 := by
  obtain ⟨q1, ⟨ea', xs', q2, q3⟩, q4, q5⟩ := q
  exact ⟨q1, ⟨ea', xs', q2, he.trans q3 hz⟩, by omega, ft_k_step hd hk he q5⟩
/-- another table is as it was -/
theorem ft_oth {G : xa_G} {h h1 : xa_H} {sz t a ea cap t0 a0 ea0 cap0 : Nat} {most most0 : Int32} {xs ys : List Nat} {es fs : List sv_E} (H : ft_at G h t a ea cap most xs es) (HF : ft_at G h t0 a0 ea0 cap0 most0 ys fs) (ha : a0 ≠ a) (he : ea0 ≠ ea ∨ cap = 0) (hk : xk h h1 (ft_k a ea cap)) : ft_at G h1 t0 a0 ea0 cap0 most0 ys fs := by
  obtain ⟨hT, ⟨k1, k2, g, ⟨⟨mc, k3⟩, k4, k5, k6⟩, k7⟩, hE⟩ := H
  refine HF.kp (fun b e hb hc => hk b e hb ?_)
  rcases hc with ⟨rfl, q⟩ | ⟨rfl, q⟩ | ⟨rfl, q⟩ | q
  · exact ⟨xt_ne hb k3 (by rw [q]; simp [xt]), Or.inl (xt_ne hb k4 (by rw [q]; simp [xt]))⟩
  · exact ⟨ha, Or.inl (xt_ne hb k4 (by rw [q]; simp [xt]))⟩
  · exact ⟨xt_ne hb k3 (by rw [q]; simp [xt]), he⟩
  · exact ⟨xt_ne hb k3 (by rw [q]; simp [xt]), Or.inl (xt_ne hb k4 (by rw [q]; simp [xt]))⟩
theorem er_oth {sz ea cap ea1 cap1 ea0 : Nat} (he : ea0 ≠ ea ∨ cap = 0) (hl : ea0 < sz) (H : er sz ea cap ea1 cap1) : ea0 ≠ ea1 ∨ cap1 = 0 := by
  rcases H with ⟨rfl, rfl⟩ | q
  · exact he
  · exact Or.inl (by omega)
/-- a cell of another sort than a list's is as it was -/
theorem ft_ok {G : xa_G} {h h1 : xa_H} {t a ea cap b : Nat} {most : Int32} {xs : List Nat} {es : List sv_E} {e : xa_E} (H : ft_at G h t a ea cap most xs es) (hk : xk h h1 (ft_k a ea cap)) (hb : h b = some e) (h8 : xt e ≠ 8) (h3 : xt e ≠ 103) : h1 b = some e := by
  obtain ⟨hT, ⟨k1, k2, g, ⟨⟨mc, k3⟩, k4, k5, k6⟩, k7⟩, hE⟩ := H
  exact hk b e hb ⟨xt_ne hb k3 (by simp only [xt] at *; exact h8), Or.inl (xt_ne hb k4 (by simp only [xt] at *; exact h3))⟩
theorem ft_lt {G : xa_G} {h : xa_H} {sz t a ea cap : Nat} {most : Int32} {xs : List Nat} {es : List sv_E} (hd : xd_h h sz) (H : ft_at G h t a ea cap most xs es) : ea < sz := by
  obtain ⟨hT, ⟨k1, k2, g, ⟨⟨mc, k3⟩, k4, k5, k6⟩, k7⟩, hE⟩ := H
  exact hd _ _ k4
section SC
variable {G : xa_G} {h : xa_H} {sz : Nat}
theorem ct_S_copyAsItIs {o t p cur a ea ft fa fea fcap : Nat} {mk gr f most : Int32} {ls : Bool} {C : List sv_E × Nat} {xs ys : List Nat} {fs : List sv_E} (hO : h o = some (su_c t p cur mk ls gr)) (H : ft_at G h t a ea C.2 (nI 512) xs C.1) (HF : ft_at G h ft fa fea fcap most ys fs) (hcap : C.2 ≤ 766) : xa_T G mm_S_copyAsItIs 8 1 (4 * ((sv_now fs C f).2 - C.2)) [.ref o, .int f, .ref ft] h sz (cp_q G h sz t a ea C (sv_now fs C f)) := by
  refine xt_o ok_S_copyAsItIs rfl rfl ?_
  refine xw_dom (fun hd _ => ?_)
  refine xw_aloadR_n dd_S_copyAsItIs_0 rfl ?_
  refine xw_iload_n dd_S_copyAsItIs_1 rfl ?_
  refine xw_cl0 (ct_F_entryOf HF) (iv_S_copyAsItIs_2 HF.1) ok_F_entryOf rfl rfl rfl ?_ (fun _ _ _ q => by cases q.2.2.choose_spec.1)
  rintro v h sz ⟨rfl, rfl, r, hv, hr⟩
  cases hv
  rcases hr with ⟨w1, rfl⟩ | ⟨e, y, w1, rfl, w3⟩
  · have hn : sv_now fs C f = C := by
      unfold sv_now sv_find
      rw [w1]
    refine xw_astore_n (r := none) dd_S_copyAsItIs_5 (by decide) ?_
    refine xw_aload_n (r := none) dd_S_copyAsItIs_6 rfl ?_
    refine xw_ifnullN 18 dd_S_copyAsItIs_7 (by decide) ?_
    refine xw_vret dd_S_copyAsItIs_18 rfl ?_
    rw [hn]
    exact ⟨rfl, ⟨ea, xs, H, Or.inl ⟨rfl, rfl⟩⟩, Nat.le_refl _, xk.refl⟩
  · have hn : sv_now fs C f = sv_putc C e := by
      unfold sv_now sv_find
      rw [w1]
    rw [hn]
    refine xw_astore_n (r := some y) dd_S_copyAsItIs_5 (by decide) ?_
    refine xw_aloadR_n dd_S_copyAsItIs_6 rfl ?_
    refine xw_ifnullR dd_S_copyAsItIs_7 ?_
    refine xw_aloadR_n dd_S_copyAsItIs_10 rfl ?_
    refine xw_get fl_S_14 dd_S_copyAsItIs_11 hO rfl ?_
    refine xw_aloadR_n dd_S_copyAsItIs_14 rfl ?_
    refine xw_less (kc' := 0 + 1) (ks' := 0 + (if sv_gro C.1 512 C.2 e = true then al_cap C.2 else 0)) (by omega) (by have := sv_pay C e; omega) ?_
    refine xw_cl (ct_F_put H w3 (by decide) (by omega)) (iv_S_copyAsItIs_15 H.1) ok_F_put rfl rfl rfl ?_ (fun _ _ _ q => by cases q.1)
    rintro v h' z q
    have q' := cp_put hd q
    have hv := q.1
    cases hv
    exact xw_vret dd_S_copyAsItIs_18 rfl q'
theorem ct_S_copyNote {o t p cur a ea ft fa fea fcap y ey : Nat} {mk gr r most : Int32} {ls : Bool} {C : List sv_E × Nat} {xs ys : List Nat} {fs : List sv_E} {e : sv_E} (hO : h o = some (su_c t p cur mk ls gr)) (H : ft_at G h t a ea C.2 (nI 512) xs C.1) (HF : ft_at G h ft fa fea fcap most ys fs) (hcap : C.2 ≤ 766) (w2 : h y = some (nt_c ey r)) (w3 : h ey = some (en_c e)) (hfa : fa ≠ a) (hfe : fea ≠ ea ∨ C.2 = 0) : xa_T G mm_S_copyNote 9 1 (4 * ((sv_cnt fs C e r).2 - C.2)) [.ref o, .ref y, .ref ft] h sz (cp_q G h sz t a ea C (sv_cnt fs C e r)) := by
  refine xt_o ok_S_copyNote rfl rfl ?_
  refine xw_dom (fun hd _ => ?_)
  refine xw_aloadR_n dd_S_copyNote_0 rfl ?_
  refine xw_get fl_S_95 dd_S_copyNote_1 w2 rfl ?_
  refine xw_get fl_S_61 dd_S_copyNote_4 w3 rfl ?_
  refine xw_istore_n dd_S_copyNote_7 (by decide) ?_
  refine xw_aloadR_n dd_S_copyNote_8 rfl ?_
  refine xw_bipush 64 dd_S_copyNote_9 (by decide) ?_
  refine xw_cl0 (ct_N_hasAny w2) (iv_S_copyNote_11 w2) ok_N_hasAny rfl rfl rfl ?_ (fun _ _ _ q => by cases q.1)
  rintro v h sz ⟨hv, rfl, rfl⟩
  cases hv
  by_cases hz : r &&& 64 = 0
  · rw [if_pos hz]
    refine xw_if_eq 34 dd_S_copyNote_14 (by decide) (fun hc => ?_) (fun hc => absurd rfl hc)
    refine xw_aloadR_n dd_S_copyNote_34 rfl ?_
    refine xw_bipush 32 dd_S_copyNote_35 (by decide) ?_
    refine xw_cl0 (ct_N_hasAny w2) (iv_S_copyNote_37 w2) ok_N_hasAny rfl rfl rfl ?_ (fun _ _ _ q => by cases q.1)
    rintro v h sz ⟨hv, rfl, rfl⟩
    cases hv
    by_cases hz2 : r &&& 32 = 0
    · have hn : sv_cnt fs C e r = sv_putc C e := by
        unfold sv_cnt
        rw [if_pos hz, if_pos hz2]
      rw [if_pos hz2, hn]
      refine xw_if_eq 54 dd_S_copyNote_40 (by decide) (fun hc => ?_) (fun hc => absurd rfl hc)
      refine xw_aloadR_n dd_S_copyNote_54 rfl ?_
      refine xw_get fl_S_14 dd_S_copyNote_55 hO rfl ?_
      refine xw_aloadR_n dd_S_copyNote_58 rfl ?_
      refine xw_get fl_S_95 dd_S_copyNote_59 w2 rfl ?_
      refine xw_less (kc' := 0 + 1) (ks' := 0 + (if sv_gro C.1 512 C.2 e = true then al_cap C.2 else 0)) (by omega) (by have := sv_pay C e; omega) ?_
      refine xw_cl (ct_F_put H w3 (by decide) (by omega)) (iv_S_copyNote_62 H.1) ok_F_put rfl rfl rfl ?_ (fun _ _ _ q => by cases q.1)
      rintro v h' z q
      have q' := cp_put hd q
      have hv := q.1
      cases hv
      exact xw_vret dd_S_copyNote_65 rfl q'
    · have hn : sv_cnt fs C e r = sv_del C e.1 := by
        unfold sv_cnt
        rw [if_pos hz, if_neg hz2]
      rw [if_neg hz2, hn]
      refine xw_if_eq 54 dd_S_copyNote_40 (by decide) (fun hc => absurd hc (by decide)) (fun hc => ?_)
      refine xw_aloadR_n dd_S_copyNote_43 rfl ?_
      refine xw_get fl_S_14 dd_S_copyNote_44 hO rfl ?_
      refine xw_iload_n dd_S_copyNote_47 rfl ?_
      refine xw_cl0 (ct_F_drop H) (iv_S_copyNote_48 H.1) ok_F_drop rfl rfl rfl ?_ (fun _ _ _ q => by cases q.1)
      rintro v h' z q
      have q' := cp_del q
      have hv := q.1
      cases hv
      refine xw_goto 65 dd_S_copyNote_51 (by decide) ?_
      exact xw_vret dd_S_copyNote_65 rfl q'
  · have hn : sv_cnt fs C e r = sv_now fs (sv_del C e.1) e.1 := by
      unfold sv_cnt
      rw [if_neg hz]
    rw [if_neg hz, hn]
    refine xw_if_eq 34 dd_S_copyNote_14 (by decide) (fun hc => absurd hc (by decide)) (fun hc => ?_)
    refine xw_aloadR_n dd_S_copyNote_17 rfl ?_
    refine xw_get fl_S_14 dd_S_copyNote_18 hO rfl ?_
    refine xw_iload_n dd_S_copyNote_21 rfl ?_
    refine xw_cl0 (ct_F_drop H) (iv_S_copyNote_22 H.1) ok_F_drop rfl rfl rfl ?_ (fun _ _ _ q => by cases q.1)
    rintro v h1 z1 q
    have hv := q.1
    cases hv
    obtain ⟨-, ⟨ea1, xs1, q2, q3⟩, q4, q5⟩ := cp_del q
    have hO1 := ft_ok H q5 hO (by simp [xt]) (by simp [xt])
    have HF1 := ft_oth (sz := sz) H HF hfa hfe q5
    refine xw_aloadR_n dd_S_copyNote_25 rfl ?_
    refine xw_iload_n dd_S_copyNote_26 rfl ?_
    refine xw_aloadR_n dd_S_copyNote_27 rfl ?_
    refine xw_less (kc' := 0 + 1) (ks' := 0 + 4 * ((sv_now fs (sv_del C e.1) e.1).2 - (sv_del C e.1).2)) (by omega) (by show 0 + 4 * ((sv_now fs (sv_del C e.1) e.1).2 - C.2) ≤ _; omega) ?_
    refine xw_cl (ct_S_copyAsItIs (C := sv_del C e.1) (f := e.1) hO1 q2 HF1 hcap) (iv_S_copyNote_28 hO1) ok_S_copyAsItIs rfl rfl rfl ?_ (fun _ _ _ q => by cases q.1)
    rintro v h2 z2 u
    have u' := cp_trans (C := C) hd q3 q4 q5 u
    have hv := u.1
    cases hv
    refine xw_goto 65 dd_S_copyNote_31 (by decide) ?_
    exact xw_vret dd_S_copyNote_65 rfl u'
abbrev su_k (o p a ea cap : Nat) : Nat → xa_E → Prop := fun b _ => b ≠ o ∧ b ≠ p ∧ b ≠ a ∧ (b ≠ ea ∨ cap = 0)
theorem ct_S_copyPage {o t p a ea ft fa fea fcap : Nat} {most : Int32} {S : sv_S} {ys : List Nat} {fs : List sv_E} (H : su_at G h o t a ea p S) (HF : ft_at G h ft fa fea fcap most ys fs) (hcap : su_cap S ≤ 766) (hfa : fa ≠ a) (hfe : fea ≠ ea ∨ su_cap S = 0) : xa_T G mm_S_copyPage 9 4 (4 * (su_cap (sv_cpg fs S) - su_cap S)) [.ref o, .ref ft] h sz (fun o' h' z => o' = .returned none ∧ (∃ ea', su_at G h' o t a ea' p (sv_cpg fs S) ∧ er sz ea (su_cap S) ea' (su_cap (sv_cpg fs S))) ∧ sz ≤ z ∧ xk h h' (su_k o p a ea (su_cap S))) := by
  obtain ⟨hO, ⟨xs, hF⟩, hP, hBo, hBp⟩ := H
  refine xt_o ok_S_copyPage rfl rfl ?_
  refine xw_dom (fun hd _ => ?_)
  refine xw_aloadR_n dd_S_copyPage_0 rfl ?_
  refine xw_get fl_S_54 dd_S_copyPage_1 hO rfl ?_
  refine xw_istore_n dd_S_copyPage_4 (by decide) ?_
  refine xw_aloadR_n dd_S_copyPage_5 rfl ?_
  refine xw_aloadR_n dd_S_copyPage_6 rfl ?_
  refine xw_cl0 (ct_S_showPage hO hP hBo hBp HF) (iv_S_copyPage_7 hO) ok_S_showPage rfl rfl rfl ?_ (fun _ _ _ q => by cases q.1)
  rintro v h1 z1 ⟨hv, rfl, n1, n2, f1⟩
  cases hv
  have n1 : h1 o = some (su_c t p (su_cur S) (su_mask S) (su_ls (sv_page fs S)) (su_gr (sv_page fs S))) := n1
  have n2 : h1 p = some (pg_c (su_pg (sv_page fs S))) := n2
  have hk1 : ∀ {tt aa ee cc : Nat} {mm : Int32} {xx : List Nat} {ff : List sv_E}, ft_at G h tt aa ee cc mm xx ff → ft_at G h1 tt aa ee cc mm xx ff := fun W => W.kp (fun b e hb hc => by
    have e7 : xt e ≠ 7 ∧ xt e ≠ 100 := by rcases hc with ⟨-, q⟩ | ⟨-, q⟩ | ⟨-, q⟩ | q <;> omega
    rw [f1 b (xt_ne hb hO (by simp [xt] at *; omega)) (xt_ne hb hP (by simp [xt] at *; omega))]
    exact hb)
  have hF1 := hk1 hF
  have HF1 := hk1 HF
  refine xw_pop dd_S_copyPage_10 rfl ?_
  refine xw_aloadR_n dd_S_copyPage_11 rfl ?_
  refine xw_get fl_S_14 dd_S_copyPage_12 n1 rfl ?_
  refine xw_iload_n dd_S_copyPage_15 rfl ?_
  refine xw_aloadR_n dd_S_copyPage_16 rfl ?_
  refine xw_get fl_S_37 dd_S_copyPage_17 n1 rfl ?_
  refine xw_dom (fun hd1 _ => ?_)
  have rest : xa_W G mm_S_copyPage 9 4 (4 * (su_cap (sv_cpg fs S) - su_cap S)) 32 [some (.ref o), some (.ref ft), some (.int (su_gr S)), none] [.int (if su_ls (sv_page fs S) = true then su_gr (sv_page fs S) else 2147483647), .int (su_gr S), .ref t] h1 z1 (fun o' h' z => o' = .returned none ∧ (∃ ea', su_at G h' o t a ea' p (sv_cpg fs S) ∧ er z1 ea (su_cap S) ea' (su_cap (sv_cpg fs S))) ∧ z1 ≤ z ∧ xk h h' (su_k o p a ea (su_cap S))) := by
    refine xw_cl0 (ct_F_dropRange hF1) (iv_S_copyPage_32 hF1.1) ok_F_dropRange rfl rfl rfl ?_ (fun _ _ _ q => by cases q.1)
    rintro v h2 z2 q
    have hv := q.1
    cases hv
    obtain ⟨-, ⟨ea2, xs2, q2, q3⟩, q4, q5⟩ := cp_del (C := (su_cp S, su_cap S)) q
    have loop : ∀ (k i : Nat) (h3 : xa_H) (z3 ea3 : Nat) (xs3 : List Nat) (C3 : List sv_E × Nat), i + k = 4 → ft_at G h3 t a ea3 C3.2 (nI 512) xs3 C3.1 → er z1 ea (su_cap S) ea3 C3.2 → z1 ≤ z3 → xk h1 h3 (ft_k a ea (su_cap S)) → C3.2 ≤ 766 → su_cap S ≤ C3.2 → sv_cps fs (su_pg (sv_page fs S)) k i C3 = sv_cpC fs S → xa_W G mm_S_copyPage 9 k (4 * ((sv_cpC fs S).2 - C3.2)) 37 [some (.ref o), some (.ref ft), some (.int (su_gr S)), some (.int (nI i))] [] h3 z3 (fun o' h' z => o' = .returned none ∧ (∃ ea', su_at G h' o t a ea' p (sv_cpg fs S) ∧ er z1 ea (su_cap S) ea' (su_cap (sv_cpg fs S))) ∧ z1 ≤ z ∧ xk h h' (su_k o p a ea (su_cap S))) := by
      intro k
      induction k with
      | zero =>
        intro i h3 z3 ea3 xs3 C3 hk k1 k2 k3 k4 k5 k6 k7
        have : i = 4 := by omega
        subst this
        have k7 : C3 = sv_cpC fs S := k7
        have hO3 := ft_ok hF1 k4 n1 (by simp [xt]) (by simp [xt])
        have hP3 := ft_ok hF1 k4 n2 (by simp [xt]) (by simp [xt])
        refine xw_iload_n dd_S_copyPage_37 rfl ?_
        refine xw_iconst 4 dd_S_copyPage_38 (by decide) ?_
        refine xw_icmp_ge 59 dd_S_copyPage_39 (by decide) (fun hc => ?_) (fun hc => absurd (by decide) hc)
        subst k7
        refine xw_vret dd_S_copyPage_59 rfl ⟨rfl, ⟨ea3, ⟨hO3, ⟨xs3, k1⟩, hP3, hBo, hBp⟩, k2⟩, k3, fun b e hb hp => ?_⟩
        exact k4 b e ((f1 b hp.1 hp.2.1).trans hb) hp.2.2
      | succ k ih =>
        intro i h3 z3 ea3 xs3 C3 hk k1 k2 k3 k4 k5 k6 k7
        have hO3 := ft_ok hF1 k4 n1 (by simp [xt]) (by simp [xt])
        have hP3 := ft_ok hF1 k4 n2 (by simp [xt]) (by simp [xt])
        have HF3 := ft_oth (sz := z1) hF1 HF1 hfa hfe k4
        refine xw_iload_n dd_S_copyPage_37 rfl ?_
        refine xw_iconst 4 dd_S_copyPage_38 (by decide) ?_
        refine xw_icmp_ge 59 dd_S_copyPage_39 (by decide) (fun hc => absurd hc (nI_ge (a := i) (b := 4) (by omega) (by decide))) (fun hc => ?_)
        refine xw_aloadR_n dd_S_copyPage_42 rfl ?_
        refine xw_aloadR_n dd_S_copyPage_43 rfl ?_
        refine xw_get fl_S_20 dd_S_copyPage_44 hO3 rfl ?_
        refine xw_iload_n dd_S_copyPage_47 rfl ?_
        refine xw_iald dd_S_copyPage_48 hP3 (vp_in_nI (by omega) (by decide)) ?_
        rw [nI_clamp (by omega)]
        refine xw_aloadR_n dd_S_copyPage_49 rfl ?_
        have k7' : sv_cps fs (su_pg (sv_page fs S)) k (i + 1) (sv_now fs C3 (su_pg (sv_page fs S) i)) = sv_cpC fs S := k7
        have c1 := sv_nowC fs C3 (su_pg (sv_page fs S) i)
        have c2 := sv_cpsC fs (su_pg (sv_page fs S)) k (i + 1) (sv_now fs C3 (su_pg (sv_page fs S) i))
        rw [k7'] at c2
        refine xw_less (kc' := k + 1) (ks' := 4 * ((sv_cpC fs S).2 - (sv_now fs C3 (su_pg (sv_page fs S) i)).2) + 4 * ((sv_now fs C3 (su_pg (sv_page fs S) i)).2 - C3.2)) (by omega) (by omega) ?_
        refine xw_dom (fun hd3 _ => ?_)
        refine xw_cl (ct_S_copyAsItIs hO3 k1 HF3 k5) (iv_S_copyPage_50 hO3) ok_S_copyAsItIs rfl rfl rfl ?_ (fun _ _ _ q => by cases q.1)
        rintro v h4 z4 u
        have hv := u.1
        cases hv
        obtain ⟨-, ⟨ea4, xs4, u2, u3⟩, u4, u5⟩ := u
        refine xw_iinc dd_S_copyPage_53 rfl (nI_1 i) (by decide) ?_
        refine xw_goto 37 dd_S_copyPage_56 (by decide) ?_
        exact ih (i + 1) h4 z4 ea4 xs4 _ (by omega) u2 (k2.trans u3 k3) (by omega) (ft_k_step hd1 k4 k2 u5) (sv_now766 fs _ k5) (by omega) k7'
    refine xw_iconst 0 dd_S_copyPage_35 (by decide) ?_
    refine xw_istore_n dd_S_copyPage_36 (by decide) ?_
    exact loop 4 0 h2 z2 ea2 xs2 _ rfl q2 q3 q4 q5 hcap (Nat.le_refl _) rfl
  by_cases hl : su_ls (sv_page fs S) = true
  · rw [if_pos hl] at rest ⊢
    refine xw_if_eq 30 dd_S_copyPage_20 (by decide) (fun hc => absurd hc (by decide)) (fun hc => ?_)
    refine xw_aloadR_n dd_S_copyPage_23 rfl ?_
    refine xw_get fl_S_54 dd_S_copyPage_24 n1 rfl ?_
    refine xw_goto 32 dd_S_copyPage_27 (by decide) ?_
    exact rest
  · rw [if_neg hl] at rest ⊢
    refine xw_if_eq 30 dd_S_copyPage_20 (by decide) (fun hc => ?_) (fun hc => absurd rfl hc)
    refine xw_ldcI ic_S_86 dd_S_copyPage_30 ?_
    exact rest
theorem sv_scan_in {rg : Nat → Nat → Int32} {mask : Int32} : ∀ {k s j : Nat}, sv_scan rg mask k s = some j → s ≤ j ∧ j < s + k
  | 0, s, j, h => by cases h
  | k + 1, s, j, h => by
    unfold sv_scan at h
    split at h
    · have := sv_scan_in h
      omega
    · cases h
      omega
theorem sv_nt_eq {rg : Nat → Nat → Int32} {s : Nat} {e : sv_E} {r : Int32} (h : rg (s % 16) = sv_item e r) : sv_nt rg s = e ∧ rg (s % 16) 5 = r := by
  unfold sv_nt
  rw [h]
  exact ⟨rfl, rfl⟩
theorem ct_S_act {o t p a ea ft fa fea fcap r c hd : Nat} {most : Int32} {S : sv_S} {ys : List Nat} {fs : List sv_E} {f : Nat → Option Nat} {rg : Nat → Nat → Int32} (H : su_at G h o t a ea p S) (HF : ft_at G h ft fa fea fcap most ys fs) (hcap : su_cap S ≤ 766) (hfa : fa ≠ a) (hfe : fea ≠ ea ∨ su_cap S = 0) (hcur : su_cur S ≤ hd) (hR : rg_at h r c hd f) (hN : rn_at h f hd rg) : xa_T G mm_S_act 10 4 (4 * (su_cap (sv_act hd rg fs S).2 - su_cap S)) [.ref o, .ref r, .ref ft] h sz (fun o' h' z => o' = .returned (some (.int (if (sv_act hd rg fs S).1 = true then 1 else 0))) ∧ (∃ ea', su_at G h' o t a ea' p (sv_act hd rg fs S).2 ∧ er sz ea (su_cap S) ea' (su_cap (sv_act hd rg fs S).2)) ∧ sz ≤ z ∧ xk h h' (su_k o p a ea (su_cap S))) := by
  have H0 := H
  obtain ⟨hO, ⟨xs, hF⟩, hP, hBo, hBp⟩ := H
  have hlim := hR.2.2
  refine xt_o ok_S_act rfl rfl ?_
  refine xw_dom (fun hdm _ => ?_)
  refine xw_aloadR_n dd_S_act_0 rfl ?_
  refine xw_get fl_S_37 dd_S_act_1 hO rfl ?_
  by_cases hl : su_ls S = true
  · have hs : sv_act hd rg fs S = (true, sv_cpg fs S) := by
      unfold sv_act
      rw [if_pos hl]
    rw [hs, if_pos hl]
    refine xw_if_eq 14 dd_S_act_4 (by decide) (fun hc => absurd hc (by decide)) (fun hc => ?_)
    refine xw_aloadR_n dd_S_act_7 rfl ?_
    refine xw_aloadR_n dd_S_act_8 rfl ?_
    refine xw_less (kc' := 0 + 4) (ks' := 0 + 4 * (su_cap (sv_cpg fs S) - su_cap S)) (by omega) (by rw [Nat.zero_add]; exact Nat.le_refl _) ?_
    refine xw_cl (ct_S_copyPage H0 HF hcap hfa hfe) (iv_S_act_9 hO) ok_S_copyPage rfl rfl rfl ?_ (fun _ _ _ q => by cases q.1)
    rintro v h1 z1 ⟨hv, q2, q3, q4⟩
    cases hv
    refine xw_iconst 1 dd_S_act_12 (by decide) ?_
    exact xw_zret dd_S_act_13 rfl rfl ⟨rfl, q2, q3, q4⟩
  · rw [if_neg hl]
    refine xw_if_eq 14 dd_S_act_4 (by decide) (fun hc => ?_) (fun hc => absurd rfl hc)
    refine xw_aloadR_n dd_S_act_14 rfl ?_
    refine xw_aloadR_n dd_S_act_15 rfl ?_
    refine xw_bipush 127 dd_S_act_16 (by decide) ?_
    refine xw_cl0 (ct_S_takeNote hO hBo hcur hR hN) (iv_S_act_18 hO) ok_S_takeNote rfl rfl rfl ?_ (fun _ _ _ q => by cases q.1)
    rintro v h1 z1 ⟨hv, rfl, n1, f1⟩
    cases hv
    have hop : o ≠ p := xt_ne hO hP (by simp [xt])
    have hk1 : ∀ {tt aa ee cc : Nat} {mm : Int32} {xx : List Nat} {ff : List sv_E}, ft_at G h tt aa ee cc mm xx ff → ft_at G h1 tt aa ee cc mm xx ff := fun W => W.kp (fun b e hb hc => by
      have e7 : xt e ≠ 7 := by rcases hc with ⟨-, q⟩ | ⟨-, q⟩ | ⟨-, q⟩ | q <;> omega
      rw [f1 b (xt_ne hb hO e7)]
      exact hb)
    have hF1 := hk1 hF
    have HF1 := hk1 HF
    have hP1 := (f1 p (fun q => hop q.symm)).trans hP
    have hR1 : rg_at h1 r c hd f := hR.kp (fun b e hb hc => (f1 b (xt_ne hb hO (by rcases hc with ⟨-, q⟩ | ⟨-, q⟩ <;> (rw [q]; simp [xt])))).trans hb)
    have hN1 : rn_at h1 f hd rg := hN.kp (fun b e hb hc => (f1 b (xt_ne hb hO (by rcases hc with q | q <;> (rw [q]; simp [xt])))).trans hb)
    refine xw_istore_n dd_S_act_21 (by decide) ?_
    by_cases hlt : su_cur S < rg_tl hd
    · have hrd : sv_read hd rg (su_cur S) 127 = (-1, su_cur S) := by
        unfold sv_read
        rw [if_pos hlt]
      have hs : sv_act hd rg fs S = (true, sv_lst hd S) := by
        unfold sv_act
        rw [if_neg hl, if_pos hlt]
      rw [hrd] at n1
      rw [hrd, hs]
      refine xw_iload_n dd_S_act_22 rfl ?_
      refine xw_iconst (-1) dd_S_act_23 (by decide) ?_
      refine xw_icmp_ne 34 dd_S_act_24 (by decide) (fun hc => absurd rfl hc) (fun hc => ?_)
      refine xw_aloadR_n dd_S_act_27 rfl ?_
      refine xw_aloadR_n dd_S_act_28 rfl ?_
      refine xw_cl0 (ct_S_beginListing (S := S) (a := a) (ea := ea) ⟨n1, ⟨xs, hF1⟩, hP1, hBo, hBp⟩ hR1) (iv_S_act_29 n1) ok_S_beginListing rfl rfl rfl ?_ (fun _ _ _ q => by cases q.1)
      rintro v h2 z2 ⟨hv, rfl, q2, q3⟩
      cases hv
      refine xw_iconst 1 dd_S_act_32 (by decide) ?_
      exact xw_zret dd_S_act_33 rfl rfl ⟨rfl, ⟨ea, q2, Or.inl ⟨rfl, rfl⟩⟩, Nat.le_refl _, fun b e hb hp => (q3 b hp.1).trans ((f1 b hp.1).trans hb)⟩
    · cases hsc : sv_scan rg 127 (hd - su_cur S) (su_cur S) with
      | none =>
        have hrd : sv_read hd rg (su_cur S) 127 = (0, hd) := by
          unfold sv_read
          rw [if_neg hlt, hsc]
        have hs : sv_act hd rg fs S = (false, sv_setC hd S) := by
          unfold sv_act
          rw [if_neg hl, if_neg hlt, hsc]
        rw [hrd] at n1
        rw [hrd, hs]
        refine xw_iload_n dd_S_act_22 rfl ?_
        refine xw_iconst (-1) dd_S_act_23 (by decide) ?_
        refine xw_icmp_ne 34 dd_S_act_24 (by decide) (fun hc => ?_) (fun hc => absurd hc (show ¬ (0 : Int32) = -1 by decide))
        refine xw_aloadR_n dd_S_act_34 rfl ?_
        refine xw_iload_n dd_S_act_35 rfl ?_
        refine xw_cl0 (ct_R_noteAt hR1) (iv_S_act_36 hR1.1) ok_R_noteAt rfl rfl rfl ?_ (fun _ _ _ q => by cases q.1)
        rintro v h2 z2 ⟨hv, rfl, rfl⟩
        cases hv
        have htl : 1 ≤ rg_tl hd := by unfold rg_tl; split <;> omega
        have htl2 : rg_tl hd ≤ hd := by unfold rg_tl; split <;> omega
        rw [if_neg (fun q => nI_ge (a := 0) (b := rg_tl hd) (by omega) (by omega) q.1)]
        refine xw_astore (r := none) dd_S_act_39 (by decide) ?_
        refine xw_aload (r := none) dd_S_act_41 rfl ?_
        refine xw_ifnonnullN dd_S_act_43 ?_
        refine xw_iconst 0 dd_S_act_46 (by decide) ?_
        exact xw_zret dd_S_act_47 rfl rfl ⟨rfl, ⟨ea, ⟨n1, ⟨xs, hF1⟩, hP1, hBo, hBp⟩, Or.inl ⟨rfl, rfl⟩⟩, Nat.le_refl _, fun b e hb hp => (f1 b hp.1).trans hb⟩
      | some s =>
        have hin := sv_scan_in hsc
        have hrd : sv_read hd rg (su_cur S) 127 = (nI s, s + 1) := by
          unfold sv_read
          rw [if_neg hlt, hsc]
        obtain ⟨y, ey, e, rr, w1, w2, w3, w4⟩ := hN1 s (by omega) (by omega)
        obtain ⟨e1, e2⟩ := sv_nt_eq w4
        have hs : sv_act hd rg fs S = (true, sv_setCp (sv_cnt fs (su_cp S, su_cap S) e rr) (sv_setC (s + 1) S)) := by
          unfold sv_act
          rw [if_neg hl, if_neg hlt, hsc]
          simp only
          rw [e1, e2]
        rw [hrd] at n1
        rw [hrd, hs]
        refine xw_iload_n dd_S_act_22 rfl ?_
        refine xw_iconst (-1) dd_S_act_23 (by decide) ?_
        refine xw_icmp_ne 34 dd_S_act_24 (by decide) (fun hc => ?_) (fun hc => absurd (show nI s < 0 by rw [show nI s = -1 from hc]; decide) (nI_pos (n := s) (by omega)))
        refine xw_aloadR_n dd_S_act_34 rfl ?_
        refine xw_iload_n dd_S_act_35 rfl ?_
        refine xw_cl0 (ct_R_noteAt hR1) (iv_S_act_36 hR1.1) ok_R_noteAt rfl rfl rfl ?_ (fun _ _ _ q => by cases q.1)
        rintro v h2 z2 ⟨hv, rfl, rfl⟩
        cases hv
        rw [if_pos ⟨nI_le (by omega) (by omega), nI_lt (by omega) (by omega)⟩, nI_clamp (by omega), w1]
        refine xw_astore (r := some y) dd_S_act_39 (by decide) ?_
        refine xw_aloadR dd_S_act_41 rfl ?_
        refine xw_ifnonnullR 48 dd_S_act_43 (by decide) ?_
        refine xw_aloadR_n dd_S_act_48 rfl ?_
        refine xw_aloadR dd_S_act_49 rfl ?_
        refine xw_aloadR_n dd_S_act_51 rfl ?_
        refine xw_dom (fun hd1 _ => ?_)
        refine xw_less (kc' := 0 + 1) (ks' := 0 + 4 * ((sv_cnt fs (su_cp S, su_cap S) e rr).2 - (su_cp S, su_cap S).2)) (by omega) (by show 0 + 4 * ((sv_cnt fs (su_cp S, su_cap S) e rr).2 - su_cap S) ≤ 4 * ((sv_cnt fs (su_cp S, su_cap S) e rr).2 - su_cap S); omega) ?_
        refine xw_cl (ct_S_copyNote (C := (su_cp S, su_cap S)) n1 hF1 HF1 hcap w2 w3 hfa hfe) (iv_S_act_52 n1) ok_S_copyNote rfl rfl rfl ?_ (fun _ _ _ q => by cases q.1)
        rintro v h3 z3 u
        have hv := u.1
        cases hv
        obtain ⟨-, ⟨ea3, xs3, u2, u3⟩, u4, u5⟩ := u
        refine xw_iconst 1 dd_S_act_55 (by decide) ?_
        refine xw_zret dd_S_act_56 rfl rfl ⟨rfl, ⟨ea3, ⟨ft_ok hF1 u5 n1 (by simp [xt]) (by simp [xt]), ⟨xs3, u2⟩, ft_ok hF1 u5 hP1 (by simp [xt]) (by simp [xt]), hBo, hBp⟩, u3⟩, u4, fun b e hb hp => ?_⟩
        exact u5 b e ((f1 b hp.1).trans hb) hp.2.2
end SC
