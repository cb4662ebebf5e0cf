/-! the law, case by case (by program: wip/whole/mk70.py) -/
theorem vs.cur {G : xa_G} {h : xa_H} {x : Nat} {V : sv_V} {S : Nat → sv_S} (H : vs G h x V S) : ∀ s, s < 3 → su_cur (S s) ≤ sv_hd V := by
  obtain ⟨ar, cp, -, -, -, -, -, -, h7⟩ := H
  exact fun s hs => (h7.2.2.2.1 s hs).2.2
theorem iC.acts {hd : Nat} {rg : Nat → Nat → Int32} {fs : List sv_E} (hb : bd fs) (hr : bdR hd rg) : ∀ (k : Nat) (S : sv_S), su_cur S ≤ hd → iC (su_cp S) → iC (su_cp (sv_acts hd rg fs k S).2)
  | 0, _, _, H => H
  | k + 1, S, hc, H => iC.acts hb hr k _ (sv_act_cur hc) (iC.act hb hr hc H)
theorem vw_iC {S : Nat → sv_S} {k : Nat} {S' : sv_S} (H : ∀ s, s < 3 → iC (su_cp (S s))) (h1 : iC (su_cp S')) : ∀ s, s < 3 → iC (su_cp (vw S k S' s)) := by
  intro s hs
  unfold vw
  split
  · exact h1
  · exact H s hs
/-- what holds when the law begins its m-th step -/
def LI (G : xa_G) (x b0 n : Nat) (xs : Nat → Int32) (m : Nat) (h : xa_H) (V : sv_V) (S : Nat → sv_S) (K : Nat → Int32) (A : Nat → Nat → Int32) (f : Nat → Int64) : Prop := lgs G h x b0 n xs V S K A f ∧ rV V K A ∧ rS S A ∧ iV m V ∧ ∀ s, s < 3 → iC (su_cp (S s))
section LB
variable {G : xa_G} {h : xa_H} {sz x b0 n m kc ks : Nat} {xs : Nat → Int32} {V : sv_V} {S : Nat → sv_S} {K : Nat → Int32} {A : Nat → Nat → Int32} {f : Nat → Int64} {o5 o6 : Option Value} {Q : Outcome → xa_H → Nat → Prop}
theorem lc_facts (hm512 : m ≤ 512) (hI : iV m V) : (sv_hd V < 700000 ∧ (sv_gs V).length ≤ 14) ∧ sv_srt (sv_fs V) ∧ (∀ e ∈ sv_fs V, 0 < e.1) ∧ (∀ e ∈ sv_fs V, e.2.1 = 0 ∨ e.2.1 = 1) ∧ (∀ e ∈ sv_fs V, e.2.2.1 = 0 ∨ (sv_find (sv_fs V) e.2.2.1).isSome = true) ∧ (∀ e ∈ sv_fs V, e.1 < nI (sv_lt V + 1)) ∧ bd (sv_fs V) ∧ bdR (sv_hd V) (sv_rg V) ∧ (¬ sv_on V = true → sv_gs V = []) := by
  have h1 := hI.2.2.2.2
  have h2 := hI.2.2.1
  have h3 := hI.lt hm512
  refine ⟨⟨by omega, by omega⟩, hI.1.1, fun e he => (hI.1.2.2 e he).1.1, fun e he => (hI.1.2.2 e he).2.1, fun e he => (hI.1.2.2 e he).2.2.imp id (fun q => find_ex.mpr q), fun e he => Int32.lt_of_le_of_lt (hI.1.2.2 e he).1.2 (nI_lt (by omega) (by omega)), fun e he => hI.num hm512 (hI.fnum hm512 he), fun s s1 s2 => hI.num hm512 (hI.2.1.1 s s1 s2), hI.2.1.2.2.1⟩
theorem iC_subscribe {a1 a2 : Int32} (H : ∀ s, s < 3 → iC (su_cp (S s))) : ∀ s, s < 3 → iC (su_cp ((sw_subscribe V S a1 a2).2.2 s)) := by
  unfold sw_subscribe
  by_cases q : a1 < 0 ∨ 3 ≤ a1
  · rw [if_pos q]
    exact H
  · rw [if_neg q]
    obtain ⟨k, hk, rfl⟩ := nI_of (fun w => q (Or.inl w))
    have hk3 : k < 3 := (nI_ltI (b := 3) hk (by decide)).mp (Int32.not_le.mp (fun w => q (Or.inr w)))
    have hsk : sk (nI k) = k := nI_clamp (by omega)
    split
    · exact H
    · rw [hsk]
      exact vw_iC H (H k hk3)
theorem iC_read {a1 : Int32} (H : ∀ s, s < 3 → iC (su_cp (S s))) : ∀ s, s < 3 → iC (su_cp ((sw_read V S a1).2.2 s)) := by
  unfold sw_read
  by_cases q : a1 < 0 ∨ 3 ≤ a1
  · rw [if_pos q]
    exact H
  · rw [if_neg q]
    obtain ⟨k, hk, rfl⟩ := nI_of (fun w => q (Or.inl w))
    have hk3 : k < 3 := (nI_ltI (b := 3) hk (by decide)).mp (Int32.not_le.mp (fun w => q (Or.inr w)))
    have hsk : sk (nI k) = k := nI_clamp (by omega)
    rw [hsk]
    exact vw_iC H (H k hk3)
theorem iC_list {a1 : Int32} (H : ∀ s, s < 3 → iC (su_cp (S s))) : ∀ s, s < 3 → iC (su_cp ((sw_list V S a1).2.2 s)) := by
  unfold sw_list
  by_cases q : a1 < 0 ∨ 3 ≤ a1
  · rw [if_pos q]
    exact H
  · rw [if_neg q]
    obtain ⟨k, hk, rfl⟩ := nI_of (fun w => q (Or.inl w))
    have hk3 : k < 3 := (nI_ltI (b := 3) hk (by decide)).mp (Int32.not_le.mp (fun w => q (Or.inr w)))
    have hsk : sk (nI k) = k := nI_clamp (by omega)
    rw [hsk]
    exact vw_iC H (H k hk3)
theorem iC_page {a1 : Int32} (H : ∀ s, s < 3 → iC (su_cp (S s))) : ∀ s, s < 3 → iC (su_cp ((sw_page V S a1).2.2 s)) := by
  unfold sw_page
  by_cases q : a1 < 0 ∨ 3 ≤ a1
  · rw [if_pos q]
    exact H
  · rw [if_neg q]
    obtain ⟨k, hk, rfl⟩ := nI_of (fun w => q (Or.inl w))
    have hk3 : k < 3 := (nI_ltI (b := 3) hk (by decide)).mp (Int32.not_le.mp (fun w => q (Or.inr w)))
    have hsk : sk (nI k) = k := nI_clamp (by omega)
    rw [hsk]
    split
    · exact vw_iC H (H k hk3)
    · exact H
theorem iC_follow {a1 a2 : Int32} (H : ∀ s, s < 3 → iC (su_cp (S s))) (hbd : bd (sv_fs V)) (hbr : bdR (sv_hd V) (sv_rg V)) (hcu : ∀ s, s < 3 → su_cur (S s) ≤ sv_hd V) : ∀ s, s < 3 → iC (su_cp ((sw_follow V S a1 a2).2.2 s)) := by
  unfold sw_follow
  by_cases q : a1 < 0 ∨ 3 ≤ a1
  · rw [if_pos q]
    exact H
  · rw [if_neg q]
    obtain ⟨k, hk, rfl⟩ := nI_of (fun w => q (Or.inl w))
    have hk3 : k < 3 := (nI_ltI (b := 3) hk (by decide)).mp (Int32.not_le.mp (fun w => q (Or.inr w)))
    have hsk : sk (nI k) = k := nI_clamp (by omega)
    split
    · exact H
    · rw [hsk]
      exact vw_iC H (iC.acts hbd hbr _ _ (hcu k hk3) (H k hk3))
theorem iC_cursor {a1 : Int32} (H : ∀ s, s < 3 → iC (su_cp (S s))) : ∀ s, s < 3 → iC (su_cp ((sw_cursor S a1).2.2 s)) := by
  unfold sw_cursor
  split <;> exact H
theorem iC_shown {a1 a2 : Int32} (H : ∀ s, s < 3 → iC (su_cp (S s))) : ∀ s, s < 3 → iC (su_cp ((sw_shown S a1 a2).2.2 s)) := by
  unfold sw_shown
  split <;> exact H
theorem iC_inStep {a1 : Int32} (H : ∀ s, s < 3 → iC (su_cp (S s))) : ∀ s, s < 3 → iC (su_cp ((sw_step V S a1).2.2 s)) := by
  unfold sw_step
  split <;> exact H
theorem iC_copied {a1 a2 a3 : Int32} (H : ∀ s, s < 3 → iC (su_cp (S s))) : ∀ s, s < 3 → iC (su_cp ((sw_copied S a1 a2 a3).2.2 s)) := by
  unfold sw_copied
  split
  · exact H
  · split <;> exact H
theorem of_V {a1 a2 : Int32} : (sv_of V a1 a2).2.2 = V := by
  unfold sv_of
  repeat' split
  all_goals rfl
theorem nte_V {a1 a2 : Int32} : (sv_nte V a1 a2).2.2 = V := by
  unfold sv_nte
  repeat' split
  all_goals rfl
theorem lw_make (hn : n ≤ 2048) (hmn : 4 * m + 4 ≤ n) (I : LI G x b0 n xs m h V S K A f) (back : ∀ (h1 : xa_H) (z1 : Nat) (V1 : sv_V) (S1 : Nat → sv_S) (K1 : Nat → Int32) (A1 : Nat → Nat → Int32) (f1 : Nat → Int64) (p5 p6 : Option Value), LI G x b0 n xs (m + 1) h1 V1 S1 K1 A1 f1 → xa_W G mm_L_law 14 kc ks 1331 [some (.ref b0), some (.ref x), some (.ref (x + 20)), some (.ref (x + 42)), some (.int (nI (4 * m))), p5, p6] [] h1 z1 Q) : xa_W G mm_L_law 14 (kc + 200) (ks + 4000) 148 [some (.ref b0), some (.ref x), some (.ref (x + 20)), some (.ref (x + 42)), some (.int (nI (4 * m))), o5, o6] [] h sz Q := by
  obtain ⟨H0, hV, hS, hI, hiC⟩ := I
  have hm512 : m ≤ 512 := by omega
  obtain ⟨⟨hh, hg⟩, hsr, hpos, h01, hcl, hlt, hbd, hbr, hoff⟩ := lc_facts hm512 hI
  have hcu := H0.1.cur
  have hfl : (if (zb (¬ (xs (4 * m + 2)) = 0)) = 0 then (0 : Int32) else 1) = if (zb (¬ (xs (4 * m + 2)) = 0)) = 0 then 0 else 1 := rfl
  have hfl01 : (if (zb (¬ (xs (4 * m + 2)) = 0)) = 0 then (0 : Int32) else 1) = 0 ∨ (if (zb (¬ (xs (4 * m + 2)) = 0)) = 0 then (0 : Int32) else 1) = 1 := by
    split
    · exact Or.inl rfl
    · exact Or.inr rfl
  refine xw_aloadR_n dd_L_law_148 rfl ?_
  refine xw_aloadR_n dd_L_law_149 rfl ?_
  refine xw_iload dd_L_law_150 rfl ?_
  refine xw_iconst 1 dd_L_law_152 (by decide) ?_
  refine xw_iadd dd_L_law_153 ?_
  rw [show nI (4 * m) + 1 = nI (4 * m + 1) from nI_add (4 * m) 1]
  refine xw_iald dd_L_law_154 H0.2.2.2.1 (vp_in_nI (show 4 * m + 1 < n by omega) (by omega)) ?_
  rw [nI_clamp (by omega)]
  refine xw_aloadR_n dd_L_law_155 rfl ?_
  refine xw_iload dd_L_law_156 rfl ?_
  refine xw_iconst 2 dd_L_law_158 (by decide) ?_
  refine xw_iadd dd_L_law_159 ?_
  rw [show nI (4 * m) + 2 = nI (4 * m + 2) from nI_add (4 * m) 2]
  refine xw_iald dd_L_law_160 H0.2.2.2.1 (vp_in_nI (show 4 * m + 2 < n by omega) (by omega)) ?_
  rw [nI_clamp (by omega)]
  refine xw_dia (pj := 169) (stj := [.int (xs (4 * m + 1)), .ref x]) (Lj := [some (.ref b0), some (.ref x), some (.ref (x + 20)), some (.ref (x + 42)), some (.int (nI (4 * m))), o5, o6]) (.int (zb (¬ (xs (4 * m + 2)) = 0))) ?_ (fun meet => ?_)
  · skip
    refine xw_aloadR_n dd_L_law_169 rfl ?_
    refine xw_iload dd_L_law_170 rfl ?_
    refine xw_iconst 3 dd_L_law_172 (by decide) ?_
    refine xw_iadd dd_L_law_173 ?_
    rw [show nI (4 * m) + 3 = nI (4 * m + 3) from nI_add (4 * m) 3]
    refine xw_iald dd_L_law_174 H0.2.2.2.1 (vp_in_nI (show 4 * m + 3 < n by omega) (by omega)) ?_
    rw [nI_clamp (by omega)]
    refine xw_aloadR_n dd_L_law_175 rfl ?_
    refine xw_cl (ct_L_make hfl H0 hh hg) iv_L_law_176 ok_L_make rfl rfl rfl ?_ (fun _ _ _ q => by cases q.1)
    rintro v h1 z1 ⟨hv, f1, H1, hf1⟩
    cases hv
    have HM := H1.2.1
    refine xw_istore dd_L_law_179 (by decide) ?_
    refine xw_aloadR_n dd_L_law_181 rfl ?_
    refine xw_aloadR_n dd_L_law_182 rfl ?_
    refine xw_iload dd_L_law_183 rfl ?_
    refine xw_iconst 1 dd_L_law_185 (by decide) ?_
    refine xw_iadd dd_L_law_186 ?_
    rw [show nI (4 * m) + 1 = nI (4 * m + 1) from nI_add (4 * m) 1]
    refine xw_iald dd_L_law_187 H1.2.2.2.1 (vp_in_nI (show 4 * m + 1 < n by omega) (by omega)) ?_
    rw [nI_clamp (by omega)]
    refine xw_aloadR_n dd_L_law_188 rfl ?_
    refine xw_iload dd_L_law_189 rfl ?_
    refine xw_iconst 2 dd_L_law_191 (by decide) ?_
    refine xw_iadd dd_L_law_192 ?_
    rw [show nI (4 * m) + 2 = nI (4 * m + 2) from nI_add (4 * m) 2]
    refine xw_iald dd_L_law_193 H1.2.2.2.1 (vp_in_nI (show 4 * m + 2 < n by omega) (by omega)) ?_
    rw [nI_clamp (by omega)]
    refine xw_dia (pj := 202) (stj := [.int (xs (4 * m + 1)), .ref (x + 20)]) (Lj := [some (.ref b0), some (.ref x), some (.ref (x + 20)), some (.ref (x + 42)), some (.int (nI (4 * m))), some (.int (nI (sv_mk V (xs (4 * m + 1)) (if (zb (¬ (xs (4 * m + 2)) = 0)) = 0 then (0 : Int32) else 1) (xs (4 * m + 3))).1)), o6]) (.int (zb (¬ (xs (4 * m + 2)) = 0))) ?_ (fun meet => ?_)
    · skip
      refine xw_aloadR_n dd_L_law_202 rfl ?_
      refine xw_iload dd_L_law_203 rfl ?_
      refine xw_iconst 3 dd_L_law_205 (by decide) ?_
      refine xw_iadd dd_L_law_206 ?_
      rw [show nI (4 * m) + 3 = nI (4 * m + 3) from nI_add (4 * m) 3]
      refine xw_iald dd_L_law_207 H1.2.2.2.1 (vp_in_nI (show 4 * m + 3 < n by omega) (by omega)) ?_
      rw [nI_clamp (by omega)]
      refine xw_cl0 (ct_M_make (fl := (if (zb (¬ (xs (4 * m + 2)) = 0)) = 0 then (0 : Int32) else 1)) hfl HM hV (by omega) hlt hpos) (iv_L_law_208 HM.1) ok_M_make rfl rfl rfl ?_ (fun _ _ _ q => by cases q.1)
      rintro v h2 z2 ⟨hv, rfl, ⟨K2, A2, HM2, V2, e2, a2⟩, fr2⟩
      cases hv
      have H2 := H1.byM HM2 fr2
      have S2 : rS S A2 := hS.cg (fun i i1 i2 => a2 i i1 (by omega))
      have J : LI G x b0 n xs (m + 1) h2 (sv_mk V (xs (4 * m + 1)) (if (zb (¬ (xs (4 * m + 2)) = 0)) = 0 then (0 : Int32) else 1) (xs (4 * m + 3))).2.2 (S) K2 A2 f1 := ⟨H2, V2, S2, hI.mk hm512 hfl01, hiC⟩
      refine xw_istore dd_L_law_211 (by decide) ?_
      refine xw_aloadR_n dd_L_law_213 rfl ?_
      refine xw_cl0 (ct_M_thrown HM2) (iv_L_law_214 HM2.1) ok_M_thrown rfl rfl rfl ?_ (fun _ _ _ q => by cases q.1)
      rintro v h2 z2 ⟨hv, rfl, rfl⟩
      cases hv
      rw [e2]
      refine xw_iload dd_L_law_217 rfl ?_
      refine xw_icmp_eq 224 dd_L_law_219 (by decide) (fun hc => ?_) (fun hc => absurd rfl hc)
      refine xw_iload dd_L_law_224 rfl ?_
      refine xw_if_ne 241 dd_L_law_226 (by decide) (fun hc => ?_) (fun hc => ?_)
      · refine xw_goto 1331 dd_L_law_241 (by decide) ?_
        exact back _ _ _ _ _ _ _ _ _ J
      · have hc0 : (sv_mk V (xs (4 * m + 1)) (if (zb (¬ (xs (4 * m + 2)) = 0)) = 0 then (0 : Int32) else 1) (xs (4 * m + 3))).1 = 0 := (nI_eq (b := 0) (by have := lc_make (V := V) (a1 := (xs (4 * m + 1))) (fl := (if (zb (¬ (xs (4 * m + 2)) = 0)) = 0 then (0 : Int32) else 1)) (a3 := (xs (4 * m + 3))); omega) (by decide)).mp hc
        refine xw_aloadR_n dd_L_law_229 rfl ?_
        refine xw_iconst 0 dd_L_law_230 (by decide) ?_
        refine xw_lald dd_L_law_231 H2.2.2.1 (vp_in_nI (n := 0) (by decide) (by decide)) ?_
        rw [show ((0 : Int32).toNatClampNeg) = 0 from rfl, hf1 hc0]
        refine xw_iload dd_L_law_232 rfl ?_
        refine xw_i2l dd_L_law_234 ?_
        refine xw_lcmp dd_L_law_235 ?_
        refine xw_if_eq 241 dd_L_law_236 (by decide) (fun hc => ?_) (fun hc => absurd ((lg_cmp_eq _ _).mpr rfl) hc)
        refine xw_goto 1331 dd_L_law_241 (by decide) ?_
        exact back _ _ _ _ _ _ _ _ _ J
    · refine xw_if_eq 201 dd_L_law_194 (by decide) (fun hc => ?_) (fun hc => ?_)
      · refine xw_iconst 0 dd_L_law_201 (by decide) ?_
        exact meet _ (congrArg Value.int (zb_0 (fun w => w hc)))
      · refine xw_iconst 1 dd_L_law_197 (by decide) ?_
        refine xw_goto 202 dd_L_law_198 (by decide) ?_
        exact meet _ (congrArg Value.int (zb_1 hc))
  · refine xw_if_eq 168 dd_L_law_161 (by decide) (fun hc => ?_) (fun hc => ?_)
    · refine xw_iconst 0 dd_L_law_168 (by decide) ?_
      exact meet _ (congrArg Value.int (zb_0 (fun w => w hc)))
    · refine xw_iconst 1 dd_L_law_164 (by decide) ?_
      refine xw_goto 169 dd_L_law_165 (by decide) ?_
      exact meet _ (congrArg Value.int (zb_1 hc))
theorem lw_change (hn : n ≤ 2048) (hmn : 4 * m + 4 ≤ n) (I : LI G x b0 n xs m h V S K A f) (back : ∀ (h1 : xa_H) (z1 : Nat) (V1 : sv_V) (S1 : Nat → sv_S) (K1 : Nat → Int32) (A1 : Nat → Nat → Int32) (f1 : Nat → Int64) (p5 p6 : Option Value), LI G x b0 n xs (m + 1) h1 V1 S1 K1 A1 f1 → xa_W G mm_L_law 14 kc ks 1331 [some (.ref b0), some (.ref x), some (.ref (x + 20)), some (.ref (x + 42)), some (.int (nI (4 * m))), p5, p6] [] h1 z1 Q) : xa_W G mm_L_law 14 (kc + 200) (ks + 4000) 244 [some (.ref b0), some (.ref x), some (.ref (x + 20)), some (.ref (x + 42)), some (.int (nI (4 * m))), o5, o6] [] h sz Q := by
  obtain ⟨H0, hV, hS, hI, hiC⟩ := I
  have hm512 : m ≤ 512 := by omega
  obtain ⟨⟨hh, hg⟩, hsr, hpos, h01, hcl, hlt, hbd, hbr, hoff⟩ := lc_facts hm512 hI
  have hcu := H0.1.cur
  refine xw_aloadR_n dd_L_law_244 rfl ?_
  refine xw_aloadR_n dd_L_law_245 rfl ?_
  refine xw_iload dd_L_law_246 rfl ?_
  refine xw_iconst 1 dd_L_law_248 (by decide) ?_
  refine xw_iadd dd_L_law_249 ?_
  rw [show nI (4 * m) + 1 = nI (4 * m + 1) from nI_add (4 * m) 1]
  refine xw_iald dd_L_law_250 H0.2.2.2.1 (vp_in_nI (show 4 * m + 1 < n by omega) (by omega)) ?_
  rw [nI_clamp (by omega)]
  refine xw_aloadR_n dd_L_law_251 rfl ?_
  refine xw_cl (ct_L_change H0 hh hg) iv_L_law_252 ok_L_change rfl rfl rfl ?_ (fun _ _ _ q => by cases q.1)
  rintro v h1 z1 ⟨hv, f1, H1, hf1⟩
  cases hv
  have HM := H1.2.1
  refine xw_istore dd_L_law_255 (by decide) ?_
  refine xw_aloadR_n dd_L_law_257 rfl ?_
  refine xw_aloadR_n dd_L_law_258 rfl ?_
  refine xw_iload dd_L_law_259 rfl ?_
  refine xw_iconst 1 dd_L_law_261 (by decide) ?_
  refine xw_iadd dd_L_law_262 ?_
  rw [show nI (4 * m) + 1 = nI (4 * m + 1) from nI_add (4 * m) 1]
  refine xw_iald dd_L_law_263 H1.2.2.2.1 (vp_in_nI (show 4 * m + 1 < n by omega) (by omega)) ?_
  rw [nI_clamp (by omega)]
  refine xw_cl0 (ct_M_change HM hV (by omega) hsr h01) (iv_L_law_264 HM.1) ok_M_change rfl rfl rfl ?_ (fun _ _ _ q => by cases q.1)
  rintro v h2 z2 ⟨hv, rfl, ⟨K2, A2, HM2, V2, e2, a2⟩, fr2⟩
  cases hv
  have H2 := H1.byM HM2 fr2
  have S2 : rS S A2 := hS.cg (fun i i1 i2 => a2 i i1 (by omega))
  have J : LI G x b0 n xs (m + 1) h2 (sv_chn V (xs (4 * m + 1))).2.2 (S) K2 A2 f1 := ⟨H2, V2, S2, hI.chn hm512, hiC⟩
  refine xw_istore dd_L_law_267 (by decide) ?_
  refine xw_aloadR_n dd_L_law_269 rfl ?_
  refine xw_cl0 (ct_M_thrown HM2) (iv_L_law_270 HM2.1) ok_M_thrown rfl rfl rfl ?_ (fun _ _ _ q => by cases q.1)
  rintro v h2 z2 ⟨hv, rfl, rfl⟩
  cases hv
  rw [e2]
  refine xw_iload dd_L_law_273 rfl ?_
  refine xw_icmp_eq 280 dd_L_law_275 (by decide) (fun hc => ?_) (fun hc => absurd rfl hc)
  refine xw_iload dd_L_law_280 rfl ?_
  refine xw_if_ne 297 dd_L_law_282 (by decide) (fun hc => ?_) (fun hc => ?_)
  · refine xw_goto 1331 dd_L_law_297 (by decide) ?_
    exact back _ _ _ _ _ _ _ _ _ J
  · have hc0 : (sv_chn V (xs (4 * m + 1))).1 = 0 := (nI_eq (b := 0) (by have := lc_change (V := V) (a1 := (xs (4 * m + 1))); omega) (by decide)).mp hc
    refine xw_aloadR_n dd_L_law_285 rfl ?_
    refine xw_iconst 0 dd_L_law_286 (by decide) ?_
    refine xw_lald dd_L_law_287 H2.2.2.1 (vp_in_nI (n := 0) (by decide) (by decide)) ?_
    rw [show ((0 : Int32).toNatClampNeg) = 0 from rfl, hf1 hc0]
    refine xw_iload dd_L_law_288 rfl ?_
    refine xw_i2l dd_L_law_290 ?_
    refine xw_lcmp dd_L_law_291 ?_
    refine xw_if_eq 297 dd_L_law_292 (by decide) (fun hc => ?_) (fun hc => absurd ((lg_cmp_eq _ _).mpr rfl) hc)
    refine xw_goto 1331 dd_L_law_297 (by decide) ?_
    exact back _ _ _ _ _ _ _ _ _ J
theorem lw_rename (hn : n ≤ 2048) (hmn : 4 * m + 4 ≤ n) (I : LI G x b0 n xs m h V S K A f) (back : ∀ (h1 : xa_H) (z1 : Nat) (V1 : sv_V) (S1 : Nat → sv_S) (K1 : Nat → Int32) (A1 : Nat → Nat → Int32) (f1 : Nat → Int64) (p5 p6 : Option Value), LI G x b0 n xs (m + 1) h1 V1 S1 K1 A1 f1 → xa_W G mm_L_law 14 kc ks 1331 [some (.ref b0), some (.ref x), some (.ref (x + 20)), some (.ref (x + 42)), some (.int (nI (4 * m))), p5, p6] [] h1 z1 Q) : xa_W G mm_L_law 14 (kc + 200) (ks + 4000) 300 [some (.ref b0), some (.ref x), some (.ref (x + 20)), some (.ref (x + 42)), some (.int (nI (4 * m))), o5, o6] [] h sz Q := by
  obtain ⟨H0, hV, hS, hI, hiC⟩ := I
  have hm512 : m ≤ 512 := by omega
  obtain ⟨⟨hh, hg⟩, hsr, hpos, h01, hcl, hlt, hbd, hbr, hoff⟩ := lc_facts hm512 hI
  have hcu := H0.1.cur
  refine xw_aloadR_n dd_L_law_300 rfl ?_
  refine xw_aloadR_n dd_L_law_301 rfl ?_
  refine xw_iload dd_L_law_302 rfl ?_
  refine xw_iconst 1 dd_L_law_304 (by decide) ?_
  refine xw_iadd dd_L_law_305 ?_
  rw [show nI (4 * m) + 1 = nI (4 * m + 1) from nI_add (4 * m) 1]
  refine xw_iald dd_L_law_306 H0.2.2.2.1 (vp_in_nI (show 4 * m + 1 < n by omega) (by omega)) ?_
  rw [nI_clamp (by omega)]
  refine xw_aloadR_n dd_L_law_307 rfl ?_
  refine xw_iload dd_L_law_308 rfl ?_
  refine xw_iconst 2 dd_L_law_310 (by decide) ?_
  refine xw_iadd dd_L_law_311 ?_
  rw [show nI (4 * m) + 2 = nI (4 * m + 2) from nI_add (4 * m) 2]
  refine xw_iald dd_L_law_312 H0.2.2.2.1 (vp_in_nI (show 4 * m + 2 < n by omega) (by omega)) ?_
  rw [nI_clamp (by omega)]
  refine xw_aloadR_n dd_L_law_313 rfl ?_
  refine xw_iload dd_L_law_314 rfl ?_
  refine xw_iconst 3 dd_L_law_316 (by decide) ?_
  refine xw_iadd dd_L_law_317 ?_
  rw [show nI (4 * m) + 3 = nI (4 * m + 3) from nI_add (4 * m) 3]
  refine xw_iald dd_L_law_318 H0.2.2.2.1 (vp_in_nI (show 4 * m + 3 < n by omega) (by omega)) ?_
  rw [nI_clamp (by omega)]
  refine xw_aloadR_n dd_L_law_319 rfl ?_
  refine xw_cl (ct_L_rename H0 hh hg) iv_L_law_320 ok_L_rename rfl rfl rfl ?_ (fun _ _ _ q => by cases q.1)
  rintro v h1 z1 ⟨hv, f1, H1, hf1⟩
  cases hv
  have HM := H1.2.1
  refine xw_istore dd_L_law_323 (by decide) ?_
  refine xw_aloadR_n dd_L_law_325 rfl ?_
  refine xw_aloadR_n dd_L_law_326 rfl ?_
  refine xw_iload dd_L_law_327 rfl ?_
  refine xw_iconst 1 dd_L_law_329 (by decide) ?_
  refine xw_iadd dd_L_law_330 ?_
  rw [show nI (4 * m) + 1 = nI (4 * m + 1) from nI_add (4 * m) 1]
  refine xw_iald dd_L_law_331 H1.2.2.2.1 (vp_in_nI (show 4 * m + 1 < n by omega) (by omega)) ?_
  rw [nI_clamp (by omega)]
  refine xw_aloadR_n dd_L_law_332 rfl ?_
  refine xw_iload dd_L_law_333 rfl ?_
  refine xw_iconst 2 dd_L_law_335 (by decide) ?_
  refine xw_iadd dd_L_law_336 ?_
  rw [show nI (4 * m) + 2 = nI (4 * m + 2) from nI_add (4 * m) 2]
  refine xw_iald dd_L_law_337 H1.2.2.2.1 (vp_in_nI (show 4 * m + 2 < n by omega) (by omega)) ?_
  rw [nI_clamp (by omega)]
  refine xw_aloadR_n dd_L_law_338 rfl ?_
  refine xw_iload dd_L_law_339 rfl ?_
  refine xw_iconst 3 dd_L_law_341 (by decide) ?_
  refine xw_iadd dd_L_law_342 ?_
  rw [show nI (4 * m) + 3 = nI (4 * m + 3) from nI_add (4 * m) 3]
  refine xw_iald dd_L_law_343 H1.2.2.2.1 (vp_in_nI (show 4 * m + 3 < n by omega) (by omega)) ?_
  rw [nI_clamp (by omega)]
  refine xw_cl0 (ct_M_rename HM hV (by omega) hsr hpos hcl) (iv_L_law_344 HM.1) ok_M_rename rfl rfl rfl ?_ (fun _ _ _ q => by cases q.1)
  rintro v h2 z2 ⟨hv, rfl, ⟨K2, A2, HM2, V2, e2, a2⟩, fr2⟩
  cases hv
  have H2 := H1.byM HM2 fr2
  have S2 : rS S A2 := hS.cg (fun i i1 i2 => a2 i i1 (by omega))
  have J : LI G x b0 n xs (m + 1) h2 (sv_ren V (xs (4 * m + 1)) (xs (4 * m + 2)) (xs (4 * m + 3))).2.2 (S) K2 A2 f1 := ⟨H2, V2, S2, hI.ren hm512, hiC⟩
  refine xw_istore dd_L_law_347 (by decide) ?_
  refine xw_aloadR_n dd_L_law_349 rfl ?_
  refine xw_cl0 (ct_M_thrown HM2) (iv_L_law_350 HM2.1) ok_M_thrown rfl rfl rfl ?_ (fun _ _ _ q => by cases q.1)
  rintro v h2 z2 ⟨hv, rfl, rfl⟩
  cases hv
  rw [e2]
  refine xw_iload dd_L_law_353 rfl ?_
  refine xw_icmp_eq 360 dd_L_law_355 (by decide) (fun hc => ?_) (fun hc => absurd rfl hc)
  refine xw_iload dd_L_law_360 rfl ?_
  refine xw_if_ne 384 dd_L_law_362 (by decide) (fun hc => ?_) (fun hc => ?_)
  · refine xw_goto 1331 dd_L_law_384 (by decide) ?_
    exact back _ _ _ _ _ _ _ _ _ J
  · have hc0 : (sv_ren V (xs (4 * m + 1)) (xs (4 * m + 2)) (xs (4 * m + 3))).1 = 0 := (nI_eq (b := 0) (by have := lc_rename (V := V) (a1 := (xs (4 * m + 1))) (a2 := (xs (4 * m + 2))) (a3 := (xs (4 * m + 3))); omega) (by decide)).mp hc
    refine xw_aloadR_n dd_L_law_365 rfl ?_
    refine xw_iconst 0 dd_L_law_366 (by decide) ?_
    refine xw_lald dd_L_law_367 H2.2.2.1 (vp_in_nI (n := 0) (by decide) (by decide)) ?_
    rw [show ((0 : Int32).toNatClampNeg) = 0 from rfl, hf1 hc0]
    refine xw_iload dd_L_law_368 rfl ?_
    refine xw_if_eq 377 dd_L_law_370 (by decide) (fun hz => ?_) (fun hz => ?_)
    · refine xw_lconst 0 dd_L_law_377 (by decide) ?_
      refine xw_lcmp dd_L_law_378 ?_
      refine xw_if_eq 384 dd_L_law_379 (by decide) (fun hc => ?_) (fun hc => absurd ((lg_cmp_eq _ _).mpr (if_pos hz)) hc)
      refine xw_goto 1331 dd_L_law_384 (by decide) ?_
      exact back _ _ _ _ _ _ _ _ _ J
    · refine xw_lconst 1 dd_L_law_373 (by decide) ?_
      refine xw_goto 378 dd_L_law_374 (by decide) ?_
      refine xw_lcmp dd_L_law_378 ?_
      refine xw_if_eq 384 dd_L_law_379 (by decide) (fun hc => ?_) (fun hc => absurd ((lg_cmp_eq _ _).mpr (if_neg hz)) hc)
      refine xw_goto 1331 dd_L_law_384 (by decide) ?_
      exact back _ _ _ _ _ _ _ _ _ J
theorem lw_remove (hn : n ≤ 2048) (hmn : 4 * m + 4 ≤ n) (I : LI G x b0 n xs m h V S K A f) (back : ∀ (h1 : xa_H) (z1 : Nat) (V1 : sv_V) (S1 : Nat → sv_S) (K1 : Nat → Int32) (A1 : Nat → Nat → Int32) (f1 : Nat → Int64) (p5 p6 : Option Value), LI G x b0 n xs (m + 1) h1 V1 S1 K1 A1 f1 → xa_W G mm_L_law 14 kc ks 1331 [some (.ref b0), some (.ref x), some (.ref (x + 20)), some (.ref (x + 42)), some (.int (nI (4 * m))), p5, p6] [] h1 z1 Q) : xa_W G mm_L_law 14 (kc + 200) (ks + 4000) 387 [some (.ref b0), some (.ref x), some (.ref (x + 20)), some (.ref (x + 42)), some (.int (nI (4 * m))), o5, o6] [] h sz Q := by
  obtain ⟨H0, hV, hS, hI, hiC⟩ := I
  have hm512 : m ≤ 512 := by omega
  obtain ⟨⟨hh, hg⟩, hsr, hpos, h01, hcl, hlt, hbd, hbr, hoff⟩ := lc_facts hm512 hI
  have hcu := H0.1.cur
  refine xw_aloadR_n dd_L_law_387 rfl ?_
  refine xw_aloadR_n dd_L_law_388 rfl ?_
  refine xw_iload dd_L_law_389 rfl ?_
  refine xw_iconst 1 dd_L_law_391 (by decide) ?_
  refine xw_iadd dd_L_law_392 ?_
  rw [show nI (4 * m) + 1 = nI (4 * m + 1) from nI_add (4 * m) 1]
  refine xw_iald dd_L_law_393 H0.2.2.2.1 (vp_in_nI (show 4 * m + 1 < n by omega) (by omega)) ?_
  rw [nI_clamp (by omega)]
  refine xw_aloadR_n dd_L_law_394 rfl ?_
  refine xw_cl (ct_L_remove H0 hh hg) iv_L_law_395 ok_L_remove rfl rfl rfl ?_ (fun _ _ _ q => by cases q.1)
  rintro v h1 z1 ⟨hv, f1, H1, hf1⟩
  cases hv
  have HM := H1.2.1
  refine xw_istore dd_L_law_398 (by decide) ?_
  refine xw_aloadR_n dd_L_law_400 rfl ?_
  refine xw_aloadR_n dd_L_law_401 rfl ?_
  refine xw_iload dd_L_law_402 rfl ?_
  refine xw_iconst 1 dd_L_law_404 (by decide) ?_
  refine xw_iadd dd_L_law_405 ?_
  rw [show nI (4 * m) + 1 = nI (4 * m + 1) from nI_add (4 * m) 1]
  refine xw_iald dd_L_law_406 H1.2.2.2.1 (vp_in_nI (show 4 * m + 1 < n by omega) (by omega)) ?_
  rw [nI_clamp (by omega)]
  refine xw_cl0 (ct_M_remove HM hV (by omega)) (iv_L_law_407 HM.1) ok_M_remove rfl rfl rfl ?_ (fun _ _ _ q => by cases q.1)
  rintro v h2 z2 ⟨hv, rfl, ⟨K2, A2, HM2, V2, e2, a2⟩, fr2⟩
  cases hv
  have H2 := H1.byM HM2 fr2
  have S2 : rS S A2 := hS.cg (fun i i1 i2 => a2 i i1 (by omega))
  have J : LI G x b0 n xs (m + 1) h2 (sv_rem V (xs (4 * m + 1))).2.2 (S) K2 A2 f1 := ⟨H2, V2, S2, hI.rem hm512, hiC⟩
  refine xw_istore dd_L_law_410 (by decide) ?_
  refine xw_aloadR_n dd_L_law_412 rfl ?_
  refine xw_cl0 (ct_M_thrown HM2) (iv_L_law_413 HM2.1) ok_M_thrown rfl rfl rfl ?_ (fun _ _ _ q => by cases q.1)
  rintro v h2 z2 ⟨hv, rfl, rfl⟩
  cases hv
  rw [e2]
  refine xw_iload dd_L_law_416 rfl ?_
  refine xw_icmp_eq 423 dd_L_law_418 (by decide) (fun hc => ?_) (fun hc => absurd rfl hc)
  refine xw_iload dd_L_law_423 rfl ?_
  refine xw_if_ne 447 dd_L_law_425 (by decide) (fun hc => ?_) (fun hc => ?_)
  · refine xw_goto 1331 dd_L_law_447 (by decide) ?_
    exact back _ _ _ _ _ _ _ _ _ J
  · have hc0 : (sv_rem V (xs (4 * m + 1))).1 = 0 := (nI_eq (b := 0) (by have := lc_remove (V := V) (a1 := (xs (4 * m + 1))); omega) (by decide)).mp hc
    refine xw_aloadR_n dd_L_law_428 rfl ?_
    refine xw_iconst 0 dd_L_law_429 (by decide) ?_
    refine xw_lald dd_L_law_430 H2.2.2.1 (vp_in_nI (n := 0) (by decide) (by decide)) ?_
    rw [show ((0 : Int32).toNatClampNeg) = 0 from rfl, hf1 hc0]
    refine xw_iload dd_L_law_431 rfl ?_
    refine xw_if_eq 440 dd_L_law_433 (by decide) (fun hz => ?_) (fun hz => ?_)
    · refine xw_lconst 0 dd_L_law_440 (by decide) ?_
      refine xw_lcmp dd_L_law_441 ?_
      refine xw_if_eq 447 dd_L_law_442 (by decide) (fun hc => ?_) (fun hc => absurd ((lg_cmp_eq _ _).mpr (if_pos hz)) hc)
      refine xw_goto 1331 dd_L_law_447 (by decide) ?_
      exact back _ _ _ _ _ _ _ _ _ J
    · refine xw_lconst 1 dd_L_law_436 (by decide) ?_
      refine xw_goto 441 dd_L_law_437 (by decide) ?_
      refine xw_lcmp dd_L_law_441 ?_
      refine xw_if_eq 447 dd_L_law_442 (by decide) (fun hc => ?_) (fun hc => absurd ((lg_cmp_eq _ _).mpr (if_neg hz)) hc)
      refine xw_goto 1331 dd_L_law_447 (by decide) ?_
      exact back _ _ _ _ _ _ _ _ _ J
theorem lw_close (hn : n ≤ 2048) (hmn : 4 * m + 4 ≤ n) (I : LI G x b0 n xs m h V S K A f) (back : ∀ (h1 : xa_H) (z1 : Nat) (V1 : sv_V) (S1 : Nat → sv_S) (K1 : Nat → Int32) (A1 : Nat → Nat → Int32) (f1 : Nat → Int64) (p5 p6 : Option Value), LI G x b0 n xs (m + 1) h1 V1 S1 K1 A1 f1 → xa_W G mm_L_law 14 kc ks 1331 [some (.ref b0), some (.ref x), some (.ref (x + 20)), some (.ref (x + 42)), some (.int (nI (4 * m))), p5, p6] [] h1 z1 Q) : xa_W G mm_L_law 14 (kc + 200) (ks + 4000) 450 [some (.ref b0), some (.ref x), some (.ref (x + 20)), some (.ref (x + 42)), some (.int (nI (4 * m))), o5, o6] [] h sz Q := by
  obtain ⟨H0, hV, hS, hI, hiC⟩ := I
  have hm512 : m ≤ 512 := by omega
  obtain ⟨⟨hh, hg⟩, hsr, hpos, h01, hcl, hlt, hbd, hbr, hoff⟩ := lc_facts hm512 hI
  have hcu := H0.1.cur
  refine xw_aloadR_n dd_L_law_450 rfl ?_
  refine xw_aloadR_n dd_L_law_451 rfl ?_
  refine xw_iload dd_L_law_452 rfl ?_
  refine xw_iconst 1 dd_L_law_454 (by decide) ?_
  refine xw_iadd dd_L_law_455 ?_
  rw [show nI (4 * m) + 1 = nI (4 * m + 1) from nI_add (4 * m) 1]
  refine xw_iald dd_L_law_456 H0.2.2.2.1 (vp_in_nI (show 4 * m + 1 < n by omega) (by omega)) ?_
  rw [nI_clamp (by omega)]
  refine xw_aloadR_n dd_L_law_457 rfl ?_
  refine xw_cl (ct_L_close H0 hh hg) iv_L_law_458 ok_L_close rfl rfl rfl ?_ (fun _ _ _ q => by cases q.1)
  rintro v h1 z1 ⟨hv, f1, H1, hf1⟩
  cases hv
  have HM := H1.2.1
  refine xw_istore dd_L_law_461 (by decide) ?_
  refine xw_aloadR_n dd_L_law_463 rfl ?_
  refine xw_aloadR_n dd_L_law_464 rfl ?_
  refine xw_iload dd_L_law_465 rfl ?_
  refine xw_iconst 1 dd_L_law_467 (by decide) ?_
  refine xw_iadd dd_L_law_468 ?_
  rw [show nI (4 * m) + 1 = nI (4 * m + 1) from nI_add (4 * m) 1]
  refine xw_iald dd_L_law_469 H1.2.2.2.1 (vp_in_nI (show 4 * m + 1 < n by omega) (by omega)) ?_
  rw [nI_clamp (by omega)]
  refine xw_cl0 (ct_M_close HM hV (by omega)) (iv_L_law_470 HM.1) ok_M_close rfl rfl rfl ?_ (fun _ _ _ q => by cases q.1)
  rintro v h2 z2 ⟨hv, rfl, ⟨K2, A2, HM2, V2, e2, a2⟩, fr2⟩
  cases hv
  have H2 := H1.byM HM2 fr2
  have S2 : rS S A2 := hS.cg (fun i i1 i2 => a2 i i1 (by omega))
  have J : LI G x b0 n xs (m + 1) h2 (sv_cls V (xs (4 * m + 1))).2.2 (S) K2 A2 f1 := ⟨H2, V2, S2, hI.cls, hiC⟩
  refine xw_istore dd_L_law_473 (by decide) ?_
  refine xw_aloadR_n dd_L_law_475 rfl ?_
  refine xw_cl0 (ct_M_thrown HM2) (iv_L_law_476 HM2.1) ok_M_thrown rfl rfl rfl ?_ (fun _ _ _ q => by cases q.1)
  rintro v h2 z2 ⟨hv, rfl, rfl⟩
  cases hv
  rw [e2]
  refine xw_iload dd_L_law_479 rfl ?_
  refine xw_icmp_eq 486 dd_L_law_481 (by decide) (fun hc => ?_) (fun hc => absurd rfl hc)
  refine xw_iload dd_L_law_486 rfl ?_
  refine xw_if_ne 510 dd_L_law_488 (by decide) (fun hc => ?_) (fun hc => ?_)
  · refine xw_goto 1331 dd_L_law_510 (by decide) ?_
    exact back _ _ _ _ _ _ _ _ _ J
  · have hc0 : (sv_cls V (xs (4 * m + 1))).1 = 0 := (nI_eq (b := 0) (by have := lc_close (V := V) (a1 := (xs (4 * m + 1))); omega) (by decide)).mp hc
    refine xw_aloadR_n dd_L_law_491 rfl ?_
    refine xw_iconst 0 dd_L_law_492 (by decide) ?_
    refine xw_lald dd_L_law_493 H2.2.2.1 (vp_in_nI (n := 0) (by decide) (by decide)) ?_
    rw [show ((0 : Int32).toNatClampNeg) = 0 from rfl, hf1 hc0]
    refine xw_iload dd_L_law_494 rfl ?_
    refine xw_if_eq 503 dd_L_law_496 (by decide) (fun hz => ?_) (fun hz => ?_)
    · refine xw_lconst 0 dd_L_law_503 (by decide) ?_
      refine xw_lcmp dd_L_law_504 ?_
      refine xw_if_eq 510 dd_L_law_505 (by decide) (fun hc => ?_) (fun hc => absurd ((lg_cmp_eq _ _).mpr (if_pos hz)) hc)
      refine xw_goto 1331 dd_L_law_510 (by decide) ?_
      exact back _ _ _ _ _ _ _ _ _ J
    · refine xw_lconst 1 dd_L_law_499 (by decide) ?_
      refine xw_goto 504 dd_L_law_500 (by decide) ?_
      refine xw_lcmp dd_L_law_504 ?_
      refine xw_if_eq 510 dd_L_law_505 (by decide) (fun hc => ?_) (fun hc => absurd ((lg_cmp_eq _ _).mpr (if_neg hz)) hc)
      refine xw_goto 1331 dd_L_law_510 (by decide) ?_
      exact back _ _ _ _ _ _ _ _ _ J
theorem lw_open (hn : n ≤ 2048) (hmn : 4 * m + 4 ≤ n) (I : LI G x b0 n xs m h V S K A f) (back : ∀ (h1 : xa_H) (z1 : Nat) (V1 : sv_V) (S1 : Nat → sv_S) (K1 : Nat → Int32) (A1 : Nat → Nat → Int32) (f1 : Nat → Int64) (p5 p6 : Option Value), LI G x b0 n xs (m + 1) h1 V1 S1 K1 A1 f1 → xa_W G mm_L_law 14 kc ks 1331 [some (.ref b0), some (.ref x), some (.ref (x + 20)), some (.ref (x + 42)), some (.int (nI (4 * m))), p5, p6] [] h1 z1 Q) : xa_W G mm_L_law 14 (kc + 200) (ks + 4000) 513 [some (.ref b0), some (.ref x), some (.ref (x + 20)), some (.ref (x + 42)), some (.int (nI (4 * m))), o5, o6] [] h sz Q := by
  obtain ⟨H0, hV, hS, hI, hiC⟩ := I
  have hm512 : m ≤ 512 := by omega
  obtain ⟨⟨hh, hg⟩, hsr, hpos, h01, hcl, hlt, hbd, hbr, hoff⟩ := lc_facts hm512 hI
  have hcu := H0.1.cur
  refine xw_less (kc' := kc) (ks' := ks) (by omega) (by omega) ?_
  refine xw_aloadR_n dd_L_law_513 rfl ?_
  refine xw_cl0 (ct_V_open H0.1) (iv_L_law_514 H0.1.cell) ok_V_open rfl rfl rfl ?_ (fun _ _ _ q => by cases q.1)
  rintro v h sz ⟨hv, rfl, rfl⟩
  cases hv
  have H1 := H0
  have HM := H1.2.1
  refine xw_aloadR_n dd_L_law_517 rfl ?_
  refine xw_cl0 (ct_M_open HM hV hoff) (iv_L_law_518 HM.1) ok_M_open rfl rfl rfl ?_ (fun _ _ _ q => by cases q.1)
  rintro v h2 z2 ⟨hv, rfl, ⟨K2, A2, HM2, V2, e2, a2⟩, fr2⟩
  cases hv
  have H2 := H1.byM HM2 fr2
  have S2 : rS S A2 := hS.cg (fun i i1 i2 => a2 i i1 (by omega))
  refine xw_icmp_eq 1331 dd_L_law_521 (by decide) (fun hc => ?_) (fun hc => absurd rfl hc)
  exact back _ _ _ _ _ _ _ _ _ ⟨H2, V2, S2, hI.up, hiC⟩
theorem lw_of (hn : n ≤ 2048) (hmn : 4 * m + 4 ≤ n) (I : LI G x b0 n xs m h V S K A f) (back : ∀ (h1 : xa_H) (z1 : Nat) (V1 : sv_V) (S1 : Nat → sv_S) (K1 : Nat → Int32) (A1 : Nat → Nat → Int32) (f1 : Nat → Int64) (p5 p6 : Option Value), LI G x b0 n xs (m + 1) h1 V1 S1 K1 A1 f1 → xa_W G mm_L_law 14 kc ks 1331 [some (.ref b0), some (.ref x), some (.ref (x + 20)), some (.ref (x + 42)), some (.int (nI (4 * m))), p5, p6] [] h1 z1 Q) : xa_W G mm_L_law 14 (kc + 200) (ks + 4000) 526 [some (.ref b0), some (.ref x), some (.ref (x + 20)), some (.ref (x + 42)), some (.int (nI (4 * m))), o5, o6] [] h sz Q := by
  obtain ⟨H0, hV, hS, hI, hiC⟩ := I
  have hm512 : m ≤ 512 := by omega
  obtain ⟨⟨hh, hg⟩, hsr, hpos, h01, hcl, hlt, hbd, hbr, hoff⟩ := lc_facts hm512 hI
  have hcu := H0.1.cur
  refine xw_aloadR_n dd_L_law_526 rfl ?_
  refine xw_aloadR_n dd_L_law_527 rfl ?_
  refine xw_iload dd_L_law_528 rfl ?_
  refine xw_iconst 1 dd_L_law_530 (by decide) ?_
  refine xw_iadd dd_L_law_531 ?_
  rw [show nI (4 * m) + 1 = nI (4 * m + 1) from nI_add (4 * m) 1]
  refine xw_iald dd_L_law_532 H0.2.2.2.1 (vp_in_nI (show 4 * m + 1 < n by omega) (by omega)) ?_
  rw [nI_clamp (by omega)]
  refine xw_aloadR_n dd_L_law_533 rfl ?_
  refine xw_iload dd_L_law_534 rfl ?_
  refine xw_iconst 2 dd_L_law_536 (by decide) ?_
  refine xw_iadd dd_L_law_537 ?_
  rw [show nI (4 * m) + 2 = nI (4 * m + 2) from nI_add (4 * m) 2]
  refine xw_iald dd_L_law_538 H0.2.2.2.1 (vp_in_nI (show 4 * m + 2 < n by omega) (by omega)) ?_
  rw [nI_clamp (by omega)]
  refine xw_aloadR_n dd_L_law_539 rfl ?_
  refine xw_cl (ct_L_of H0) iv_L_law_540 ok_L_of rfl rfl rfl ?_ (fun _ _ _ q => by cases q.1)
  rintro v h1 z1 ⟨hv, f1, H1, hf1⟩
  cases hv
  have HM := H1.2.1
  refine xw_istore dd_L_law_543 (by decide) ?_
  refine xw_aloadR_n dd_L_law_545 rfl ?_
  refine xw_aloadR_n dd_L_law_546 rfl ?_
  refine xw_iload dd_L_law_547 rfl ?_
  refine xw_iconst 1 dd_L_law_549 (by decide) ?_
  refine xw_iadd dd_L_law_550 ?_
  rw [show nI (4 * m) + 1 = nI (4 * m + 1) from nI_add (4 * m) 1]
  refine xw_iald dd_L_law_551 H1.2.2.2.1 (vp_in_nI (show 4 * m + 1 < n by omega) (by omega)) ?_
  rw [nI_clamp (by omega)]
  refine xw_aloadR_n dd_L_law_552 rfl ?_
  refine xw_iload dd_L_law_553 rfl ?_
  refine xw_iconst 2 dd_L_law_555 (by decide) ?_
  refine xw_iadd dd_L_law_556 ?_
  rw [show nI (4 * m) + 2 = nI (4 * m + 2) from nI_add (4 * m) 2]
  refine xw_iald dd_L_law_557 H1.2.2.2.1 (vp_in_nI (show 4 * m + 2 < n by omega) (by omega)) ?_
  rw [nI_clamp (by omega)]
  refine xw_cl0 (ct_M_of HM hV) (iv_L_law_558 HM.1) ok_M_of rfl rfl rfl ?_ (fun _ _ _ q => by cases q.1)
  rintro v h2 z2 ⟨hv, rfl, ⟨K2, A2, HM2, V2, e2, a2⟩, fr2⟩
  cases hv
  have H2 := H1.byM HM2 fr2
  have S2 : rS S A2 := hS.cg (fun i i1 i2 => a2 i i1 (by omega))
  have J : LI G x b0 n xs (m + 1) h2 (sv_of V (xs (4 * m + 1)) (xs (4 * m + 2))).2.2 (S) K2 A2 f1 := ⟨H2, V2, S2, (by rw [of_V]; exact hI.up), hiC⟩
  refine xw_istore dd_L_law_561 (by decide) ?_
  refine xw_aloadR_n dd_L_law_563 rfl ?_
  refine xw_cl0 (ct_M_thrown HM2) (iv_L_law_564 HM2.1) ok_M_thrown rfl rfl rfl ?_ (fun _ _ _ q => by cases q.1)
  rintro v h2 z2 ⟨hv, rfl, rfl⟩
  cases hv
  rw [e2]
  refine xw_iload dd_L_law_567 rfl ?_
  refine xw_icmp_eq 574 dd_L_law_569 (by decide) (fun hc => ?_) (fun hc => absurd rfl hc)
  refine xw_iload dd_L_law_574 rfl ?_
  refine xw_if_ne 591 dd_L_law_576 (by decide) (fun hc => ?_) (fun hc => ?_)
  · refine xw_goto 1331 dd_L_law_591 (by decide) ?_
    exact back _ _ _ _ _ _ _ _ _ J
  · have hc0 : (sv_of V (xs (4 * m + 1)) (xs (4 * m + 2))).1 = 0 := (nI_eq (b := 0) (by have := lc_of (V := V) (a1 := (xs (4 * m + 1))) (a2 := (xs (4 * m + 2))); omega) (by decide)).mp hc
    refine xw_aloadR_n dd_L_law_579 rfl ?_
    refine xw_iconst 0 dd_L_law_580 (by decide) ?_
    refine xw_lald dd_L_law_581 H2.2.2.1 (vp_in_nI (n := 0) (by decide) (by decide)) ?_
    rw [show ((0 : Int32).toNatClampNeg) = 0 from rfl, hf1 hc0]
    refine xw_iload dd_L_law_582 rfl ?_
    refine xw_i2l dd_L_law_584 ?_
    refine xw_lcmp dd_L_law_585 ?_
    refine xw_if_eq 591 dd_L_law_586 (by decide) (fun hc => ?_) (fun hc => absurd ((lg_cmp_eq _ _).mpr rfl) hc)
    refine xw_goto 1331 dd_L_law_591 (by decide) ?_
    exact back _ _ _ _ _ _ _ _ _ J
theorem lw_find (hn : n ≤ 2048) (hmn : 4 * m + 4 ≤ n) (I : LI G x b0 n xs m h V S K A f) (back : ∀ (h1 : xa_H) (z1 : Nat) (V1 : sv_V) (S1 : Nat → sv_S) (K1 : Nat → Int32) (A1 : Nat → Nat → Int32) (f1 : Nat → Int64) (p5 p6 : Option Value), LI G x b0 n xs (m + 1) h1 V1 S1 K1 A1 f1 → xa_W G mm_L_law 14 kc ks 1331 [some (.ref b0), some (.ref x), some (.ref (x + 20)), some (.ref (x + 42)), some (.int (nI (4 * m))), p5, p6] [] h1 z1 Q) : xa_W G mm_L_law 14 (kc + 200) (ks + 4000) 594 [some (.ref b0), some (.ref x), some (.ref (x + 20)), some (.ref (x + 42)), some (.int (nI (4 * m))), o5, o6] [] h sz Q := by
  obtain ⟨H0, hV, hS, hI, hiC⟩ := I
  have hm512 : m ≤ 512 := by omega
  obtain ⟨⟨hh, hg⟩, hsr, hpos, h01, hcl, hlt, hbd, hbr, hoff⟩ := lc_facts hm512 hI
  have hcu := H0.1.cur
  refine xw_less (kc' := kc) (ks' := ks) (by omega) (by omega) ?_
  refine xw_aloadR_n dd_L_law_594 rfl ?_
  refine xw_aloadR_n dd_L_law_595 rfl ?_
  refine xw_iload dd_L_law_596 rfl ?_
  refine xw_iconst 1 dd_L_law_598 (by decide) ?_
  refine xw_iadd dd_L_law_599 ?_
  rw [show nI (4 * m) + 1 = nI (4 * m + 1) from nI_add (4 * m) 1]
  refine xw_iald dd_L_law_600 H0.2.2.2.1 (vp_in_nI (show 4 * m + 1 < n by omega) (by omega)) ?_
  rw [nI_clamp (by omega)]
  refine xw_aloadR_n dd_L_law_601 rfl ?_
  refine xw_iload dd_L_law_602 rfl ?_
  refine xw_iconst 2 dd_L_law_604 (by decide) ?_
  refine xw_iadd dd_L_law_605 ?_
  rw [show nI (4 * m) + 2 = nI (4 * m + 2) from nI_add (4 * m) 2]
  refine xw_iald dd_L_law_606 H0.2.2.2.1 (vp_in_nI (show 4 * m + 2 < n by omega) (by omega)) ?_
  rw [nI_clamp (by omega)]
  refine xw_cl0 (ct_V_find H0.1) (iv_L_law_607 H0.1.cell) ok_V_find rfl rfl rfl ?_ (fun _ _ _ q => by cases q.1)
  rintro v h sz ⟨hv, rfl, rfl⟩
  cases hv
  have H1 := H0
  have HM := H1.2.1
  refine xw_aloadR_n dd_L_law_610 rfl ?_
  refine xw_aloadR_n dd_L_law_611 rfl ?_
  refine xw_iload dd_L_law_612 rfl ?_
  refine xw_iconst 1 dd_L_law_614 (by decide) ?_
  refine xw_iadd dd_L_law_615 ?_
  rw [show nI (4 * m) + 1 = nI (4 * m + 1) from nI_add (4 * m) 1]
  refine xw_iald dd_L_law_616 H1.2.2.2.1 (vp_in_nI (show 4 * m + 1 < n by omega) (by omega)) ?_
  rw [nI_clamp (by omega)]
  refine xw_aloadR_n dd_L_law_617 rfl ?_
  refine xw_iload dd_L_law_618 rfl ?_
  refine xw_iconst 2 dd_L_law_620 (by decide) ?_
  refine xw_iadd dd_L_law_621 ?_
  rw [show nI (4 * m) + 2 = nI (4 * m + 2) from nI_add (4 * m) 2]
  refine xw_iald dd_L_law_622 H1.2.2.2.1 (vp_in_nI (show 4 * m + 2 < n by omega) (by omega)) ?_
  rw [nI_clamp (by omega)]
  refine xw_cl0 (ct_M_find HM hV) (iv_L_law_623 HM.1) ok_M_find rfl rfl rfl ?_ (fun _ _ _ q => by cases q.1)
  rintro v h2 z2 ⟨hv, rfl, ⟨K2, A2, HM2, V2, e2, a2⟩, fr2⟩
  cases hv
  have H2 := H1.byM HM2 fr2
  have S2 : rS S A2 := hS.cg (fun i i1 i2 => a2 i i1 (by omega))
  refine xw_icmp_eq 1331 dd_L_law_626 (by decide) (fun hc => ?_) (fun hc => absurd rfl hc)
  exact back _ _ _ _ _ _ _ _ _ ⟨H2, V2, S2, hI.up, hiC⟩
theorem lw_live (hn : n ≤ 2048) (hmn : 4 * m + 4 ≤ n) (I : LI G x b0 n xs m h V S K A f) (back : ∀ (h1 : xa_H) (z1 : Nat) (V1 : sv_V) (S1 : Nat → sv_S) (K1 : Nat → Int32) (A1 : Nat → Nat → Int32) (f1 : Nat → Int64) (p5 p6 : Option Value), LI G x b0 n xs (m + 1) h1 V1 S1 K1 A1 f1 → xa_W G mm_L_law 14 kc ks 1331 [some (.ref b0), some (.ref x), some (.ref (x + 20)), some (.ref (x + 42)), some (.int (nI (4 * m))), p5, p6] [] h1 z1 Q) : xa_W G mm_L_law 14 (kc + 200) (ks + 4000) 631 [some (.ref b0), some (.ref x), some (.ref (x + 20)), some (.ref (x + 42)), some (.int (nI (4 * m))), o5, o6] [] h sz Q := by
  obtain ⟨H0, hV, hS, hI, hiC⟩ := I
  have hm512 : m ≤ 512 := by omega
  obtain ⟨⟨hh, hg⟩, hsr, hpos, h01, hcl, hlt, hbd, hbr, hoff⟩ := lc_facts hm512 hI
  have hcu := H0.1.cur
  refine xw_less (kc' := kc) (ks' := ks) (by omega) (by omega) ?_
  refine xw_aloadR_n dd_L_law_631 rfl ?_
  refine xw_cl0 (ct_V_live H0.1) (iv_L_law_632 H0.1.cell) ok_V_live rfl rfl rfl ?_ (fun _ _ _ q => by cases q.1)
  rintro v h sz ⟨hv, rfl, rfl⟩
  cases hv
  have H1 := H0
  have HM := H1.2.1
  refine xw_aloadR_n dd_L_law_635 rfl ?_
  refine xw_cl0 (ct_M_live HM hV) (iv_L_law_636 HM.1) ok_M_live rfl rfl rfl ?_ (fun _ _ _ q => by cases q.1)
  rintro v h2 z2 ⟨hv, rfl, ⟨K2, A2, HM2, V2, e2, a2⟩, fr2⟩
  cases hv
  have H2 := H1.byM HM2 fr2
  have S2 : rS S A2 := hS.cg (fun i i1 i2 => a2 i i1 (by omega))
  refine xw_icmp_eq 1331 dd_L_law_639 (by decide) (fun hc => ?_) (fun hc => absurd rfl hc)
  exact back _ _ _ _ _ _ _ _ _ ⟨H2, V2, S2, hI.up, hiC⟩
theorem lw_tail (hn : n ≤ 2048) (hmn : 4 * m + 4 ≤ n) (I : LI G x b0 n xs m h V S K A f) (back : ∀ (h1 : xa_H) (z1 : Nat) (V1 : sv_V) (S1 : Nat → sv_S) (K1 : Nat → Int32) (A1 : Nat → Nat → Int32) (f1 : Nat → Int64) (p5 p6 : Option Value), LI G x b0 n xs (m + 1) h1 V1 S1 K1 A1 f1 → xa_W G mm_L_law 14 kc ks 1331 [some (.ref b0), some (.ref x), some (.ref (x + 20)), some (.ref (x + 42)), some (.int (nI (4 * m))), p5, p6] [] h1 z1 Q) : xa_W G mm_L_law 14 (kc + 200) (ks + 4000) 644 [some (.ref b0), some (.ref x), some (.ref (x + 20)), some (.ref (x + 42)), some (.int (nI (4 * m))), o5, o6] [] h sz Q := by
  obtain ⟨H0, hV, hS, hI, hiC⟩ := I
  have hm512 : m ≤ 512 := by omega
  obtain ⟨⟨hh, hg⟩, hsr, hpos, h01, hcl, hlt, hbd, hbr, hoff⟩ := lc_facts hm512 hI
  have hcu := H0.1.cur
  refine xw_less (kc' := kc) (ks' := ks) (by omega) (by omega) ?_
  refine xw_aloadR_n dd_L_law_644 rfl ?_
  refine xw_cl0 (ct_V_tail H0.1) (iv_L_law_645 H0.1.cell) ok_V_tail rfl rfl rfl ?_ (fun _ _ _ q => by cases q.1)
  rintro v h sz ⟨hv, rfl, rfl⟩
  cases hv
  have H1 := H0
  have HM := H1.2.1
  refine xw_aloadR_n dd_L_law_648 rfl ?_
  refine xw_cl0 (ct_M_tail HM hV) (iv_L_law_649 HM.1) ok_M_tail rfl rfl rfl ?_ (fun _ _ _ q => by cases q.1)
  rintro v h2 z2 ⟨hv, rfl, ⟨K2, A2, HM2, V2, e2, a2⟩, fr2⟩
  cases hv
  have H2 := H1.byM HM2 fr2
  have S2 : rS S A2 := hS.cg (fun i i1 i2 => a2 i i1 (by omega))
  refine xw_icmp_eq 1331 dd_L_law_652 (by decide) (fun hc => ?_) (fun hc => absurd rfl hc)
  exact back _ _ _ _ _ _ _ _ _ ⟨H2, V2, S2, hI.up, hiC⟩
theorem lw_head (hn : n ≤ 2048) (hmn : 4 * m + 4 ≤ n) (I : LI G x b0 n xs m h V S K A f) (back : ∀ (h1 : xa_H) (z1 : Nat) (V1 : sv_V) (S1 : Nat → sv_S) (K1 : Nat → Int32) (A1 : Nat → Nat → Int32) (f1 : Nat → Int64) (p5 p6 : Option Value), LI G x b0 n xs (m + 1) h1 V1 S1 K1 A1 f1 → xa_W G mm_L_law 14 kc ks 1331 [some (.ref b0), some (.ref x), some (.ref (x + 20)), some (.ref (x + 42)), some (.int (nI (4 * m))), p5, p6] [] h1 z1 Q) : xa_W G mm_L_law 14 (kc + 200) (ks + 4000) 657 [some (.ref b0), some (.ref x), some (.ref (x + 20)), some (.ref (x + 42)), some (.int (nI (4 * m))), o5, o6] [] h sz Q := by
  obtain ⟨H0, hV, hS, hI, hiC⟩ := I
  have hm512 : m ≤ 512 := by omega
  obtain ⟨⟨hh, hg⟩, hsr, hpos, h01, hcl, hlt, hbd, hbr, hoff⟩ := lc_facts hm512 hI
  have hcu := H0.1.cur
  refine xw_less (kc' := kc) (ks' := ks) (by omega) (by omega) ?_
  refine xw_aloadR_n dd_L_law_657 rfl ?_
  refine xw_cl0 (ct_V_head H0.1) (iv_L_law_658 H0.1.cell) ok_V_head rfl rfl rfl ?_ (fun _ _ _ q => by cases q.1)
  rintro v h sz ⟨hv, rfl, rfl⟩
  cases hv
  have H1 := H0
  have HM := H1.2.1
  refine xw_aloadR_n dd_L_law_661 rfl ?_
  refine xw_cl0 (ct_M_head HM hV) (iv_L_law_662 HM.1) ok_M_head rfl rfl rfl ?_ (fun _ _ _ q => by cases q.1)
  rintro v h2 z2 ⟨hv, rfl, ⟨K2, A2, HM2, V2, e2, a2⟩, fr2⟩
  cases hv
  have H2 := H1.byM HM2 fr2
  have S2 : rS S A2 := hS.cg (fun i i1 i2 => a2 i i1 (by omega))
  refine xw_icmp_eq 1331 dd_L_law_665 (by decide) (fun hc => ?_) (fun hc => absurd rfl hc)
  exact back _ _ _ _ _ _ _ _ _ ⟨H2, V2, S2, hI.up, hiC⟩
theorem lw_note (hn : n ≤ 2048) (hmn : 4 * m + 4 ≤ n) (I : LI G x b0 n xs m h V S K A f) (back : ∀ (h1 : xa_H) (z1 : Nat) (V1 : sv_V) (S1 : Nat → sv_S) (K1 : Nat → Int32) (A1 : Nat → Nat → Int32) (f1 : Nat → Int64) (p5 p6 : Option Value), LI G x b0 n xs (m + 1) h1 V1 S1 K1 A1 f1 → xa_W G mm_L_law 14 kc ks 1331 [some (.ref b0), some (.ref x), some (.ref (x + 20)), some (.ref (x + 42)), some (.int (nI (4 * m))), p5, p6] [] h1 z1 Q) : xa_W G mm_L_law 14 (kc + 200) (ks + 4000) 670 [some (.ref b0), some (.ref x), some (.ref (x + 20)), some (.ref (x + 42)), some (.int (nI (4 * m))), o5, o6] [] h sz Q := by
  obtain ⟨H0, hV, hS, hI, hiC⟩ := I
  have hm512 : m ≤ 512 := by omega
  obtain ⟨⟨hh, hg⟩, hsr, hpos, h01, hcl, hlt, hbd, hbr, hoff⟩ := lc_facts hm512 hI
  have hcu := H0.1.cur
  refine xw_aloadR_n dd_L_law_670 rfl ?_
  refine xw_aloadR_n dd_L_law_671 rfl ?_
  refine xw_iload dd_L_law_672 rfl ?_
  refine xw_iconst 1 dd_L_law_674 (by decide) ?_
  refine xw_iadd dd_L_law_675 ?_
  rw [show nI (4 * m) + 1 = nI (4 * m + 1) from nI_add (4 * m) 1]
  refine xw_iald dd_L_law_676 H0.2.2.2.1 (vp_in_nI (show 4 * m + 1 < n by omega) (by omega)) ?_
  rw [nI_clamp (by omega)]
  refine xw_aloadR_n dd_L_law_677 rfl ?_
  refine xw_iload dd_L_law_678 rfl ?_
  refine xw_iconst 2 dd_L_law_680 (by decide) ?_
  refine xw_iadd dd_L_law_681 ?_
  rw [show nI (4 * m) + 2 = nI (4 * m + 2) from nI_add (4 * m) 2]
  refine xw_iald dd_L_law_682 H0.2.2.2.1 (vp_in_nI (show 4 * m + 2 < n by omega) (by omega)) ?_
  rw [nI_clamp (by omega)]
  refine xw_aloadR_n dd_L_law_683 rfl ?_
  refine xw_cl (ct_L_note H0) iv_L_law_684 ok_L_note rfl rfl rfl ?_ (fun _ _ _ q => by cases q.1)
  rintro v h1 z1 ⟨hv, f1, H1, hf1⟩
  cases hv
  have HM := H1.2.1
  refine xw_istore dd_L_law_687 (by decide) ?_
  refine xw_aloadR_n dd_L_law_689 rfl ?_
  refine xw_aloadR_n dd_L_law_690 rfl ?_
  refine xw_iload dd_L_law_691 rfl ?_
  refine xw_iconst 1 dd_L_law_693 (by decide) ?_
  refine xw_iadd dd_L_law_694 ?_
  rw [show nI (4 * m) + 1 = nI (4 * m + 1) from nI_add (4 * m) 1]
  refine xw_iald dd_L_law_695 H1.2.2.2.1 (vp_in_nI (show 4 * m + 1 < n by omega) (by omega)) ?_
  rw [nI_clamp (by omega)]
  refine xw_aloadR_n dd_L_law_696 rfl ?_
  refine xw_iload dd_L_law_697 rfl ?_
  refine xw_iconst 2 dd_L_law_699 (by decide) ?_
  refine xw_iadd dd_L_law_700 ?_
  rw [show nI (4 * m) + 2 = nI (4 * m + 2) from nI_add (4 * m) 2]
  refine xw_iald dd_L_law_701 H1.2.2.2.1 (vp_in_nI (show 4 * m + 2 < n by omega) (by omega)) ?_
  rw [nI_clamp (by omega)]
  refine xw_cl0 (ct_M_note HM hV) (iv_L_law_702 HM.1) ok_M_note rfl rfl rfl ?_ (fun _ _ _ q => by cases q.1)
  rintro v h2 z2 ⟨hv, rfl, ⟨K2, A2, HM2, V2, e2, a2⟩, fr2⟩
  cases hv
  have H2 := H1.byM HM2 fr2
  have S2 : rS S A2 := hS.cg (fun i i1 i2 => a2 i i1 (by omega))
  have J : LI G x b0 n xs (m + 1) h2 (sv_nte V (xs (4 * m + 1)) (xs (4 * m + 2))).2.2 (S) K2 A2 f1 := ⟨H2, V2, S2, (by rw [nte_V]; exact hI.up), hiC⟩
  refine xw_istore dd_L_law_705 (by decide) ?_
  refine xw_aloadR_n dd_L_law_707 rfl ?_
  refine xw_cl0 (ct_M_thrown HM2) (iv_L_law_708 HM2.1) ok_M_thrown rfl rfl rfl ?_ (fun _ _ _ q => by cases q.1)
  rintro v h2 z2 ⟨hv, rfl, rfl⟩
  cases hv
  rw [e2]
  refine xw_iload dd_L_law_711 rfl ?_
  refine xw_icmp_eq 718 dd_L_law_713 (by decide) (fun hc => ?_) (fun hc => absurd rfl hc)
  refine xw_iload dd_L_law_718 rfl ?_
  refine xw_if_ne 735 dd_L_law_720 (by decide) (fun hc => ?_) (fun hc => ?_)
  · refine xw_goto 1331 dd_L_law_735 (by decide) ?_
    exact back _ _ _ _ _ _ _ _ _ J
  · have hc0 : (sv_nte V (xs (4 * m + 1)) (xs (4 * m + 2))).1 = 0 := (nI_eq (b := 0) (by have := lc_note (V := V) (a1 := (xs (4 * m + 1))) (a2 := (xs (4 * m + 2))); omega) (by decide)).mp hc
    refine xw_aloadR_n dd_L_law_723 rfl ?_
    refine xw_iconst 0 dd_L_law_724 (by decide) ?_
    refine xw_lald dd_L_law_725 H2.2.2.1 (vp_in_nI (n := 0) (by decide) (by decide)) ?_
    rw [show ((0 : Int32).toNatClampNeg) = 0 from rfl, hf1 hc0]
    refine xw_iload dd_L_law_726 rfl ?_
    refine xw_i2l dd_L_law_728 ?_
    refine xw_lcmp dd_L_law_729 ?_
    refine xw_if_eq 735 dd_L_law_730 (by decide) (fun hc => ?_) (fun hc => absurd ((lg_cmp_eq _ _).mpr rfl) hc)
    refine xw_goto 1331 dd_L_law_735 (by decide) ?_
    exact back _ _ _ _ _ _ _ _ _ J
theorem lw_subscribe (hn : n ≤ 2048) (hmn : 4 * m + 4 ≤ n) (I : LI G x b0 n xs m h V S K A f) (back : ∀ (h1 : xa_H) (z1 : Nat) (V1 : sv_V) (S1 : Nat → sv_S) (K1 : Nat → Int32) (A1 : Nat → Nat → Int32) (f1 : Nat → Int64) (p5 p6 : Option Value), LI G x b0 n xs (m + 1) h1 V1 S1 K1 A1 f1 → xa_W G mm_L_law 14 kc ks 1331 [some (.ref b0), some (.ref x), some (.ref (x + 20)), some (.ref (x + 42)), some (.int (nI (4 * m))), p5, p6] [] h1 z1 Q) : xa_W G mm_L_law 14 (kc + 200) (ks + 4000) 738 [some (.ref b0), some (.ref x), some (.ref (x + 20)), some (.ref (x + 42)), some (.int (nI (4 * m))), o5, o6] [] h sz Q := by
  obtain ⟨H0, hV, hS, hI, hiC⟩ := I
  have hm512 : m ≤ 512 := by omega
  obtain ⟨⟨hh, hg⟩, hsr, hpos, h01, hcl, hlt, hbd, hbr, hoff⟩ := lc_facts hm512 hI
  have hcu := H0.1.cur
  refine xw_aloadR_n dd_L_law_738 rfl ?_
  refine xw_aloadR_n dd_L_law_739 rfl ?_
  refine xw_iload dd_L_law_740 rfl ?_
  refine xw_iconst 1 dd_L_law_742 (by decide) ?_
  refine xw_iadd dd_L_law_743 ?_
  rw [show nI (4 * m) + 1 = nI (4 * m + 1) from nI_add (4 * m) 1]
  refine xw_iald dd_L_law_744 H0.2.2.2.1 (vp_in_nI (show 4 * m + 1 < n by omega) (by omega)) ?_
  rw [nI_clamp (by omega)]
  refine xw_aloadR_n dd_L_law_745 rfl ?_
  refine xw_iload dd_L_law_746 rfl ?_
  refine xw_iconst 2 dd_L_law_748 (by decide) ?_
  refine xw_iadd dd_L_law_749 ?_
  rw [show nI (4 * m) + 2 = nI (4 * m + 2) from nI_add (4 * m) 2]
  refine xw_iald dd_L_law_750 H0.2.2.2.1 (vp_in_nI (show 4 * m + 2 < n by omega) (by omega)) ?_
  rw [nI_clamp (by omega)]
  refine xw_cl (ct_L_subscribe H0) iv_L_law_751 ok_L_subscribe rfl rfl rfl ?_ (fun _ _ _ q => by cases q.1)
  rintro v h1 z1 ⟨hv, f1, H1⟩
  cases hv
  have HM := H1.2.1
  refine xw_istore dd_L_law_754 (by decide) ?_
  refine xw_aloadR_n dd_L_law_756 rfl ?_
  refine xw_aloadR_n dd_L_law_757 rfl ?_
  refine xw_iload dd_L_law_758 rfl ?_
  refine xw_iconst 1 dd_L_law_760 (by decide) ?_
  refine xw_iadd dd_L_law_761 ?_
  rw [show nI (4 * m) + 1 = nI (4 * m + 1) from nI_add (4 * m) 1]
  refine xw_iald dd_L_law_762 H1.2.2.2.1 (vp_in_nI (show 4 * m + 1 < n by omega) (by omega)) ?_
  rw [nI_clamp (by omega)]
  refine xw_aloadR_n dd_L_law_763 rfl ?_
  refine xw_iload dd_L_law_764 rfl ?_
  refine xw_iconst 2 dd_L_law_766 (by decide) ?_
  refine xw_iadd dd_L_law_767 ?_
  rw [show nI (4 * m) + 2 = nI (4 * m + 2) from nI_add (4 * m) 2]
  refine xw_iald dd_L_law_768 H1.2.2.2.1 (vp_in_nI (show 4 * m + 2 < n by omega) (by omega)) ?_
  rw [nI_clamp (by omega)]
  refine xw_cl0 (ct_M_subscribe HM hV hS) (iv_L_law_769 HM.1) ok_M_subscribe rfl rfl rfl ?_ (fun _ _ _ q => by cases q.1)
  rintro v h2 z2 ⟨hv, rfl, ⟨K2, A2, HM2, V2, S2, e2⟩, fr2⟩
  cases hv
  have H2 := H1.byM HM2 fr2
  have J : LI G x b0 n xs (m + 1) h2 V ((sw_subscribe V S (xs (4 * m + 1)) (xs (4 * m + 2))).2.2) K2 A2 f1 := ⟨H2, V2, S2, hI.up, iC_subscribe hiC⟩
  refine xw_aloadR_n dd_L_law_772 rfl ?_
  refine xw_cl0 (ct_M_thrown HM2) (iv_L_law_773 HM2.1) ok_M_thrown rfl rfl rfl ?_ (fun _ _ _ q => by cases q.1)
  rintro v h2 z2 ⟨hv, rfl, rfl⟩
  cases hv
  rw [e2]
  refine xw_iload dd_L_law_776 rfl ?_
  refine xw_icmp_eq 783 dd_L_law_778 (by decide) (fun hc => ?_) (fun hc => absurd rfl hc)
  refine xw_goto 1331 dd_L_law_783 (by decide) ?_
  exact back _ _ _ _ _ _ _ _ _ J
theorem lw_cursor (hn : n ≤ 2048) (hmn : 4 * m + 4 ≤ n) (I : LI G x b0 n xs m h V S K A f) (back : ∀ (h1 : xa_H) (z1 : Nat) (V1 : sv_V) (S1 : Nat → sv_S) (K1 : Nat → Int32) (A1 : Nat → Nat → Int32) (f1 : Nat → Int64) (p5 p6 : Option Value), LI G x b0 n xs (m + 1) h1 V1 S1 K1 A1 f1 → xa_W G mm_L_law 14 kc ks 1331 [some (.ref b0), some (.ref x), some (.ref (x + 20)), some (.ref (x + 42)), some (.int (nI (4 * m))), p5, p6] [] h1 z1 Q) : xa_W G mm_L_law 14 (kc + 200) (ks + 4000) 786 [some (.ref b0), some (.ref x), some (.ref (x + 20)), some (.ref (x + 42)), some (.int (nI (4 * m))), o5, o6] [] h sz Q := by
  obtain ⟨H0, hV, hS, hI, hiC⟩ := I
  have hm512 : m ≤ 512 := by omega
  obtain ⟨⟨hh, hg⟩, hsr, hpos, h01, hcl, hlt, hbd, hbr, hoff⟩ := lc_facts hm512 hI
  have hcu := H0.1.cur
  refine xw_aloadR_n dd_L_law_786 rfl ?_
  refine xw_aloadR_n dd_L_law_787 rfl ?_
  refine xw_iload dd_L_law_788 rfl ?_
  refine xw_iconst 1 dd_L_law_790 (by decide) ?_
  refine xw_iadd dd_L_law_791 ?_
  rw [show nI (4 * m) + 1 = nI (4 * m + 1) from nI_add (4 * m) 1]
  refine xw_iald dd_L_law_792 H0.2.2.2.1 (vp_in_nI (show 4 * m + 1 < n by omega) (by omega)) ?_
  rw [nI_clamp (by omega)]
  refine xw_aloadR_n dd_L_law_793 rfl ?_
  refine xw_cl (ct_L_cursor H0) iv_L_law_794 ok_L_cursor rfl rfl rfl ?_ (fun _ _ _ q => by cases q.1)
  rintro v h1 z1 ⟨hv, f1, H1, hf1⟩
  cases hv
  have HM := H1.2.1
  refine xw_istore dd_L_law_797 (by decide) ?_
  refine xw_aloadR_n dd_L_law_799 rfl ?_
  refine xw_aloadR_n dd_L_law_800 rfl ?_
  refine xw_iload dd_L_law_801 rfl ?_
  refine xw_iconst 1 dd_L_law_803 (by decide) ?_
  refine xw_iadd dd_L_law_804 ?_
  rw [show nI (4 * m) + 1 = nI (4 * m + 1) from nI_add (4 * m) 1]
  refine xw_iald dd_L_law_805 H1.2.2.2.1 (vp_in_nI (show 4 * m + 1 < n by omega) (by omega)) ?_
  rw [nI_clamp (by omega)]
  refine xw_cl0 (ct_M_cursor HM hV hS) (iv_L_law_806 HM.1) ok_M_cursor rfl rfl rfl ?_ (fun _ _ _ q => by cases q.1)
  rintro v h2 z2 ⟨hv, rfl, ⟨K2, A2, HM2, V2, S2, e2⟩, fr2⟩
  cases hv
  have H2 := H1.byM HM2 fr2
  have J : LI G x b0 n xs (m + 1) h2 V ((sw_cursor S (xs (4 * m + 1))).2.2) K2 A2 f1 := ⟨H2, V2, S2, hI.up, iC_cursor hiC⟩
  refine xw_istore dd_L_law_809 (by decide) ?_
  refine xw_aloadR_n dd_L_law_811 rfl ?_
  refine xw_cl0 (ct_M_thrown HM2) (iv_L_law_812 HM2.1) ok_M_thrown rfl rfl rfl ?_ (fun _ _ _ q => by cases q.1)
  rintro v h2 z2 ⟨hv, rfl, rfl⟩
  cases hv
  rw [e2]
  refine xw_iload dd_L_law_815 rfl ?_
  refine xw_icmp_eq 822 dd_L_law_817 (by decide) (fun hc => ?_) (fun hc => absurd rfl hc)
  refine xw_iload dd_L_law_822 rfl ?_
  refine xw_if_ne 839 dd_L_law_824 (by decide) (fun hc => ?_) (fun hc => ?_)
  · refine xw_goto 1331 dd_L_law_839 (by decide) ?_
    exact back _ _ _ _ _ _ _ _ _ J
  · have hc0 : (sw_cursor S (xs (4 * m + 1))).1 = 0 := (nI_eq (b := 0) (by have := lc_cursor (S := S) (a1 := (xs (4 * m + 1))); omega) (by decide)).mp hc
    refine xw_aloadR_n dd_L_law_827 rfl ?_
    refine xw_iconst 0 dd_L_law_828 (by decide) ?_
    refine xw_lald dd_L_law_829 H2.2.2.1 (vp_in_nI (n := 0) (by decide) (by decide)) ?_
    rw [show ((0 : Int32).toNatClampNeg) = 0 from rfl, hf1 hc0]
    refine xw_iload dd_L_law_830 rfl ?_
    refine xw_i2l dd_L_law_832 ?_
    refine xw_lcmp dd_L_law_833 ?_
    refine xw_if_eq 839 dd_L_law_834 (by decide) (fun hc => ?_) (fun hc => absurd ((lg_cmp_eq _ _).mpr rfl) hc)
    refine xw_goto 1331 dd_L_law_839 (by decide) ?_
    exact back _ _ _ _ _ _ _ _ _ J
theorem lw_read (hn : n ≤ 2048) (hmn : 4 * m + 4 ≤ n) (I : LI G x b0 n xs m h V S K A f) (back : ∀ (h1 : xa_H) (z1 : Nat) (V1 : sv_V) (S1 : Nat → sv_S) (K1 : Nat → Int32) (A1 : Nat → Nat → Int32) (f1 : Nat → Int64) (p5 p6 : Option Value), LI G x b0 n xs (m + 1) h1 V1 S1 K1 A1 f1 → xa_W G mm_L_law 14 kc ks 1331 [some (.ref b0), some (.ref x), some (.ref (x + 20)), some (.ref (x + 42)), some (.int (nI (4 * m))), p5, p6] [] h1 z1 Q) : xa_W G mm_L_law 14 (kc + 200) (ks + 4000) 842 [some (.ref b0), some (.ref x), some (.ref (x + 20)), some (.ref (x + 42)), some (.int (nI (4 * m))), o5, o6] [] h sz Q := by
  obtain ⟨H0, hV, hS, hI, hiC⟩ := I
  have hm512 : m ≤ 512 := by omega
  obtain ⟨⟨hh, hg⟩, hsr, hpos, h01, hcl, hlt, hbd, hbr, hoff⟩ := lc_facts hm512 hI
  have hcu := H0.1.cur
  refine xw_aloadR_n dd_L_law_842 rfl ?_
  refine xw_aloadR_n dd_L_law_843 rfl ?_
  refine xw_iload dd_L_law_844 rfl ?_
  refine xw_iconst 1 dd_L_law_846 (by decide) ?_
  refine xw_iadd dd_L_law_847 ?_
  rw [show nI (4 * m) + 1 = nI (4 * m + 1) from nI_add (4 * m) 1]
  refine xw_iald dd_L_law_848 H0.2.2.2.1 (vp_in_nI (show 4 * m + 1 < n by omega) (by omega)) ?_
  rw [nI_clamp (by omega)]
  refine xw_aloadR_n dd_L_law_849 rfl ?_
  refine xw_cl (ct_L_read H0) iv_L_law_850 ok_L_read rfl rfl rfl ?_ (fun _ _ _ q => by cases q.1)
  rintro v h1 z1 ⟨hv, f1, H1, hf1⟩
  cases hv
  have HM := H1.2.1
  refine xw_istore dd_L_law_853 (by decide) ?_
  refine xw_aloadR_n dd_L_law_855 rfl ?_
  refine xw_aloadR_n dd_L_law_856 rfl ?_
  refine xw_iload dd_L_law_857 rfl ?_
  refine xw_iconst 1 dd_L_law_859 (by decide) ?_
  refine xw_iadd dd_L_law_860 ?_
  rw [show nI (4 * m) + 1 = nI (4 * m + 1) from nI_add (4 * m) 1]
  refine xw_iald dd_L_law_861 H1.2.2.2.1 (vp_in_nI (show 4 * m + 1 < n by omega) (by omega)) ?_
  rw [nI_clamp (by omega)]
  refine xw_cl0 (ct_M_read HM hV hS hcu) (iv_L_law_862 HM.1) ok_M_read rfl rfl rfl ?_ (fun _ _ _ q => by cases q.1)
  rintro v h2 z2 ⟨hv, rfl, ⟨K2, A2, HM2, V2, S2, e2⟩, fr2⟩
  cases hv
  have H2 := H1.byM HM2 fr2
  have J : LI G x b0 n xs (m + 1) h2 V ((sw_read V S (xs (4 * m + 1))).2.2) K2 A2 f1 := ⟨H2, V2, S2, hI.up, iC_read hiC⟩
  refine xw_istore dd_L_law_865 (by decide) ?_
  refine xw_aloadR_n dd_L_law_867 rfl ?_
  refine xw_cl0 (ct_M_thrown HM2) (iv_L_law_868 HM2.1) ok_M_thrown rfl rfl rfl ?_ (fun _ _ _ q => by cases q.1)
  rintro v h2 z2 ⟨hv, rfl, rfl⟩
  cases hv
  rw [e2]
  refine xw_iload dd_L_law_871 rfl ?_
  refine xw_icmp_eq 878 dd_L_law_873 (by decide) (fun hc => ?_) (fun hc => absurd rfl hc)
  refine xw_iload dd_L_law_878 rfl ?_
  refine xw_if_ne 895 dd_L_law_880 (by decide) (fun hc => ?_) (fun hc => ?_)
  · refine xw_goto 1331 dd_L_law_895 (by decide) ?_
    exact back _ _ _ _ _ _ _ _ _ J
  · have hc0 : (sw_read V S (xs (4 * m + 1))).1 = 0 := (nI_eq (b := 0) (by have := lc_read (V := V) (S := S) (a1 := (xs (4 * m + 1))); omega) (by decide)).mp hc
    refine xw_aloadR_n dd_L_law_883 rfl ?_
    refine xw_iconst 0 dd_L_law_884 (by decide) ?_
    refine xw_lald dd_L_law_885 H2.2.2.1 (vp_in_nI (n := 0) (by decide) (by decide)) ?_
    rw [show ((0 : Int32).toNatClampNeg) = 0 from rfl, hf1 hc0]
    refine xw_iload dd_L_law_886 rfl ?_
    refine xw_i2l dd_L_law_888 ?_
    refine xw_lcmp dd_L_law_889 ?_
    refine xw_if_eq 895 dd_L_law_890 (by decide) (fun hc => ?_) (fun hc => absurd ((lg_cmp_eq _ _).mpr rfl) hc)
    refine xw_goto 1331 dd_L_law_895 (by decide) ?_
    exact back _ _ _ _ _ _ _ _ _ J
theorem lw_list (hn : n ≤ 2048) (hmn : 4 * m + 4 ≤ n) (I : LI G x b0 n xs m h V S K A f) (back : ∀ (h1 : xa_H) (z1 : Nat) (V1 : sv_V) (S1 : Nat → sv_S) (K1 : Nat → Int32) (A1 : Nat → Nat → Int32) (f1 : Nat → Int64) (p5 p6 : Option Value), LI G x b0 n xs (m + 1) h1 V1 S1 K1 A1 f1 → xa_W G mm_L_law 14 kc ks 1331 [some (.ref b0), some (.ref x), some (.ref (x + 20)), some (.ref (x + 42)), some (.int (nI (4 * m))), p5, p6] [] h1 z1 Q) : xa_W G mm_L_law 14 (kc + 200) (ks + 4000) 898 [some (.ref b0), some (.ref x), some (.ref (x + 20)), some (.ref (x + 42)), some (.int (nI (4 * m))), o5, o6] [] h sz Q := by
  obtain ⟨H0, hV, hS, hI, hiC⟩ := I
  have hm512 : m ≤ 512 := by omega
  obtain ⟨⟨hh, hg⟩, hsr, hpos, h01, hcl, hlt, hbd, hbr, hoff⟩ := lc_facts hm512 hI
  have hcu := H0.1.cur
  refine xw_aloadR_n dd_L_law_898 rfl ?_
  refine xw_aloadR_n dd_L_law_899 rfl ?_
  refine xw_iload dd_L_law_900 rfl ?_
  refine xw_iconst 1 dd_L_law_902 (by decide) ?_
  refine xw_iadd dd_L_law_903 ?_
  rw [show nI (4 * m) + 1 = nI (4 * m + 1) from nI_add (4 * m) 1]
  refine xw_iald dd_L_law_904 H0.2.2.2.1 (vp_in_nI (show 4 * m + 1 < n by omega) (by omega)) ?_
  rw [nI_clamp (by omega)]
  refine xw_cl (ct_L_list H0) iv_L_law_905 ok_L_list rfl rfl rfl ?_ (fun _ _ _ q => by cases q.1)
  rintro v h1 z1 ⟨hv, f1, H1⟩
  cases hv
  have HM := H1.2.1
  refine xw_istore dd_L_law_908 (by decide) ?_
  refine xw_aloadR_n dd_L_law_910 rfl ?_
  refine xw_aloadR_n dd_L_law_911 rfl ?_
  refine xw_iload dd_L_law_912 rfl ?_
  refine xw_iconst 1 dd_L_law_914 (by decide) ?_
  refine xw_iadd dd_L_law_915 ?_
  rw [show nI (4 * m) + 1 = nI (4 * m + 1) from nI_add (4 * m) 1]
  refine xw_iald dd_L_law_916 H1.2.2.2.1 (vp_in_nI (show 4 * m + 1 < n by omega) (by omega)) ?_
  rw [nI_clamp (by omega)]
  refine xw_cl0 (ct_M_list HM hV hS) (iv_L_law_917 HM.1) ok_M_list rfl rfl rfl ?_ (fun _ _ _ q => by cases q.1)
  rintro v h2 z2 ⟨hv, rfl, ⟨K2, A2, HM2, V2, S2, e2⟩, fr2⟩
  cases hv
  have H2 := H1.byM HM2 fr2
  have J : LI G x b0 n xs (m + 1) h2 V ((sw_list V S (xs (4 * m + 1))).2.2) K2 A2 f1 := ⟨H2, V2, S2, hI.up, iC_list hiC⟩
  refine xw_aloadR_n dd_L_law_920 rfl ?_
  refine xw_cl0 (ct_M_thrown HM2) (iv_L_law_921 HM2.1) ok_M_thrown rfl rfl rfl ?_ (fun _ _ _ q => by cases q.1)
  rintro v h2 z2 ⟨hv, rfl, rfl⟩
  cases hv
  rw [e2]
  refine xw_iload dd_L_law_924 rfl ?_
  refine xw_icmp_eq 931 dd_L_law_926 (by decide) (fun hc => ?_) (fun hc => absurd rfl hc)
  refine xw_goto 1331 dd_L_law_931 (by decide) ?_
  exact back _ _ _ _ _ _ _ _ _ J
theorem lw_page (hn : n ≤ 2048) (hmn : 4 * m + 4 ≤ n) (I : LI G x b0 n xs m h V S K A f) (back : ∀ (h1 : xa_H) (z1 : Nat) (V1 : sv_V) (S1 : Nat → sv_S) (K1 : Nat → Int32) (A1 : Nat → Nat → Int32) (f1 : Nat → Int64) (p5 p6 : Option Value), LI G x b0 n xs (m + 1) h1 V1 S1 K1 A1 f1 → xa_W G mm_L_law 14 kc ks 1331 [some (.ref b0), some (.ref x), some (.ref (x + 20)), some (.ref (x + 42)), some (.int (nI (4 * m))), p5, p6] [] h1 z1 Q) : xa_W G mm_L_law 14 (kc + 200) (ks + 4000) 934 [some (.ref b0), some (.ref x), some (.ref (x + 20)), some (.ref (x + 42)), some (.int (nI (4 * m))), o5, o6] [] h sz Q := by
  obtain ⟨H0, hV, hS, hI, hiC⟩ := I
  have hm512 : m ≤ 512 := by omega
  obtain ⟨⟨hh, hg⟩, hsr, hpos, h01, hcl, hlt, hbd, hbr, hoff⟩ := lc_facts hm512 hI
  have hcu := H0.1.cur
  refine xw_aloadR_n dd_L_law_934 rfl ?_
  refine xw_aloadR_n dd_L_law_935 rfl ?_
  refine xw_iload dd_L_law_936 rfl ?_
  refine xw_iconst 1 dd_L_law_938 (by decide) ?_
  refine xw_iadd dd_L_law_939 ?_
  rw [show nI (4 * m) + 1 = nI (4 * m + 1) from nI_add (4 * m) 1]
  refine xw_iald dd_L_law_940 H0.2.2.2.1 (vp_in_nI (show 4 * m + 1 < n by omega) (by omega)) ?_
  rw [nI_clamp (by omega)]
  refine xw_aloadR_n dd_L_law_941 rfl ?_
  refine xw_cl (ct_L_page H0) iv_L_law_942 ok_L_page rfl rfl rfl ?_ (fun _ _ _ q => by cases q.1)
  rintro v h1 z1 ⟨hv, f1, H1, hf1⟩
  cases hv
  have HM := H1.2.1
  refine xw_istore dd_L_law_945 (by decide) ?_
  refine xw_aloadR_n dd_L_law_947 rfl ?_
  refine xw_aloadR_n dd_L_law_948 rfl ?_
  refine xw_iload dd_L_law_949 rfl ?_
  refine xw_iconst 1 dd_L_law_951 (by decide) ?_
  refine xw_iadd dd_L_law_952 ?_
  rw [show nI (4 * m) + 1 = nI (4 * m + 1) from nI_add (4 * m) 1]
  refine xw_iald dd_L_law_953 H1.2.2.2.1 (vp_in_nI (show 4 * m + 1 < n by omega) (by omega)) ?_
  rw [nI_clamp (by omega)]
  refine xw_cl0 (ct_M_page HM hV hS hsr) (iv_L_law_954 HM.1) ok_M_page rfl rfl rfl ?_ (fun _ _ _ q => by cases q.1)
  rintro v h2 z2 ⟨hv, rfl, ⟨K2, A2, HM2, V2, S2, e2⟩, fr2⟩
  cases hv
  have H2 := H1.byM HM2 fr2
  have J : LI G x b0 n xs (m + 1) h2 V ((sw_page V S (xs (4 * m + 1))).2.2) K2 A2 f1 := ⟨H2, V2, S2, hI.up, iC_page hiC⟩
  refine xw_istore dd_L_law_957 (by decide) ?_
  refine xw_aloadR_n dd_L_law_959 rfl ?_
  refine xw_cl0 (ct_M_thrown HM2) (iv_L_law_960 HM2.1) ok_M_thrown rfl rfl rfl ?_ (fun _ _ _ q => by cases q.1)
  rintro v h2 z2 ⟨hv, rfl, rfl⟩
  cases hv
  rw [e2]
  refine xw_iload dd_L_law_963 rfl ?_
  refine xw_icmp_eq 970 dd_L_law_965 (by decide) (fun hc => ?_) (fun hc => absurd rfl hc)
  refine xw_iload dd_L_law_970 rfl ?_
  refine xw_if_ne 987 dd_L_law_972 (by decide) (fun hc => ?_) (fun hc => ?_)
  · refine xw_goto 1331 dd_L_law_987 (by decide) ?_
    exact back _ _ _ _ _ _ _ _ _ J
  · have hc0 : (sw_page V S (xs (4 * m + 1))).1 = 0 := (nI_eq (b := 0) (by have := lc_page (V := V) (S := S) (a1 := (xs (4 * m + 1))); omega) (by decide)).mp hc
    refine xw_aloadR_n dd_L_law_975 rfl ?_
    refine xw_iconst 0 dd_L_law_976 (by decide) ?_
    refine xw_lald dd_L_law_977 H2.2.2.1 (vp_in_nI (n := 0) (by decide) (by decide)) ?_
    rw [show ((0 : Int32).toNatClampNeg) = 0 from rfl, hf1 hc0]
    refine xw_iload dd_L_law_978 rfl ?_
    refine xw_i2l dd_L_law_980 ?_
    refine xw_lcmp dd_L_law_981 ?_
    refine xw_if_eq 987 dd_L_law_982 (by decide) (fun hc => ?_) (fun hc => absurd ((lg_cmp_eq _ _).mpr rfl) hc)
    refine xw_goto 1331 dd_L_law_987 (by decide) ?_
    exact back _ _ _ _ _ _ _ _ _ J
theorem lw_shown (hn : n ≤ 2048) (hmn : 4 * m + 4 ≤ n) (I : LI G x b0 n xs m h V S K A f) (back : ∀ (h1 : xa_H) (z1 : Nat) (V1 : sv_V) (S1 : Nat → sv_S) (K1 : Nat → Int32) (A1 : Nat → Nat → Int32) (f1 : Nat → Int64) (p5 p6 : Option Value), LI G x b0 n xs (m + 1) h1 V1 S1 K1 A1 f1 → xa_W G mm_L_law 14 kc ks 1331 [some (.ref b0), some (.ref x), some (.ref (x + 20)), some (.ref (x + 42)), some (.int (nI (4 * m))), p5, p6] [] h1 z1 Q) : xa_W G mm_L_law 14 (kc + 200) (ks + 4000) 990 [some (.ref b0), some (.ref x), some (.ref (x + 20)), some (.ref (x + 42)), some (.int (nI (4 * m))), o5, o6] [] h sz Q := by
  obtain ⟨H0, hV, hS, hI, hiC⟩ := I
  have hm512 : m ≤ 512 := by omega
  obtain ⟨⟨hh, hg⟩, hsr, hpos, h01, hcl, hlt, hbd, hbr, hoff⟩ := lc_facts hm512 hI
  have hcu := H0.1.cur
  refine xw_aloadR_n dd_L_law_990 rfl ?_
  refine xw_aloadR_n dd_L_law_991 rfl ?_
  refine xw_iload dd_L_law_992 rfl ?_
  refine xw_iconst 1 dd_L_law_994 (by decide) ?_
  refine xw_iadd dd_L_law_995 ?_
  rw [show nI (4 * m) + 1 = nI (4 * m + 1) from nI_add (4 * m) 1]
  refine xw_iald dd_L_law_996 H0.2.2.2.1 (vp_in_nI (show 4 * m + 1 < n by omega) (by omega)) ?_
  rw [nI_clamp (by omega)]
  refine xw_aloadR_n dd_L_law_997 rfl ?_
  refine xw_iload dd_L_law_998 rfl ?_
  refine xw_iconst 2 dd_L_law_1000 (by decide) ?_
  refine xw_iadd dd_L_law_1001 ?_
  rw [show nI (4 * m) + 2 = nI (4 * m + 2) from nI_add (4 * m) 2]
  refine xw_iald dd_L_law_1002 H0.2.2.2.1 (vp_in_nI (show 4 * m + 2 < n by omega) (by omega)) ?_
  rw [nI_clamp (by omega)]
  refine xw_aloadR_n dd_L_law_1003 rfl ?_
  refine xw_cl (ct_L_shown H0) iv_L_law_1004 ok_L_shown rfl rfl rfl ?_ (fun _ _ _ q => by cases q.1)
  rintro v h1 z1 ⟨hv, f1, H1, hf1⟩
  cases hv
  have HM := H1.2.1
  refine xw_istore dd_L_law_1007 (by decide) ?_
  refine xw_aloadR_n dd_L_law_1009 rfl ?_
  refine xw_aloadR_n dd_L_law_1010 rfl ?_
  refine xw_iload dd_L_law_1011 rfl ?_
  refine xw_iconst 1 dd_L_law_1013 (by decide) ?_
  refine xw_iadd dd_L_law_1014 ?_
  rw [show nI (4 * m) + 1 = nI (4 * m + 1) from nI_add (4 * m) 1]
  refine xw_iald dd_L_law_1015 H1.2.2.2.1 (vp_in_nI (show 4 * m + 1 < n by omega) (by omega)) ?_
  rw [nI_clamp (by omega)]
  refine xw_aloadR_n dd_L_law_1016 rfl ?_
  refine xw_iload dd_L_law_1017 rfl ?_
  refine xw_iconst 2 dd_L_law_1019 (by decide) ?_
  refine xw_iadd dd_L_law_1020 ?_
  rw [show nI (4 * m) + 2 = nI (4 * m + 2) from nI_add (4 * m) 2]
  refine xw_iald dd_L_law_1021 H1.2.2.2.1 (vp_in_nI (show 4 * m + 2 < n by omega) (by omega)) ?_
  rw [nI_clamp (by omega)]
  refine xw_cl0 (ct_M_shown HM hV hS) (iv_L_law_1022 HM.1) ok_M_shown rfl rfl rfl ?_ (fun _ _ _ q => by cases q.1)
  rintro v h2 z2 ⟨hv, rfl, ⟨K2, A2, HM2, V2, S2, e2⟩, fr2⟩
  cases hv
  have H2 := H1.byM HM2 fr2
  have J : LI G x b0 n xs (m + 1) h2 V ((sw_shown S (xs (4 * m + 1)) (xs (4 * m + 2))).2.2) K2 A2 f1 := ⟨H2, V2, S2, hI.up, iC_shown hiC⟩
  refine xw_istore dd_L_law_1025 (by decide) ?_
  refine xw_aloadR_n dd_L_law_1027 rfl ?_
  refine xw_cl0 (ct_M_thrown HM2) (iv_L_law_1028 HM2.1) ok_M_thrown rfl rfl rfl ?_ (fun _ _ _ q => by cases q.1)
  rintro v h2 z2 ⟨hv, rfl, rfl⟩
  cases hv
  rw [e2]
  refine xw_iload dd_L_law_1031 rfl ?_
  refine xw_icmp_eq 1038 dd_L_law_1033 (by decide) (fun hc => ?_) (fun hc => absurd rfl hc)
  refine xw_iload dd_L_law_1038 rfl ?_
  refine xw_if_ne 1055 dd_L_law_1040 (by decide) (fun hc => ?_) (fun hc => ?_)
  · refine xw_goto 1331 dd_L_law_1055 (by decide) ?_
    exact back _ _ _ _ _ _ _ _ _ J
  · have hc0 : (sw_shown S (xs (4 * m + 1)) (xs (4 * m + 2))).1 = 0 := (nI_eq (b := 0) (by have := lc_shown (S := S) (a1 := (xs (4 * m + 1))) (a2 := (xs (4 * m + 2))); omega) (by decide)).mp hc
    refine xw_aloadR_n dd_L_law_1043 rfl ?_
    refine xw_iconst 0 dd_L_law_1044 (by decide) ?_
    refine xw_lald dd_L_law_1045 H2.2.2.1 (vp_in_nI (n := 0) (by decide) (by decide)) ?_
    rw [show ((0 : Int32).toNatClampNeg) = 0 from rfl, hf1 hc0]
    refine xw_iload dd_L_law_1046 rfl ?_
    refine xw_i2l dd_L_law_1048 ?_
    refine xw_lcmp dd_L_law_1049 ?_
    refine xw_if_eq 1055 dd_L_law_1050 (by decide) (fun hc => ?_) (fun hc => absurd ((lg_cmp_eq _ _).mpr rfl) hc)
    refine xw_goto 1331 dd_L_law_1055 (by decide) ?_
    exact back _ _ _ _ _ _ _ _ _ J
theorem lw_follow (hn : n ≤ 2048) (hmn : 4 * m + 4 ≤ n) (I : LI G x b0 n xs m h V S K A f) (back : ∀ (h1 : xa_H) (z1 : Nat) (V1 : sv_V) (S1 : Nat → sv_S) (K1 : Nat → Int32) (A1 : Nat → Nat → Int32) (f1 : Nat → Int64) (p5 p6 : Option Value), LI G x b0 n xs (m + 1) h1 V1 S1 K1 A1 f1 → xa_W G mm_L_law 14 kc ks 1331 [some (.ref b0), some (.ref x), some (.ref (x + 20)), some (.ref (x + 42)), some (.int (nI (4 * m))), p5, p6] [] h1 z1 Q) : xa_W G mm_L_law 14 (kc + 200) (ks + 4000) 1058 [some (.ref b0), some (.ref x), some (.ref (x + 20)), some (.ref (x + 42)), some (.int (nI (4 * m))), o5, o6] [] h sz Q := by
  obtain ⟨H0, hV, hS, hI, hiC⟩ := I
  have hm512 : m ≤ 512 := by omega
  obtain ⟨⟨hh, hg⟩, hsr, hpos, h01, hcl, hlt, hbd, hbr, hoff⟩ := lc_facts hm512 hI
  have hcu := H0.1.cur
  refine xw_aloadR_n dd_L_law_1058 rfl ?_
  refine xw_aloadR_n dd_L_law_1059 rfl ?_
  refine xw_iload dd_L_law_1060 rfl ?_
  refine xw_iconst 1 dd_L_law_1062 (by decide) ?_
  refine xw_iadd dd_L_law_1063 ?_
  rw [show nI (4 * m) + 1 = nI (4 * m + 1) from nI_add (4 * m) 1]
  refine xw_iald dd_L_law_1064 H0.2.2.2.1 (vp_in_nI (show 4 * m + 1 < n by omega) (by omega)) ?_
  rw [nI_clamp (by omega)]
  refine xw_aloadR_n dd_L_law_1065 rfl ?_
  refine xw_iload dd_L_law_1066 rfl ?_
  refine xw_iconst 2 dd_L_law_1068 (by decide) ?_
  refine xw_iadd dd_L_law_1069 ?_
  rw [show nI (4 * m) + 2 = nI (4 * m + 2) from nI_add (4 * m) 2]
  refine xw_iald dd_L_law_1070 H0.2.2.2.1 (vp_in_nI (show 4 * m + 2 < n by omega) (by omega)) ?_
  rw [nI_clamp (by omega)]
  refine xw_aloadR_n dd_L_law_1071 rfl ?_
  refine xw_cl (ct_L_follow H0) iv_L_law_1072 ok_L_follow rfl rfl rfl ?_ (fun _ _ _ q => by cases q.1)
  rintro v h1 z1 ⟨hv, f1, H1, hf1⟩
  cases hv
  have HM := H1.2.1
  refine xw_istore dd_L_law_1075 (by decide) ?_
  refine xw_aloadR_n dd_L_law_1077 rfl ?_
  refine xw_aloadR_n dd_L_law_1078 rfl ?_
  refine xw_iload dd_L_law_1079 rfl ?_
  refine xw_iconst 1 dd_L_law_1081 (by decide) ?_
  refine xw_iadd dd_L_law_1082 ?_
  rw [show nI (4 * m) + 1 = nI (4 * m + 1) from nI_add (4 * m) 1]
  refine xw_iald dd_L_law_1083 H1.2.2.2.1 (vp_in_nI (show 4 * m + 1 < n by omega) (by omega)) ?_
  rw [nI_clamp (by omega)]
  refine xw_aloadR_n dd_L_law_1084 rfl ?_
  refine xw_iload dd_L_law_1085 rfl ?_
  refine xw_iconst 2 dd_L_law_1087 (by decide) ?_
  refine xw_iadd dd_L_law_1088 ?_
  rw [show nI (4 * m) + 2 = nI (4 * m + 2) from nI_add (4 * m) 2]
  refine xw_iald dd_L_law_1089 H1.2.2.2.1 (vp_in_nI (show 4 * m + 2 < n by omega) (by omega)) ?_
  rw [nI_clamp (by omega)]
  refine xw_cl0 (ct_M_follow HM hV hS hsr hbd hbr hiC hcu) (iv_L_law_1090 HM.1) ok_M_follow rfl rfl rfl ?_ (fun _ _ _ q => by cases q.1)
  rintro v h2 z2 ⟨hv, rfl, ⟨K2, A2, HM2, V2, S2, e2⟩, fr2⟩
  cases hv
  have H2 := H1.byM HM2 fr2
  have J : LI G x b0 n xs (m + 1) h2 V ((sw_follow V S (xs (4 * m + 1)) (xs (4 * m + 2))).2.2) K2 A2 f1 := ⟨H2, V2, S2, hI.up, iC_follow hiC hbd hbr hcu⟩
  refine xw_istore dd_L_law_1093 (by decide) ?_
  refine xw_aloadR_n dd_L_law_1095 rfl ?_
  refine xw_cl0 (ct_M_thrown HM2) (iv_L_law_1096 HM2.1) ok_M_thrown rfl rfl rfl ?_ (fun _ _ _ q => by cases q.1)
  rintro v h2 z2 ⟨hv, rfl, rfl⟩
  cases hv
  rw [e2]
  refine xw_iload dd_L_law_1099 rfl ?_
  refine xw_icmp_eq 1106 dd_L_law_1101 (by decide) (fun hc => ?_) (fun hc => absurd rfl hc)
  refine xw_iload dd_L_law_1106 rfl ?_
  refine xw_if_ne 1123 dd_L_law_1108 (by decide) (fun hc => ?_) (fun hc => ?_)
  · refine xw_goto 1331 dd_L_law_1123 (by decide) ?_
    exact back _ _ _ _ _ _ _ _ _ J
  · have hc0 : (sw_follow V S (xs (4 * m + 1)) (xs (4 * m + 2))).1 = 0 := (nI_eq (b := 0) (by have := lc_follow (V := V) (S := S) (a1 := (xs (4 * m + 1))) (a2 := (xs (4 * m + 2))); omega) (by decide)).mp hc
    refine xw_aloadR_n dd_L_law_1111 rfl ?_
    refine xw_iconst 0 dd_L_law_1112 (by decide) ?_
    refine xw_lald dd_L_law_1113 H2.2.2.1 (vp_in_nI (n := 0) (by decide) (by decide)) ?_
    rw [show ((0 : Int32).toNatClampNeg) = 0 from rfl, hf1 hc0]
    refine xw_iload dd_L_law_1114 rfl ?_
    refine xw_i2l dd_L_law_1116 ?_
    refine xw_lcmp dd_L_law_1117 ?_
    refine xw_if_eq 1123 dd_L_law_1118 (by decide) (fun hc => ?_) (fun hc => absurd ((lg_cmp_eq _ _).mpr rfl) hc)
    refine xw_goto 1331 dd_L_law_1123 (by decide) ?_
    exact back _ _ _ _ _ _ _ _ _ J
theorem lw_copied (hn : n ≤ 2048) (hmn : 4 * m + 4 ≤ n) (I : LI G x b0 n xs m h V S K A f) (back : ∀ (h1 : xa_H) (z1 : Nat) (V1 : sv_V) (S1 : Nat → sv_S) (K1 : Nat → Int32) (A1 : Nat → Nat → Int32) (f1 : Nat → Int64) (p5 p6 : Option Value), LI G x b0 n xs (m + 1) h1 V1 S1 K1 A1 f1 → xa_W G mm_L_law 14 kc ks 1331 [some (.ref b0), some (.ref x), some (.ref (x + 20)), some (.ref (x + 42)), some (.int (nI (4 * m))), p5, p6] [] h1 z1 Q) : xa_W G mm_L_law 14 (kc + 200) (ks + 4000) 1126 [some (.ref b0), some (.ref x), some (.ref (x + 20)), some (.ref (x + 42)), some (.int (nI (4 * m))), o5, o6] [] h sz Q := by
  obtain ⟨H0, hV, hS, hI, hiC⟩ := I
  have hm512 : m ≤ 512 := by omega
  obtain ⟨⟨hh, hg⟩, hsr, hpos, h01, hcl, hlt, hbd, hbr, hoff⟩ := lc_facts hm512 hI
  have hcu := H0.1.cur
  refine xw_aloadR_n dd_L_law_1126 rfl ?_
  refine xw_aloadR_n dd_L_law_1127 rfl ?_
  refine xw_iload dd_L_law_1128 rfl ?_
  refine xw_iconst 1 dd_L_law_1130 (by decide) ?_
  refine xw_iadd dd_L_law_1131 ?_
  rw [show nI (4 * m) + 1 = nI (4 * m + 1) from nI_add (4 * m) 1]
  refine xw_iald dd_L_law_1132 H0.2.2.2.1 (vp_in_nI (show 4 * m + 1 < n by omega) (by omega)) ?_
  rw [nI_clamp (by omega)]
  refine xw_aloadR_n dd_L_law_1133 rfl ?_
  refine xw_iload dd_L_law_1134 rfl ?_
  refine xw_iconst 2 dd_L_law_1136 (by decide) ?_
  refine xw_iadd dd_L_law_1137 ?_
  rw [show nI (4 * m) + 2 = nI (4 * m + 2) from nI_add (4 * m) 2]
  refine xw_iald dd_L_law_1138 H0.2.2.2.1 (vp_in_nI (show 4 * m + 2 < n by omega) (by omega)) ?_
  rw [nI_clamp (by omega)]
  refine xw_aloadR_n dd_L_law_1139 rfl ?_
  refine xw_iload dd_L_law_1140 rfl ?_
  refine xw_iconst 3 dd_L_law_1142 (by decide) ?_
  refine xw_iadd dd_L_law_1143 ?_
  rw [show nI (4 * m) + 3 = nI (4 * m + 3) from nI_add (4 * m) 3]
  refine xw_iald dd_L_law_1144 H0.2.2.2.1 (vp_in_nI (show 4 * m + 3 < n by omega) (by omega)) ?_
  rw [nI_clamp (by omega)]
  refine xw_aloadR_n dd_L_law_1145 rfl ?_
  refine xw_cl (ct_L_copied H0) iv_L_law_1146 ok_L_copied rfl rfl rfl ?_ (fun _ _ _ q => by cases q.1)
  rintro v h1 z1 ⟨hv, f1, H1, hf1⟩
  cases hv
  have HM := H1.2.1
  refine xw_istore dd_L_law_1149 (by decide) ?_
  refine xw_aloadR_n dd_L_law_1151 rfl ?_
  refine xw_aloadR_n dd_L_law_1152 rfl ?_
  refine xw_iload dd_L_law_1153 rfl ?_
  refine xw_iconst 1 dd_L_law_1155 (by decide) ?_
  refine xw_iadd dd_L_law_1156 ?_
  rw [show nI (4 * m) + 1 = nI (4 * m + 1) from nI_add (4 * m) 1]
  refine xw_iald dd_L_law_1157 H1.2.2.2.1 (vp_in_nI (show 4 * m + 1 < n by omega) (by omega)) ?_
  rw [nI_clamp (by omega)]
  refine xw_aloadR_n dd_L_law_1158 rfl ?_
  refine xw_iload dd_L_law_1159 rfl ?_
  refine xw_iconst 2 dd_L_law_1161 (by decide) ?_
  refine xw_iadd dd_L_law_1162 ?_
  rw [show nI (4 * m) + 2 = nI (4 * m + 2) from nI_add (4 * m) 2]
  refine xw_iald dd_L_law_1163 H1.2.2.2.1 (vp_in_nI (show 4 * m + 2 < n by omega) (by omega)) ?_
  rw [nI_clamp (by omega)]
  refine xw_aloadR_n dd_L_law_1164 rfl ?_
  refine xw_iload dd_L_law_1165 rfl ?_
  refine xw_iconst 3 dd_L_law_1167 (by decide) ?_
  refine xw_iadd dd_L_law_1168 ?_
  rw [show nI (4 * m) + 3 = nI (4 * m + 3) from nI_add (4 * m) 3]
  refine xw_iald dd_L_law_1169 H1.2.2.2.1 (vp_in_nI (show 4 * m + 3 < n by omega) (by omega)) ?_
  rw [nI_clamp (by omega)]
  refine xw_cl0 (ct_M_copied HM hV hS) (iv_L_law_1170 HM.1) ok_M_copied rfl rfl rfl ?_ (fun _ _ _ q => by cases q.1)
  rintro v h2 z2 ⟨hv, rfl, ⟨K2, A2, HM2, V2, S2, e2⟩, fr2⟩
  cases hv
  have H2 := H1.byM HM2 fr2
  have J : LI G x b0 n xs (m + 1) h2 V ((sw_copied S (xs (4 * m + 1)) (xs (4 * m + 2)) (xs (4 * m + 3))).2.2) K2 A2 f1 := ⟨H2, V2, S2, hI.up, iC_copied hiC⟩
  refine xw_istore dd_L_law_1173 (by decide) ?_
  refine xw_aloadR_n dd_L_law_1175 rfl ?_
  refine xw_cl0 (ct_M_thrown HM2) (iv_L_law_1176 HM2.1) ok_M_thrown rfl rfl rfl ?_ (fun _ _ _ q => by cases q.1)
  rintro v h2 z2 ⟨hv, rfl, rfl⟩
  cases hv
  rw [e2]
  refine xw_iload dd_L_law_1179 rfl ?_
  refine xw_icmp_eq 1186 dd_L_law_1181 (by decide) (fun hc => ?_) (fun hc => absurd rfl hc)
  refine xw_iload dd_L_law_1186 rfl ?_
  refine xw_if_ne 1203 dd_L_law_1188 (by decide) (fun hc => ?_) (fun hc => ?_)
  · refine xw_goto 1331 dd_L_law_1203 (by decide) ?_
    exact back _ _ _ _ _ _ _ _ _ J
  · have hc0 : (sw_copied S (xs (4 * m + 1)) (xs (4 * m + 2)) (xs (4 * m + 3))).1 = 0 := (nI_eq (b := 0) (by have := lc_copied (S := S) (a1 := (xs (4 * m + 1))) (a2 := (xs (4 * m + 2))) (a3 := (xs (4 * m + 3))); omega) (by decide)).mp hc
    refine xw_aloadR_n dd_L_law_1191 rfl ?_
    refine xw_iconst 0 dd_L_law_1192 (by decide) ?_
    refine xw_lald dd_L_law_1193 H2.2.2.1 (vp_in_nI (n := 0) (by decide) (by decide)) ?_
    rw [show ((0 : Int32).toNatClampNeg) = 0 from rfl, hf1 hc0]
    refine xw_iload dd_L_law_1194 rfl ?_
    refine xw_i2l dd_L_law_1196 ?_
    refine xw_lcmp dd_L_law_1197 ?_
    refine xw_if_eq 1203 dd_L_law_1198 (by decide) (fun hc => ?_) (fun hc => absurd ((lg_cmp_eq _ _).mpr rfl) hc)
    refine xw_goto 1331 dd_L_law_1203 (by decide) ?_
    exact back _ _ _ _ _ _ _ _ _ J
theorem lw_inStep (hn : n ≤ 2048) (hmn : 4 * m + 4 ≤ n) (I : LI G x b0 n xs m h V S K A f) (back : ∀ (h1 : xa_H) (z1 : Nat) (V1 : sv_V) (S1 : Nat → sv_S) (K1 : Nat → Int32) (A1 : Nat → Nat → Int32) (f1 : Nat → Int64) (p5 p6 : Option Value), LI G x b0 n xs (m + 1) h1 V1 S1 K1 A1 f1 → xa_W G mm_L_law 14 kc ks 1331 [some (.ref b0), some (.ref x), some (.ref (x + 20)), some (.ref (x + 42)), some (.int (nI (4 * m))), p5, p6] [] h1 z1 Q) : xa_W G mm_L_law 14 (kc + 200) (ks + 4000) 1206 [some (.ref b0), some (.ref x), some (.ref (x + 20)), some (.ref (x + 42)), some (.int (nI (4 * m))), o5, o6] [] h sz Q := by
  obtain ⟨H0, hV, hS, hI, hiC⟩ := I
  have hm512 : m ≤ 512 := by omega
  obtain ⟨⟨hh, hg⟩, hsr, hpos, h01, hcl, hlt, hbd, hbr, hoff⟩ := lc_facts hm512 hI
  have hcu := H0.1.cur
  refine xw_aloadR_n dd_L_law_1206 rfl ?_
  refine xw_aloadR_n dd_L_law_1207 rfl ?_
  refine xw_iload dd_L_law_1208 rfl ?_
  refine xw_iconst 1 dd_L_law_1210 (by decide) ?_
  refine xw_iadd dd_L_law_1211 ?_
  rw [show nI (4 * m) + 1 = nI (4 * m + 1) from nI_add (4 * m) 1]
  refine xw_iald dd_L_law_1212 H0.2.2.2.1 (vp_in_nI (show 4 * m + 1 < n by omega) (by omega)) ?_
  rw [nI_clamp (by omega)]
  refine xw_aloadR_n dd_L_law_1213 rfl ?_
  refine xw_cl (ct_L_inStep H0) iv_L_law_1214 ok_L_inStep rfl rfl rfl ?_ (fun _ _ _ q => by cases q.1)
  rintro v h1 z1 ⟨hv, f1, H1, hf1⟩
  cases hv
  have HM := H1.2.1
  refine xw_istore dd_L_law_1217 (by decide) ?_
  refine xw_aloadR_n dd_L_law_1219 rfl ?_
  refine xw_aloadR_n dd_L_law_1220 rfl ?_
  refine xw_iload dd_L_law_1221 rfl ?_
  refine xw_iconst 1 dd_L_law_1223 (by decide) ?_
  refine xw_iadd dd_L_law_1224 ?_
  rw [show nI (4 * m) + 1 = nI (4 * m + 1) from nI_add (4 * m) 1]
  refine xw_iald dd_L_law_1225 H1.2.2.2.1 (vp_in_nI (show 4 * m + 1 < n by omega) (by omega)) ?_
  rw [nI_clamp (by omega)]
  refine xw_cl0 (ct_M_inStep HM hV hS hsr hiC) (iv_L_law_1226 HM.1) ok_M_inStep rfl rfl rfl ?_ (fun _ _ _ q => by cases q.1)
  rintro v h2 z2 ⟨hv, rfl, ⟨K2, A2, HM2, V2, S2, e2⟩, fr2⟩
  cases hv
  have H2 := H1.byM HM2 fr2
  have J : LI G x b0 n xs (m + 1) h2 V ((sw_step V S (xs (4 * m + 1))).2.2) K2 A2 f1 := ⟨H2, V2, S2, hI.up, iC_inStep hiC⟩
  refine xw_istore dd_L_law_1229 (by decide) ?_
  refine xw_aloadR_n dd_L_law_1231 rfl ?_
  refine xw_cl0 (ct_M_thrown HM2) (iv_L_law_1232 HM2.1) ok_M_thrown rfl rfl rfl ?_ (fun _ _ _ q => by cases q.1)
  rintro v h2 z2 ⟨hv, rfl, rfl⟩
  cases hv
  rw [e2]
  refine xw_iload dd_L_law_1235 rfl ?_
  refine xw_icmp_eq 1242 dd_L_law_1237 (by decide) (fun hc => ?_) (fun hc => absurd rfl hc)
  refine xw_iload dd_L_law_1242 rfl ?_
  refine xw_if_ne 1266 dd_L_law_1244 (by decide) (fun hc => ?_) (fun hc => ?_)
  · refine xw_goto 1331 dd_L_law_1266 (by decide) ?_
    exact back _ _ _ _ _ _ _ _ _ J
  · have hc0 : (sw_step V S (xs (4 * m + 1))).1 = 0 := (nI_eq (b := 0) (by have := lc_inStep (V := V) (S := S) (a1 := (xs (4 * m + 1))); omega) (by decide)).mp hc
    refine xw_aloadR_n dd_L_law_1247 rfl ?_
    refine xw_iconst 0 dd_L_law_1248 (by decide) ?_
    refine xw_lald dd_L_law_1249 H2.2.2.1 (vp_in_nI (n := 0) (by decide) (by decide)) ?_
    rw [show ((0 : Int32).toNatClampNeg) = 0 from rfl, hf1 hc0]
    refine xw_iload dd_L_law_1250 rfl ?_
    refine xw_if_eq 1259 dd_L_law_1252 (by decide) (fun hz => ?_) (fun hz => ?_)
    · refine xw_lconst 0 dd_L_law_1259 (by decide) ?_
      refine xw_lcmp dd_L_law_1260 ?_
      refine xw_if_eq 1266 dd_L_law_1261 (by decide) (fun hc => ?_) (fun hc => absurd ((lg_cmp_eq _ _).mpr (if_pos hz)) hc)
      refine xw_goto 1331 dd_L_law_1266 (by decide) ?_
      exact back _ _ _ _ _ _ _ _ _ J
    · refine xw_lconst 1 dd_L_law_1255 (by decide) ?_
      refine xw_goto 1260 dd_L_law_1256 (by decide) ?_
      refine xw_lcmp dd_L_law_1260 ?_
      refine xw_if_eq 1266 dd_L_law_1261 (by decide) (fun hc => ?_) (fun hc => absurd ((lg_cmp_eq _ _).mpr (if_neg hz)) hc)
      refine xw_goto 1331 dd_L_law_1266 (by decide) ?_
      exact back _ _ _ _ _ _ _ _ _ J
theorem lw_cutAfter (hn : n ≤ 2048) (hmn : 4 * m + 4 ≤ n) (I : LI G x b0 n xs m h V S K A f) (back : ∀ (h1 : xa_H) (z1 : Nat) (V1 : sv_V) (S1 : Nat → sv_S) (K1 : Nat → Int32) (A1 : Nat → Nat → Int32) (f1 : Nat → Int64) (p5 p6 : Option Value), LI G x b0 n xs (m + 1) h1 V1 S1 K1 A1 f1 → xa_W G mm_L_law 14 kc ks 1331 [some (.ref b0), some (.ref x), some (.ref (x + 20)), some (.ref (x + 42)), some (.int (nI (4 * m))), p5, p6] [] h1 z1 Q) : xa_W G mm_L_law 14 (kc + 200) (ks + 4000) 1269 [some (.ref b0), some (.ref x), some (.ref (x + 20)), some (.ref (x + 42)), some (.int (nI (4 * m))), o5, o6] [] h sz Q := by
  obtain ⟨H0, hV, hS, hI, hiC⟩ := I
  have hm512 : m ≤ 512 := by omega
  obtain ⟨⟨hh, hg⟩, hsr, hpos, h01, hcl, hlt, hbd, hbr, hoff⟩ := lc_facts hm512 hI
  have hcu := H0.1.cur
  refine xw_aloadR_n dd_L_law_1269 rfl ?_
  refine xw_aloadR_n dd_L_law_1270 rfl ?_
  refine xw_iload dd_L_law_1271 rfl ?_
  refine xw_iconst 1 dd_L_law_1273 (by decide) ?_
  refine xw_iadd dd_L_law_1274 ?_
  rw [show nI (4 * m) + 1 = nI (4 * m + 1) from nI_add (4 * m) 1]
  refine xw_iald dd_L_law_1275 H0.2.2.2.1 (vp_in_nI (show 4 * m + 1 < n by omega) (by omega)) ?_
  rw [nI_clamp (by omega)]
  refine xw_cl (ct_L_cutAfter H0) iv_L_law_1276 ok_L_cutAfter rfl rfl rfl ?_ (fun _ _ _ q => by cases q.1)
  rintro v h1 z1 ⟨hv, f1, H1⟩
  cases hv
  have HM := H1.2.1
  refine xw_istore dd_L_law_1279 (by decide) ?_
  refine xw_aloadR_n dd_L_law_1281 rfl ?_
  refine xw_aloadR_n dd_L_law_1282 rfl ?_
  refine xw_iload dd_L_law_1283 rfl ?_
  refine xw_iconst 1 dd_L_law_1285 (by decide) ?_
  refine xw_iadd dd_L_law_1286 ?_
  rw [show nI (4 * m) + 1 = nI (4 * m + 1) from nI_add (4 * m) 1]
  refine xw_iald dd_L_law_1287 H1.2.2.2.1 (vp_in_nI (show 4 * m + 1 < n by omega) (by omega)) ?_
  rw [nI_clamp (by omega)]
  refine xw_cl0 (ct_M_cutAfter HM hV) (iv_L_law_1288 HM.1) ok_M_cutAfter rfl rfl rfl ?_ (fun _ _ _ q => by cases q.1)
  rintro v h2 z2 ⟨hv, rfl, ⟨K2, A2, HM2, V2, e2, a2⟩, fr2⟩
  cases hv
  have H2 := H1.byM HM2 fr2
  have S2 : rS S A2 := hS.cg (fun i i1 i2 => a2 i i1 (by omega))
  have J : LI G x b0 n xs (m + 1) h2 (sv_cut V (xs (4 * m + 1))).2.2 (S) K2 A2 f1 := ⟨H2, V2, S2, hI.cut, hiC⟩
  refine xw_aloadR_n dd_L_law_1291 rfl ?_
  refine xw_cl0 (ct_M_thrown HM2) (iv_L_law_1292 HM2.1) ok_M_thrown rfl rfl rfl ?_ (fun _ _ _ q => by cases q.1)
  rintro v h2 z2 ⟨hv, rfl, rfl⟩
  cases hv
  rw [e2]
  refine xw_iload dd_L_law_1295 rfl ?_
  refine xw_icmp_eq 1302 dd_L_law_1297 (by decide) (fun hc => ?_) (fun hc => absurd rfl hc)
  refine xw_goto 1331 dd_L_law_1302 (by decide) ?_
  exact back _ _ _ _ _ _ _ _ _ J
theorem lw_start (hn : n ≤ 2048) (hmn : 4 * m + 4 ≤ n) (I : LI G x b0 n xs m h V S K A f) (back : ∀ (h1 : xa_H) (z1 : Nat) (V1 : sv_V) (S1 : Nat → sv_S) (K1 : Nat → Int32) (A1 : Nat → Nat → Int32) (f1 : Nat → Int64) (p5 p6 : Option Value), LI G x b0 n xs (m + 1) h1 V1 S1 K1 A1 f1 → xa_W G mm_L_law 14 kc ks 1331 [some (.ref b0), some (.ref x), some (.ref (x + 20)), some (.ref (x + 42)), some (.int (nI (4 * m))), p5, p6] [] h1 z1 Q) : xa_W G mm_L_law 14 (kc + 200) (ks + 4000) 1305 [some (.ref b0), some (.ref x), some (.ref (x + 20)), some (.ref (x + 42)), some (.int (nI (4 * m))), o5, o6] [] h sz Q := by
  obtain ⟨H0, hV, hS, hI, hiC⟩ := I
  have hm512 : m ≤ 512 := by omega
  obtain ⟨⟨hh, hg⟩, hsr, hpos, h01, hcl, hlt, hbd, hbr, hoff⟩ := lc_facts hm512 hI
  have hcu := H0.1.cur
  refine xw_aloadR_n dd_L_law_1305 rfl ?_
  refine xw_cl (ct_V_start H0.1 (by omega)) (iv_L_law_1306 H0.1.cell) ok_V_start rfl rfl rfl ?_ (fun _ _ _ q => by cases q.1)
  rintro v h1 z1 ⟨hv, q1, q2⟩
  cases hv
  have H1 := H0.byV q1 q2
  have HM := H1.2.1
  refine xw_aloadR_n dd_L_law_1309 rfl ?_
  refine xw_cl0 (ct_M_start HM hV hI.2.1 (by omega)) (iv_L_law_1310 HM.1) ok_M_start rfl rfl rfl ?_ (fun _ _ _ q => by cases q.1)
  rintro v h2 z2 ⟨hv, rfl, ⟨K2, A2, HM2, V2, e2, a2⟩, fr2⟩
  cases hv
  have H2 := H1.byM HM2 fr2
  have S2 : rS S A2 := hS.cg (fun i i1 i2 => a2 i i1 (by omega))
  refine xw_icmp_eq 1331 dd_L_law_1313 (by decide) (fun hc => ?_) (fun hc => absurd rfl hc)
  exact back _ _ _ _ _ _ _ _ _ ⟨H2, V2, S2, hI.start, hiC⟩
theorem lw_isOn (hn : n ≤ 2048) (hmn : 4 * m + 4 ≤ n) (I : LI G x b0 n xs m h V S K A f) (back : ∀ (h1 : xa_H) (z1 : Nat) (V1 : sv_V) (S1 : Nat → sv_S) (K1 : Nat → Int32) (A1 : Nat → Nat → Int32) (f1 : Nat → Int64) (p5 p6 : Option Value), LI G x b0 n xs (m + 1) h1 V1 S1 K1 A1 f1 → xa_W G mm_L_law 14 kc ks 1331 [some (.ref b0), some (.ref x), some (.ref (x + 20)), some (.ref (x + 42)), some (.int (nI (4 * m))), p5, p6] [] h1 z1 Q) : xa_W G mm_L_law 14 (kc + 200) (ks + 4000) 1318 [some (.ref b0), some (.ref x), some (.ref (x + 20)), some (.ref (x + 42)), some (.int (nI (4 * m))), o5, o6] [] h sz Q := by
  obtain ⟨H0, hV, hS, hI, hiC⟩ := I
  have hm512 : m ≤ 512 := by omega
  obtain ⟨⟨hh, hg⟩, hsr, hpos, h01, hcl, hlt, hbd, hbr, hoff⟩ := lc_facts hm512 hI
  have hcu := H0.1.cur
  refine xw_less (kc' := kc) (ks' := ks) (by omega) (by omega) ?_
  refine xw_aloadR_n dd_L_law_1318 rfl ?_
  refine xw_cl0 (ct_V_isOn H0.1) (iv_L_law_1319 H0.1.cell) ok_V_isOn rfl rfl rfl ?_ (fun _ _ _ q => by cases q.1)
  rintro v h sz ⟨hv, rfl, rfl⟩
  cases hv
  have H1 := H0
  have HM := H1.2.1
  refine xw_aloadR_n dd_L_law_1322 rfl ?_
  refine xw_cl0 (ct_M_isOn HM hV) (iv_L_law_1323 HM.1) ok_M_isOn rfl rfl rfl ?_ (fun _ _ _ q => by cases q.1)
  rintro v h2 z2 ⟨hv, rfl, ⟨K2, A2, HM2, V2, e2, a2⟩, fr2⟩
  cases hv
  have H2 := H1.byM HM2 fr2
  have S2 : rS S A2 := hS.cg (fun i i1 i2 => a2 i i1 (by omega))
  refine xw_icmp_eq 1331 dd_L_law_1326 (by decide) (fun hc => ?_) (fun hc => absurd rfl hc)
  exact back _ _ _ _ _ _ _ _ _ ⟨H2, V2, S2, hI.up, hiC⟩
end LB
