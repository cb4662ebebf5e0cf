/-! NotedVolume: make, rename, start, the constructor (by program: wip/whole/mk32.py) -/
def mkc (V : sv_V) (p nm : Int32) : Nat := if sv_on V = true then if 20 ≤ (sv_fs V).length then 1 else if nm = 0 then 2 else if cd_fold (sv_fs V) p = 0 then cd_free (sv_fs V) p nm (-1) else cd_fold (sv_fs V) p else 1
def sv_incL (V : sv_V) : sv_V := match V with
  | (fs, lt, hd, rg, gs, on, lf) => (fs, lt + 1, hd, rg, gs, on, lf)
def sv_mk (V : sv_V) (p fl nm : Int32) : Nat × Int32 × sv_V := if mkc V p nm = 0 then if (sv_do V (nI (sv_lt V + 1), fl, p, nm, 0) 1).1 = true then (0, nI (sv_lt V + 1), sv_incL (sv_do V (nI (sv_lt V + 1), fl, p, nm, 0) 1).2) else (0, -2, (sv_do V (nI (sv_lt V + 1), fl, p, nm, 0) 1).2) else (mkc V p nm, 0, V)
theorem sv_mk_thr {V : sv_V} {p fl nm : Int32} {k : Nat} (h : mkc V p nm = k) (hk : k ≠ 0) : sv_mk V p fl nm = (k, 0, V) := by
  unfold sv_mk
  rw [h, if_neg hk]
section VM
variable {G : xa_G} {h : xa_H} {sz x : Nat} {V : sv_V} {S : Nat → sv_S}
theorem ct_V_make {p fb nm fl : Int32} (hfl : fl = if fb = 0 then 0 else 1) (H : vs G h x V S) (hh : sv_hd V < 800000) (hg : (sv_gs V).length ≤ 15) : xa_T G mm_V_make 12 200 4000 [.ref x, .int p, .int fb, .int nm] h sz (vqr G h x (sv_mk V p fl nm) cs4 S) := by
  have h1 := H.cell
  refine xt_o ok_V_make rfl rfl ?_
  refine xw_dom (fun hdm hBz => ?_)
  refine xw_aloadR_n dd_V_make_0 rfl ?_
  refine xw_less (kc' := 199 + 1) (ks' := 3990 + 6) (by decide) (by decide) ?_
  refine xw_chk (ct_V_checkPower H) (iv_V_make_1 h1) ok_V_checkPower rfl rfl rfl rfl (fun c0 => ?_) (fun c0 => by
    obtain ⟨c1, c2⟩ := pow1 c0
    rw [c2]
    exact vqr.thr (k := 1) (V := V) (v := 0) (sv_mk_thr (by unfold mkc; rw [if_neg c1]) (by decide)) H frV.refl hdm (by decide) rfl)
  have on := pow0 c0
  obtain ⟨ar, cp, H'⟩ := id H
  obtain ⟨-, ⟨ys, h2⟩, -⟩ := H'
  have hlen : (sv_fs V).length < 1000000 := by
    have e1 := h2.2.2.len
    have e2 := h2.2.1.len
    omega
  refine xw_aloadR_n dd_V_make_4 rfl ?_
  refine xw_get fl_V_14 dd_V_make_5 h1 rfl ?_
  refine xw_cl0 (ct_F_count h2) (iv_V_make_8 h2.1) ok_F_count rfl rfl rfl ?_ (fun _ _ _ q => by cases q.1)
  rintro v h sz ⟨hv, rfl, rfl⟩
  cases hv
  refine xw_bipush 20 dd_V_make_11 (by decide) ?_
  refine xw_icmp_lt 26 dd_V_make_13 (by decide) (fun hq => ?_) (fun hq => ?_)
  · have hl : ¬ 20 ≤ (sv_fs V).length := by
      have := (nI_ltI (a := (sv_fs V).length) (b := 20) (by omega) (by decide)).mp hq
      omega
    refine xw_iload_n dd_V_make_26 rfl ?_
    refine xw_less (kc' := 180 + 1) (ks' := 3900 + 6) (by decide) (by decide) ?_
    refine xw_chk ct_V_checkName iv_V_make_27 ok_V_checkName rfl rfl rfl rfl (fun c1 => ?_) (fun c1 => ?_)
    · have hn : ¬ nm = 0 := fun q => by
        unfold cd_name at c1
        rw [if_pos q] at c1
        cases c1
      refine xw_aloadR_n dd_V_make_30 rfl ?_
      refine xw_iload_n dd_V_make_31 rfl ?_
      refine xw_less (kc' := 170 + 2) (ks' := 3800 + 12) (by decide) (by decide) ?_
      refine xw_chk (ct_V_checkFolder H) (iv_V_make_32 h1) ok_V_checkFolder rfl rfl rfl rfl (fun c2 => ?_) (fun c2 => vqr.thr (V := V) (v := 0) (sv_mk_thr (by unfold mkc; rw [if_pos on, if_neg hl, if_neg hn, if_neg c2]) c2) H frV.refl hdm c2 rfl)
      refine xw_aloadR_n dd_V_make_35 rfl ?_
      refine xw_iload_n dd_V_make_36 rfl ?_
      refine xw_iload_n dd_V_make_37 rfl ?_
      refine xw_iconst (-1) dd_V_make_38 (by decide) ?_
      refine xw_less (kc' := 160 + 1) (ks' := 3700 + 6) (by decide) (by decide) ?_
      refine xw_chk (ct_V_checkNameFree H) (iv_V_make_39 h1) ok_V_checkNameFree rfl rfl rfl rfl (fun c3 => ?_) (fun c3 => vqr.thr (V := V) (v := 0) (sv_mk_thr (by unfold mkc; rw [if_pos on, if_neg hl, if_neg hn, if_pos c2]) c3) H frV.refl hdm c3 rfl)
      have hmk : mkc V p nm = 0 := by
        unfold mkc
        rw [if_pos on, if_neg hl, if_neg hn, if_pos c2]
        exact c3
      refine xw_less (kc' := 150 + 1) (ks' := 3600 + 5) (by decide) (by decide) ?_
      refine xw_newA nw_V_74 dd_V_make_42 (fun h8 n8 f8 => ?_)
      have hx8 : h8 x = some (vo_c x (sv_lt V) (sv_on V) (sv_lf V)) := (f8 x (by have := hdm _ _ h1; omega)).trans h1
      refine xw_dup dd_V_make_45 rfl ?_
      refine xw_aloadR_n dd_V_make_46 rfl ?_
      refine xw_get fl_V_39 dd_V_make_47 hx8 rfl ?_
      refine xw_iload_n dd_V_make_50 rfl ?_
      refine xw_dia (pj := 59) (stj := [.int (nI (sv_lt V + 1)), .ref sz, .ref sz]) (Lj := [some (.ref x), some (.int p), some (.int fb), some (.int nm), none]) (.int fl) ?_ (fun meet => ?_)
      · refine xw_iload_n dd_V_make_59 rfl ?_
        refine xw_iload_n dd_V_make_60 rfl ?_
        refine xw_iconst 0 dd_V_make_61 (by decide) ?_
        refine xw_cl0 (ct_E_init n8 hBz) iv_V_make_62 ok_E_init rfl rfl rfl ?_ (fun _ _ _ q => by cases q.1)
        rintro v h9 z9 ⟨hv, rfl, n9, f9⟩
        cases hv
        obtain ⟨H9, fr9⟩ := H.newE (h9 := h9) (fun b e hb => by
          have := hdm _ _ hb
          exact (f9 b (by omega)).trans ((f8 b (by omega)).trans hb))
        refine xw_astoreR dd_V_make_65 (by decide) ?_
        refine xw_aloadR_n dd_V_make_67 rfl ?_
        refine xw_aloadR dd_V_make_68 rfl ?_
        refine xw_iconst 1 dd_V_make_70 (by decide) ?_
        refine xw_less (kc' := 0 + 6) (ks' := 0 + 61) (by decide) (by decide) ?_
        refine xw_cl (ct_V_noteAndDo H9 n9 hh hg) (iv_V_make_71 H9.cell) ok_V_noteAndDo rfl rfl rfl ?_ (fun _ _ _ q => by cases q.1)
        rintro v h10 z10 ⟨hv, q1, q2⟩
        cases hv
        have n10 := q2 _ _ n9 (Or.inl rfl)
        by_cases hd : (sv_do V (nI (sv_lt V + 1), fl, p, nm, 0) 1).1 = true
        · have hr : sv_mk V p fl nm = (0, nI (sv_lt V + 1), sv_incL (sv_do V (nI (sv_lt V + 1), fl, p, nm, 0) 1).2) := by
            unfold sv_mk
            rw [if_pos hmk, if_pos hd]
          rw [if_pos hd]
          refine xw_if_ne 80 dd_V_make_74 (by decide) (fun hc => ?_) (fun hc => absurd hc (by decide))
          obtain ⟨ar', cp', H10⟩ := q1
          generalize (sv_do V (nI (sv_lt V + 1), fl, p, nm, 0) 1).2 = V2 at H10 hr
          obtain ⟨fs, lt, hd2, rg, gs, on2, lf⟩ := V2
          have g1 := H10.1
          refine xw_aloadR_n dd_V_make_80 rfl ?_
          refine xw_dup dd_V_make_81 rfl ?_
          refine xw_get fl_V_39 dd_V_make_82 g1 rfl ?_
          refine xw_iconst 1 dd_V_make_85 (by decide) ?_
          refine xw_iadd dd_V_make_86 ?_
          rw [nI_1]
          refine xw_putA fl_V_39 fz_V_39 (by decide) dd_V_make_87 g1 rfl H10.2.2.2.2.2.2.1 rfl rfl (fun h11 n11 f11 => ?_)
          have hk : ∀ b e, h10 b = some e → ¬ (xt e = 0 ∧ b = x) → h11 b = some e := fun b e hb hn => (f11 b (fun q => hn ⟨by subst q; rw [g1] at hb; cases hb; rfl, q⟩)).trans hb
          refine xw_aloadR dd_V_make_90 rfl ?_
          refine xw_get fl_V_83 dd_V_make_92 (hk _ _ n10 (by simp [xt])) rfl ?_
          exact xw_iret dd_V_make_95 rfl (vqr.ret hr ⟨_, _, H10.setX n11 hk⟩ ((fr9.trans q2).trans (fun b e hb hp => hk b e hb (by omega))))
        · rw [if_neg hd]
          refine xw_if_ne 80 dd_V_make_74 (by decide) (fun hc => absurd rfl hc) (fun hc => ?_)
          refine xw_bipush (-2) dd_V_make_77 (by decide) ?_
          exact xw_iret dd_V_make_79 rfl (vqr.ret (by unfold sv_mk; rw [if_pos hmk, if_neg hd]) q1 (fr9.trans q2))
      · refine xw_if_eq 58 dd_V_make_51 (by decide) (fun hc => ?_) (fun hc => ?_)
        · refine xw_iconst 0 dd_V_make_58 (by decide) ?_
          exact meet _ (by rw [hfl, if_pos hc])
        · refine xw_iconst 1 dd_V_make_54 (by decide) ?_
          refine xw_goto 59 dd_V_make_55 (by decide) ?_
          exact meet _ (by rw [hfl, if_neg hc])
    · have hn : nm = 0 := by
        by_cases q : nm = 0
        · exact q
        · exact absurd (if_neg q) c1
      have hc : cd_name nm = 2 := if_pos hn
      rw [hc]
      exact vqr.thr (k := 2) (V := V) (v := 0) (sv_mk_thr (by unfold mkc; rw [if_pos on, if_neg hl, if_pos hn]) (by decide)) H frV.refl hdm (by decide) rfl
  · have hl : 20 ≤ (sv_fs V).length := by
      by_cases q : (sv_fs V).length < 20
      · exact absurd (nI_lt (a := (sv_fs V).length) (b := 20) q (by decide)) hq
      · omega
    refine xw_less (kc' := 180 + 1) (ks' := 3900 + 6) (by decide) (by decide) ?_
    exact xw_throw (tx := "20 files live") ex_10 dd_V_make_16 dd_V_make_19 dd_V_make_20 dd_V_make_22 dd_V_make_25 (by decide) (by decide) (by decide) rfl (vqr.thr (k := 1) (V := V) (v := 0) (sv_mk_thr (by unfold mkc; rw [if_pos on, if_pos hl]) (by decide)) H frV.refl hdm (by decide) rfl)
def rnc (V : sv_V) (f p nm : Int32) : Nat := if sv_on V = true then if nm = 0 then 2 else if (sv_find (sv_fs V) f).isSome = true then if cd_fold (sv_fs V) p = 0 then if sv_in (sv_fs V) f 21 p = true then 4 else cd_free (sv_fs V) p nm f else cd_fold (sv_fs V) p else 3 else 1
def sv_rnm (V : sv_V) (e : sv_E) (f p nm : Int32) : Bool × sv_V := if p = e.2.2.1 ∧ nm = e.2.2.2.1 then (false, V) else if (sv_chg V e 4).1 = true then sv_do (sv_chg V e 4).2 (f, e.2.1, p, nm, e.2.2.2.2) (if p = e.2.2.1 then 8 else 24) else (false, (sv_chg V e 4).2)
def sv_ren (V : sv_V) (f p nm : Int32) : Nat × Int32 × sv_V := if rnc V f p nm = 0 then match sv_find (sv_fs V) f with
    | none => (0, 0, V)
    | some e => (0, if (sv_rnm V e f p nm).1 = true then 1 else 0, (sv_rnm V e f p nm).2)
  else (rnc V f p nm, 0, V)
theorem sv_ren_thr {V : sv_V} {f p nm : Int32} {k : Nat} (h : rnc V f p nm = k) (hk : k ≠ 0) : sv_ren V f p nm = (k, 0, V) := by
  unfold sv_ren
  rw [h, if_neg hk]
theorem sg_le3 (V : sv_V) (e : sv_E) (r : Int32) : (sv_gs (sv_chg V e r).2).length ≤ (sv_gs V).length + 1 ∧ sv_hd (sv_chg V e r).2 ≤ sv_hd V + 2 := by
  have ho : (sv_gs (sv_open V e.1).2).length ≤ (sv_gs V).length ∧ sv_hd (sv_open V e.1).2 ≤ sv_hd V + 1 := by
    rw [sv_open_way]
    split
    · exact ⟨Nat.le_refl _, Nat.le_succ _⟩
    · rename_i g _
      have := cg_len V g
      exact ⟨this.1, this.2.1⟩
  unfold sv_chg
  split
  · have hs := sp_len (sv_open V e.1).2
    unfold sv_note
    split
    · have hl := sg_len (sv_gs (sv_spend (sv_open V e.1).2).2) e.1 r
      refine ⟨?_, ?_⟩
      · show (sv_gather (sv_gs (sv_spend (sv_open V e.1).2).2) e.1 r).2.length ≤ _
        omega
      · show sv_hd (sv_spend (sv_open V e.1).2).2 + 1 ≤ _
        omega
    · refine ⟨?_, ?_⟩
      · show (sv_gs (sv_spend (sv_open V e.1).2).2).length ≤ _
        omega
      · show sv_hd (sv_spend (sv_open V e.1).2).2 ≤ _
        omega
  · exact ⟨Nat.le_trans ho.1 (Nat.le_succ _), Nat.le_trans ho.2 (Nat.le_succ _)⟩
theorem ct_V_rename {f p nm : Int32} (H : vs G h x V S) (hh : sv_hd V < 700000) (hg : (sv_gs V).length ≤ 14) : xa_T G mm_V_rename 12 200 4000 [.ref x, .int f, .int p, .int nm] h sz (vqr G h x (sv_ren V f p nm) cs4 S) := by
  have h1 := H.cell
  refine xt_o ok_V_rename rfl rfl ?_
  refine xw_dom (fun hdm hBz => ?_)
  refine xw_aloadR_n dd_V_rename_0 rfl ?_
  refine xw_less (kc' := 199 + 1) (ks' := 3990 + 6) (by decide) (by decide) ?_
  refine xw_chk (ct_V_checkPower H) (iv_V_rename_1 h1) ok_V_checkPower rfl rfl rfl rfl (fun c0 => ?_) (fun c0 => by
    obtain ⟨c1, c2⟩ := pow1 c0
    rw [c2]
    exact vqr.thr (k := 1) (V := V) (v := 0) (sv_ren_thr (by unfold rnc; rw [if_neg c1]) (by decide)) H frV.refl hdm (by decide) rfl)
  have on := pow0 c0
  refine xw_iload_n dd_V_rename_4 rfl ?_
  refine xw_less (kc' := 180 + 1) (ks' := 3900 + 6) (by decide) (by decide) ?_
  refine xw_chk ct_V_checkName iv_V_rename_5 ok_V_checkName rfl rfl rfl rfl (fun c1 => ?_) (fun c1 => ?_)
  · have hn : ¬ nm = 0 := fun q => by
      unfold cd_name at c1
      rw [if_pos q] at c1
      cases c1
    refine xw_aloadR_n dd_V_rename_8 rfl ?_
    refine xw_iload_n dd_V_rename_9 rfl ?_
    refine xw_less (kc' := 170 + 1) (ks' := 3800 + 6) (by decide) (by decide) ?_
    refine xw_live (ct_V_liveEntry H) (iv_V_rename_10 h1) rfl rfl rfl (fun e y w1 w2 => ?_) (fun w1 => vqr.thr (k := 3) (V := V) (v := 0) (sv_ren_thr (by unfold rnc; rw [if_pos on, if_neg hn, w1]; rfl) (by decide)) H frV.refl hdm (by decide) rfl)
    have his : (sv_find (sv_fs V) f).isSome = true := by rw [w1]; rfl
    refine xw_astoreR dd_V_rename_13 (by decide) ?_
    refine xw_aloadR_n dd_V_rename_15 rfl ?_
    refine xw_iload_n dd_V_rename_16 rfl ?_
    refine xw_less (kc' := 160 + 2) (ks' := 3700 + 12) (by decide) (by decide) ?_
    refine xw_chk (ct_V_checkFolder H) (iv_V_rename_17 h1) ok_V_checkFolder rfl rfl rfl rfl (fun c2 => ?_) (fun c2 => vqr.thr (V := V) (v := 0) (sv_ren_thr (by unfold rnc; rw [if_pos on, if_neg hn, if_pos his, if_neg c2]) c2) H frV.refl hdm c2 rfl)
    refine xw_aloadR_n dd_V_rename_20 rfl ?_
    refine xw_iload_n dd_V_rename_21 rfl ?_
    refine xw_iload_n dd_V_rename_22 rfl ?_
    refine xw_cl0 (ct_V_isOrLiesIn H) (iv_V_rename_23 h1) ok_V_isOrLiesIn rfl rfl rfl ?_ (fun _ _ _ q => by cases q.1)
    rintro v h sz ⟨hv, rfl, rfl⟩
    cases hv
    by_cases hi : sv_in (sv_fs V) f 21 p = true
    · rw [if_pos hi]
      refine xw_if_eq 39 dd_V_rename_26 (by decide) (fun hc => absurd hc (by decide)) (fun hc => ?_)
      refine xw_less (kc' := 100 + 1) (ks' := 1000 + 6) (by decide) (by decide) ?_
      exact xw_throw (tx := "a folder can't lie in itself") ex_13 dd_V_rename_29 dd_V_rename_32 dd_V_rename_33 dd_V_rename_35 dd_V_rename_38 (by decide) (by decide) (by decide) rfl (vqr.thr (k := 4) (V := V) (v := 0) (sv_ren_thr (by unfold rnc; rw [if_pos on, if_neg hn, if_pos his, if_pos c2, if_pos hi]) (by decide)) H frV.refl hdm (by decide) rfl)
    · rw [if_neg hi]
      refine xw_if_eq 39 dd_V_rename_26 (by decide) (fun hc => ?_) (fun hc => absurd rfl hc)
      refine xw_aloadR_n dd_V_rename_39 rfl ?_
      refine xw_iload_n dd_V_rename_40 rfl ?_
      refine xw_iload_n dd_V_rename_41 rfl ?_
      refine xw_iload_n dd_V_rename_42 rfl ?_
      refine xw_less (kc' := 150 + 1) (ks' := 3600 + 6) (by decide) (by decide) ?_
      refine xw_chk (ct_V_checkNameFree H) (iv_V_rename_43 h1) ok_V_checkNameFree rfl rfl rfl rfl (fun c3 => ?_) (fun c3 => vqr.thr (V := V) (v := 0) (sv_ren_thr (by unfold rnc; rw [if_pos on, if_neg hn, if_pos his, if_pos c2, if_neg hi]) c3) H frV.refl hdm c3 rfl)
      have hrn : rnc V f p nm = 0 := by
        unfold rnc
        rw [if_pos on, if_neg hn, if_pos his, if_pos c2, if_neg hi]
        exact c3
      have hr : sv_ren V f p nm = (0, if (sv_rnm V e f p nm).1 = true then 1 else 0, (sv_rnm V e f p nm).2) := by
        unfold sv_ren
        rw [if_pos hrn, w1]
      have go : ∀ mv : Int32, mv = (if p = e.2.2.1 then 0 else 1) → ¬ (p = e.2.2.1 ∧ nm = e.2.2.2.1) → xa_W G mm_V_rename 12 150 3600 78 [some (.ref x), some (.int f), some (.int p), some (.int nm), some (.ref y), some (.int mv), none] [] h sz (vqr G h x (sv_ren V f p nm) cs4 S) := by
        intro mv hmv hno
        refine xw_aloadR_n dd_V_rename_78 rfl ?_
        refine xw_aloadR dd_V_rename_79 rfl ?_
        refine xw_iconst 4 dd_V_rename_81 (by decide) ?_
        refine xw_less (kc' := 100 + 5) (ks' := 2000 + 33) (by decide) (by decide) ?_
        refine xw_cl (ct_V_writeChangeNote H w2 (by omega) (by omega)) (iv_V_rename_82 h1) ok_V_writeChangeNote rfl rfl rfl ?_ (fun _ _ _ q => by cases q.1)
        rintro v h9 z9 ⟨hv, q1, q2⟩
        cases hv
        have sl := sg_le3 V e 4
        have w9 := q2 _ _ w2 (Or.inl rfl)
        by_cases hd : (sv_chg V e 4).1 = true
        · have hrm : sv_rnm V e f p nm = sv_do (sv_chg V e 4).2 (f, e.2.1, p, nm, e.2.2.2.2) (if p = e.2.2.1 then 8 else 24) := by
            unfold sv_rnm
            rw [if_neg hno, if_pos hd]
          rw [if_pos hd]
          refine xw_if_ne 90 dd_V_rename_85 (by decide) (fun hc => ?_) (fun hc => absurd hc (by decide))
          refine xw_dom (fun hdm9 hBz9 => ?_)
          refine xw_less (kc' := 50 + 1) (ks' := 1000 + 5) (by decide) (by decide) ?_
          refine xw_newA nw_V_74 dd_V_rename_90 (fun h10 n10 f10 => ?_)
          have w10 : h10 y = some (en_c e) := (f10 y (by have := hdm9 _ _ w9; omega)).trans w9
          refine xw_dup dd_V_rename_93 rfl ?_
          refine xw_iload_n dd_V_rename_94 rfl ?_
          refine xw_aloadR dd_V_rename_95 rfl ?_
          refine xw_get fl_V_90 dd_V_rename_97 w10 rfl ?_
          refine xw_iload_n dd_V_rename_100 rfl ?_
          refine xw_iload_n dd_V_rename_101 rfl ?_
          refine xw_aloadR dd_V_rename_102 rfl ?_
          refine xw_get fl_V_104 dd_V_rename_104 w10 rfl ?_
          refine xw_cl0 (ct_E_init n10 hBz9) iv_V_rename_107 ok_E_init rfl rfl rfl ?_ (fun _ _ _ q => by cases q.1)
          rintro v h11 z11 ⟨hv, rfl, n11, f11⟩
          cases hv
          obtain ⟨H11, fr11⟩ := q1.newE (h9 := h11) (fun b e hb => by
            have := hdm9 _ _ hb
            exact (f11 b (by omega)).trans ((f10 b (by omega)).trans hb))
          refine xw_astoreR dd_V_rename_110 (by decide) ?_
          refine xw_aloadR_n dd_V_rename_112 rfl ?_
          refine xw_aloadR dd_V_rename_113 rfl ?_
          refine xw_iload dd_V_rename_115 rfl ?_
          refine xw_dia (pj := 127) (stj := [.ref z9, .ref x]) (Lj := [some (.ref x), some (.int f), some (.int p), some (.int nm), some (.ref y), some (.int mv), some (.ref z9)]) (.int (if p = e.2.2.1 then 8 else 24)) ?_ (fun meet => ?_)
          · refine xw_less (kc' := 0 + 6) (ks' := 0 + 61) (by decide) (by decide) ?_
            refine xw_cl (ct_V_noteAndDo H11 n11 (by omega) (by omega)) (iv_V_rename_127 H11.cell) ok_V_noteAndDo rfl rfl rfl ?_ (fun _ _ _ q => by cases q.1)
            rintro v h12 z12 ⟨hv, t1, t2⟩
            cases hv
            exact xw_zret dd_V_rename_130 rfl zbit (vqr.ret (by rw [hr, hrm]) t1 ((q2.trans fr11).trans t2))
          · by_cases hp : p = e.2.2.1
            · rw [if_pos hp] at hmv meet
              subst hmv
              refine xw_if_eq 125 dd_V_rename_117 (by decide) (fun hc => ?_) (fun hc => absurd rfl hc)
              refine xw_bipush 8 dd_V_rename_125 (by decide) ?_
              exact meet _ rfl
            · rw [if_neg hp] at hmv meet
              subst hmv
              refine xw_if_eq 125 dd_V_rename_117 (by decide) (fun hc => absurd hc (by decide)) (fun hc => ?_)
              refine xw_bipush 24 dd_V_rename_120 (by decide) ?_
              refine xw_goto 127 dd_V_rename_122 (by decide) ?_
              exact meet _ rfl
        · have hrm : sv_rnm V e f p nm = (false, (sv_chg V e 4).2) := by
            unfold sv_rnm
            rw [if_neg hno, if_neg hd]
          rw [if_neg hd]
          refine xw_if_ne 90 dd_V_rename_85 (by decide) (fun hc => absurd rfl hc) (fun hc => ?_)
          refine xw_iconst 0 dd_V_rename_88 (by decide) ?_
          exact xw_zret dd_V_rename_89 rfl rfl (vqr.ret (by rw [hr, hrm]; rfl) q1 q2)
      have next : ∀ mv : Int32, mv = (if p = e.2.2.1 then 0 else 1) → xa_W G mm_V_rename 12 150 3600 60 [some (.ref x), some (.int f), some (.int p), some (.int nm), some (.ref y), none, none] [.int mv] h sz (vqr G h x (sv_ren V f p nm) cs4 S) := by
        intro mv hmv
        refine xw_istore dd_V_rename_60 (by decide) ?_
        refine xw_iload dd_V_rename_62 rfl ?_
        by_cases hp : p = e.2.2.1
        · have hm0 : mv = 0 := by rw [hmv, if_pos hp]
          refine xw_if_ne 78 dd_V_rename_64 (by decide) (fun hc => absurd hm0 hc) (fun hc => ?_)
          refine xw_iload_n dd_V_rename_67 rfl ?_
          refine xw_aloadR dd_V_rename_68 rfl ?_
          refine xw_get fl_V_101 dd_V_rename_70 w2 rfl ?_
          refine xw_icmp_ne 78 dd_V_rename_73 (by decide) (fun hc2 => go mv hmv (fun q => hc2 q.2)) (fun hc2 => ?_)
          have hc2 : nm = e.2.2.2.1 := hc2
          have hrm : sv_rnm V e f p nm = (false, V) := by
            unfold sv_rnm
            rw [if_pos ⟨hp, hc2⟩]
          refine xw_iconst 0 dd_V_rename_76 (by decide) ?_
          exact xw_zret dd_V_rename_77 rfl rfl (vqr.ret (by rw [hr, hrm]; rfl) H frV.refl)
        · have hm1 : mv = 1 := by rw [hmv, if_neg hp]
          refine xw_if_ne 78 dd_V_rename_64 (by decide) (fun hc => go mv hmv (fun q => hp q.1)) (fun hc => absurd hc (by rw [hm1]; decide))
      refine xw_iload_n dd_V_rename_46 rfl ?_
      refine xw_aloadR dd_V_rename_47 rfl ?_
      refine xw_get fl_V_98 dd_V_rename_49 w2 rfl ?_
      refine xw_icmp_eq 59 dd_V_rename_52 (by decide) (fun hc => ?_) (fun hc => ?_)
      · refine xw_iconst 0 dd_V_rename_59 (by decide) ?_
        exact next 0 (by rw [if_pos (show p = e.2.2.1 from hc)])
      · refine xw_iconst 1 dd_V_rename_55 (by decide) ?_
        refine xw_goto 60 dd_V_rename_56 (by decide) ?_
        exact next 1 (by rw [if_neg (show ¬ p = e.2.2.1 from hc)])
  · have hn : nm = 0 := by
      by_cases q : nm = 0
      · exact q
      · exact absurd (if_neg q) c1
    have hc : cd_name nm = 2 := if_pos hn
    rw [hc]
    exact vqr.thr (k := 2) (V := V) (v := 0) (sv_ren_thr (by unfold rnc; rw [if_pos on, if_pos hn]) (by decide)) H frV.refl hdm (by decide) rfl
end VM
