/-! NotedVolumeModel: make (by program: wip/whole/mk49.py) -/
theorem sp_lt (V : sv_V) : sv_lt (sv_spend V).2 = sv_lt V := by
  obtain ⟨fs, lt, hd, rg, gs, on, lf⟩ := V
  unfold sv_spend
  simp only
  split <;> rfl
theorem cg_lt (V : sv_V) (g : Int32 × Int32) : sv_lt (sv_closeG V g).2 = sv_lt V := by
  unfold sv_closeG
  split
  · show sv_lt (sv_spend V).2 = _
    exact sp_lt V
  · exact sp_lt V
theorem op_lt (V : sv_V) (f : Int32) : sv_lt (sv_open V f).2 = sv_lt V := by
  rw [sv_open_way]
  split
  · rfl
  · exact cg_lt V _
theorem nt_lt (V : sv_V) (e : sv_E) (r : Int32) : sv_lt (sv_note V e r).2 = sv_lt V := by
  unfold sv_note
  split
  · show sv_lt (sv_spend V).2 = _
    exact sp_lt V
  · exact sp_lt V
theorem ch_lt (V : sv_V) (e : sv_E) (r : Int32) : sv_lt (sv_chg V e r).2 = sv_lt V := by
  unfold sv_chg
  split
  · rw [nt_lt, op_lt]
  · exact op_lt V _
/-- a file more -/
theorem rF.app {fs : List sv_E} {K K' : Nat → Int32} {A A' : Nat → Nat → Int32} {e : sv_E} (H : rF fs K A) (hl : fs.length < 20) (hK : K' 1 = nI (fs.length + 1)) (hA : ∀ q, 1 ≤ q → q ≤ 5 → ∀ j, j ≠ fs.length → A' q j = A q j) (h1 : A' 1 fs.length = e.1) (h2 : A' 2 fs.length = e.2.1) (h3 : A' 3 fs.length = e.2.2.1) (h4 : A' 4 fs.length = e.2.2.2.1) (h5 : A' 5 fs.length = e.2.2.2.2) : rF (fs ++ [e]) K' A' := by
  refine ⟨?_, ?_, fun j q hq => ?_⟩
  · rw [List.length_append]
    exact hK
  · rw [List.length_append]
    show fs.length + 1 ≤ 20
    omega
  · by_cases ej : j = fs.length
    · subst ej
      rw [List.getElem?_append_right (Nat.le_refl _)] at hq
      simp at hq
      subst hq
      exact ⟨h1, h2, h3, h4, h5⟩
    · have hj : j < fs.length := by
        have := (List.getElem?_eq_some_iff.mp hq).1
        simp at this
        omega
      rw [List.getElem?_append_left hj] at hq
      rw [hA 1 (by decide) (by decide) j ej, hA 2 (by decide) (by decide) j ej, hA 3 (by decide) (by decide) j ej, hA 4 (by decide) (by decide) j ej, hA 5 (by decide) (by decide) j ej]
      exact H.2.2 j q hq
theorem cd_fold_3 (fs : List sv_E) (p : Int32) : cd_fold fs p = 3 ↔ ¬ p = 0 ∧ sv_find fs p = none := by
  unfold cd_fold
  by_cases h0 : p = 0
  · rw [if_pos h0]
    exact ⟨fun q => absurd q (by decide), fun q => absurd h0 q.1⟩
  · rw [if_neg h0]
    cases hf : sv_find fs p with
    | none => exact ⟨fun _ => ⟨h0, rfl⟩, fun _ => rfl⟩
    | some e =>
      refine ⟨fun q => ?_, fun q => by cases q.2⟩
      simp only at q
      split at q <;> cases q
theorem cd_fold_034 (fs : List sv_E) (p : Int32) : cd_fold fs p = 0 ∨ cd_fold fs p = 3 ∨ cd_fold fs p = 4 := by
  unfold cd_fold
  split
  · exact Or.inl rfl
  · split
    · exact Or.inr (Or.inl rfl)
    · split
      · exact Or.inl rfl
      · exact Or.inr (Or.inr rfl)
theorem mkc_eq {V : sv_V} {p nm : Int32} (hl : (sv_fs V).length ≤ 20) (hpos : ∀ e ∈ sv_fs V, 0 < e.1) : mkc V p nm = if (¬ sv_on V = true ∨ (sv_fs V).length = 20) then 1 else if (nm = 0) then 2 else if (¬ (cd_fold (sv_fs V) p ≠ 3)) then 3 else if (¬ cd_fold (sv_fs V) p = 0 ∨ sv_nmd (sv_fs V) p nm ≠ none) then 4 else 0 := by
  unfold mkc
  by_cases hon : sv_on V = true
  · rw [if_pos hon]
    by_cases h20 : 20 ≤ (sv_fs V).length
    · rw [if_pos h20, if_pos (Or.inr (by omega))]
    · have hn1 : ¬ (¬ sv_on V = true ∨ (sv_fs V).length = 20) := fun q => q.elim (fun w => w hon) (fun w => by omega)
      rw [if_neg h20, if_neg hn1]
      by_cases hnm : nm = 0
      · rw [if_pos hnm, if_pos hnm]
      · rw [if_neg hnm, if_neg hnm]
        rcases cd_fold_034 (sv_fs V) p with q | q | q
        · rw [if_pos q, if_neg (show ¬ (¬ (cd_fold (sv_fs V) p ≠ 3)) from fun w => w (by rw [q]; decide))]
          unfold cd_free
          cases hf : sv_nmd (sv_fs V) p nm with
          | none => rw [if_neg (show ¬ (¬ cd_fold (sv_fs V) p = 0 ∨ (none : Option sv_E) ≠ none) from fun w => w.elim (fun w => w q) (fun w => w rfl))]
          | some e =>
            have hm : e ∈ sv_fs V := List.mem_of_find?_eq_some hf
            have hne : ¬ e.1 = -1 := fun w => by
              have := hpos e hm
              rw [w] at this
              exact absurd this (by decide)
            rw [if_pos (show (¬ cd_fold (sv_fs V) p = 0 ∨ some e ≠ none) from Or.inr (fun w => by cases w))]
            exact if_neg hne
        · rw [if_neg (show ¬ cd_fold (sv_fs V) p = 0 by rw [q]; decide), if_pos (show (¬ (cd_fold (sv_fs V) p ≠ 3)) from fun w => w q), q]
        · rw [if_neg (show ¬ cd_fold (sv_fs V) p = 0 by rw [q]; decide), if_neg (show ¬ (¬ (cd_fold (sv_fs V) p ≠ 3)) from fun w => w (by rw [q]; decide)), if_pos (show (¬ cd_fold (sv_fs V) p = 0 ∨ sv_nmd (sv_fs V) p nm ≠ none) from Or.inl (by rw [q]; decide)), q]
  · rw [if_neg hon, if_pos (Or.inl hon)]
section MZ
variable {G : xa_G} {h : xa_H} {sz o : Nat} {K : Nat → Int32} {A : Nat → Nat → Int32} {V : sv_V}
theorem ct_M_make {p fb nm fl : Int32} (hfl : fl = if fb = 0 then 0 else 1) (H : mo_at G h o K A) (hV : rV V K A) (hh : sv_hd V < 800000) (hlt : ∀ e ∈ sv_fs V, e.1 < nI (sv_lt V + 1)) (hpos : ∀ e ∈ sv_fs V, 0 < e.1) : xa_T G mm_M_make 4 0 0 [.ref o, .int p, .int fb, .int nm] h sz (mqp G h sz o (sv_mk V p fl nm) A) := by
  have v1 := hV.1
  obtain ⟨k1, k2, k3⟩ := id v1
  refine xt_o ok_M_make rfl rfl ?_
  refine xw_dia (pj := 17) (stj := []) (Lj := [some (.ref o), some (.int p), some (.int fb), some (.int nm), none, none, none]) (.int (zb (cd_fold (sv_fs V) p ≠ 3))) ?_ (fun meet => ?_)
  · -- there
    refine xw_istore dd_M_make_17 (by decide) ?_
    refine xw_aloadR_n dd_M_make_19 rfl ?_
    refine xw_aloadR_n dd_M_make_20 rfl ?_
    refine xw_get fl_M_91 dd_M_make_21 H.1 rfl ?_
    rw [off_zb hV]
    refine xw_dia (pj := 41) (stj := [.ref o]) (Lj := [some (.ref o), some (.int p), some (.int fb), some (.int nm), some (.int (zb (cd_fold (sv_fs V) p ≠ 3))), none, none]) (.int (zb (¬ sv_on V = true ∨ (sv_fs V).length = 20))) ?_ (fun meet => ?_)
    · -- off or full
      refine xw_iload_n dd_M_make_41 rfl ?_
      refine xw_dia (pj := 50) (stj := [.int (zb (¬ sv_on V = true ∨ (sv_fs V).length = 20)), .ref o]) (Lj := [some (.ref o), some (.int p), some (.int fb), some (.int nm), some (.int (zb (cd_fold (sv_fs V) p ≠ 3))), none, none]) (.int (zb (nm = 0))) ?_ (fun meet => ?_)
      · -- no name
        refine xw_iload dd_M_make_50 rfl ?_
        refine xw_dia (pj := 60) (stj := [.int (zb (nm = 0)), .int (zb (¬ sv_on V = true ∨ (sv_fs V).length = 20)), .ref o]) (Lj := [some (.ref o), some (.int p), some (.int fb), some (.int nm), some (.int (zb (cd_fold (sv_fs V) p ≠ 3))), none, none]) (.int (zb (¬ (cd_fold (sv_fs V) p ≠ 3)))) ?_ (fun meet => ?_)
        · -- not there
          refine xw_aloadR_n dd_M_make_60 rfl ?_
          refine xw_iload_n dd_M_make_61 rfl ?_
          refine xw_cl0 (ct_M_isFolder H v1) (iv_M_make_62 H.1) ok_M_isFolder rfl rfl rfl ?_ (fun _ _ _ q => by cases q.1)
          rintro v h sz ⟨hv, rfl, rfl⟩
          cases hv
          refine xw_dia (pj := 82) (stj := [.int (zb (¬ (cd_fold (sv_fs V) p ≠ 3))), .int (zb (nm = 0)), .int (zb (¬ sv_on V = true ∨ (sv_fs V).length = 20)), .ref o]) (Lj := [some (.ref o), some (.int p), some (.int fb), some (.int nm), some (.int (zb (cd_fold (sv_fs V) p ≠ 3))), none, none]) (.int (zb (¬ cd_fold (sv_fs V) p = 0 ∨ sv_nmd (sv_fs V) p nm ≠ none))) ?_ (fun meet => ?_)
          · -- no folder, or named
            refine xw_cl0 (ct_M_refused H) (iv_M_make_82 H.1) ok_M_refused rfl rfl rfl ?_ (fun _ _ _ q => by cases q.1)
            rintro v h1 z1 ⟨hv, rfl, H1, fr1⟩
            cases hv
            rw [md_zb, ← mkc_eq k2 hpos] at H1 ⊢
            by_cases hk : mkc V p nm = 0
            · have hr : sv_mk V p fl nm = if (sv_do V (nI (sv_lt V + 1), fl, p, nm, 0) 1).1 = true then (0, nI (sv_lt V + 1), sv_incL (sv_do V (nI (sv_lt V + 1), fl, p, nm, 0) 1).2) else (0, -2, (sv_do V (nI (sv_lt V + 1), fl, p, nm, 0) 1).2) := by
                unfold sv_mk
                rw [if_pos hk]
              have hl : (sv_fs V).length < 20 := by
                have := mkc_eq (p := p) (nm := nm) k2 hpos
                rw [hk] at this
                by_cases q : (¬ sv_on V = true ∨ (sv_fs V).length = 20)
                · rw [if_pos q] at this
                  cases this
                · have : ¬ (sv_fs V).length = 20 := fun w => q (Or.inr w)
                  omega
              rw [hk] at H1 ⊢
              have hV1 : rV V (upd K 0 (nI 0)) A := hV.thr
              have k7 : upd K 0 (nI 0) 7 = nI (sv_lt V) := hV.2.2.2.1
              refine xw_if_eq 90 dd_M_make_85 (by decide) (fun hc => ?_) (fun hc => absurd rfl hc)
              refine xw_aloadR_n dd_M_make_90 rfl ?_
              refine xw_get fl_M_132 dd_M_make_91 H1.1 rfl ?_
              rw [k7]
              refine xw_iconst 1 dd_M_make_94 (by decide) ?_
              refine xw_iadd dd_M_make_95 ?_
              rw [nI_1]
              refine xw_istore dd_M_make_96 (by decide) ?_
              refine xw_iload_n dd_M_make_98 rfl ?_
              refine xw_dia (pj := 107) (stj := []) (Lj := [some (.ref o), some (.int p), some (.int fb), some (.int nm), some (.int (zb (cd_fold (sv_fs V) p ≠ 3))), some (.int (nI (sv_lt V + 1))), none]) (.int fl) ?_ (fun meet => ?_)
              · -- the sort
                have cut : ∀ (V' : sv_V) (h9 : xa_H) (K' : Nat → Int32) (A' : Nat → Nat → Int32), (sv_do V (nI (sv_lt V + 1), fl, p, nm, 0) 1) = (false, V') → mo_at G h9 o K' A' → rV V' K' A' → K' 0 = nI 0 → (∀ i, 9 ≤ i → i ≤ 21 → A' i = A i) → frM o h h9 → xa_W G mm_M_make 4 0 0 140 [some (.ref o), some (.int p), some (.int fb), some (.int nm), some (.int (zb (cd_fold (sv_fs V) p ≠ 3))), some (.int (nI (sv_lt V + 1))), some (.int fl)] [] h9 z1 (mqp G h z1 o (sv_mk V p fl nm) A) := by
                  intro V' h9 K' A' hdo H9 V9 e9 a9 fr9
                  have hr2 : sv_mk V p fl nm = (0, -2, V') := by
                    rw [hr, hdo]
                    rfl
                  refine xw_bipush (-2) dd_M_make_140 (by decide) ?_
                  exact xw_iret dd_M_make_142 rfl ⟨by rw [hr2], rfl, ⟨K', A', H9, by rw [hr2]; exact V9, by rw [hr2]; exact e9, a9⟩, fr9⟩
                refine xw_istore dd_M_make_107 (by decide) ?_
                refine xw_aloadR_n dd_M_make_109 rfl ?_
                refine xw_iload dd_M_make_110 rfl ?_
                refine xw_cl0 (ct_M_opens H1 hV1 (by omega)) (iv_M_make_112 H1.1) ok_M_opens rfl rfl rfl ?_ (fun _ _ _ q => by cases q.1)
                rintro v h2 z2 ⟨hv, rfl, ⟨K2, A2, H2, V2, e2, a2⟩, fr2⟩
                cases hv
                have of1 := op_fs V (nI (sv_lt V + 1))
                by_cases ho : (sv_open V (nI (sv_lt V + 1))).1 = true
                · rw [if_pos ho]
                  have hroom := open_room (V := V) (f := nI (sv_lt V + 1)) hV.2.2.1.2.1 ho
                  refine xw_if_eq 140 dd_M_make_115 (by decide) (fun hc => absurd hc (by decide)) (fun hc => ?_)
                  refine xw_aloadR_n dd_M_make_118 rfl ?_
                  refine xw_iload dd_M_make_119 rfl ?_
                  refine xw_iload dd_M_make_121 rfl ?_
                  refine xw_iload_n dd_M_make_123 rfl ?_
                  refine xw_iload_n dd_M_make_124 rfl ?_
                  refine xw_iconst 0 dd_M_make_125 (by decide) ?_
                  refine xw_iconst 1 dd_M_make_126 (by decide) ?_
                  refine xw_cl0 (ct_M_noteChange H2 V2 (by omega) hroom) (iv_M_make_127 H2.1) ok_M_noteChange rfl rfl rfl ?_ (fun _ _ _ q => by cases q.1)
                  rintro v h3 z3 ⟨hv, rfl, ⟨K3, A3, H3, V3, e3, a3⟩, fr3⟩
                  cases hv
                  have nf := nt_fs (sv_open V (nI (sv_lt V + 1))).2 (nI (sv_lt V + 1), fl, p, nm, 0) 1
                  have hch : (sv_chg V (nI (sv_lt V + 1), fl, p, nm, 0) 1) = sv_note (sv_open V (nI (sv_lt V + 1))).2 (nI (sv_lt V + 1), fl, p, nm, 0) 1 := by
                    unfold sv_chg
                    exact if_pos ho
                  by_cases hn : (sv_note (sv_open V (nI (sv_lt V + 1))).2 (nI (sv_lt V + 1), fl, p, nm, 0) 1).1 = true
                  · rw [if_pos hn]
                    refine xw_if_eq 140 dd_M_make_130 (by decide) (fun hc => absurd hc (by decide)) (fun hc => ?_)
                    refine xw_aloadR_n dd_M_make_133 rfl ?_
                    refine xw_cl0 (ct_M_writes H3 V3) (iv_M_make_134 H3.1) ok_M_writes rfl rfl rfl ?_ (fun _ _ _ q => by cases q.1)
                    rintro v h4 z4 ⟨hv, rfl, ⟨K4, A4, H4, V4, e4, a4⟩, fr4⟩
                    cases hv
                    rw [← hch] at V4 hn ⊢
                    have hfs4 : sv_fs (sv_spend (sv_chg V (nI (sv_lt V + 1), fl, p, nm, 0) 1).2).2 = sv_fs V := by rw [(sp_len _).2.2, hch, nf.1, of1.1]
                    have hlt4 : sv_lt (sv_spend (sv_chg V (nI (sv_lt V + 1), fl, p, nm, 0) 1).2).2 = sv_lt V := by rw [sp_lt, ch_lt]
                    by_cases hsp : (sv_spend (sv_chg V (nI (sv_lt V + 1), fl, p, nm, 0) 1).2).1 = true
                    · have hdo : (sv_do V (nI (sv_lt V + 1), fl, p, nm, 0) 1) = (true, sv_setF (sv_spend (sv_chg V (nI (sv_lt V + 1), fl, p, nm, 0) 1).2).2 (sv_put (sv_fs (sv_spend (sv_chg V (nI (sv_lt V + 1), fl, p, nm, 0) 1).2).2) 20 (nI (sv_lt V + 1), fl, p, nm, 0))) := by
                        unfold sv_do
                        rw [if_pos hn, if_pos hsp]
                      have hr2 : sv_mk V p fl nm = (0, nI (sv_lt V + 1), sv_incL (sv_setF (sv_spend (sv_chg V (nI (sv_lt V + 1), fl, p, nm, 0) 1).2).2 (sv_fs V ++ [(nI (sv_lt V + 1), fl, p, nm, 0)]))) := by
                        rw [hr, hdo, hfs4, put_app hlt hl]
                        rfl
                      have kc : K4 1 = nI (sv_fs V).length := by
                        have := V4.1.1
                        rw [hfs4] at this
                        exact this
                      have ix : vp_in (nI (sv_fs V).length) 20 := vp_in_nI hl (by decide)
                      have F4 := V4.1
                      rw [hfs4] at F4
                      rw [if_pos hsp]
                      refine xw_if_ne 143 dd_M_make_137 (by decide) (fun hc => ?_) (fun hc => absurd hc (by decide))
                      refine xw_aloadR_n dd_M_make_143 rfl ?_
                      refine xw_iload dd_M_make_144 rfl ?_
                      refine xw_putA fl_M_132 fz_M_132 (by decide) dd_M_make_146 H4.1 rfl H.2.2 rfl rfl (fun h5 n5 f5 => ?_)
                      obtain ⟨H5, fr5⟩ := H4.setK (K' := upd K4 7 (nI (sv_lt V + 1))) n5 f5
                      have kc5 : upd K4 7 (nI (sv_lt V + 1)) 1 = nI (sv_fs V).length := kc
                      refine xw_aloadR_n dd_M_make_149 rfl ?_
                      refine xw_get fl_M_7 dd_M_make_150 H5.1 rfl ?_
                      refine xw_aloadR_n dd_M_make_153 rfl ?_
                      refine xw_get fl_M_84 dd_M_make_154 H5.1 rfl ?_
                      rw [kc5]
                      refine xw_iload dd_M_make_157 rfl ?_
                      refine xw_iastA dd_M_make_159 (show h5 (o + 1) = some (.inl (0, (20, .inl (A4 1)))) from H5.2.1 1 (by decide) (by decide)) ix (by have := H.2.2; omega) (fun h6 n6 f6 => ?_)
                      rw [nI_clamp (by omega)] at n6
                      obtain ⟨H6, fr6⟩ := H5.setA (i := 1) (f := upd (A4 1) (sv_fs V).length (nI (sv_lt V + 1))) (by decide) n6 f6
                      refine xw_aloadR_n dd_M_make_160 rfl ?_
                      refine xw_get fl_M_13 dd_M_make_161 H6.1 rfl ?_
                      refine xw_aloadR_n dd_M_make_164 rfl ?_
                      refine xw_get fl_M_84 dd_M_make_165 H6.1 rfl ?_
                      rw [kc5]
                      refine xw_iload dd_M_make_168 rfl ?_
                      refine xw_iastA dd_M_make_170 (show h6 (o + 2) = some (.inl (0, (20, .inl (A4 2)))) from H6.2.1 2 (by decide) (by decide)) ix (by have := H.2.2; omega) (fun h7 n7 f7 => ?_)
                      rw [nI_clamp (by omega)] at n7
                      obtain ⟨H7, fr7⟩ := H6.setA (i := 2) (f := upd (A4 2) (sv_fs V).length (fl)) (by decide) n7 f7
                      refine xw_aloadR_n dd_M_make_171 rfl ?_
                      refine xw_get fl_M_16 dd_M_make_172 H7.1 rfl ?_
                      refine xw_aloadR_n dd_M_make_175 rfl ?_
                      refine xw_get fl_M_84 dd_M_make_176 H7.1 rfl ?_
                      rw [kc5]
                      refine xw_iload_n dd_M_make_179 rfl ?_
                      refine xw_iastA dd_M_make_180 (show h7 (o + 3) = some (.inl (0, (20, .inl (A4 3)))) from H7.2.1 3 (by decide) (by decide)) ix (by have := H.2.2; omega) (fun h8 n8 f8 => ?_)
                      rw [nI_clamp (by omega)] at n8
                      obtain ⟨H8, fr8⟩ := H7.setA (i := 3) (f := upd (A4 3) (sv_fs V).length (p)) (by decide) n8 f8
                      refine xw_aloadR_n dd_M_make_181 rfl ?_
                      refine xw_get fl_M_19 dd_M_make_182 H8.1 rfl ?_
                      refine xw_aloadR_n dd_M_make_185 rfl ?_
                      refine xw_get fl_M_84 dd_M_make_186 H8.1 rfl ?_
                      rw [kc5]
                      refine xw_iload_n dd_M_make_189 rfl ?_
                      refine xw_iastA dd_M_make_190 (show h8 (o + 4) = some (.inl (0, (20, .inl (A4 4)))) from H8.2.1 4 (by decide) (by decide)) ix (by have := H.2.2; omega) (fun h9 n9 f9 => ?_)
                      rw [nI_clamp (by omega)] at n9
                      obtain ⟨H9, fr9⟩ := H8.setA (i := 4) (f := upd (A4 4) (sv_fs V).length (nm)) (by decide) n9 f9
                      refine xw_aloadR_n dd_M_make_191 rfl ?_
                      refine xw_get fl_M_22 dd_M_make_192 H9.1 rfl ?_
                      refine xw_aloadR_n dd_M_make_195 rfl ?_
                      refine xw_get fl_M_84 dd_M_make_196 H9.1 rfl ?_
                      rw [kc5]
                      refine xw_iconst 0 dd_M_make_199 (by decide) ?_
                      refine xw_iastA dd_M_make_200 (show h9 (o + 5) = some (.inl (0, (20, .inl (A4 5)))) from H9.2.1 5 (by decide) (by decide)) ix (by have := H.2.2; omega) (fun h10 n10 f10 => ?_)
                      rw [nI_clamp (by omega)] at n10
                      obtain ⟨H10, fr10⟩ := H9.setA (i := 5) (f := upd (A4 5) (sv_fs V).length (0)) (by decide) n10 f10
                      refine xw_aloadR_n dd_M_make_201 rfl ?_
                      refine xw_dup dd_M_make_202 rfl ?_
                      refine xw_get fl_M_84 dd_M_make_203 H10.1 rfl ?_
                      rw [kc5]
                      refine xw_iconst 1 dd_M_make_206 (by decide) ?_
                      refine xw_iadd dd_M_make_207 ?_
                      rw [nI_1]
                      refine xw_putA fl_M_84 fz_M_84 (by decide) dd_M_make_208 H10.1 rfl H.2.2 rfl rfl (fun h11 n11 f11 => ?_)
                      obtain ⟨H11, fr11⟩ := H10.setK (K' := upd (upd K4 7 (nI (sv_lt V + 1))) 1 (nI ((sv_fs V).length + 1))) n11 f11
                      refine xw_iload dd_M_make_211 rfl ?_
                      generalize (sv_spend (sv_chg V (nI (sv_lt V + 1), fl, p, nm, 0) 1).2).2 = V6 at V4 hfs4 hlt4 hr2
                      obtain ⟨fs6, lt6, hd6, rg6, gs6, on6, lf6⟩ := V6
                      have hlt4 : lt6 = sv_lt V := hlt4
                      obtain ⟨b1, b2, b3, b4, b5, b6⟩ := V4
                      refine xw_iret dd_M_make_213 rfl ⟨by rw [hr2], rfl, ⟨_, _, H11, ?_, ?_, fun j j1 j2 => ?_⟩, fr1.trans (fr2.trans (fr3.trans (fr4.trans (fr5.trans (fr6.trans (fr7.trans (fr8.trans (fr9.trans (fr10.trans fr11)))))))))⟩
                      · rw [hr2]
                        refine ⟨F4.app hl rfl (fun q q1 q2 j hj => ?_) pk_us pk_us pk_us pk_us pk_us, b2.cg rfl rfl, b3.cg rfl rfl rfl, ?_, b5, b6⟩
                        · rcases (show q = 1 ∨ q = 2 ∨ q = 3 ∨ q = 4 ∨ q = 5 by omega) with rfl | rfl | rfl | rfl | rfl
                          · exact pk_un hj
                          · exact pk_un hj
                          · exact pk_un hj
                          · exact pk_un hj
                          · exact pk_un hj
                        · show nI (sv_lt V + 1) = nI (lt6 + 1)
                          rw [hlt4]
                      · rw [hr2]
                        exact e4.trans (e3.trans e2)
                      · rw [uA_n _ _ (by omega), uA_n _ _ (by omega), uA_n _ _ (by omega), uA_n _ _ (by omega), uA_n _ _ (by omega)]
                        exact (a4 j j1 j2).trans ((a3 j j1 j2).trans (a2 j j1 j2))
                    · rw [if_neg hsp]
                      refine xw_if_ne 143 dd_M_make_137 (by decide) (fun hc => absurd rfl hc) (fun hc => ?_)
                      refine cut _ h4 K4 A4 ?_ H4 V4 (e4.trans (e3.trans e2)) (fun j j1 j2 => (a4 j j1 j2).trans ((a3 j j1 j2).trans (a2 j j1 j2))) (fr1.trans (fr2.trans (fr3.trans fr4)))
                      unfold sv_do
                      rw [if_pos hn, if_neg hsp]
                  · rw [if_neg hn]
                    refine xw_if_eq 140 dd_M_make_130 (by decide) (fun hc => ?_) (fun hc => absurd rfl hc)
                    refine cut _ h3 K3 A3 ?_ H3 V3 (e3.trans e2) (fun j j1 j2 => (a3 j j1 j2).trans (a2 j j1 j2)) (fr1.trans (fr2.trans fr3))
                    unfold sv_do
                    rw [hch, if_neg hn]
                · rw [if_neg ho]
                  refine xw_if_eq 140 dd_M_make_115 (by decide) (fun hc => ?_) (fun hc => absurd rfl hc)
                  refine cut _ h2 K2 A2 ?_ H2 V2 e2 a2 (fr1.trans fr2)
                  have hch : (sv_chg V (nI (sv_lt V + 1), fl, p, nm, 0) 1) = (false, (sv_open V (nI (sv_lt V + 1))).2) := by
                    unfold sv_chg
                    exact if_neg ho
                  unfold sv_do
                  rw [hch]
                  rfl
              · refine xw_if_eq 106 dd_M_make_99 (by decide) (fun hc => ?_) (fun hc => ?_)
                · refine xw_iconst 0 dd_M_make_106 (by decide) ?_
                  exact meet _ (by rw [hfl, if_pos hc])
                · refine xw_iconst 1 dd_M_make_102 (by decide) ?_
                  refine xw_goto 107 dd_M_make_103 (by decide) ?_
                  exact meet _ (by rw [hfl, if_neg hc])
            · have hr := sv_mk_thr (V := V) (p := p) (fl := fl) (nm := nm) rfl hk
              rw [if_neg hk]
              refine xw_if_eq 90 dd_M_make_85 (by decide) (fun hc => absurd hc (by decide)) (fun hc => ?_)
              refine xw_iconst 0 dd_M_make_88 (by decide) ?_
              exact xw_iret dd_M_make_89 rfl ⟨by rw [hr], rfl, ⟨_, A, H1, by rw [hr]; exact hV.thr, by rw [hr]; rfl, fun _ _ _ => rfl⟩, fr1⟩
          · by_cases hf0 : cd_fold (sv_fs V) p = 0
            · rw [if_pos hf0]
              refine xw_if_eq 77 dd_M_make_65 (by decide) (fun hc => absurd hc (by decide)) (fun hc => ?_)
              refine xw_aloadR_n dd_M_make_68 rfl ?_
              refine xw_iload_n dd_M_make_69 rfl ?_
              refine xw_iload_n dd_M_make_70 rfl ?_
              refine xw_cl0 (ct_M_named H v1) (iv_M_make_71 H.1) ok_M_named rfl rfl rfl ?_ (fun _ _ _ q => by cases q.1)
              rintro v h sz ⟨hv, rfl, rfl⟩
              cases hv
              cases hq : sv_nmd (sv_fs V) p nm with
              | none =>
                rw [hq] at meet
                refine xw_if_lt 81 dd_M_make_74 (by decide) (fun hc => ?_) (fun hc => absurd (by decide) hc)
                refine xw_iconst 0 dd_M_make_81 (by decide) ?_
                exact meet _ (congrArg Value.int (zb_0 (fun w => w.elim (fun w => w hf0) (fun w => w rfl))))
              | some e =>
                rw [hq] at meet
                have hp := hpos e (List.mem_of_find?_eq_some hq)
                refine xw_if_lt 81 dd_M_make_74 (by decide) (fun hc => absurd hc (Int32.not_lt.mpr (Int32.le_of_lt hp))) (fun hc => ?_)
                refine xw_iconst 1 dd_M_make_77 (by decide) ?_
                refine xw_goto 82 dd_M_make_78 (by decide) ?_
                exact meet _ (congrArg Value.int (zb_1 (Or.inr (fun w => by cases w))))
            · rw [if_neg hf0]
              refine xw_if_eq 77 dd_M_make_65 (by decide) (fun hc => ?_) (fun hc => absurd rfl hc)
              refine xw_iconst 1 dd_M_make_77 (by decide) ?_
              refine xw_goto 82 dd_M_make_78 (by decide) ?_
              exact meet _ (congrArg Value.int (zb_1 (Or.inl hf0)))
        · by_cases hq : cd_fold (sv_fs V) p = 3
          · rw [show zb (cd_fold (sv_fs V) p ≠ 3) = 0 from (zb_0 (fun w => w hq)).symm] at meet ⊢
            refine xw_if_ne 59 dd_M_make_52 (by decide) (fun hc => absurd rfl hc) (fun hc => ?_)
            refine xw_iconst 1 dd_M_make_55 (by decide) ?_
            refine xw_goto 60 dd_M_make_56 (by decide) ?_
            exact meet _ (congrArg Value.int (zb_1 (fun w => w hq)))
          · rw [show zb (cd_fold (sv_fs V) p ≠ 3) = 1 from (zb_1 hq).symm] at meet ⊢
            refine xw_if_ne 59 dd_M_make_52 (by decide) (fun hc => ?_) (fun hc => absurd hc (by decide))
            refine xw_iconst 0 dd_M_make_59 (by decide) ?_
            exact meet _ (congrArg Value.int (zb_0 (fun w => w hq)))
      · refine xw_if_ne 49 dd_M_make_42 (by decide) (fun hc => ?_) (fun hc => ?_)
        · refine xw_iconst 0 dd_M_make_49 (by decide) ?_
          exact meet _ (congrArg Value.int (zb_0 hc))
        · refine xw_iconst 1 dd_M_make_45 (by decide) ?_
          refine xw_goto 50 dd_M_make_46 (by decide) ?_
          exact meet _ (congrArg Value.int (zb_1 hc))
    · by_cases hon : sv_on V = true
      · rw [show zb (¬ sv_on V = true) = 0 from (zb_0 (fun w => w hon)).symm]
        refine xw_if_ne 36 dd_M_make_24 (by decide) (fun hc => absurd rfl hc) (fun hc => ?_)
        refine xw_aloadR_n dd_M_make_27 rfl ?_
        refine xw_get fl_M_84 dd_M_make_28 H.1 rfl ?_
        rw [k1]
        refine xw_bipush 20 dd_M_make_31 (by decide) ?_
        refine xw_icmp_ne 40 dd_M_make_33 (by decide) (fun hc => ?_) (fun hc => ?_)
        · refine xw_iconst 0 dd_M_make_40 (by decide) ?_
          refine meet _ (congrArg Value.int (zb_0 (fun w => w.elim (fun w => w hon) (fun w => hc ?_))))
          rw [w]
          rfl
        · refine xw_iconst 1 dd_M_make_36 (by decide) ?_
          refine xw_goto 41 dd_M_make_37 (by decide) ?_
          have hlen : (sv_fs V).length = 20 := (nI_eq (b := 20) (by omega) (by decide)).mp hc
          exact meet _ (congrArg Value.int (zb_1 (Or.inr hlen)))
      · rw [show zb (¬ sv_on V = true) = 1 from (zb_1 hon).symm]
        refine xw_if_ne 36 dd_M_make_24 (by decide) (fun hc => ?_) (fun hc => absurd hc (by decide))
        refine xw_iconst 1 dd_M_make_36 (by decide) ?_
        refine xw_goto 41 dd_M_make_37 (by decide) ?_
        exact meet _ (congrArg Value.int (zb_1 (Or.inl hon)))
  · refine xw_iload_n dd_M_make_0 rfl ?_
    refine xw_if_eq 12 dd_M_make_1 (by decide) (fun h0 => ?_) (fun h0 => ?_)
    · refine xw_iconst 1 dd_M_make_12 (by decide) ?_
      refine xw_goto 17 dd_M_make_13 (by decide) ?_
      refine meet _ (congrArg Value.int (zb_1 (fun w => ?_)))
      exact ((cd_fold_3 _ _).mp w).1 h0
    · refine xw_aloadR_n dd_M_make_4 rfl ?_
      refine xw_iload_n dd_M_make_5 rfl ?_
      refine xw_cl0 (ct_M_placeOf H v1) (iv_M_make_6 H.1) ok_M_placeOf rfl rfl rfl ?_ (fun _ _ _ q => by cases q.1)
      rintro v h sz ⟨hv, rfl, rfl⟩
      cases hv
      rcases fx (fun e : sv_E => decide (e.1 = p)) (sv_fs V) with ⟨w1, w2⟩ | ⟨i, e, he, w1, w2, w3, -⟩
      · have hix : sv_ix (fun e : sv_E => decide (e.1 = p)) (sv_fs V) = -1 := by
          unfold sv_ix
          rw [w2]
        rw [hix]
        refine xw_if_lt 16 dd_M_make_9 (by decide) (fun hc => ?_) (fun hc => absurd (by decide) hc)
        refine xw_iconst 0 dd_M_make_16 (by decide) ?_
        exact meet _ (congrArg Value.int (zb_0 (fun w => w ((cd_fold_3 _ _).mpr ⟨h0, w1⟩))))
      · have hi := (List.getElem?_eq_some_iff.mp he).1
        have hix : sv_ix (fun e : sv_E => decide (e.1 = p)) (sv_fs V) = nI i := by
          unfold sv_ix
          rw [w2]
        rw [hix]
        refine xw_if_lt 16 dd_M_make_9 (by decide) (fun hc => absurd hc (nI_pos (by omega))) (fun hc => ?_)
        refine xw_iconst 1 dd_M_make_12 (by decide) ?_
        refine xw_goto 17 dd_M_make_13 (by decide) ?_
        refine meet _ (congrArg Value.int (zb_1 (fun w => ?_)))
        have w1' : sv_find (sv_fs V) p = some e := w1
        have := ((cd_fold_3 _ _).mp w).2
        rw [w1'] at this
        cases this
end MZ
