/-! NotedVolumeModel: rename (by program: wip/whole/mk51.py) -/
theorem ga_some : ∀ (gs : List (Int32 × Int32)) (f r : Int32), (sv_gOf (sv_gather gs f r).2 f).isSome = true
  | [], f, r => by
    unfold sv_gather sv_gOf
    rw [List.find?_cons, decide_eq_true (show (f, r).1 = f from rfl)]
    rfl
  | g :: gs, f, r => by
    unfold sv_gather sv_gOf
    by_cases h : g.1 = f
    · rw [if_pos h, List.find?_cons, decide_eq_true (show (g.1, g.2 ||| r).1 = f from h)]
      rfl
    · rw [if_neg h, List.find?_cons, decide_eq_false h]
      exact ga_some gs f r
theorem nt_gof {V : sv_V} {e : sv_E} {r : Int32} (hn : (sv_note V e r).1 = true) : (sv_gOf (sv_gs (sv_note V e r).2) e.1).isSome = true := by
  unfold sv_note at hn ⊢
  by_cases hs : (sv_spend V).1 = true
  · rw [if_pos hs]
    show (sv_gOf (sv_gather (sv_gs (sv_spend V).2) e.1 r).2 e.1).isSome = true
    exact ga_some _ _ _
  · rw [if_neg hs] at hn
    cases hn
theorem cd_free_04 (fs : List sv_E) (p nm f : Int32) : cd_free fs p nm f = 0 ∨ cd_free fs p nm f = 4 := by
  unfold cd_free
  split
  · exact Or.inl rfl
  · split
    · exact Or.inl rfl
    · exact Or.inr rfl
theorem rnc_eq {V : sv_V} {f p nm : Int32} : rnc V f p nm = if (¬ sv_on V = true) then 1 else if (nm = 0) then 2 else if (¬ ((sv_find (sv_fs V) f).isSome = true ∧ cd_fold (sv_fs V) p ≠ 3)) then 3 else if (((sv_find (sv_fs V) f).isSome = true ∧ cd_fold (sv_fs V) p ≠ 3) ∧ (¬ cd_fold (sv_fs V) p = 0 ∨ sv_in (sv_fs V) f 21 p = true ∨ cd_free (sv_fs V) p nm f ≠ 0)) then 4 else 0 := by
  unfold rnc
  by_cases hon : sv_on V = true
  · rw [if_pos hon, if_neg (show ¬ (¬ sv_on V = true) from fun w => w hon)]
    by_cases hnm : nm = 0
    · rw [if_pos hnm, if_pos hnm]
    · rw [if_neg hnm, if_neg hnm]
      by_cases hf : (sv_find (sv_fs V) f).isSome = true
      · rw [if_pos hf]
        rcases cd_fold_034 (sv_fs V) p with q | q | q
        · have ht : ((sv_find (sv_fs V) f).isSome = true ∧ cd_fold (sv_fs V) p ≠ 3) := ⟨hf, by rw [q]; decide⟩
          rw [if_pos q, if_neg (show ¬ (¬ ((sv_find (sv_fs V) f).isSome = true ∧ cd_fold (sv_fs V) p ≠ 3)) from fun w => w ht)]
          by_cases hi : sv_in (sv_fs V) f 21 p = true
          · rw [if_pos hi, if_pos (show (((sv_find (sv_fs V) f).isSome = true ∧ cd_fold (sv_fs V) p ≠ 3) ∧ (¬ cd_fold (sv_fs V) p = 0 ∨ sv_in (sv_fs V) f 21 p = true ∨ cd_free (sv_fs V) p nm f ≠ 0)) from ⟨ht, Or.inr (Or.inl hi)⟩)]
          · rw [if_neg hi]
            rcases cd_free_04 (sv_fs V) p nm f with w | w
            · rw [if_neg (show ¬ (((sv_find (sv_fs V) f).isSome = true ∧ cd_fold (sv_fs V) p ≠ 3) ∧ (¬ cd_fold (sv_fs V) p = 0 ∨ sv_in (sv_fs V) f 21 p = true ∨ cd_free (sv_fs V) p nm f ≠ 0)) from fun u => u.2.elim (fun v => v q) (fun v => v.elim hi (fun v => v w))), w]
            · rw [if_pos (show (((sv_find (sv_fs V) f).isSome = true ∧ cd_fold (sv_fs V) p ≠ 3) ∧ (¬ cd_fold (sv_fs V) p = 0 ∨ sv_in (sv_fs V) f 21 p = true ∨ cd_free (sv_fs V) p nm f ≠ 0)) from ⟨ht, Or.inr (Or.inr (by rw [w]; decide))⟩), w]
        · rw [if_neg (show ¬ cd_fold (sv_fs V) p = 0 by rw [q]; decide), if_pos (show (¬ ((sv_find (sv_fs V) f).isSome = true ∧ cd_fold (sv_fs V) p ≠ 3)) from fun w => w.2 q), q]
        · have ht : ((sv_find (sv_fs V) f).isSome = true ∧ cd_fold (sv_fs V) p ≠ 3) := ⟨hf, by rw [q]; decide⟩
          rw [if_neg (show ¬ cd_fold (sv_fs V) p = 0 by rw [q]; decide), if_neg (show ¬ (¬ ((sv_find (sv_fs V) f).isSome = true ∧ cd_fold (sv_fs V) p ≠ 3)) from fun w => w ht), if_pos (show (((sv_find (sv_fs V) f).isSome = true ∧ cd_fold (sv_fs V) p ≠ 3) ∧ (¬ cd_fold (sv_fs V) p = 0 ∨ sv_in (sv_fs V) f 21 p = true ∨ cd_free (sv_fs V) p nm f ≠ 0)) from ⟨ht, Or.inl (by rw [q]; decide)⟩), q]
      · rw [if_neg hf, if_pos (show (¬ ((sv_find (sv_fs V) f).isSome = true ∧ cd_fold (sv_fs V) p ≠ 3)) from fun w => hf w.1)]
  · rw [if_neg hon, if_pos hon]
section MN
variable {G : xa_G} {h : xa_H} {sz o : Nat} {K : Nat → Int32} {A : Nat → Nat → Int32} {V : sv_V}
/-- a file has a new folder and a new name -/
theorem rF.moved {fs : List sv_E} {i : Nat} {e : sv_E} {p nm : Int32} (H : rF fs K A) (he : fs[i]? = some e) : rF (fs.set i (e.1, e.2.1, p, nm, e.2.2.2.2)) K (uA (uA A 3 (upd (A 3) i p)) 4 (upd (A 4) i nm)) := by
  have hi := (List.getElem?_eq_some_iff.mp he).1
  refine ⟨by rw [List.length_set]; exact H.1, by rw [List.length_set]; exact H.2.1, fun j q hq => ?_⟩
  show A 1 j = _ ∧ A 2 j = _ ∧ upd (A 3) i p j = _ ∧ upd (A 4) i nm j = _ ∧ A 5 j = _
  rw [List.getElem?_set] at hq
  by_cases ej : i = j
  · subst ej
    rw [if_pos rfl, if_pos hi] at hq
    cases hq
    have := H.2.2 i e he
    exact ⟨this.1, this.2.1, pk_us, pk_us, this.2.2.2.2⟩
  · rw [if_neg ej] at hq
    rw [pk_un (fun q => ej q.symm), pk_un (fun q => ej q.symm)]
    exact H.2.2 j q hq
theorem ct_M_rename {f p nm : Int32} (H : mo_at G h o K A) (hV : rV V K A) (hh : sv_hd V < 700000) (hsr : sv_srt (sv_fs V)) (hpos : ∀ e ∈ sv_fs V, 0 < e.1) (hcl : ∀ e ∈ sv_fs V, e.2.2.1 = 0 ∨ (sv_find (sv_fs V) e.2.2.1).isSome = true) : xa_T G mm_M_rename 4 0 0 [.ref o, .int f, .int p, .int nm] h sz (mqp G h sz o (sv_ren V f p nm) A) := by
  have v1 := hV.1
  obtain ⟨k1, k2, k3⟩ := id v1
  refine xt_o ok_M_rename rfl rfl ?_
  refine xw_aloadR_n dd_M_rename_0 rfl ?_
  refine xw_iload_n dd_M_rename_1 rfl ?_
  refine xw_cl0 (ct_M_placeOf H v1) (iv_M_rename_2 H.1) ok_M_placeOf rfl rfl rfl ?_ (fun _ _ _ q => by cases q.1)
  rintro v h sz ⟨hv, rfl, rfl⟩
  cases hv
  refine xw_istore dd_M_rename_5 (by decide) ?_
  refine xw_iload dd_M_rename_7 rfl ?_
  refine xw_dia (pj := 29) (stj := []) (Lj := [some (.ref o), some (.int f), some (.int p), some (.int nm), some (.int (sv_ix (fun e : sv_E => decide (e.1 = f)) (sv_fs V))), none, none, none, none]) (.int (zb ((sv_find (sv_fs V) f).isSome = true ∧ cd_fold (sv_fs V) p ≠ 3))) ?_ (fun meet => ?_)
  · -- there
    refine xw_istore dd_M_rename_29 (by decide) ?_
    refine xw_aloadR_n dd_M_rename_31 rfl ?_
    refine xw_iload_n dd_M_rename_32 rfl ?_
    refine xw_iload_n dd_M_rename_33 rfl ?_
    refine xw_cl0 (ct_M_named H v1) (iv_M_rename_34 H.1) ok_M_named rfl rfl rfl ?_ (fun _ _ _ q => by cases q.1)
    rintro v h sz ⟨hv, rfl, rfl⟩
    cases hv
    refine xw_istore dd_M_rename_37 (by decide) ?_
    refine xw_iload dd_M_rename_39 rfl ?_
    refine xw_dia (pj := 77) (stj := []) (Lj := [some (.ref o), some (.int f), some (.int p), some (.int nm), some (.int (sv_ix (fun e : sv_E => decide (e.1 = f)) (sv_fs V))), some (.int (zb ((sv_find (sv_fs V) f).isSome = true ∧ cd_fold (sv_fs V) p ≠ 3))), some (.int (match sv_nmd (sv_fs V) p nm with | none => -1 | some e => e.1)), none, none]) (.int (zb (((sv_find (sv_fs V) f).isSome = true ∧ cd_fold (sv_fs V) p ≠ 3) ∧ (¬ cd_fold (sv_fs V) p = 0 ∨ sv_in (sv_fs V) f 21 p = true ∨ cd_free (sv_fs V) p nm f ≠ 0)))) ?_ (fun meet => ?_)
    · -- bad
      refine xw_istore dd_M_rename_77 (by decide) ?_
      refine xw_aloadR_n dd_M_rename_79 rfl ?_
      refine xw_aloadR_n dd_M_rename_80 rfl ?_
      refine xw_get fl_M_91 dd_M_rename_81 H.1 rfl ?_
      rw [off_zb hV]
      refine xw_iload_n dd_M_rename_84 rfl ?_
      refine xw_dia (pj := 93) (stj := [.int (zb (¬ sv_on V = true)), .ref o]) (Lj := [some (.ref o), some (.int f), some (.int p), some (.int nm), some (.int (sv_ix (fun e : sv_E => decide (e.1 = f)) (sv_fs V))), some (.int (zb ((sv_find (sv_fs V) f).isSome = true ∧ cd_fold (sv_fs V) p ≠ 3))), some (.int (match sv_nmd (sv_fs V) p nm with | none => -1 | some e => e.1)), some (.int (zb (((sv_find (sv_fs V) f).isSome = true ∧ cd_fold (sv_fs V) p ≠ 3) ∧ (¬ cd_fold (sv_fs V) p = 0 ∨ sv_in (sv_fs V) f 21 p = true ∨ cd_free (sv_fs V) p nm f ≠ 0)))), none]) (.int (zb (nm = 0))) ?_ (fun meet => ?_)
      · -- no name
        refine xw_iload dd_M_rename_93 rfl ?_
        refine xw_dia (pj := 103) (stj := [.int (zb (nm = 0)), .int (zb (¬ sv_on V = true)), .ref o]) (Lj := [some (.ref o), some (.int f), some (.int p), some (.int nm), some (.int (sv_ix (fun e : sv_E => decide (e.1 = f)) (sv_fs V))), some (.int (zb ((sv_find (sv_fs V) f).isSome = true ∧ cd_fold (sv_fs V) p ≠ 3))), some (.int (match sv_nmd (sv_fs V) p nm with | none => -1 | some e => e.1)), some (.int (zb (((sv_find (sv_fs V) f).isSome = true ∧ cd_fold (sv_fs V) p ≠ 3) ∧ (¬ cd_fold (sv_fs V) p = 0 ∨ sv_in (sv_fs V) f 21 p = true ∨ cd_free (sv_fs V) p nm f ≠ 0)))), none]) (.int (zb (¬ ((sv_find (sv_fs V) f).isSome = true ∧ cd_fold (sv_fs V) p ≠ 3)))) ?_ (fun meet => ?_)
        · -- not there
          refine xw_iload dd_M_rename_103 rfl ?_
          refine xw_cl0 (ct_M_refused H) (iv_M_rename_105 H.1) ok_M_refused rfl rfl rfl ?_ (fun _ _ _ q => by cases q.1)
          rintro v h1 z1 ⟨hv, rfl, H1, fr1⟩
          cases hv
          rw [md_zb, ← rnc_eq] at H1 ⊢
          by_cases hk : rnc V f p nm = 0
          · have hth : ((sv_find (sv_fs V) f).isSome = true ∧ cd_fold (sv_fs V) p ≠ 3) := by
              have := rnc_eq (V := V) (f := f) (p := p) (nm := nm)
              rw [hk] at this
              by_cases q1 : (¬ sv_on V = true)
              · rw [if_pos q1] at this
                cases this
              · rw [if_neg q1] at this
                by_cases q2 : (nm = 0)
                · rw [if_pos q2] at this
                  cases this
                · rw [if_neg q2] at this
                  by_cases q3 : (¬ ((sv_find (sv_fs V) f).isSome = true ∧ cd_fold (sv_fs V) p ≠ 3))
                  · rw [if_pos q3] at this
                    cases this
                  · exact Decidable.not_not.mp q3
            rcases fx (fun e : sv_E => decide (e.1 = f)) (sv_fs V) with ⟨w1, w2⟩ | ⟨i, e, he, w1, w2, w3, w4⟩
            · have w1' : sv_find (sv_fs V) f = none := w1
              have := hth.1
              rw [w1'] at this
              cases this
            · have hi := (List.getElem?_eq_some_iff.mp he).1
              have hix : (sv_ix (fun e : sv_E => decide (e.1 = f)) (sv_fs V)) = nI i := by
                unfold sv_ix
                rw [w2]
              have hef : e.1 = f := by simpa using w3
              have hE : (f, e.2.1, e.2.2.1, e.2.2.2.1, e.2.2.2.2) = e := by rw [← hef]
              have w1' : sv_find (sv_fs V) f = some e := w1
              have ix : vp_in (nI i) 20 := vp_in_nI (show i < 20 by omega) (by decide)
              have hr : sv_ren V f p nm = (0, if (sv_rnm V e f p nm).1 = true then 1 else 0, (sv_rnm V e f p nm).2) := by
                unfold sv_ren
                rw [if_pos hk, w1']
              have hV1 : rV V (upd K 0 (nI 0)) A := hV.thr
              rw [hk] at H1 ⊢
              rw [hix]
              have cut : ∀ (pc : Nat) (L : List (Option Value)) (V' : sv_V) (h9 : xa_H) (K' : Nat → Int32) (A' : Nat → Nat → Int32), (pc = 135 ∨ pc = 237) → sv_rnm V e f p nm = (false, V') → mo_at G h9 o K' A' → rV V' K' A' → K' 0 = nI 0 → (∀ i, 9 ≤ i → i ≤ 21 → A' i = A i) → frM o h h9 → xa_W G mm_M_rename 4 0 0 pc L [] h9 z1 (mqp G h z1 o (sv_ren V f p nm) A) := by
                intro pc L V' h9 K' A' hpc hdo H9 V9 e9 a9 fr9
                have hr2 : sv_ren V f p nm = (0, 0, V') := by
                  rw [hr, hdo]
                  rfl
                rcases hpc with rfl | rfl
                · refine xw_iconst 0 dd_M_rename_135 (by decide) ?_
                  exact xw_zret dd_M_rename_136 rfl rfl ⟨by rw [hr2], rfl, ⟨K', A', H9, by rw [hr2]; exact V9, by rw [hr2]; exact e9, a9⟩, fr9⟩
                · refine xw_iconst 0 dd_M_rename_237 (by decide) ?_
                  exact xw_zret dd_M_rename_238 rfl rfl ⟨by rw [hr2], rfl, ⟨K', A', H9, by rw [hr2]; exact V9, by rw [hr2]; exact e9, a9⟩, fr9⟩
              have main : ¬ (p = e.2.2.1 ∧ nm = e.2.2.2.1) → xa_W G mm_M_rename 4 0 0 137 [some (.ref o), some (.int f), some (.int p), some (.int nm), some (.int (nI i)), some (.int (zb ((sv_find (sv_fs V) f).isSome = true ∧ cd_fold (sv_fs V) p ≠ 3))), some (.int (match sv_nmd (sv_fs V) p nm with | none => -1 | some e => e.1)), some (.int (zb (((sv_find (sv_fs V) f).isSome = true ∧ cd_fold (sv_fs V) p ≠ 3) ∧ (¬ cd_fold (sv_fs V) p = 0 ∨ sv_in (sv_fs V) f 21 p = true ∨ cd_free (sv_fs V) p nm f ≠ 0)))), none] [] h1 z1 (mqp G h z1 o (sv_ren V f p nm) A) := by
                intro hno
                have hrn : sv_rnm V e f p nm = if (sv_chg V e 4).1 = true then sv_do (sv_chg V e 4).2 (f, e.2.1, p, nm, e.2.2.2.2) (if p = e.2.2.1 then 8 else 24) else (false, (sv_chg V e 4).2) := by
                  unfold sv_rnm
                  rw [if_neg hno]
                refine xw_aloadR_n dd_M_rename_137 rfl ?_
                refine xw_get fl_M_16 dd_M_rename_138 H1.1 rfl ?_
                refine xw_iload dd_M_rename_141 rfl ?_
                refine xw_iald dd_M_rename_143 (H1.2.1 3 (by decide) (by decide)) ix ?_
                rw [nI_clamp (by omega), (k3 i e he).2.2.1]
                refine xw_iload_n dd_M_rename_144 rfl ?_
                refine xw_dia (pj := 154) (stj := []) (Lj := [some (.ref o), some (.int f), some (.int p), some (.int nm), some (.int (nI i)), some (.int (zb ((sv_find (sv_fs V) f).isSome = true ∧ cd_fold (sv_fs V) p ≠ 3))), some (.int (match sv_nmd (sv_fs V) p nm with | none => -1 | some e => e.1)), some (.int (zb (((sv_find (sv_fs V) f).isSome = true ∧ cd_fold (sv_fs V) p ≠ 3) ∧ (¬ cd_fold (sv_fs V) p = 0 ∨ sv_in (sv_fs V) f 21 p = true ∨ cd_free (sv_fs V) p nm f ≠ 0)))), none]) (.int (if p = e.2.2.1 then 0 else 16)) ?_ (fun meet => ?_)
                · -- moved
                  refine xw_istore dd_M_rename_154 (by decide) ?_
                  refine xw_aloadR_n dd_M_rename_156 rfl ?_
                  refine xw_iload_n dd_M_rename_157 rfl ?_
                  refine xw_cl0 (ct_M_opens H1 hV1 (by omega)) (iv_M_rename_158 H1.1) ok_M_opens rfl rfl rfl ?_ (fun _ _ _ q => by cases q.1)
                  rintro v h2 z2 ⟨hv, rfl, ⟨K2, A2, H2, V2, e2, a2⟩, fr2⟩
                  cases hv
                  have of1 := op_fs V f
                  by_cases ho : (sv_open V f).1 = true
                  · rw [if_pos ho]
                    have hroom := open_room (V := V) (f := f) hV.2.2.1.2.1 ho
                    have k3' := V2.1.2.2 i e (by rw [of1.1]; exact he)
                    refine xw_if_eq 237 dd_M_rename_161 (by decide) (fun hc => absurd hc (by decide)) (fun hc => ?_)
                    refine xw_aloadR_n dd_M_rename_164 rfl ?_
                    refine xw_iload_n dd_M_rename_165 rfl ?_
                    refine xw_aloadR_n dd_M_rename_166 rfl ?_
                    refine xw_get fl_M_13 dd_M_rename_167 H2.1 rfl ?_
                    refine xw_iload dd_M_rename_170 rfl ?_
                    refine xw_iald dd_M_rename_172 (H2.2.1 2 (by decide) (by decide)) ix ?_
                    rw [nI_clamp (by omega), k3'.2.1]
                    refine xw_aloadR_n dd_M_rename_173 rfl ?_
                    refine xw_get fl_M_16 dd_M_rename_174 H2.1 rfl ?_
                    refine xw_iload dd_M_rename_177 rfl ?_
                    refine xw_iald dd_M_rename_179 (H2.2.1 3 (by decide) (by decide)) ix ?_
                    rw [nI_clamp (by omega), k3'.2.2.1]
                    refine xw_aloadR_n dd_M_rename_180 rfl ?_
                    refine xw_get fl_M_19 dd_M_rename_181 H2.1 rfl ?_
                    refine xw_iload dd_M_rename_184 rfl ?_
                    refine xw_iald dd_M_rename_186 (H2.2.1 4 (by decide) (by decide)) ix ?_
                    rw [nI_clamp (by omega), k3'.2.2.2.1]
                    refine xw_aloadR_n dd_M_rename_187 rfl ?_
                    refine xw_get fl_M_22 dd_M_rename_188 H2.1 rfl ?_
                    refine xw_iload dd_M_rename_191 rfl ?_
                    refine xw_iald dd_M_rename_193 (H2.2.1 5 (by decide) (by decide)) ix ?_
                    rw [nI_clamp (by omega), k3'.2.2.2.2]
                    refine xw_iconst 4 dd_M_rename_194 (by decide) ?_
                    refine xw_cl0 (ct_M_noteChange H2 V2 (by omega) hroom) (iv_M_rename_195 H2.1) ok_M_noteChange rfl rfl rfl ?_ (fun _ _ _ q => by cases q.1)
                    rintro v h3 z3 ⟨hv, rfl, ⟨K3, A3, H3, V3, e3, a3⟩, fr3⟩
                    cases hv
                    rw [hE] at V3 ⊢
                    have nf := nt_fs (sv_open V f).2 e 4
                    have hch : sv_chg V e 4 = sv_note (sv_open V f).2 e 4 := by
                      unfold sv_chg
                      rw [hef]
                      exact if_pos ho
                    by_cases hn : (sv_note (sv_open V f).2 e 4).1 = true
                    · rw [if_pos hn]
                      rw [hch, if_pos hn] at hrn
                      have hgo := nt_gof hn
                      rw [hef] at hgo
                      have hfs3 : sv_fs (sv_note (sv_open V f).2 e 4).2 = sv_fs V := by rw [nf.1, of1.1]
                      have k4' := V3.1.2.2 i e (by rw [hfs3]; exact he)
                      generalize hW : (sv_note (sv_open V f).2 e 4).2 = W at V3 hrn hgo hfs3 nf
                      refine xw_if_eq 237 dd_M_rename_198 (by decide) (fun hc => absurd hc (by decide)) (fun hc => ?_)
                      refine xw_aloadR_n dd_M_rename_201 rfl ?_
                      refine xw_iload_n dd_M_rename_202 rfl ?_
                      refine xw_aloadR_n dd_M_rename_203 rfl ?_
                      refine xw_get fl_M_13 dd_M_rename_204 H3.1 rfl ?_
                      refine xw_iload dd_M_rename_207 rfl ?_
                      refine xw_iald dd_M_rename_209 (H3.2.1 2 (by decide) (by decide)) ix ?_
                      rw [nI_clamp (by omega), k4'.2.1]
                      refine xw_iload_n dd_M_rename_210 rfl ?_
                      refine xw_iload_n dd_M_rename_211 rfl ?_
                      refine xw_aloadR_n dd_M_rename_212 rfl ?_
                      refine xw_get fl_M_22 dd_M_rename_213 H3.1 rfl ?_
                      refine xw_iload dd_M_rename_216 rfl ?_
                      refine xw_iald dd_M_rename_218 (H3.2.1 5 (by decide) (by decide)) ix ?_
                      rw [nI_clamp (by omega), k4'.2.2.2.2]
                      refine xw_bipush 8 dd_M_rename_219 (by decide) ?_
                      refine xw_iload dd_M_rename_221 rfl ?_
                      refine xw_ior dd_M_rename_223 ?_
                      rw [show (8 : Int32) ||| (if p = e.2.2.1 then 0 else 16) = (if p = e.2.2.1 then 8 else 24) by split <;> decide]
                      refine xw_cl0 (ct_M_noteChange H3 V3 (by omega) (Or.inr hgo)) (iv_M_rename_224 H3.1) ok_M_noteChange rfl rfl rfl ?_ (fun _ _ _ q => by cases q.1)
                      rintro v h4 z4 ⟨hv, rfl, ⟨K4, A4, H4, V4, e4, a4⟩, fr4⟩
                      cases hv
                      have hop2 : sv_open W f = (true, W) := by
                        unfold sv_open
                        rw [if_pos (Or.inr hgo)]
                      have hch2 : sv_chg W (f, e.2.1, p, nm, e.2.2.2.2) (if p = e.2.2.1 then 8 else 24) = sv_note W (f, e.2.1, p, nm, e.2.2.2.2) (if p = e.2.2.1 then 8 else 24) := by
                        unfold sv_chg
                        show (if (sv_open W f).1 = true then sv_note (sv_open W f).2 (f, e.2.1, p, nm, e.2.2.2.2) (if p = e.2.2.1 then 8 else 24) else (false, (sv_open W f).2)) = _
                        rw [hop2]
                        rfl
                      have nf2 := nt_fs W (f, e.2.1, p, nm, e.2.2.2.2) (if p = e.2.2.1 then 8 else 24)
                      by_cases hn2 : (sv_note W (f, e.2.1, p, nm, e.2.2.2.2) (if p = e.2.2.1 then 8 else 24)).1 = true
                      · rw [if_pos hn2]
                        refine xw_if_eq 237 dd_M_rename_227 (by decide) (fun hc => absurd hc (by decide)) (fun hc => ?_)
                        refine xw_aloadR_n dd_M_rename_230 rfl ?_
                        refine xw_cl0 (ct_M_writes H4 V4) (iv_M_rename_231 H4.1) ok_M_writes rfl rfl rfl ?_ (fun _ _ _ q => by cases q.1)
                        rintro v h5 z5 ⟨hv, rfl, ⟨K5, A5, H5, V5, e5, a5⟩, fr5⟩
                        cases hv
                        have hfs5 : sv_fs (sv_spend (sv_note W (f, e.2.1, p, nm, e.2.2.2.2) (if p = e.2.2.1 then 8 else 24)).2).2 = sv_fs V := by rw [(sp_len _).2.2, nf2.1, hfs3]
                        by_cases hsp : (sv_spend (sv_note W (f, e.2.1, p, nm, e.2.2.2.2) (if p = e.2.2.1 then 8 else 24)).2).1 = true
                        · have hdo : sv_do W (f, e.2.1, p, nm, e.2.2.2.2) (if p = e.2.2.1 then 8 else 24) = (true, sv_setF (sv_spend (sv_note W (f, e.2.1, p, nm, e.2.2.2.2) (if p = e.2.2.1 then 8 else 24)).2).2 (sv_put (sv_fs (sv_spend (sv_note W (f, e.2.1, p, nm, e.2.2.2.2) (if p = e.2.2.1 then 8 else 24)).2).2) 20 (f, e.2.1, p, nm, e.2.2.2.2))) := by
                            unfold sv_do
                            rw [hch2, if_pos hn2, if_pos hsp]
                          rw [hdo, hfs5, put_set hsr he (show f = e.1 from hef.symm)] at hrn
                          have hr2 : sv_ren V f p nm = (0, 1, sv_setF (sv_spend (sv_note W (f, e.2.1, p, nm, e.2.2.2.2) (if p = e.2.2.1 then 8 else 24)).2).2 ((sv_fs V).set i (f, e.2.1, p, nm, e.2.2.2.2))) := by
                            rw [hr, hrn]
                            rfl
                          rw [if_pos hsp]
                          have F5 := V5.1
                          rw [hfs5] at F5
                          refine xw_if_ne 239 dd_M_rename_234 (by decide) (fun hc => ?_) (fun hc => absurd hc (by decide))
                          refine xw_aloadR_n dd_M_rename_239 rfl ?_
                          refine xw_get fl_M_16 dd_M_rename_240 H5.1 rfl ?_
                          refine xw_iload dd_M_rename_243 rfl ?_
                          refine xw_iload_n dd_M_rename_245 rfl ?_
                          refine xw_iastA dd_M_rename_246 (H5.2.1 3 (by decide) (by decide)) ix (by have := H.2.2; omega) (fun h6 n6 f6 => ?_)
                          rw [nI_clamp (by omega)] at n6
                          obtain ⟨H6, fr6⟩ := H5.setA (i := 3) (by decide) n6 f6
                          refine xw_aloadR_n dd_M_rename_247 rfl ?_
                          refine xw_get fl_M_19 dd_M_rename_248 H6.1 rfl ?_
                          refine xw_iload dd_M_rename_251 rfl ?_
                          refine xw_iload_n dd_M_rename_253 rfl ?_
                          refine xw_iastA dd_M_rename_254 (show h6 (o + 4) = some (.inl (0, (20, .inl (A5 4)))) from H6.2.1 4 (by decide) (by decide)) ix (by have := H.2.2; omega) (fun h7 n7 f7 => ?_)
                          rw [nI_clamp (by omega)] at n7
                          obtain ⟨H7, fr7⟩ := H6.setA (i := 4) (f := upd (A5 4) i nm) (by decide) n7 f7
                          refine xw_iconst 1 dd_M_rename_255 (by decide) ?_
                          generalize (sv_spend (sv_note W (f, e.2.1, p, nm, e.2.2.2.2) (if p = e.2.2.1 then 8 else 24)).2).2 = V6 at V5 hfs5 hr2
                          obtain ⟨fs6, lt6, hd6, rg6, gs6, on6, lf6⟩ := V6
                          obtain ⟨b1, b2, b3, b4, b5, b6⟩ := V5
                          have F7 := F5.moved (p := p) (nm := nm) he
                          rw [hef] at F7
                          exact xw_zret dd_M_rename_256 rfl rfl ⟨by rw [hr2], rfl, ⟨_, _, H7, by rw [hr2]; exact ⟨F7, b2.cg rfl rfl, b3.cg rfl rfl rfl, b4, b5, b6⟩, by rw [hr2]; exact e5.trans (e4.trans (e3.trans e2)), fun j j1 j2 => by rw [uA_n _ _ (by omega), uA_n _ _ (by omega)]; exact (a5 j j1 j2).trans ((a4 j j1 j2).trans ((a3 j j1 j2).trans (a2 j j1 j2)))⟩, fr1.trans (fr2.trans (fr3.trans (fr4.trans (fr5.trans (fr6.trans fr7)))))⟩
                        · rw [if_neg hsp]
                          refine xw_if_ne 239 dd_M_rename_234 (by decide) (fun hc => absurd rfl hc) (fun hc => ?_)
                          refine cut 237 _ _ h5 K5 A5 (Or.inr rfl) ?_ H5 V5 (e5.trans (e4.trans (e3.trans e2))) (fun j j1 j2 => (a5 j j1 j2).trans ((a4 j j1 j2).trans ((a3 j j1 j2).trans (a2 j j1 j2)))) (fr1.trans (fr2.trans (fr3.trans (fr4.trans fr5))))
                          rw [hrn]
                          unfold sv_do
                          rw [hch2, if_pos hn2, if_neg hsp]
                      · rw [if_neg hn2]
                        refine xw_if_eq 237 dd_M_rename_227 (by decide) (fun hc => ?_) (fun hc => absurd rfl hc)
                        refine cut 237 _ _ h4 K4 A4 (Or.inr rfl) ?_ H4 V4 (e4.trans (e3.trans e2)) (fun j j1 j2 => (a4 j j1 j2).trans ((a3 j j1 j2).trans (a2 j j1 j2))) (fr1.trans (fr2.trans (fr3.trans fr4)))
                        rw [hrn]
                        unfold sv_do
                        rw [hch2, if_neg hn2]
                    · rw [if_neg hn]
                      rw [hch, if_neg hn] at hrn
                      refine xw_if_eq 237 dd_M_rename_198 (by decide) (fun hc => ?_) (fun hc => absurd rfl hc)
                      exact cut 237 _ _ h3 K3 A3 (Or.inr rfl) hrn H3 V3 (e3.trans e2) (fun j j1 j2 => (a3 j j1 j2).trans (a2 j j1 j2)) (fr1.trans (fr2.trans fr3))
                  · rw [if_neg ho]
                    have hch : sv_chg V e 4 = (false, (sv_open V f).2) := by
                      unfold sv_chg
                      rw [hef]
                      exact if_neg ho
                    rw [hch] at hrn
                    refine xw_if_eq 237 dd_M_rename_161 (by decide) (fun hc => ?_) (fun hc => absurd rfl hc)
                    exact cut 237 _ _ h2 K2 A2 (Or.inr rfl) hrn H2 V2 e2 a2 (fr1.trans fr2)
                · refine xw_icmp_ne 152 dd_M_rename_145 (by decide) (fun hc => ?_) (fun hc => ?_)
                  · rw [if_neg (fun w : p = e.2.2.1 => hc w.symm)] at meet
                    refine xw_bipush 16 dd_M_rename_152 (by decide) ?_
                    exact meet _ rfl
                  · rw [if_pos hc.symm] at meet
                    refine xw_iconst 0 dd_M_rename_148 (by decide) ?_
                    refine xw_goto 154 dd_M_rename_149 (by decide) ?_
                    exact meet _ rfl
              refine xw_if_eq 113 dd_M_rename_108 (by decide) (fun hc => ?_) (fun hc => absurd rfl hc)
              refine xw_aloadR_n dd_M_rename_113 rfl ?_
              refine xw_get fl_M_16 dd_M_rename_114 H1.1 rfl ?_
              refine xw_iload dd_M_rename_117 rfl ?_
              refine xw_iald dd_M_rename_119 (H1.2.1 3 (by decide) (by decide)) ix ?_
              rw [nI_clamp (by omega), (k3 i e he).2.2.1]
              refine xw_iload_n dd_M_rename_120 rfl ?_
              refine xw_icmp_ne 137 dd_M_rename_121 (by decide) (fun hp => ?_) (fun hp => ?_)
              · exact main (fun w => hp w.1.symm)
              · refine xw_aloadR_n dd_M_rename_124 rfl ?_
                refine xw_get fl_M_19 dd_M_rename_125 H1.1 rfl ?_
                refine xw_iload dd_M_rename_128 rfl ?_
                refine xw_iald dd_M_rename_130 (H1.2.1 4 (by decide) (by decide)) ix ?_
                rw [nI_clamp (by omega), (k3 i e he).2.2.2.1]
                refine xw_iload_n dd_M_rename_131 rfl ?_
                refine xw_icmp_ne 137 dd_M_rename_132 (by decide) (fun hq => ?_) (fun hq => ?_)
                · exact main (fun w => hq w.2.symm)
                · refine cut 135 _ V h1 _ A (Or.inl rfl) ?_ H1 hV1 rfl (fun _ _ _ => rfl) fr1
                  unfold sv_rnm
                  rw [if_pos ⟨hp.symm, hq.symm⟩]
          · have hr := sv_ren_thr (V := V) (f := f) (p := p) (nm := nm) rfl hk
            rw [if_neg hk]
            refine xw_if_eq 113 dd_M_rename_108 (by decide) (fun hc => absurd hc (by decide)) (fun hc => ?_)
            refine xw_iconst 0 dd_M_rename_111 (by decide) ?_
            exact xw_zret dd_M_rename_112 rfl rfl ⟨by rw [hr], rfl, ⟨_, A, H1, by rw [hr]; exact hV.thr, by rw [hr]; rfl, fun _ _ _ => rfl⟩, fr1⟩
        · by_cases hq : ((sv_find (sv_fs V) f).isSome = true ∧ cd_fold (sv_fs V) p ≠ 3)
          · rw [show zb ((sv_find (sv_fs V) f).isSome = true ∧ cd_fold (sv_fs V) p ≠ 3) = 1 from (zb_1 hq).symm] at meet ⊢
            refine xw_if_ne 102 dd_M_rename_95 (by decide) (fun hc => ?_) (fun hc => absurd hc (by decide))
            refine xw_iconst 0 dd_M_rename_102 (by decide) ?_
            exact meet _ (congrArg Value.int (zb_0 (fun w => w hq)))
          · rw [show zb ((sv_find (sv_fs V) f).isSome = true ∧ cd_fold (sv_fs V) p ≠ 3) = 0 from (zb_0 hq).symm] at meet ⊢
            refine xw_if_ne 102 dd_M_rename_95 (by decide) (fun hc => absurd rfl hc) (fun hc => ?_)
            refine xw_iconst 1 dd_M_rename_98 (by decide) ?_
            refine xw_goto 103 dd_M_rename_99 (by decide) ?_
            exact meet _ (congrArg Value.int (zb_1 hq))
      · refine xw_if_ne 92 dd_M_rename_85 (by decide) (fun hc => ?_) (fun hc => ?_)
        · refine xw_iconst 0 dd_M_rename_92 (by decide) ?_
          exact meet _ (congrArg Value.int (zb_0 hc))
        · refine xw_iconst 1 dd_M_rename_88 (by decide) ?_
          refine xw_goto 93 dd_M_rename_89 (by decide) ?_
          exact meet _ (congrArg Value.int (zb_1 hc))
    · by_cases hq : ((sv_find (sv_fs V) f).isSome = true ∧ cd_fold (sv_fs V) p ≠ 3)
      · rw [show zb ((sv_find (sv_fs V) f).isSome = true ∧ cd_fold (sv_fs V) p ≠ 3) = 1 from (zb_1 hq).symm] at meet ⊢
        refine xw_if_eq 76 dd_M_rename_41 (by decide) (fun hc => absurd hc (by decide)) (fun hc => ?_)
        refine xw_aloadR_n dd_M_rename_44 rfl ?_
        refine xw_iload_n dd_M_rename_45 rfl ?_
        refine xw_cl0 (ct_M_isFolder H v1) (iv_M_rename_46 H.1) ok_M_isFolder rfl rfl rfl ?_ (fun _ _ _ q => by cases q.1)
        rintro v h sz ⟨hv, rfl, rfl⟩
        cases hv
        by_cases hf0 : cd_fold (sv_fs V) p = 0
        · rw [if_pos hf0]
          refine xw_if_eq 72 dd_M_rename_49 (by decide) (fun hc => absurd hc (by decide)) (fun hc => ?_)
          refine xw_aloadR_n dd_M_rename_52 rfl ?_
          refine xw_iload_n dd_M_rename_53 rfl ?_
          refine xw_iload_n dd_M_rename_54 rfl ?_
          have hpa : p = 0 ∨ (sv_find (sv_fs V) p).isSome = true := by
            by_cases w : p = 0
            · exact Or.inl w
            · refine Or.inr ?_
              cases u : sv_find (sv_fs V) p with
              | none => exact absurd ((cd_fold_3 _ _).mpr ⟨w, u⟩) hq.2
              | some _ => rfl
          refine xw_cl0 (ct_M_isIn H v1 hpos hcl hpa) (iv_M_rename_55 H.1) ok_M_isIn rfl rfl rfl ?_ (fun _ _ _ q => by cases q.1)
          rintro v h sz ⟨hv, rfl, rfl⟩
          cases hv
          by_cases hin : sv_in (sv_fs V) f 21 p = true
          · rw [if_pos hin]
            refine xw_if_ne 72 dd_M_rename_58 (by decide) (fun hc => ?_) (fun hc => absurd hc (by decide))
            refine xw_iconst 1 dd_M_rename_72 (by decide) ?_
            refine xw_goto 77 dd_M_rename_73 (by decide) ?_
            exact meet _ (congrArg Value.int (zb_1 ⟨hq, Or.inr (Or.inl hin)⟩))
          · rw [if_neg hin]
            refine xw_if_ne 72 dd_M_rename_58 (by decide) (fun hc => absurd rfl hc) (fun hc => ?_)
            refine xw_iload dd_M_rename_61 rfl ?_
            cases hqn : sv_nmd (sv_fs V) p nm with
            | none =>
              rw [hqn] at meet
              have hc0 : cd_free (sv_fs V) p nm f = 0 := by
                unfold cd_free
                rw [hqn]
              refine xw_if_lt 76 dd_M_rename_63 (by decide) (fun hc => ?_) (fun hc => absurd (by decide) hc)
              refine xw_iconst 0 dd_M_rename_76 (by decide) ?_
              exact meet _ (congrArg Value.int (zb_0 (fun w => w.2.elim (fun w => w hf0) (fun w => w.elim hin (fun w => w hc0)))))
            | some e =>
              rw [hqn] at meet
              have hc0 : cd_free (sv_fs V) p nm f = if e.1 = f then 0 else 4 := by
                unfold cd_free
                rw [hqn]
              have hp := hpos e (List.mem_of_find?_eq_some hqn)
              refine xw_if_lt 76 dd_M_rename_63 (by decide) (fun hc => absurd hc (Int32.not_lt.mpr (Int32.le_of_lt hp))) (fun hc => ?_)
              refine xw_iload dd_M_rename_66 rfl ?_
              refine xw_iload_n dd_M_rename_68 rfl ?_
              refine xw_icmp_eq 76 dd_M_rename_69 (by decide) (fun he => ?_) (fun he => ?_)
              · refine xw_iconst 0 dd_M_rename_76 (by decide) ?_
                rw [if_pos he] at hc0
                exact meet _ (congrArg Value.int (zb_0 (fun w => w.2.elim (fun w => w hf0) (fun w => w.elim hin (fun w => w hc0)))))
              · refine xw_iconst 1 dd_M_rename_72 (by decide) ?_
                refine xw_goto 77 dd_M_rename_73 (by decide) ?_
                rw [if_neg he] at hc0
                exact meet _ (congrArg Value.int (zb_1 ⟨hq, Or.inr (Or.inr (by rw [hc0]; decide))⟩))
        · rw [if_neg hf0]
          refine xw_if_eq 72 dd_M_rename_49 (by decide) (fun hc => ?_) (fun hc => absurd rfl hc)
          refine xw_iconst 1 dd_M_rename_72 (by decide) ?_
          refine xw_goto 77 dd_M_rename_73 (by decide) ?_
          exact meet _ (congrArg Value.int (zb_1 ⟨hq, Or.inl hf0⟩))
      · rw [show zb ((sv_find (sv_fs V) f).isSome = true ∧ cd_fold (sv_fs V) p ≠ 3) = 0 from (zb_0 hq).symm] at meet ⊢
        refine xw_if_eq 76 dd_M_rename_41 (by decide) (fun hc => ?_) (fun hc => absurd rfl hc)
        refine xw_iconst 0 dd_M_rename_76 (by decide) ?_
        exact meet _ (congrArg Value.int (zb_0 (fun w => hq w.1)))
  · rcases fx (fun e : sv_E => decide (e.1 = f)) (sv_fs V) with ⟨w1, w2⟩ | ⟨i, e, he, w1, w2, w3, -⟩
    · have hix : (sv_ix (fun e : sv_E => decide (e.1 = f)) (sv_fs V)) = -1 := by
        unfold sv_ix
        rw [w2]
      have w1' : sv_find (sv_fs V) f = none := w1
      rw [hix] at meet ⊢
      refine xw_if_lt 28 dd_M_rename_9 (by decide) (fun hc => ?_) (fun hc => absurd (by decide) hc)
      refine xw_iconst 0 dd_M_rename_28 (by decide) ?_
      refine meet _ (congrArg Value.int (zb_0 (fun w => ?_)))
      have := w.1
      rw [w1'] at this
      cases this
    · have hi := (List.getElem?_eq_some_iff.mp he).1
      have hix : (sv_ix (fun e : sv_E => decide (e.1 = f)) (sv_fs V)) = nI i := by
        unfold sv_ix
        rw [w2]
      have w1' : sv_find (sv_fs V) f = some e := w1
      rw [hix] at meet ⊢
      refine xw_if_lt 28 dd_M_rename_9 (by decide) (fun hc => absurd hc (nI_pos (by omega))) (fun hc => ?_)
      refine xw_iload_n dd_M_rename_12 rfl ?_
      refine xw_if_eq 24 dd_M_rename_13 (by decide) (fun h0 => ?_) (fun h0 => ?_)
      · refine xw_iconst 1 dd_M_rename_24 (by decide) ?_
        refine xw_goto 29 dd_M_rename_25 (by decide) ?_
        refine meet _ (congrArg Value.int (zb_1 ⟨by rw [w1']; rfl, fun w => ?_⟩))
        exact ((cd_fold_3 _ _).mp w).1 h0
      · refine xw_aloadR_n dd_M_rename_16 rfl ?_
        refine xw_iload_n dd_M_rename_17 rfl ?_
        refine xw_cl0 (ct_M_placeOf H v1) (iv_M_rename_18 H.1) ok_M_placeOf rfl rfl rfl ?_ (fun _ _ _ q => by cases q.1)
        rintro v h sz ⟨hv, rfl, rfl⟩
        cases hv
        rcases fx (fun e : sv_E => decide (e.1 = p)) (sv_fs V) with ⟨u1, u2⟩ | ⟨i2, e2, he2, u1, u2, u3, -⟩
        · have hix2 : sv_ix (fun e : sv_E => decide (e.1 = p)) (sv_fs V) = -1 := by
            unfold sv_ix
            rw [u2]
          rw [hix2]
          refine xw_if_lt 28 dd_M_rename_21 (by decide) (fun hc => ?_) (fun hc => absurd (by decide) hc)
          refine xw_iconst 0 dd_M_rename_28 (by decide) ?_
          exact meet _ (congrArg Value.int (zb_0 (fun w => w.2 ((cd_fold_3 _ _).mpr ⟨h0, u1⟩))))
        · have hi2 := (List.getElem?_eq_some_iff.mp he2).1
          have hix2 : sv_ix (fun e : sv_E => decide (e.1 = p)) (sv_fs V) = nI i2 := by
            unfold sv_ix
            rw [u2]
          rw [hix2]
          refine xw_if_lt 28 dd_M_rename_21 (by decide) (fun hc => absurd hc (nI_pos (by omega))) (fun hc => ?_)
          refine xw_iconst 1 dd_M_rename_24 (by decide) ?_
          refine xw_goto 29 dd_M_rename_25 (by decide) ?_
          refine meet _ (congrArg Value.int (zb_1 ⟨by rw [w1']; rfl, fun w => ?_⟩))
          have u1' : sv_find (sv_fs V) p = some e2 := u1
          have := ((cd_fold_3 _ _).mp w).2
          rw [u1'] at this
          cases this
end MN
