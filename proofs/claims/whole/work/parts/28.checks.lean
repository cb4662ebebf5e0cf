/-! NotedVolume: checks (by program: wip/whole/mk28.py) -/
/-- an answer, the heap as it was; or, where the code isn't 0, an exception of the class that it tells -/
def xq_code (h : xa_H) (sz c : Nat) (cs : Nat → Nat) (v : Option Value) : Outcome → xa_H → Nat → Prop := fun o h' z => (c = 0 ∧ o = .returned v ∧ h' = h ∧ z = sz) ∨ (c ≠ 0 ∧ o = .threw sz ∧ h' = xa_up h sz (.inr (cs c, [])) ∧ z = sz + 1)
theorem xw_chk {G : xa_G} {M M' : xa_M} {dp dp' kc ks kc' ks' pc c : Nat} {cs : Nat → Nat} {v : Option Value} {L : List (Option Value)} {stk as rest : List Value} {h : xa_H} {sz : Nat} {Q : Outcome → xa_H → Nat → Prop} (hT : xa_T G M' dp' kc' ks' as h sz (xq_code h sz c cs v)) (hI : xa_inv G M M' pc stk as rest h) (hO : xa_O M') (hdp : Nat.ble (dp' + 1) dp = true) (hml : Nat.ble M'.2.2.1 100 = true) (hst : Nat.ble ((rest.map fun v => v.category).sum) 8 = true) (ho : xa_out M pc)
    (hret : c = 0 → xa_W G M dp kc ks (pc + 3) L (v.toList ++ rest) h sz Q) (hthr : c ≠ 0 → Q (.threw sz) (xa_up h sz (.inr (cs c, []))) (sz + 1)) : xa_W G M dp (kc + kc') (ks + ks') pc L stk h sz Q := by
  refine xw_cl hT hI hO hdp hml hst ?_ ?_
  · rintro v' h' z (⟨c0, hv, rfl, rfl⟩ | ⟨c0, hv, -, -⟩)
    · cases hv
      exact hret c0
    · cases hv
  · rintro a h' z (⟨c0, hv, -, -⟩ | ⟨c0, hv, rfl, rfl⟩)
    · cases hv
    · cases hv
      exact xx_out ho (hthr c0)
/-- a call on the volume ends: a value, or an exception of the class that the code tells -/
def vqc (G : xa_G) (h : xa_H) (x c : Nat) (cs : Nat → Nat) (v : Option Value) (V : sv_V) (S : Nat → sv_S) : Outcome → xa_H → Nat → Prop := fun o h' _ => vs G h' x V S ∧ frV x h h' ∧ if c = 0 then o = .returned v else ∃ a, o = .threw a ∧ h' a = some (.inr (cs c, []))
theorem vqc.thr {G : xa_G} {h h1 : xa_H} {x c sz ci z : Nat} {cs : Nat → Nat} {v : Option Value} {V : sv_V} {S : Nat → sv_S} (H : vs G h1 x V S) (hf : frV x h h1) (hd : xd_h h1 sz) (hc : c ≠ 0) (hci : cs c = ci) : vqc G h x c cs v V S (.threw sz) (xa_up h1 sz (.inr (ci, []))) z := by
  obtain ⟨ar, cp, H⟩ := H
  refine ⟨⟨ar, cp, H.new hd⟩, hf.trans (frV_new hd), ?_⟩
  rw [if_neg hc, hci]
  exact ⟨sz, rfl, xa_up_eq ..⟩
theorem vqc.ret {G : xa_G} {h h1 : xa_H} {x c z : Nat} {cs : Nat → Nat} {v : Option Value} {V : sv_V} {S : Nat → sv_S} (H : vs G h1 x V S) (hf : frV x h h1) (hc : c = 0) : vqc G h x c cs v V S (.returned v) h1 z := by
  refine ⟨H, hf, ?_⟩
  rw [if_pos hc]
def cd_pow (V : sv_V) : Nat := if sv_on V = true then 0 else 1
def cd_name (nm : Int32) : Nat := if nm = 0 then 2 else 0
def cd_item (w n : Int32) (k : Nat) : Nat := if w < 0 ∨ n ≤ w then k else 0
def cd_fold (fs : List sv_E) (p : Int32) : Nat := if p = 0 then 0 else match sv_find fs p with
  | none => 3
  | some e => if e.2.1 = 1 then 0 else 4
def sv_nmd (fs : List sv_E) (p nm : Int32) : Option sv_E := fs.find? (fun e => decide (e.2.2.1 = p ∧ e.2.2.2.1 = nm))
def cd_free (fs : List sv_E) (p nm f : Int32) : Nat := match sv_nmd fs p nm with
  | none => 0
  | some e => if e.1 = f then 0 else 4
abbrev cs4 : Nat → Nat := fun c => 9 + c
section VK
variable {G : xa_G} {h : xa_H} {sz x : Nat} {V : sv_V} {S : Nat → sv_S}
theorem ct_V_checkPower (H : vs G h x V S) : xa_T G mm_V_checkPower 8 1 6 [.ref x] h sz (xq_code h sz (cd_pow V) cs4 none) := by
  have h1 := H.cell
  refine xt_o ok_V_checkPower rfl rfl ?_
  refine xw_aloadR_n dd_V_checkPower_0 rfl ?_
  refine xw_get fl_V_43 dd_V_checkPower_1 h1 rfl ?_
  unfold cd_pow
  by_cases hc : sv_on V = true
  · rw [if_pos hc, if_pos hc]
    refine xw_if_ne 17 dd_V_checkPower_4 (by decide) (fun hq => ?_) (fun hq => absurd hq (by decide))
    exact xw_vret dd_V_checkPower_17 rfl (Or.inl ⟨rfl, rfl, rfl, rfl⟩)
  · rw [if_neg hc, if_neg hc]
    refine xw_if_ne 17 dd_V_checkPower_4 (by decide) (fun hq => absurd rfl hq) (fun hq => ?_)
    exact xw_throw (tx := "power is off") ex_10 dd_V_checkPower_7 dd_V_checkPower_10 dd_V_checkPower_11 dd_V_checkPower_13 dd_V_checkPower_16 (by decide) (by decide) (by decide) rfl (Or.inr ⟨by decide, rfl, rfl, rfl⟩)
theorem ct_V_checkName {nm : Int32} : xa_T G mm_V_checkName 8 1 6 [.int nm] h sz (xq_code h sz (cd_name nm) cs4 none) := by
  refine xt_o ok_V_checkName rfl rfl ?_
  refine xw_iload_n dd_V_checkName_0 rfl ?_
  unfold cd_name
  by_cases hc : nm = 0
  · rw [if_pos hc]
    refine xw_if_ne 14 dd_V_checkName_1 (by decide) (fun hq => absurd hc hq) (fun hq => ?_)
    exact xw_throw (tx := "0 is no name") ex_11 dd_V_checkName_4 dd_V_checkName_7 dd_V_checkName_8 dd_V_checkName_10 dd_V_checkName_13 (by decide) (by decide) (by decide) rfl (Or.inr ⟨by decide, rfl, rfl, rfl⟩)
  · rw [if_neg hc]
    refine xw_if_ne 14 dd_V_checkName_1 (by decide) (fun hq => ?_) (fun hq => absurd hq hc)
    exact xw_vret dd_V_checkName_14 rfl (Or.inl ⟨rfl, rfl, rfl, rfl⟩)
theorem ct_V_checkItem {w n : Int32} {k : Nat} (hk : k ≠ 0) {cs : Nat → Nat} (hcs : cs k = 14) : xa_T G mm_V_checkItem 8 1 6 [.int w, .int n] h sz (xq_code h sz (cd_item w n k) cs none) := by
  have bad : (w < 0 ∨ n ≤ w) → xa_W G mm_V_checkItem 8 1 6 9 [some (.int w), some (.int n)] [] h sz (xq_code h sz (cd_item w n k) cs none) := by
    intro hb
    have hc : cd_item w n k = k := by
      unfold cd_item
      rw [if_pos hb]
    rw [hc]
    exact xw_throw (tx := "there is no such what") ex_14 dd_V_checkItem_9 dd_V_checkItem_12 dd_V_checkItem_13 dd_V_checkItem_15 dd_V_checkItem_18 (by decide) (by decide) (by decide) rfl (Or.inr ⟨hk, rfl, by rw [hcs], rfl⟩)
  refine xt_o ok_V_checkItem rfl rfl ?_
  refine xw_iload_n dd_V_checkItem_0 rfl ?_
  refine xw_if_lt 9 dd_V_checkItem_1 (by decide) (fun hq => bad (Or.inl hq)) (fun hq => ?_)
  refine xw_iload_n dd_V_checkItem_4 rfl ?_
  refine xw_iload_n dd_V_checkItem_5 rfl ?_
  refine xw_icmp_lt 19 dd_V_checkItem_6 (by decide) (fun hq2 => ?_) (fun hq2 => bad (Or.inr (Int32.not_lt.mp hq2)))
  refine xw_vret dd_V_checkItem_19 rfl (Or.inl ⟨?_, rfl, rfl, rfl⟩)
  unfold cd_item
  rw [if_neg]
  rintro (q | q)
  · exact hq q
  · exact Int32.not_lt.mpr q hq2
/-- a file's entry, or the exception -/
def xq_live (h : xa_H) (sz : Nat) (fs : List sv_E) (f : Int32) : Outcome → xa_H → Nat → Prop := fun o h' z => (∃ e y, sv_find fs f = some e ∧ o = .returned (some (.ref y)) ∧ h y = some (en_c e) ∧ h' = h ∧ z = sz) ∨ (sv_find fs f = none ∧ o = .threw sz ∧ h' = xa_up h sz (.inr (12, [])) ∧ z = sz + 1)
theorem ct_V_liveEntry {f : Int32} (H : vs G h x V S) : xa_T G mm_V_liveEntry 8 1 6 [.ref x, .int f] h sz (xq_live h sz (sv_fs V) f) := by
  obtain ⟨ar, cp, h1, ⟨xs, h2⟩, -⟩ := H
  refine xt_o ok_V_liveEntry rfl rfl ?_
  refine xw_aloadR_n dd_V_liveEntry_0 rfl ?_
  refine xw_get fl_V_14 dd_V_liveEntry_1 h1 rfl ?_
  refine xw_iload_n dd_V_liveEntry_4 rfl ?_
  refine xw_cl0 (ct_F_entryOf h2) (iv_V_liveEntry_5 h2.1) ok_F_entryOf rfl rfl rfl ?_ (fun _ _ _ q => by cases q.2.2.choose_spec.1)
  rintro v h sz ⟨rfl, rfl, r, hv, hr⟩
  cases hv
  rcases hr with ⟨w1, rfl⟩ | ⟨e, y, w1, rfl, w3⟩
  · refine xw_astore_n (r := none) dd_V_liveEntry_8 (by decide) ?_
    refine xw_aload_n (r := none) dd_V_liveEntry_9 rfl ?_
    refine xw_ifnonnullN dd_V_liveEntry_10 ?_
    exact xw_throw (tx := "the file does not live") ex_12 dd_V_liveEntry_13 dd_V_liveEntry_16 dd_V_liveEntry_17 dd_V_liveEntry_19 dd_V_liveEntry_22 (by decide) (by decide) (by decide) rfl (Or.inr ⟨w1, rfl, rfl, rfl⟩)
  · refine xw_astore_n (r := some y) dd_V_liveEntry_8 (by decide) ?_
    refine xw_aloadR_n dd_V_liveEntry_9 rfl ?_
    refine xw_ifnonnullR 23 dd_V_liveEntry_10 (by decide) ?_
    refine xw_aloadR_n dd_V_liveEntry_23 rfl ?_
    exact xw_aretR dd_V_liveEntry_24 rfl (Or.inl ⟨_, rfl⟩) (Or.inl ⟨e, y, w1, rfl, w3, rfl, rfl⟩)
theorem xw_live {M : xa_M} {dp kc ks pc : Nat} {L : List (Option Value)} {stk as rest : List Value} {Q : Outcome → xa_H → Nat → Prop} {f : Int32} {fs : List sv_E} (hT : xa_T G mm_V_liveEntry 8 1 6 as h sz (xq_live h sz fs f)) (hI : xa_inv G M mm_V_liveEntry pc stk as rest h) (hdp : Nat.ble 9 dp = true) (hst : Nat.ble ((rest.map fun v => v.category).sum) 8 = true) (ho : xa_out M pc)
    (hret : ∀ e y, sv_find fs f = some e → h y = some (en_c e) → xa_W G M dp kc ks (pc + 3) L (.ref y :: rest) h sz Q) (hthr : sv_find fs f = none → Q (.threw sz) (xa_up h sz (.inr (12, []))) (sz + 1)) : xa_W G M dp (kc + 1) (ks + 6) pc L stk h sz Q := by
  refine xw_cl hT hI ok_V_liveEntry hdp rfl hst ?_ ?_
  · rintro v' h' z (⟨e, y, c0, hv, c1, rfl, rfl⟩ | ⟨c0, hv, -, -⟩)
    · cases hv
      exact hret e y c0 c1
    · cases hv
  · rintro a h' z (⟨e, y, c0, hv, -⟩ | ⟨c0, hv, rfl, rfl⟩)
    · cases hv
    · cases hv
      exact xx_out ho (hthr c0)
theorem ct_V_checkFolder {p : Int32} (H : vs G h x V S) : xa_T G mm_V_checkFolder 9 2 12 [.ref x, .int p] h sz (xq_code h sz (cd_fold (sv_fs V) p) cs4 none) := by
  have h1 := H.cell
  refine xt_o ok_V_checkFolder rfl rfl ?_
  refine xw_iload_n dd_V_checkFolder_0 rfl ?_
  by_cases hp : p = 0
  · refine xw_if_ne 5 dd_V_checkFolder_1 (by decide) (fun hq => absurd hp hq) (fun hq => ?_)
    refine xw_vret dd_V_checkFolder_4 rfl (Or.inl ⟨?_, rfl, rfl, rfl⟩)
    unfold cd_fold
    rw [if_pos hp]
  · refine xw_if_ne 5 dd_V_checkFolder_1 (by decide) (fun hq => ?_) (fun hq => absurd hq hp)
    refine xw_aloadR_n dd_V_checkFolder_5 rfl ?_
    refine xw_iload_n dd_V_checkFolder_6 rfl ?_
    refine xw_less (kc' := 1 + 1) (ks' := 6 + 6) (by decide) (by decide) ?_
    refine xw_live (ct_V_liveEntry H) (iv_V_checkFolder_7 h1) rfl rfl rfl (fun e y w1 w2 => ?_) (fun w => Or.inr ⟨?_, rfl, ?_, rfl⟩)
    · refine xw_get fl_V_90 dd_V_checkFolder_10 w2 rfl ?_
      refine xw_iconst 1 dd_V_checkFolder_13 (by decide) ?_
      refine xw_icmp_eq 27 dd_V_checkFolder_14 (by decide) (fun hq => ?_) (fun hq => ?_)
      · refine xw_vret dd_V_checkFolder_27 rfl (Or.inl ⟨?_, rfl, rfl, rfl⟩)
        unfold cd_fold
        rw [if_neg hp, w1]
        exact if_pos hq
      · have hc : cd_fold (sv_fs V) p = 4 := by
          unfold cd_fold
          rw [if_neg hp, w1]
          exact if_neg hq
        rw [hc]
        exact xw_throw (tx := "the parent is no folder") ex_13 dd_V_checkFolder_17 dd_V_checkFolder_20 dd_V_checkFolder_21 dd_V_checkFolder_23 dd_V_checkFolder_26 (by decide) (by decide) (by decide) rfl (Or.inr ⟨by decide, rfl, rfl, rfl⟩)
    · unfold cd_fold
      rw [if_neg hp, w]
      decide
    · have hc : cd_fold (sv_fs V) p = 3 := by
        unfold cd_fold
        rw [if_neg hp, w]
      rw [hc]
theorem ct_V_checkNameFree {p nm f : Int32} (H : vs G h x V S) : xa_T G mm_V_checkNameFree 8 1 6 [.ref x, .int p, .int nm, .int f] h sz (xq_code h sz (cd_free (sv_fs V) p nm f) cs4 none) := by
  obtain ⟨ar, cp, h1, ⟨xs, h2⟩, -⟩ := H
  refine xt_o ok_V_checkNameFree rfl rfl ?_
  refine xw_aloadR_n dd_V_checkNameFree_0 rfl ?_
  refine xw_get fl_V_14 dd_V_checkNameFree_1 h1 rfl ?_
  refine xw_iload_n dd_V_checkNameFree_4 rfl ?_
  refine xw_iload_n dd_V_checkNameFree_5 rfl ?_
  refine xw_cl0 (ct_F_entryNamed h2) (iv_V_checkNameFree_6 h2.1) ok_F_entryNamed rfl rfl rfl ?_ (fun _ _ _ q => by cases q.2.2.choose_spec.1)
  rintro v h sz ⟨rfl, rfl, r, hv, hr⟩
  cases hv
  rcases hr with ⟨w1, rfl⟩ | ⟨e, y, w1, rfl, w3⟩
  · refine xw_astore (r := none) dd_V_checkNameFree_9 (by decide) ?_
    refine xw_aload (r := none) dd_V_checkNameFree_11 rfl ?_
    refine xw_ifnullN 35 dd_V_checkNameFree_13 (by decide) ?_
    refine xw_vret dd_V_checkNameFree_35 rfl (Or.inl ⟨?_, rfl, rfl, rfl⟩)
    unfold cd_free sv_nmd
    rw [w1]
  · have w1' : sv_nmd (sv_fs V) p nm = some e := w1
    refine xw_astore (r := some y) dd_V_checkNameFree_9 (by decide) ?_
    refine xw_aloadR dd_V_checkNameFree_11 rfl ?_
    refine xw_ifnullR dd_V_checkNameFree_13 ?_
    refine xw_aloadR dd_V_checkNameFree_16 rfl ?_
    refine xw_get fl_V_83 dd_V_checkNameFree_18 w3 rfl ?_
    refine xw_iload_n dd_V_checkNameFree_21 rfl ?_
    refine xw_icmp_eq 35 dd_V_checkNameFree_22 (by decide) (fun hq => ?_) (fun hq => ?_)
    · refine xw_vret dd_V_checkNameFree_35 rfl (Or.inl ⟨?_, rfl, rfl, rfl⟩)
      unfold cd_free
      rw [w1']
      exact if_pos hq
    · have hc : cd_free (sv_fs V) p nm f = 4 := by
        unfold cd_free
        rw [w1']
        exact if_neg hq
      rw [hc]
      exact xw_throw (tx := "the folder has a file of this name") ex_13 dd_V_checkNameFree_25 dd_V_checkNameFree_28 dd_V_checkNameFree_29 dd_V_checkNameFree_31 dd_V_checkNameFree_34 (by decide) (by decide) (by decide) rfl (Or.inr ⟨by decide, rfl, rfl, rfl⟩)
/-- is it, or lies it in -/
def sv_in (fs : List sv_E) (outer : Int32) : Nat → Int32 → Bool
  | 0, _ => false
  | k + 1, at_ => if at_ = outer then true else match sv_find fs at_ with
    | none => false
    | some e => sv_in fs outer k e.2.2.1
theorem ct_V_isOrLiesIn {a b : Int32} (H : vs G h x V S) : xa_T G mm_V_isOrLiesIn 4 0 0 [.ref x, .int a, .int b] h sz (xq_same h sz (some (.int (if sv_in (sv_fs V) b 21 a = true then 1 else 0)))) := by
  obtain ⟨ar, cp, h1, ⟨xs, h2⟩, -⟩ := H
  have loop : ∀ (k d : Nat) (c : Int32) (ov : Option Value), d + k = 21 → sv_in (sv_fs V) b k c = sv_in (sv_fs V) b 21 a → xa_W G mm_V_isOrLiesIn 4 0 0 5 [some (.ref x), some (.int a), some (.int b), some (.int c), some (.int (nI d)), ov] [] h sz (xq_same h sz (some (.int (if sv_in (sv_fs V) b 21 a = true then 1 else 0)))) := by
    intro k
    induction k with
    | zero =>
      intro d c ov hk hq
      have : d = 21 := by omega
      subst this
      rw [← hq]
      refine xw_iload dd_V_isOrLiesIn_5 rfl ?_
      refine xw_bipush 20 dd_V_isOrLiesIn_7 (by decide) ?_
      refine xw_icmp_gt 48 dd_V_isOrLiesIn_9 (by decide) (fun hc => ?_) (fun hc => absurd (by decide) hc)
      refine xw_iconst 0 dd_V_isOrLiesIn_48 (by decide) ?_
      exact xw_zret dd_V_isOrLiesIn_49 rfl rfl ⟨rfl, rfl, rfl⟩
    | succ k ih =>
      intro d c ov hk hq
      refine xw_iload dd_V_isOrLiesIn_5 rfl ?_
      refine xw_bipush 20 dd_V_isOrLiesIn_7 (by decide) ?_
      refine xw_icmp_gt 48 dd_V_isOrLiesIn_9 (by decide) (fun hc => absurd hc (nI_nlt (a := 20) (b := d) (by omega) (by decide))) (fun hc => ?_)
      refine xw_iload_n dd_V_isOrLiesIn_12 rfl ?_
      refine xw_iload_n dd_V_isOrLiesIn_13 rfl ?_
      rw [sv_in] at hq
      refine xw_icmp_ne 19 dd_V_isOrLiesIn_14 (by decide) (fun hc2 => ?_) (fun hc2 => ?_)
      · rw [if_neg hc2] at hq
        refine xw_aloadR_n dd_V_isOrLiesIn_19 rfl ?_
        refine xw_get fl_V_14 dd_V_isOrLiesIn_20 h1 rfl ?_
        refine xw_iload_n dd_V_isOrLiesIn_23 rfl ?_
        refine xw_cl0 (ct_F_entryOf h2) (iv_V_isOrLiesIn_24 h2.1) ok_F_entryOf rfl rfl rfl ?_ (fun _ _ _ q => by cases q.2.2.choose_spec.1)
        rintro v h sz ⟨rfl, rfl, r, hv, hr⟩
        cases hv
        rcases hr with ⟨w1, rfl⟩ | ⟨e, y, w1, rfl, w3⟩
        · have w1' : sv_find (sv_fs V) c = none := w1
          rw [w1'] at hq
          refine xw_astore (r := none) dd_V_isOrLiesIn_27 (by decide) ?_
          refine xw_aload (r := none) dd_V_isOrLiesIn_29 rfl ?_
          refine xw_ifnonnullN dd_V_isOrLiesIn_31 ?_
          refine xw_iconst 0 dd_V_isOrLiesIn_34 (by decide) ?_
          exact xw_zret dd_V_isOrLiesIn_35 rfl rfl ⟨by rw [← hq]; rfl, rfl, rfl⟩
        · have w1' : sv_find (sv_fs V) c = some e := w1
          rw [w1'] at hq
          refine xw_astore (r := some y) dd_V_isOrLiesIn_27 (by decide) ?_
          refine xw_aloadR dd_V_isOrLiesIn_29 rfl ?_
          refine xw_ifnonnullR 36 dd_V_isOrLiesIn_31 (by decide) ?_
          refine xw_aloadR dd_V_isOrLiesIn_36 rfl ?_
          refine xw_get fl_V_98 dd_V_isOrLiesIn_38 w3 rfl ?_
          refine xw_istore_n dd_V_isOrLiesIn_41 (by decide) ?_
          refine xw_iinc dd_V_isOrLiesIn_42 rfl (nI_1 d) (by decide) ?_
          refine xw_goto 5 dd_V_isOrLiesIn_45 (by decide) ?_
          exact ih (d + 1) _ _ (by omega) hq
      · rw [if_pos hc2] at hq
        refine xw_iconst 1 dd_V_isOrLiesIn_17 (by decide) ?_
        exact xw_zret dd_V_isOrLiesIn_18 rfl rfl ⟨by rw [← hq]; rfl, rfl, rfl⟩
  refine xt_o ok_V_isOrLiesIn rfl rfl ?_
  refine xw_iload_n dd_V_isOrLiesIn_0 rfl ?_
  refine xw_istore_n dd_V_isOrLiesIn_1 (by decide) ?_
  refine xw_iconst 0 dd_V_isOrLiesIn_2 (by decide) ?_
  refine xw_istore dd_V_isOrLiesIn_3 (by decide) ?_
  exact loop 21 0 a none (by omega) rfl
/-- a subscriber, or the exception -/
def xq_sub (h : xa_H) (sz x : Nat) (s : Int32) : Outcome → xa_H → Nat → Prop := fun o h' z => (∃ k, k < 3 ∧ s = nI k ∧ o = .returned (some (.ref (x + 8 + 4 * k))) ∧ h' = h ∧ z = sz) ∨ ((s < 0 ∨ 3 ≤ s) ∧ o = .threw sz ∧ h' = xa_up h sz (.inr (14, [])) ∧ z = sz + 1)
theorem ct_V_subscriberAt {s : Int32} (H : vs G h x V S) : xa_T G mm_V_subscriberAt 8 1 6 [.ref x, .int s] h sz (xq_sub h sz x s) := by
  obtain ⟨ar, cp, h1, -, -, -, ⟨g, h5, h5'⟩, -⟩ := H
  have bad : (s < 0 ∨ 3 ≤ s) → xa_W G mm_V_subscriberAt 8 1 6 9 [some (.ref x), some (.int s)] [] h sz (xq_sub h sz x s) := by
    intro hb
    exact xw_throwW (tx := "there is no such subscriber") ex_14 dd_V_subscriberAt_9 dd_V_subscriberAt_12 dd_V_subscriberAt_13 dd_V_subscriberAt_16 dd_V_subscriberAt_19 (by decide) (by decide) (by decide) rfl (Or.inr ⟨hb, rfl, rfl, rfl⟩)
  refine xt_o ok_V_subscriberAt rfl rfl ?_
  refine xw_iload_n dd_V_subscriberAt_0 rfl ?_
  refine xw_if_lt 9 dd_V_subscriberAt_1 (by decide) (fun hq => bad (Or.inl hq)) (fun hq => ?_)
  refine xw_iload_n dd_V_subscriberAt_4 rfl ?_
  refine xw_iconst 3 dd_V_subscriberAt_5 (by decide) ?_
  refine xw_icmp_lt 20 dd_V_subscriberAt_6 (by decide) (fun hq2 => ?_) (fun hq2 => bad (Or.inr (Int32.not_lt.mp hq2)))
  obtain ⟨k, hk, rfl⟩ := nI_of hq
  have hk3 : k < 3 := (nI_ltI (b := 3) hk (by decide)).mp hq2
  refine xw_aloadR_n dd_V_subscriberAt_20 rfl ?_
  refine xw_get fl_V_34 dd_V_subscriberAt_21 h1 rfl ?_
  refine xw_iload_n dd_V_subscriberAt_24 rfl ?_
  refine xw_aald (t := 5) rfl dd_V_subscriberAt_25 h5 (vp_in_nI hk3 (by decide)) ?_
  rw [nI_clamp hk, h5' k hk3]
  exact xw_aretR dd_V_subscriberAt_26 rfl (Or.inl ⟨_, rfl⟩) (Or.inl ⟨k, hk3, rfl, rfl, rfl, rfl⟩)
theorem xw_sub {M : xa_M} {dp kc ks pc : Nat} {L : List (Option Value)} {stk as rest : List Value} {Q : Outcome → xa_H → Nat → Prop} {s : Int32} (hT : xa_T G mm_V_subscriberAt 8 1 6 as h sz (xq_sub h sz x s)) (hI : xa_inv G M mm_V_subscriberAt pc stk as rest h) (hdp : Nat.ble 9 dp = true) (hst : Nat.ble ((rest.map fun v => v.category).sum) 8 = true) (ho : xa_out M pc)
    (hret : ∀ k, k < 3 → s = nI k → xa_W G M dp kc ks (pc + 3) L (.ref (x + 8 + 4 * k) :: rest) h sz Q) (hthr : (s < 0 ∨ 3 ≤ s) → Q (.threw sz) (xa_up h sz (.inr (14, []))) (sz + 1)) : xa_W G M dp (kc + 1) (ks + 6) pc L stk h sz Q := by
  refine xw_cl hT hI ok_V_subscriberAt hdp rfl hst ?_ ?_
  · rintro v' h' z (⟨k, c0, c1, hv, rfl, rfl⟩ | ⟨c0, hv, -, -⟩)
    · cases hv
      exact hret k c0 c1
    · cases hv
  · rintro a h' z (⟨k, c0, c1, hv, -⟩ | ⟨c0, hv, rfl, rfl⟩)
    · cases hv
    · cases hv
      exact xx_out ho (hthr c0)
end VK
