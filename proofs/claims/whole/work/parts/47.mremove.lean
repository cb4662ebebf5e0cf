/-! NotedVolumeModel: remove (by program: wip/whole/mk47.py) -/
def uB (A : Nat → Nat → Int32) (F : Nat → Nat → Int32) : Nat → Nat → Int32 := fun q => if 1 ≤ q ∧ q ≤ 5 then F q else A q
theorem uB_5 (A F : Nat → Nat → Int32) (k : Nat) : uA (uA (uA (uA (uA (uB A F) 1 (upd (F 1) k (F 1 (k + 1)))) 2 (upd (F 2) k (F 2 (k + 1)))) 3 (upd (F 3) k (F 3 (k + 1)))) 4 (upd (F 4) k (F 4 (k + 1)))) 5 (upd (F 5) k (F 5 (k + 1))) = uB A (fun q => upd (F q) k (F q (k + 1))) := funext (fun q => by
  by_cases h1 : q = 1
  · subst h1; rfl
  by_cases h2 : q = 2
  · subst h2; rfl
  by_cases h3 : q = 3
  · subst h3; rfl
  by_cases h4 : q = 4
  · subst h4; rfl
  by_cases h5 : q = 5
  · subst h5; rfl
  rw [uA_n _ _ h5, uA_n _ _ h4, uA_n _ _ h3, uA_n _ _ h2, uA_n _ _ h1]
  unfold uB
  rw [if_neg (by omega), if_neg (by omega)])
theorem uB_n (A F : Nat → Nat → Int32) {q : Nat} (h : q = 0 ∨ 5 < q) : uB A F q = A q := if_neg (by omega)
section MX
variable {G : xa_G} {h : xa_H} {sz o : Nat} {K : Nat → Int32} {A : Nat → Nat → Int32} {V : sv_V}
/-- files behind a place move up by one -/
theorem rm_loop {i : Nat} {f c : Int32} {e : sv_E} {V' : sv_V} {fs : List sv_E} (hB : G.2.2.1 ≤ o) (hl : fs.length ≤ 20) (hi : i < fs.length) (hF0 : ∀ j e, fs[j]? = some e → A 1 j = e.1 ∧ A 2 j = e.2.1 ∧ A 3 j = e.2.2.1 ∧ A 4 j = e.2.2.2.1 ∧ A 5 j = e.2.2.2.2) {Q : Outcome → xa_H → Nat → Prop} (fin : ∀ (h9 : xa_H) (A9 : Nat → Nat → Int32), mo_at G h9 o (upd K 1 (nI (fs.length - 1))) A9 → rF (fs.eraseIdx i) (upd K 1 (nI (fs.length - 1))) A9 → (∀ q, 5 < q → A9 q = A q) → frM o h h9 → Q (.returned (some (.int 1))) h9 sz) : ∀ (m k : Nat) (h0 : xa_H) (F : Nat → Nat → Int32), k + m = fs.length - 1 → i ≤ k → mo_at G h0 o (upd K 1 (nI (fs.length - 1))) (uB A F) → (∀ q j, 1 ≤ q → q ≤ 5 → F q j = if i ≤ j ∧ j < k then A q (j + 1) else A q j) → frM o h h0 → xa_W G mm_M_remove 4 0 0 109 [some (.ref o), some (.int f), some (.int c), some (.int (nI k))] [] h0 sz Q := by
  intro m
  induction m with
  | zero =>
    intro k h0 F hk hik H0 hF fr0
    refine xw_iload_n dd_M_remove_109 rfl ?_
    refine xw_aloadR_n dd_M_remove_110 rfl ?_
    refine xw_get fl_M_84 dd_M_remove_111 H0.1 rfl ?_
    refine xw_icmp_ge 193 dd_M_remove_114 (by decide) (fun hc => ?_) (fun hc => absurd (nI_le (a := fs.length - 1) (b := k) (by omega) (by omega)) hc)
    refine xw_iconst 1 dd_M_remove_193 (by decide) ?_
    refine xw_zret dd_M_remove_194 rfl rfl (fin h0 _ H0 ⟨?_, ?_, fun j q hq => ?_⟩ (fun q hq => uB_n _ _ (by omega)) fr0)
    · show nI (fs.length - 1) = nI (fs.eraseIdx i).length
      rw [List.length_eraseIdx, if_pos hi]
    · rw [List.length_eraseIdx, if_pos hi]
      omega
    · show F 1 j = _ ∧ F 2 j = _ ∧ F 3 j = _ ∧ F 4 j = _ ∧ F 5 j = _
      rw [hF 1 j (by decide) (by decide), hF 2 j (by decide) (by decide), hF 3 j (by decide) (by decide), hF 4 j (by decide) (by decide), hF 5 j (by decide) (by decide)]
      rw [List.getElem?_eraseIdx] at hq
      by_cases ej : j < i
      · rw [if_pos ej] at hq
        have hn : ¬ (i ≤ j ∧ j < k) := by omega
        rw [if_neg hn, if_neg hn, if_neg hn, if_neg hn, if_neg hn]
        exact hF0 j q hq
      · rw [if_neg ej] at hq
        have := (List.getElem?_eq_some_iff.mp hq).1
        have hn : i ≤ j ∧ j < k := by omega
        rw [if_pos hn, if_pos hn, if_pos hn, if_pos hn, if_pos hn]
        exact hF0 (j + 1) q hq
  | succ m ih =>
    intro k h0 F hk hik H0 hF fr0
    refine xw_iload_n dd_M_remove_109 rfl ?_
    refine xw_aloadR_n dd_M_remove_110 rfl ?_
    refine xw_get fl_M_84 dd_M_remove_111 H0.1 rfl ?_
    refine xw_icmp_ge 193 dd_M_remove_114 (by decide) (fun hc => absurd hc (nI_ge (a := k) (b := fs.length - 1) (by omega) (by omega))) (fun hc => ?_)
    refine xw_aloadR_n dd_M_remove_117 rfl ?_
    refine xw_get fl_M_7 dd_M_remove_118 H0.1 rfl ?_
    refine xw_iload_n dd_M_remove_121 rfl ?_
    refine xw_aloadR_n dd_M_remove_122 rfl ?_
    refine xw_get fl_M_7 dd_M_remove_123 H0.1 rfl ?_
    refine xw_iload_n dd_M_remove_126 rfl ?_
    refine xw_iconst 1 dd_M_remove_127 (by decide) ?_
    refine xw_iadd dd_M_remove_128 ?_
    rw [nI_1]
    refine xw_iald dd_M_remove_129 (show h0 (o + 1) = some (.inl (0, (20, .inl (F 1)))) from H0.2.1 1 (by decide) (by decide)) (vp_in_nI (show k + 1 < 20 by omega) (by decide)) ?_
    rw [nI_clamp (by omega)]
    refine xw_iastA dd_M_remove_130 (show h0 (o + 1) = some (.inl (0, (20, .inl (F 1)))) from H0.2.1 1 (by decide) (by decide)) (vp_in_nI (show k < 20 by omega) (by decide)) (by omega) (fun h1 n1 f1 => ?_)
    rw [nI_clamp (by omega)] at n1
    obtain ⟨H1, fr1⟩ := H0.setA (i := 1) (f := upd (F 1) k (F 1 (k + 1))) (by decide) n1 f1
    refine xw_aloadR_n dd_M_remove_131 rfl ?_
    refine xw_get fl_M_13 dd_M_remove_132 H1.1 rfl ?_
    refine xw_iload_n dd_M_remove_135 rfl ?_
    refine xw_aloadR_n dd_M_remove_136 rfl ?_
    refine xw_get fl_M_13 dd_M_remove_137 H1.1 rfl ?_
    refine xw_iload_n dd_M_remove_140 rfl ?_
    refine xw_iconst 1 dd_M_remove_141 (by decide) ?_
    refine xw_iadd dd_M_remove_142 ?_
    rw [nI_1]
    refine xw_iald dd_M_remove_143 (show h1 (o + 2) = some (.inl (0, (20, .inl (F 2)))) from H1.2.1 2 (by decide) (by decide)) (vp_in_nI (show k + 1 < 20 by omega) (by decide)) ?_
    rw [nI_clamp (by omega)]
    refine xw_iastA dd_M_remove_144 (show h1 (o + 2) = some (.inl (0, (20, .inl (F 2)))) from H1.2.1 2 (by decide) (by decide)) (vp_in_nI (show k < 20 by omega) (by decide)) (by omega) (fun h2 n2 f2 => ?_)
    rw [nI_clamp (by omega)] at n2
    obtain ⟨H2, fr2⟩ := H1.setA (i := 2) (f := upd (F 2) k (F 2 (k + 1))) (by decide) n2 f2
    refine xw_aloadR_n dd_M_remove_145 rfl ?_
    refine xw_get fl_M_16 dd_M_remove_146 H2.1 rfl ?_
    refine xw_iload_n dd_M_remove_149 rfl ?_
    refine xw_aloadR_n dd_M_remove_150 rfl ?_
    refine xw_get fl_M_16 dd_M_remove_151 H2.1 rfl ?_
    refine xw_iload_n dd_M_remove_154 rfl ?_
    refine xw_iconst 1 dd_M_remove_155 (by decide) ?_
    refine xw_iadd dd_M_remove_156 ?_
    rw [nI_1]
    refine xw_iald dd_M_remove_157 (show h2 (o + 3) = some (.inl (0, (20, .inl (F 3)))) from H2.2.1 3 (by decide) (by decide)) (vp_in_nI (show k + 1 < 20 by omega) (by decide)) ?_
    rw [nI_clamp (by omega)]
    refine xw_iastA dd_M_remove_158 (show h2 (o + 3) = some (.inl (0, (20, .inl (F 3)))) from H2.2.1 3 (by decide) (by decide)) (vp_in_nI (show k < 20 by omega) (by decide)) (by omega) (fun h3 n3 f3 => ?_)
    rw [nI_clamp (by omega)] at n3
    obtain ⟨H3, fr3⟩ := H2.setA (i := 3) (f := upd (F 3) k (F 3 (k + 1))) (by decide) n3 f3
    refine xw_aloadR_n dd_M_remove_159 rfl ?_
    refine xw_get fl_M_19 dd_M_remove_160 H3.1 rfl ?_
    refine xw_iload_n dd_M_remove_163 rfl ?_
    refine xw_aloadR_n dd_M_remove_164 rfl ?_
    refine xw_get fl_M_19 dd_M_remove_165 H3.1 rfl ?_
    refine xw_iload_n dd_M_remove_168 rfl ?_
    refine xw_iconst 1 dd_M_remove_169 (by decide) ?_
    refine xw_iadd dd_M_remove_170 ?_
    rw [nI_1]
    refine xw_iald dd_M_remove_171 (show h3 (o + 4) = some (.inl (0, (20, .inl (F 4)))) from H3.2.1 4 (by decide) (by decide)) (vp_in_nI (show k + 1 < 20 by omega) (by decide)) ?_
    rw [nI_clamp (by omega)]
    refine xw_iastA dd_M_remove_172 (show h3 (o + 4) = some (.inl (0, (20, .inl (F 4)))) from H3.2.1 4 (by decide) (by decide)) (vp_in_nI (show k < 20 by omega) (by decide)) (by omega) (fun h4 n4 f4 => ?_)
    rw [nI_clamp (by omega)] at n4
    obtain ⟨H4, fr4⟩ := H3.setA (i := 4) (f := upd (F 4) k (F 4 (k + 1))) (by decide) n4 f4
    refine xw_aloadR_n dd_M_remove_173 rfl ?_
    refine xw_get fl_M_22 dd_M_remove_174 H4.1 rfl ?_
    refine xw_iload_n dd_M_remove_177 rfl ?_
    refine xw_aloadR_n dd_M_remove_178 rfl ?_
    refine xw_get fl_M_22 dd_M_remove_179 H4.1 rfl ?_
    refine xw_iload_n dd_M_remove_182 rfl ?_
    refine xw_iconst 1 dd_M_remove_183 (by decide) ?_
    refine xw_iadd dd_M_remove_184 ?_
    rw [nI_1]
    refine xw_iald dd_M_remove_185 (show h4 (o + 5) = some (.inl (0, (20, .inl (F 5)))) from H4.2.1 5 (by decide) (by decide)) (vp_in_nI (show k + 1 < 20 by omega) (by decide)) ?_
    rw [nI_clamp (by omega)]
    refine xw_iastA dd_M_remove_186 (show h4 (o + 5) = some (.inl (0, (20, .inl (F 5)))) from H4.2.1 5 (by decide) (by decide)) (vp_in_nI (show k < 20 by omega) (by decide)) (by omega) (fun h5 n5 f5 => ?_)
    rw [nI_clamp (by omega)] at n5
    obtain ⟨H5, fr5⟩ := H4.setA (i := 5) (f := upd (F 5) k (F 5 (k + 1))) (by decide) n5 f5
    refine xw_iinc dd_M_remove_187 rfl (nI_1 k) (by decide) ?_
    refine xw_goto 109 dd_M_remove_190 (by decide) ?_
    rw [uB_5] at H5
    refine ih (k + 1) h5 _ (by omega) (by omega) H5 (fun q j q1 q2 => ?_) (fr0.trans (fr1.trans (fr2.trans (fr3.trans (fr4.trans fr5)))))
    by_cases ej : j = k
    · subst ej
      rw [pk_us, hF q (j + 1) q1 q2, if_neg (by omega), if_pos (by omega)]
    · rw [pk_un ej, hF q j q1 q2]
      by_cases e2 : i ≤ j ∧ j < k
      · rw [if_pos e2, if_pos (by omega)]
      · rw [if_neg e2, if_neg (by omega)]
end MX
