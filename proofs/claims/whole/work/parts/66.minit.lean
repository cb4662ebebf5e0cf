/-! NotedVolumeModel: its constructor (by program: wip/whole/mk66.py) -/
section SH
variable {G : xa_G} {M : xa_M} {dp kc ks pc : Nat} {L : List (Option Value)} {st : List Value} {h : xa_H} {sz : Nat} {Q : Outcome → xa_H → Nat → Prop}
theorem xw_znewA {N : Nat} {n : Int32} (hd : decode M.2.1 pc = .ok (.newarray .boolean, 2)) (hn : ¬ n < 0) (hN : n.toNatClampNeg = N) (hby : N * 1 ≤ 536870912) (kk : ∀ h1 : xa_H, h1 sz = some (.inl (2, (N, .inl (fun _ => 0)))) → (∀ b, b ≠ sz → h1 b = h b) → xa_W G M dp kc ks (pc + 2) L (.ref sz :: st) h1 (sz + 1) Q) : xa_W G M dp (kc + 1) (ks + N) pc L (.int n :: st) h sz Q :=
  xw_newa (atype := .boolean) (ty := .boolean) (t := 2) (a0 := (N, .inl (fun _ => 0))) rfl (fun _ q => by cases q) rfl ar_boolean hd (fun _ => rfl) hn hN hby (kk _ (xa_up_eq _ _ _) (fun _ hb => xa_up_ne _ _ hb))
end SH
def mi_at (h hh : xa_H) (o i : Nat) (fs : List Value) : Prop := hh o = some (.inr (9, fs)) ∧ (∀ j, 1 ≤ j → j ≤ i → hh (o + j) = some (mo_a j (fun _ => 0))) ∧ ∀ b, b < o → hh b = h b
theorem mi_at.new {h h1 h2 : xa_H} {o i : Nat} {fs : List Value} (H : mi_at h h1 o i fs) (h3 : h2 (o + (i + 1)) = some (mo_a (i + 1) (fun _ => 0))) (h4 : ∀ b, b ≠ o + (i + 1) → h2 b = h1 b) : mi_at h h2 o (i + 1) fs := by
  refine ⟨(h4 o (by omega)).trans H.1, fun j j1 j2 => ?_, fun b hb => (h4 b (by omega)).trans (H.2.2 b hb)⟩
  by_cases e : j = i + 1
  · rw [e]
    exact h3
  · exact (h4 (o + j) (by omega)).trans (H.2.1 j j1 (by omega))
theorem mi_at.put {h h1 h2 : xa_H} {o i : Nat} {fs fs' : List Value} (H : mi_at h h1 o i fs) (h3 : h2 o = some (.inr (9, fs'))) (h4 : ∀ b, b ≠ o → h2 b = h1 b) : mi_at h h2 o i fs' := ⟨h3, fun j j1 j2 => (h4 (o + j) (by omega)).trans (H.2.1 j j1 j2), fun b hb => (h4 b (by omega)).trans (H.2.2 b hb)⟩
def mo_K0 : Nat → Int32 := fun k => if k = 8 then 1 else if k = 14 then -1 else 0
theorem mi_row {G : xa_G} {h : xa_H} {sz o kc ks : Nat} {K : Nat → Int32} {A : Nat → Nat → Int32} {Q : Outcome → xa_H → Nat → Prop} {s : Nat} {ov : Option Value} (hs : s < 3) (H : mo_at G h o K A) (next : ∀ (h' : xa_H) (A' : Nat → Nat → Int32), mo_at G h' o K A' → A' 9 = upd (A 9) s 1 → A' 10 = upd (A 10) s 127 → A' 13 = upd (upd (upd (upd (A 13) (4 * s + 0) (-1)) (4 * s + 1) (-1)) (4 * s + 2) (-1)) (4 * s + 3) (-1) → (∀ q, q ≠ 9 → q ≠ 10 → q ≠ 13 → A' q = A q) → frM o h h' → xa_W G mm_M_init 1 kc ks 182 [some (.ref o), some (.int (nI (s + 1))), some (.int 4)] [] h' sz Q) : xa_W G mm_M_init 1 kc ks 182 [some (.ref o), some (.int (nI s)), ov] [] h sz Q := by
  have ix : vp_in (nI s) 3 := vp_in_nI hs (by decide)
  refine xw_iload_n dd_M_init_182 rfl ?_
  refine xw_iconst 3 dd_M_init_183 (by decide) ?_
  refine xw_icmp_ge 232 dd_M_init_184 (by decide) (fun hc => absurd hc (nI_ge (b := 3) (by omega) (by decide))) (fun hc => ?_)
  refine xw_aloadR_n dd_M_init_187 rfl ?_
  refine xw_get fl_M_41 dd_M_init_188 H.1 rfl ?_
  refine xw_iload_n dd_M_init_191 rfl ?_
  refine xw_iconst 1 dd_M_init_192 (by decide) ?_
  refine xw_iastA dd_M_init_193 (H.2.1 9 (by decide) (by decide)) ix (by have := H.2.2; omega) (fun h1 n1 fn1 => ?_)
  rw [nI_clamp (by omega)] at n1
  obtain ⟨H1, fr1⟩ := H.setA (i := 9) (by decide) n1 fn1
  refine xw_aloadR_n dd_M_init_194 rfl ?_
  refine xw_get fl_M_44 dd_M_init_195 H1.1 rfl ?_
  refine xw_iload_n dd_M_init_198 rfl ?_
  refine xw_bipush 127 dd_M_init_199 (by decide) ?_
  refine xw_iastA dd_M_init_201 (show h1 (o + 10) = some (.inl (0, (3, .inl (A 10)))) from H1.2.1 10 (by decide) (by decide)) ix (by have := H.2.2; omega) (fun h2 n2 fn2 => ?_)
  rw [nI_clamp (by omega)] at n2
  obtain ⟨H2, fr2⟩ := H1.setA (i := 10) (f := upd (A 10) s 127) (by decide) n2 fn2
  refine xw_iconst 0 dd_M_init_202 (by decide) ?_
  refine xw_istore_n dd_M_init_203 (by decide) ?_
  refine xw_iload_n dd_M_init_204 rfl ?_
  refine xw_iconst 4 dd_M_init_205 (by decide) ?_
  refine xw_icmp_ge 226 dd_M_init_206 (by decide) (fun hc => absurd hc (by decide)) (fun hc => ?_)
  refine xw_aloadR_n dd_M_init_209 rfl ?_
  refine xw_get fl_M_54 dd_M_init_210 H2.1 rfl ?_
  refine xw_iconst 4 dd_M_init_213 (by decide) ?_
  refine xw_iload_n dd_M_init_214 rfl ?_
  refine xw_imul dd_M_init_215 ?_
  rw [show (4 : Int32) * nI s = nI (4 * s) from pk_mul 4 s]
  refine xw_iload_n dd_M_init_216 rfl ?_
  refine xw_iadd dd_M_init_217 ?_
  rw [show nI (4 * s) + 0 = nI (4 * s + 0) from nI_add (4 * s) 0]
  refine xw_iconst (-1) dd_M_init_218 (by decide) ?_
  refine xw_iastA dd_M_init_219 (show h2 (o + 13) = some (.inl (0, (12, .inl (A 13)))) from H2.2.1 13 (by decide) (by decide)) (vp_in_nI (show 4 * s + 0 < 12 by omega) (by decide)) (by have := H.2.2; omega) (fun h3 n3 fn3 => ?_)
  rw [nI_clamp (by omega)] at n3
  obtain ⟨H3, fr3⟩ := H2.setA (i := 13) (f := upd (A 13) (4 * s + 0) (-1)) (by decide) n3 fn3
  refine xw_iinc dd_M_init_220 rfl (show (0 : Int32) + Int32.ofInt 1 = 1 by decide) (by decide) ?_
  refine xw_goto 204 dd_M_init_223 (by decide) ?_
  refine xw_iload_n dd_M_init_204 rfl ?_
  refine xw_iconst 4 dd_M_init_205 (by decide) ?_
  refine xw_icmp_ge 226 dd_M_init_206 (by decide) (fun hc => absurd hc (by decide)) (fun hc => ?_)
  refine xw_aloadR_n dd_M_init_209 rfl ?_
  refine xw_get fl_M_54 dd_M_init_210 H3.1 rfl ?_
  refine xw_iconst 4 dd_M_init_213 (by decide) ?_
  refine xw_iload_n dd_M_init_214 rfl ?_
  refine xw_imul dd_M_init_215 ?_
  rw [show (4 : Int32) * nI s = nI (4 * s) from pk_mul 4 s]
  refine xw_iload_n dd_M_init_216 rfl ?_
  refine xw_iadd dd_M_init_217 ?_
  rw [show nI (4 * s) + 1 = nI (4 * s + 1) from nI_add (4 * s) 1]
  refine xw_iconst (-1) dd_M_init_218 (by decide) ?_
  refine xw_iastA dd_M_init_219 (show h3 (o + 13) = some (.inl (0, (12, .inl (upd (A 13) (4 * s + 0) (-1))))) from H3.2.1 13 (by decide) (by decide)) (vp_in_nI (show 4 * s + 1 < 12 by omega) (by decide)) (by have := H.2.2; omega) (fun h4 n4 fn4 => ?_)
  rw [nI_clamp (by omega)] at n4
  obtain ⟨H4, fr4⟩ := H3.setA (i := 13) (f := upd (upd (A 13) (4 * s + 0) (-1)) (4 * s + 1) (-1)) (by decide) n4 fn4
  refine xw_iinc dd_M_init_220 rfl (show (1 : Int32) + Int32.ofInt 1 = 2 by decide) (by decide) ?_
  refine xw_goto 204 dd_M_init_223 (by decide) ?_
  refine xw_iload_n dd_M_init_204 rfl ?_
  refine xw_iconst 4 dd_M_init_205 (by decide) ?_
  refine xw_icmp_ge 226 dd_M_init_206 (by decide) (fun hc => absurd hc (by decide)) (fun hc => ?_)
  refine xw_aloadR_n dd_M_init_209 rfl ?_
  refine xw_get fl_M_54 dd_M_init_210 H4.1 rfl ?_
  refine xw_iconst 4 dd_M_init_213 (by decide) ?_
  refine xw_iload_n dd_M_init_214 rfl ?_
  refine xw_imul dd_M_init_215 ?_
  rw [show (4 : Int32) * nI s = nI (4 * s) from pk_mul 4 s]
  refine xw_iload_n dd_M_init_216 rfl ?_
  refine xw_iadd dd_M_init_217 ?_
  rw [show nI (4 * s) + 2 = nI (4 * s + 2) from nI_add (4 * s) 2]
  refine xw_iconst (-1) dd_M_init_218 (by decide) ?_
  refine xw_iastA dd_M_init_219 (show h4 (o + 13) = some (.inl (0, (12, .inl (upd (upd (A 13) (4 * s + 0) (-1)) (4 * s + 1) (-1))))) from H4.2.1 13 (by decide) (by decide)) (vp_in_nI (show 4 * s + 2 < 12 by omega) (by decide)) (by have := H.2.2; omega) (fun h5 n5 fn5 => ?_)
  rw [nI_clamp (by omega)] at n5
  obtain ⟨H5, fr5⟩ := H4.setA (i := 13) (f := upd (upd (upd (A 13) (4 * s + 0) (-1)) (4 * s + 1) (-1)) (4 * s + 2) (-1)) (by decide) n5 fn5
  refine xw_iinc dd_M_init_220 rfl (show (2 : Int32) + Int32.ofInt 1 = 3 by decide) (by decide) ?_
  refine xw_goto 204 dd_M_init_223 (by decide) ?_
  refine xw_iload_n dd_M_init_204 rfl ?_
  refine xw_iconst 4 dd_M_init_205 (by decide) ?_
  refine xw_icmp_ge 226 dd_M_init_206 (by decide) (fun hc => absurd hc (by decide)) (fun hc => ?_)
  refine xw_aloadR_n dd_M_init_209 rfl ?_
  refine xw_get fl_M_54 dd_M_init_210 H5.1 rfl ?_
  refine xw_iconst 4 dd_M_init_213 (by decide) ?_
  refine xw_iload_n dd_M_init_214 rfl ?_
  refine xw_imul dd_M_init_215 ?_
  rw [show (4 : Int32) * nI s = nI (4 * s) from pk_mul 4 s]
  refine xw_iload_n dd_M_init_216 rfl ?_
  refine xw_iadd dd_M_init_217 ?_
  rw [show nI (4 * s) + 3 = nI (4 * s + 3) from nI_add (4 * s) 3]
  refine xw_iconst (-1) dd_M_init_218 (by decide) ?_
  refine xw_iastA dd_M_init_219 (show h5 (o + 13) = some (.inl (0, (12, .inl (upd (upd (upd (A 13) (4 * s + 0) (-1)) (4 * s + 1) (-1)) (4 * s + 2) (-1))))) from H5.2.1 13 (by decide) (by decide)) (vp_in_nI (show 4 * s + 3 < 12 by omega) (by decide)) (by have := H.2.2; omega) (fun h6 n6 fn6 => ?_)
  rw [nI_clamp (by omega)] at n6
  obtain ⟨H6, fr6⟩ := H5.setA (i := 13) (f := upd (upd (upd (upd (A 13) (4 * s + 0) (-1)) (4 * s + 1) (-1)) (4 * s + 2) (-1)) (4 * s + 3) (-1)) (by decide) n6 fn6
  refine xw_iinc dd_M_init_220 rfl (show (3 : Int32) + Int32.ofInt 1 = 4 by decide) (by decide) ?_
  refine xw_goto 204 dd_M_init_223 (by decide) ?_
  refine xw_iload_n dd_M_init_204 rfl ?_
  refine xw_iconst 4 dd_M_init_205 (by decide) ?_
  refine xw_icmp_ge 226 dd_M_init_206 (by decide) (fun hc => ?_) (fun hc => absurd (by decide) hc)
  refine xw_iinc dd_M_init_226 rfl (nI_1 s) (by decide) ?_
  refine xw_goto 182 dd_M_init_229 (by decide) ?_
  exact next h6 _ H6 rfl rfl rfl (fun q q1 q2 q3 => by rw [uA_n _ _ q3, uA_n _ _ q3, uA_n _ _ q3, uA_n _ _ q3, uA_n _ _ q2, uA_n _ _ q1]) (fr1.trans (fr2.trans (fr3.trans (fr4.trans (fr5.trans fr6)))))
theorem mi_loop {G : xa_G} {h : xa_H} {sz o kc ks : Nat} {Q : Outcome → xa_H → Nat → Prop} (H0 : mo_at G h o mo_K0 (fun _ _ => 0)) (fin : ∀ h' A', mo_at G h' o mo_K0 A' → rV sv_V0 mo_K0 A' → rS (fun _ => sv_S0) A' → frM o h h' → Q (.returned none) h' sz) : xa_W G mm_M_init 1 kc ks 180 [some (.ref o), none, none] [] h sz Q := by
  refine xw_iconst 0 dd_M_init_180 (by decide) ?_
  refine xw_istore_n dd_M_init_181 (by decide) ?_
  refine mi_row (s := 0) (by decide) H0 (fun h1 A1 H1 a9 a10 a13 aq fr1 => ?_)
  refine mi_row (s := 1) (by decide) H1 (fun h2 A2 H2 b9 b10 b13 bq fr2 => ?_)
  refine mi_row (s := 2) (by decide) H2 (fun h3 A3 H3 c9 c10 c13 cq fr3 => ?_)
  rw [a9] at b9
  rw [b9] at c9
  rw [a10] at b10
  rw [b10] at c10
  rw [a13] at b13
  rw [b13] at c13
  have hz : ∀ q, q ≠ 9 → q ≠ 10 → q ≠ 13 → A3 q = fun _ => 0 := fun q q1 q2 q3 => (cq q q1 q2 q3).trans ((bq q q1 q2 q3).trans (aq q q1 q2 q3))
  refine xw_iload_n dd_M_init_182 rfl ?_
  refine xw_iconst 3 dd_M_init_183 (by decide) ?_
  refine xw_icmp_ge 232 dd_M_init_184 (by decide) (fun hc => ?_) (fun hc => absurd (by decide) hc)
  refine xw_vret dd_M_init_232 rfl (fin _ _ H3 ⟨⟨rfl, Nat.zero_le _, fun i e he => ?_⟩, ⟨rfl, Nat.le_refl _, by decide, fun s k _ _ => ?_⟩, ⟨rfl, Nat.zero_le _, fun i e he => ?_⟩, rfl, rfl, rfl⟩ (fun s hs => ?_) (fr1.trans (fr2.trans fr3)))
  · have he : ([] : List sv_E)[i]? = some e := he
    simp at he
  · rw [hz 6 (by decide) (by decide) (by decide)]
    rfl
  · have he : ([] : List (Int32 × Int32))[i]? = some e := he
    simp at he
  · have h14 := hz 14 (by decide) (by decide) (by decide)
    have h11 := hz 11 (by decide) (by decide) (by decide)
    have h12 := hz 12 (by decide) (by decide) (by decide)
    have hC : ∃ ms, rC s ms A3 ∧ rP ms [] := ⟨[], ⟨by rw [h14]; rfl, Nat.zero_le _, fun i e he => by simp at he⟩, List.Pairwise.nil, fun _ => Iff.rfl⟩
    refine ⟨⟨?_, ?_, by rw [h11]; rfl, by rw [h12]; rfl, fun k hk => ?_⟩, hC⟩
    · rw [c9]
      rcases (show s = 0 ∨ s = 1 ∨ s = 2 by omega) with rfl | rfl | rfl <;> rfl
    · rw [c10]
      rcases (show s = 0 ∨ s = 1 ∨ s = 2 by omega) with rfl | rfl | rfl <;> rfl
    · rw [c13]
      rcases (show s = 0 ∨ s = 1 ∨ s = 2 by omega) with rfl | rfl | rfl <;> rcases (show k = 0 ∨ k = 1 ∨ k = 2 ∨ k = 3 by omega) with rfl | rfl | rfl | rfl <;> rfl
section SI
variable {G : xa_G} {h : xa_H} {sz o : Nat}
theorem ct_M_init (ha : h o = some (.inr (9, [.int 0, .int 0, .null, .null, .null, .null, .null, .int 0, .int 0, .null, .int 0, .null, .null, .int 0, .int 0, .null, .null, .null, .null, .null, .null, .null, .null, .null, .null, .null, .null, .null]))) (hB : G.2.2.1 ≤ o) : xa_T G mm_M_init 1 21 4463 [.ref o] h (o + 1) (fun o' h' z => o' = .returned none ∧ z = o + 22 ∧ (∃ K' A', mo_at G h' o K' A' ∧ rV sv_V0 K' A' ∧ rS (fun _ => sv_S0) A') ∧ ∀ b, b < o → h' b = h b) := by
  refine xt_o ok_M_init rfl rfl ?_
  refine xw_aloadR_n dd_M_init_0 rfl ?_
  refine xw_objInit ol_M_1 wo_in wo_co (by decide) (by decide) dd_M_init_1 ?_
  have I0 : mi_at h h o 0 [.int 0, .int 0, .null, .null, .null, .null, .null, .int 0, .int 0, .null, .int 0, .null, .null, .int 0, .int 0, .null, .null, .null, .null, .null, .null, .null, .null, .null, .null, .null, .null, .null] := ⟨ha, fun j j1 j2 => by omega, fun _ _ => rfl⟩
  refine xw_aloadR_n dd_M_init_4 rfl ?_
  refine xw_bipush 20 dd_M_init_5 (by decide) ?_
  refine xw_less (kc' := 20 + 1) (ks' := 4443 + 20) (by decide) (by decide) ?_
  refine xw_inewA (N := 20) dd_M_init_7 (by decide) (by decide) (by decide) (fun a1 m1 f1 => ?_)
  rw [show o + 1 + 1 = o + 2 from rfl]
  have J1 : mi_at h a1 o 1 [.int 0, .int 0, .null, .null, .null, .null, .null, .int 0, .int 0, .null, .int 0, .null, .null, .int 0, .int 0, .null, .null, .null, .null, .null, .null, .null, .null, .null, .null, .null, .null, .null] := I0.new m1 f1
  refine xw_putA fl_M_7 fz_M_7 (by decide) dd_M_init_9 J1.1 rfl hB rfl rfl (fun b1 u1 v1 => ?_)
  have I1 : mi_at h b1 o 1 [.int 0, .int 0, .ref (o + 1), .null, .null, .null, .null, .int 0, .int 0, .null, .int 0, .null, .null, .int 0, .int 0, .null, .null, .null, .null, .null, .null, .null, .null, .null, .null, .null, .null, .null] := J1.put u1 v1
  refine xw_aloadR_n dd_M_init_12 rfl ?_
  refine xw_bipush 20 dd_M_init_13 (by decide) ?_
  refine xw_less (kc' := 19 + 1) (ks' := 4423 + 20) (by decide) (by decide) ?_
  refine xw_inewA (N := 20) dd_M_init_15 (by decide) (by decide) (by decide) (fun a2 m2 f2 => ?_)
  rw [show o + 2 + 1 = o + 3 from rfl]
  have J2 : mi_at h a2 o 2 [.int 0, .int 0, .ref (o + 1), .null, .null, .null, .null, .int 0, .int 0, .null, .int 0, .null, .null, .int 0, .int 0, .null, .null, .null, .null, .null, .null, .null, .null, .null, .null, .null, .null, .null] := I1.new m2 f2
  refine xw_putA fl_M_13 fz_M_13 (by decide) dd_M_init_17 J2.1 rfl hB rfl rfl (fun b2 u2 v2 => ?_)
  have I2 : mi_at h b2 o 2 [.int 0, .int 0, .ref (o + 1), .ref (o + 2), .null, .null, .null, .int 0, .int 0, .null, .int 0, .null, .null, .int 0, .int 0, .null, .null, .null, .null, .null, .null, .null, .null, .null, .null, .null, .null, .null] := J2.put u2 v2
  refine xw_aloadR_n dd_M_init_20 rfl ?_
  refine xw_bipush 20 dd_M_init_21 (by decide) ?_
  refine xw_less (kc' := 18 + 1) (ks' := 4403 + 20) (by decide) (by decide) ?_
  refine xw_inewA (N := 20) dd_M_init_23 (by decide) (by decide) (by decide) (fun a3 m3 f3 => ?_)
  rw [show o + 3 + 1 = o + 4 from rfl]
  have J3 : mi_at h a3 o 3 [.int 0, .int 0, .ref (o + 1), .ref (o + 2), .null, .null, .null, .int 0, .int 0, .null, .int 0, .null, .null, .int 0, .int 0, .null, .null, .null, .null, .null, .null, .null, .null, .null, .null, .null, .null, .null] := I2.new m3 f3
  refine xw_putA fl_M_16 fz_M_16 (by decide) dd_M_init_25 J3.1 rfl hB rfl rfl (fun b3 u3 v3 => ?_)
  have I3 : mi_at h b3 o 3 [.int 0, .int 0, .ref (o + 1), .ref (o + 2), .ref (o + 3), .null, .null, .int 0, .int 0, .null, .int 0, .null, .null, .int 0, .int 0, .null, .null, .null, .null, .null, .null, .null, .null, .null, .null, .null, .null, .null] := J3.put u3 v3
  refine xw_aloadR_n dd_M_init_28 rfl ?_
  refine xw_bipush 20 dd_M_init_29 (by decide) ?_
  refine xw_less (kc' := 17 + 1) (ks' := 4383 + 20) (by decide) (by decide) ?_
  refine xw_inewA (N := 20) dd_M_init_31 (by decide) (by decide) (by decide) (fun a4 m4 f4 => ?_)
  rw [show o + 4 + 1 = o + 5 from rfl]
  have J4 : mi_at h a4 o 4 [.int 0, .int 0, .ref (o + 1), .ref (o + 2), .ref (o + 3), .null, .null, .int 0, .int 0, .null, .int 0, .null, .null, .int 0, .int 0, .null, .null, .null, .null, .null, .null, .null, .null, .null, .null, .null, .null, .null] := I3.new m4 f4
  refine xw_putA fl_M_19 fz_M_19 (by decide) dd_M_init_33 J4.1 rfl hB rfl rfl (fun b4 u4 v4 => ?_)
  have I4 : mi_at h b4 o 4 [.int 0, .int 0, .ref (o + 1), .ref (o + 2), .ref (o + 3), .ref (o + 4), .null, .int 0, .int 0, .null, .int 0, .null, .null, .int 0, .int 0, .null, .null, .null, .null, .null, .null, .null, .null, .null, .null, .null, .null, .null] := J4.put u4 v4
  refine xw_aloadR_n dd_M_init_36 rfl ?_
  refine xw_bipush 20 dd_M_init_37 (by decide) ?_
  refine xw_less (kc' := 16 + 1) (ks' := 4363 + 20) (by decide) (by decide) ?_
  refine xw_inewA (N := 20) dd_M_init_39 (by decide) (by decide) (by decide) (fun a5 m5 f5 => ?_)
  rw [show o + 5 + 1 = o + 6 from rfl]
  have J5 : mi_at h a5 o 5 [.int 0, .int 0, .ref (o + 1), .ref (o + 2), .ref (o + 3), .ref (o + 4), .null, .int 0, .int 0, .null, .int 0, .null, .null, .int 0, .int 0, .null, .null, .null, .null, .null, .null, .null, .null, .null, .null, .null, .null, .null] := I4.new m5 f5
  refine xw_putA fl_M_22 fz_M_22 (by decide) dd_M_init_41 J5.1 rfl hB rfl rfl (fun b5 u5 v5 => ?_)
  have I5 : mi_at h b5 o 5 [.int 0, .int 0, .ref (o + 1), .ref (o + 2), .ref (o + 3), .ref (o + 4), .ref (o + 5), .int 0, .int 0, .null, .int 0, .null, .null, .int 0, .int 0, .null, .null, .null, .null, .null, .null, .null, .null, .null, .null, .null, .null, .null] := J5.put u5 v5
  refine xw_aloadR_n dd_M_init_44 rfl ?_
  refine xw_iconst 1 dd_M_init_45 (by decide) ?_
  refine xw_putA fl_M_25 fz_M_25 (by decide) dd_M_init_46 I5.1 rfl hB rfl rfl (fun b6 u6 v6 => ?_)
  have I6 : mi_at h b6 o 5 [.int 0, .int 0, .ref (o + 1), .ref (o + 2), .ref (o + 3), .ref (o + 4), .ref (o + 5), .int 0, .int 1, .null, .int 0, .null, .null, .int 0, .int 0, .null, .null, .null, .null, .null, .null, .null, .null, .null, .null, .null, .null, .null] := I5.put u6 v6
  refine xw_aloadR_n dd_M_init_49 rfl ?_
  refine xw_bipush 96 dd_M_init_50 (by decide) ?_
  refine xw_less (kc' := 15 + 1) (ks' := 4267 + 96) (by decide) (by decide) ?_
  refine xw_inewA (N := 96) dd_M_init_52 (by decide) (by decide) (by decide) (fun a6 m6 f6 => ?_)
  rw [show o + 6 + 1 = o + 7 from rfl]
  have J6 : mi_at h a6 o 6 [.int 0, .int 0, .ref (o + 1), .ref (o + 2), .ref (o + 3), .ref (o + 4), .ref (o + 5), .int 0, .int 1, .null, .int 0, .null, .null, .int 0, .int 0, .null, .null, .null, .null, .null, .null, .null, .null, .null, .null, .null, .null, .null] := I6.new m6 f6
  refine xw_putA fl_M_29 fz_M_29 (by decide) dd_M_init_54 J6.1 rfl hB rfl rfl (fun b7 u7 v7 => ?_)
  have I7 : mi_at h b7 o 6 [.int 0, .int 0, .ref (o + 1), .ref (o + 2), .ref (o + 3), .ref (o + 4), .ref (o + 5), .int 0, .int 1, .ref (o + 6), .int 0, .null, .null, .int 0, .int 0, .null, .null, .null, .null, .null, .null, .null, .null, .null, .null, .null, .null, .null] := J6.put u7 v7
  refine xw_aloadR_n dd_M_init_57 rfl ?_
  refine xw_iconst 4 dd_M_init_58 (by decide) ?_
  refine xw_less (kc' := 14 + 1) (ks' := 4263 + 4) (by decide) (by decide) ?_
  refine xw_inewA (N := 4) dd_M_init_59 (by decide) (by decide) (by decide) (fun a7 m7 f7 => ?_)
  rw [show o + 7 + 1 = o + 8 from rfl]
  have J7 : mi_at h a7 o 7 [.int 0, .int 0, .ref (o + 1), .ref (o + 2), .ref (o + 3), .ref (o + 4), .ref (o + 5), .int 0, .int 1, .ref (o + 6), .int 0, .null, .null, .int 0, .int 0, .null, .null, .null, .null, .null, .null, .null, .null, .null, .null, .null, .null, .null] := I7.new m7 f7
  refine xw_putA fl_M_32 fz_M_32 (by decide) dd_M_init_61 J7.1 rfl hB rfl rfl (fun b8 u8 v8 => ?_)
  have I8 : mi_at h b8 o 7 [.int 0, .int 0, .ref (o + 1), .ref (o + 2), .ref (o + 3), .ref (o + 4), .ref (o + 5), .int 0, .int 1, .ref (o + 6), .int 0, .ref (o + 7), .null, .int 0, .int 0, .null, .null, .null, .null, .null, .null, .null, .null, .null, .null, .null, .null, .null] := J7.put u8 v8
  refine xw_aloadR_n dd_M_init_64 rfl ?_
  refine xw_iconst 4 dd_M_init_65 (by decide) ?_
  refine xw_less (kc' := 13 + 1) (ks' := 4259 + 4) (by decide) (by decide) ?_
  refine xw_inewA (N := 4) dd_M_init_66 (by decide) (by decide) (by decide) (fun a8 m8 f8 => ?_)
  rw [show o + 8 + 1 = o + 9 from rfl]
  have J8 : mi_at h a8 o 8 [.int 0, .int 0, .ref (o + 1), .ref (o + 2), .ref (o + 3), .ref (o + 4), .ref (o + 5), .int 0, .int 1, .ref (o + 6), .int 0, .ref (o + 7), .null, .int 0, .int 0, .null, .null, .null, .null, .null, .null, .null, .null, .null, .null, .null, .null, .null] := I8.new m8 f8
  refine xw_putA fl_M_35 fz_M_35 (by decide) dd_M_init_68 J8.1 rfl hB rfl rfl (fun b9 u9 v9 => ?_)
  have I9 : mi_at h b9 o 8 [.int 0, .int 0, .ref (o + 1), .ref (o + 2), .ref (o + 3), .ref (o + 4), .ref (o + 5), .int 0, .int 1, .ref (o + 6), .int 0, .ref (o + 7), .ref (o + 8), .int 0, .int 0, .null, .null, .null, .null, .null, .null, .null, .null, .null, .null, .null, .null, .null] := J8.put u9 v9
  refine xw_aloadR_n dd_M_init_71 rfl ?_
  refine xw_iconst (-1) dd_M_init_72 (by decide) ?_
  refine xw_putA fl_M_38 fz_M_38 (by decide) dd_M_init_73 I9.1 rfl hB rfl rfl (fun b10 u10 v10 => ?_)
  have I10 : mi_at h b10 o 8 [.int 0, .int 0, .ref (o + 1), .ref (o + 2), .ref (o + 3), .ref (o + 4), .ref (o + 5), .int 0, .int 1, .ref (o + 6), .int 0, .ref (o + 7), .ref (o + 8), .int 0, .int (-1), .null, .null, .null, .null, .null, .null, .null, .null, .null, .null, .null, .null, .null] := I9.put u10 v10
  refine xw_aloadR_n dd_M_init_76 rfl ?_
  refine xw_iconst 3 dd_M_init_77 (by decide) ?_
  refine xw_less (kc' := 12 + 1) (ks' := 4256 + 3) (by decide) (by decide) ?_
  refine xw_inewA (N := 3) dd_M_init_78 (by decide) (by decide) (by decide) (fun a9 m9 f9 => ?_)
  rw [show o + 9 + 1 = o + 10 from rfl]
  have J9 : mi_at h a9 o 9 [.int 0, .int 0, .ref (o + 1), .ref (o + 2), .ref (o + 3), .ref (o + 4), .ref (o + 5), .int 0, .int 1, .ref (o + 6), .int 0, .ref (o + 7), .ref (o + 8), .int 0, .int (-1), .null, .null, .null, .null, .null, .null, .null, .null, .null, .null, .null, .null, .null] := I10.new m9 f9
  refine xw_putA fl_M_41 fz_M_41 (by decide) dd_M_init_80 J9.1 rfl hB rfl rfl (fun b11 u11 v11 => ?_)
  have I11 : mi_at h b11 o 9 [.int 0, .int 0, .ref (o + 1), .ref (o + 2), .ref (o + 3), .ref (o + 4), .ref (o + 5), .int 0, .int 1, .ref (o + 6), .int 0, .ref (o + 7), .ref (o + 8), .int 0, .int (-1), .ref (o + 9), .null, .null, .null, .null, .null, .null, .null, .null, .null, .null, .null, .null] := J9.put u11 v11
  refine xw_aloadR_n dd_M_init_83 rfl ?_
  refine xw_iconst 3 dd_M_init_84 (by decide) ?_
  refine xw_less (kc' := 11 + 1) (ks' := 4253 + 3) (by decide) (by decide) ?_
  refine xw_inewA (N := 3) dd_M_init_85 (by decide) (by decide) (by decide) (fun a10 m10 f10 => ?_)
  rw [show o + 10 + 1 = o + 11 from rfl]
  have J10 : mi_at h a10 o 10 [.int 0, .int 0, .ref (o + 1), .ref (o + 2), .ref (o + 3), .ref (o + 4), .ref (o + 5), .int 0, .int 1, .ref (o + 6), .int 0, .ref (o + 7), .ref (o + 8), .int 0, .int (-1), .ref (o + 9), .null, .null, .null, .null, .null, .null, .null, .null, .null, .null, .null, .null] := I11.new m10 f10
  refine xw_putA fl_M_44 fz_M_44 (by decide) dd_M_init_87 J10.1 rfl hB rfl rfl (fun b12 u12 v12 => ?_)
  have I12 : mi_at h b12 o 10 [.int 0, .int 0, .ref (o + 1), .ref (o + 2), .ref (o + 3), .ref (o + 4), .ref (o + 5), .int 0, .int 1, .ref (o + 6), .int 0, .ref (o + 7), .ref (o + 8), .int 0, .int (-1), .ref (o + 9), .ref (o + 10), .null, .null, .null, .null, .null, .null, .null, .null, .null, .null, .null] := J10.put u12 v12
  refine xw_aloadR_n dd_M_init_90 rfl ?_
  refine xw_iconst 3 dd_M_init_91 (by decide) ?_
  refine xw_less (kc' := 10 + 1) (ks' := 4250 + 3) (by decide) (by decide) ?_
  refine xw_znewA (N := 3) dd_M_init_92 (by decide) (by decide) (by decide) (fun a11 m11 f11 => ?_)
  rw [show o + 11 + 1 = o + 12 from rfl]
  have J11 : mi_at h a11 o 11 [.int 0, .int 0, .ref (o + 1), .ref (o + 2), .ref (o + 3), .ref (o + 4), .ref (o + 5), .int 0, .int 1, .ref (o + 6), .int 0, .ref (o + 7), .ref (o + 8), .int 0, .int (-1), .ref (o + 9), .ref (o + 10), .null, .null, .null, .null, .null, .null, .null, .null, .null, .null, .null] := I12.new m11 f11
  refine xw_putA fl_M_47 fz_M_47 (by decide) dd_M_init_94 J11.1 rfl hB rfl rfl (fun b13 u13 v13 => ?_)
  have I13 : mi_at h b13 o 11 [.int 0, .int 0, .ref (o + 1), .ref (o + 2), .ref (o + 3), .ref (o + 4), .ref (o + 5), .int 0, .int 1, .ref (o + 6), .int 0, .ref (o + 7), .ref (o + 8), .int 0, .int (-1), .ref (o + 9), .ref (o + 10), .ref (o + 11), .null, .null, .null, .null, .null, .null, .null, .null, .null, .null] := J11.put u13 v13
  refine xw_aloadR_n dd_M_init_97 rfl ?_
  refine xw_iconst 3 dd_M_init_98 (by decide) ?_
  refine xw_less (kc' := 9 + 1) (ks' := 4247 + 3) (by decide) (by decide) ?_
  refine xw_inewA (N := 3) dd_M_init_99 (by decide) (by decide) (by decide) (fun a12 m12 f12 => ?_)
  rw [show o + 12 + 1 = o + 13 from rfl]
  have J12 : mi_at h a12 o 12 [.int 0, .int 0, .ref (o + 1), .ref (o + 2), .ref (o + 3), .ref (o + 4), .ref (o + 5), .int 0, .int 1, .ref (o + 6), .int 0, .ref (o + 7), .ref (o + 8), .int 0, .int (-1), .ref (o + 9), .ref (o + 10), .ref (o + 11), .null, .null, .null, .null, .null, .null, .null, .null, .null, .null] := I13.new m12 f12
  refine xw_putA fl_M_51 fz_M_51 (by decide) dd_M_init_101 J12.1 rfl hB rfl rfl (fun b14 u14 v14 => ?_)
  have I14 : mi_at h b14 o 12 [.int 0, .int 0, .ref (o + 1), .ref (o + 2), .ref (o + 3), .ref (o + 4), .ref (o + 5), .int 0, .int 1, .ref (o + 6), .int 0, .ref (o + 7), .ref (o + 8), .int 0, .int (-1), .ref (o + 9), .ref (o + 10), .ref (o + 11), .ref (o + 12), .null, .null, .null, .null, .null, .null, .null, .null, .null] := J12.put u14 v14
  refine xw_aloadR_n dd_M_init_104 rfl ?_
  refine xw_bipush 12 dd_M_init_105 (by decide) ?_
  refine xw_less (kc' := 8 + 1) (ks' := 4235 + 12) (by decide) (by decide) ?_
  refine xw_inewA (N := 12) dd_M_init_107 (by decide) (by decide) (by decide) (fun a13 m13 f13 => ?_)
  rw [show o + 13 + 1 = o + 14 from rfl]
  have J13 : mi_at h a13 o 13 [.int 0, .int 0, .ref (o + 1), .ref (o + 2), .ref (o + 3), .ref (o + 4), .ref (o + 5), .int 0, .int 1, .ref (o + 6), .int 0, .ref (o + 7), .ref (o + 8), .int 0, .int (-1), .ref (o + 9), .ref (o + 10), .ref (o + 11), .ref (o + 12), .null, .null, .null, .null, .null, .null, .null, .null, .null] := I14.new m13 f13
  refine xw_putA fl_M_54 fz_M_54 (by decide) dd_M_init_109 J13.1 rfl hB rfl rfl (fun b15 u15 v15 => ?_)
  have I15 : mi_at h b15 o 13 [.int 0, .int 0, .ref (o + 1), .ref (o + 2), .ref (o + 3), .ref (o + 4), .ref (o + 5), .int 0, .int 1, .ref (o + 6), .int 0, .ref (o + 7), .ref (o + 8), .int 0, .int (-1), .ref (o + 9), .ref (o + 10), .ref (o + 11), .ref (o + 12), .ref (o + 13), .null, .null, .null, .null, .null, .null, .null, .null] := J13.put u15 v15
  refine xw_aloadR_n dd_M_init_112 rfl ?_
  refine xw_iconst 3 dd_M_init_113 (by decide) ?_
  refine xw_less (kc' := 7 + 1) (ks' := 4232 + 3) (by decide) (by decide) ?_
  refine xw_inewA (N := 3) dd_M_init_114 (by decide) (by decide) (by decide) (fun a14 m14 f14 => ?_)
  rw [show o + 14 + 1 = o + 15 from rfl]
  have J14 : mi_at h a14 o 14 [.int 0, .int 0, .ref (o + 1), .ref (o + 2), .ref (o + 3), .ref (o + 4), .ref (o + 5), .int 0, .int 1, .ref (o + 6), .int 0, .ref (o + 7), .ref (o + 8), .int 0, .int (-1), .ref (o + 9), .ref (o + 10), .ref (o + 11), .ref (o + 12), .ref (o + 13), .null, .null, .null, .null, .null, .null, .null, .null] := I15.new m14 f14
  refine xw_putA fl_M_57 fz_M_57 (by decide) dd_M_init_116 J14.1 rfl hB rfl rfl (fun b16 u16 v16 => ?_)
  have I16 : mi_at h b16 o 14 [.int 0, .int 0, .ref (o + 1), .ref (o + 2), .ref (o + 3), .ref (o + 4), .ref (o + 5), .int 0, .int 1, .ref (o + 6), .int 0, .ref (o + 7), .ref (o + 8), .int 0, .int (-1), .ref (o + 9), .ref (o + 10), .ref (o + 11), .ref (o + 12), .ref (o + 13), .ref (o + 14), .null, .null, .null, .null, .null, .null, .null] := J14.put u16 v16
  refine xw_aloadR_n dd_M_init_119 rfl ?_
  refine xw_sipush 840 dd_M_init_120 (by decide) ?_
  refine xw_less (kc' := 6 + 1) (ks' := 3392 + 840) (by decide) (by decide) ?_
  refine xw_inewA (N := 840) dd_M_init_123 (by decide) (by decide) (by decide) (fun a15 m15 f15 => ?_)
  rw [show o + 15 + 1 = o + 16 from rfl]
  have J15 : mi_at h a15 o 15 [.int 0, .int 0, .ref (o + 1), .ref (o + 2), .ref (o + 3), .ref (o + 4), .ref (o + 5), .int 0, .int 1, .ref (o + 6), .int 0, .ref (o + 7), .ref (o + 8), .int 0, .int (-1), .ref (o + 9), .ref (o + 10), .ref (o + 11), .ref (o + 12), .ref (o + 13), .ref (o + 14), .null, .null, .null, .null, .null, .null, .null] := I16.new m15 f15
  refine xw_putA fl_M_60 fz_M_60 (by decide) dd_M_init_125 J15.1 rfl hB rfl rfl (fun b17 u17 v17 => ?_)
  have I17 : mi_at h b17 o 15 [.int 0, .int 0, .ref (o + 1), .ref (o + 2), .ref (o + 3), .ref (o + 4), .ref (o + 5), .int 0, .int 1, .ref (o + 6), .int 0, .ref (o + 7), .ref (o + 8), .int 0, .int (-1), .ref (o + 9), .ref (o + 10), .ref (o + 11), .ref (o + 12), .ref (o + 13), .ref (o + 14), .ref (o + 15), .null, .null, .null, .null, .null, .null] := J15.put u17 v17
  refine xw_aloadR_n dd_M_init_128 rfl ?_
  refine xw_sipush 840 dd_M_init_129 (by decide) ?_
  refine xw_less (kc' := 5 + 1) (ks' := 2552 + 840) (by decide) (by decide) ?_
  refine xw_inewA (N := 840) dd_M_init_132 (by decide) (by decide) (by decide) (fun a16 m16 f16 => ?_)
  rw [show o + 16 + 1 = o + 17 from rfl]
  have J16 : mi_at h a16 o 16 [.int 0, .int 0, .ref (o + 1), .ref (o + 2), .ref (o + 3), .ref (o + 4), .ref (o + 5), .int 0, .int 1, .ref (o + 6), .int 0, .ref (o + 7), .ref (o + 8), .int 0, .int (-1), .ref (o + 9), .ref (o + 10), .ref (o + 11), .ref (o + 12), .ref (o + 13), .ref (o + 14), .ref (o + 15), .null, .null, .null, .null, .null, .null] := I17.new m16 f16
  refine xw_putA fl_M_63 fz_M_63 (by decide) dd_M_init_134 J16.1 rfl hB rfl rfl (fun b18 u18 v18 => ?_)
  have I18 : mi_at h b18 o 16 [.int 0, .int 0, .ref (o + 1), .ref (o + 2), .ref (o + 3), .ref (o + 4), .ref (o + 5), .int 0, .int 1, .ref (o + 6), .int 0, .ref (o + 7), .ref (o + 8), .int 0, .int (-1), .ref (o + 9), .ref (o + 10), .ref (o + 11), .ref (o + 12), .ref (o + 13), .ref (o + 14), .ref (o + 15), .ref (o + 16), .null, .null, .null, .null, .null] := J16.put u18 v18
  refine xw_aloadR_n dd_M_init_137 rfl ?_
  refine xw_sipush 840 dd_M_init_138 (by decide) ?_
  refine xw_less (kc' := 4 + 1) (ks' := 1712 + 840) (by decide) (by decide) ?_
  refine xw_inewA (N := 840) dd_M_init_141 (by decide) (by decide) (by decide) (fun a17 m17 f17 => ?_)
  rw [show o + 17 + 1 = o + 18 from rfl]
  have J17 : mi_at h a17 o 17 [.int 0, .int 0, .ref (o + 1), .ref (o + 2), .ref (o + 3), .ref (o + 4), .ref (o + 5), .int 0, .int 1, .ref (o + 6), .int 0, .ref (o + 7), .ref (o + 8), .int 0, .int (-1), .ref (o + 9), .ref (o + 10), .ref (o + 11), .ref (o + 12), .ref (o + 13), .ref (o + 14), .ref (o + 15), .ref (o + 16), .null, .null, .null, .null, .null] := I18.new m17 f17
  refine xw_putA fl_M_66 fz_M_66 (by decide) dd_M_init_143 J17.1 rfl hB rfl rfl (fun b19 u19 v19 => ?_)
  have I19 : mi_at h b19 o 17 [.int 0, .int 0, .ref (o + 1), .ref (o + 2), .ref (o + 3), .ref (o + 4), .ref (o + 5), .int 0, .int 1, .ref (o + 6), .int 0, .ref (o + 7), .ref (o + 8), .int 0, .int (-1), .ref (o + 9), .ref (o + 10), .ref (o + 11), .ref (o + 12), .ref (o + 13), .ref (o + 14), .ref (o + 15), .ref (o + 16), .ref (o + 17), .null, .null, .null, .null] := J17.put u19 v19
  refine xw_aloadR_n dd_M_init_146 rfl ?_
  refine xw_sipush 840 dd_M_init_147 (by decide) ?_
  refine xw_less (kc' := 3 + 1) (ks' := 872 + 840) (by decide) (by decide) ?_
  refine xw_inewA (N := 840) dd_M_init_150 (by decide) (by decide) (by decide) (fun a18 m18 f18 => ?_)
  rw [show o + 18 + 1 = o + 19 from rfl]
  have J18 : mi_at h a18 o 18 [.int 0, .int 0, .ref (o + 1), .ref (o + 2), .ref (o + 3), .ref (o + 4), .ref (o + 5), .int 0, .int 1, .ref (o + 6), .int 0, .ref (o + 7), .ref (o + 8), .int 0, .int (-1), .ref (o + 9), .ref (o + 10), .ref (o + 11), .ref (o + 12), .ref (o + 13), .ref (o + 14), .ref (o + 15), .ref (o + 16), .ref (o + 17), .null, .null, .null, .null] := I19.new m18 f18
  refine xw_putA fl_M_69 fz_M_69 (by decide) dd_M_init_152 J18.1 rfl hB rfl rfl (fun b20 u20 v20 => ?_)
  have I20 : mi_at h b20 o 18 [.int 0, .int 0, .ref (o + 1), .ref (o + 2), .ref (o + 3), .ref (o + 4), .ref (o + 5), .int 0, .int 1, .ref (o + 6), .int 0, .ref (o + 7), .ref (o + 8), .int 0, .int (-1), .ref (o + 9), .ref (o + 10), .ref (o + 11), .ref (o + 12), .ref (o + 13), .ref (o + 14), .ref (o + 15), .ref (o + 16), .ref (o + 17), .ref (o + 18), .null, .null, .null] := J18.put u20 v20
  refine xw_aloadR_n dd_M_init_155 rfl ?_
  refine xw_sipush 840 dd_M_init_156 (by decide) ?_
  refine xw_less (kc' := 2 + 1) (ks' := 32 + 840) (by decide) (by decide) ?_
  refine xw_inewA (N := 840) dd_M_init_159 (by decide) (by decide) (by decide) (fun a19 m19 f19 => ?_)
  rw [show o + 19 + 1 = o + 20 from rfl]
  have J19 : mi_at h a19 o 19 [.int 0, .int 0, .ref (o + 1), .ref (o + 2), .ref (o + 3), .ref (o + 4), .ref (o + 5), .int 0, .int 1, .ref (o + 6), .int 0, .ref (o + 7), .ref (o + 8), .int 0, .int (-1), .ref (o + 9), .ref (o + 10), .ref (o + 11), .ref (o + 12), .ref (o + 13), .ref (o + 14), .ref (o + 15), .ref (o + 16), .ref (o + 17), .ref (o + 18), .null, .null, .null] := I20.new m19 f19
  refine xw_putA fl_M_72 fz_M_72 (by decide) dd_M_init_161 J19.1 rfl hB rfl rfl (fun b21 u21 v21 => ?_)
  have I21 : mi_at h b21 o 19 [.int 0, .int 0, .ref (o + 1), .ref (o + 2), .ref (o + 3), .ref (o + 4), .ref (o + 5), .int 0, .int 1, .ref (o + 6), .int 0, .ref (o + 7), .ref (o + 8), .int 0, .int (-1), .ref (o + 9), .ref (o + 10), .ref (o + 11), .ref (o + 12), .ref (o + 13), .ref (o + 14), .ref (o + 15), .ref (o + 16), .ref (o + 17), .ref (o + 18), .ref (o + 19), .null, .null] := J19.put u21 v21
  refine xw_aloadR_n dd_M_init_164 rfl ?_
  refine xw_bipush 16 dd_M_init_165 (by decide) ?_
  refine xw_less (kc' := 1 + 1) (ks' := 16 + 16) (by decide) (by decide) ?_
  refine xw_inewA (N := 16) dd_M_init_167 (by decide) (by decide) (by decide) (fun a20 m20 f20 => ?_)
  rw [show o + 20 + 1 = o + 21 from rfl]
  have J20 : mi_at h a20 o 20 [.int 0, .int 0, .ref (o + 1), .ref (o + 2), .ref (o + 3), .ref (o + 4), .ref (o + 5), .int 0, .int 1, .ref (o + 6), .int 0, .ref (o + 7), .ref (o + 8), .int 0, .int (-1), .ref (o + 9), .ref (o + 10), .ref (o + 11), .ref (o + 12), .ref (o + 13), .ref (o + 14), .ref (o + 15), .ref (o + 16), .ref (o + 17), .ref (o + 18), .ref (o + 19), .null, .null] := I21.new m20 f20
  refine xw_putA fl_M_75 fz_M_75 (by decide) dd_M_init_169 J20.1 rfl hB rfl rfl (fun b22 u22 v22 => ?_)
  have I22 : mi_at h b22 o 20 [.int 0, .int 0, .ref (o + 1), .ref (o + 2), .ref (o + 3), .ref (o + 4), .ref (o + 5), .int 0, .int 1, .ref (o + 6), .int 0, .ref (o + 7), .ref (o + 8), .int 0, .int (-1), .ref (o + 9), .ref (o + 10), .ref (o + 11), .ref (o + 12), .ref (o + 13), .ref (o + 14), .ref (o + 15), .ref (o + 16), .ref (o + 17), .ref (o + 18), .ref (o + 19), .ref (o + 20), .null] := J20.put u22 v22
  refine xw_aloadR_n dd_M_init_172 rfl ?_
  refine xw_bipush 16 dd_M_init_173 (by decide) ?_
  refine xw_less (kc' := 0 + 1) (ks' := 0 + 16) (by decide) (by decide) ?_
  refine xw_inewA (N := 16) dd_M_init_175 (by decide) (by decide) (by decide) (fun a21 m21 f21 => ?_)
  rw [show o + 21 + 1 = o + 22 from rfl]
  have J21 : mi_at h a21 o 21 [.int 0, .int 0, .ref (o + 1), .ref (o + 2), .ref (o + 3), .ref (o + 4), .ref (o + 5), .int 0, .int 1, .ref (o + 6), .int 0, .ref (o + 7), .ref (o + 8), .int 0, .int (-1), .ref (o + 9), .ref (o + 10), .ref (o + 11), .ref (o + 12), .ref (o + 13), .ref (o + 14), .ref (o + 15), .ref (o + 16), .ref (o + 17), .ref (o + 18), .ref (o + 19), .ref (o + 20), .null] := I22.new m21 f21
  refine xw_putA fl_M_78 fz_M_78 (by decide) dd_M_init_177 J21.1 rfl hB rfl rfl (fun b23 u23 v23 => ?_)
  have I23 : mi_at h b23 o 21 [.int 0, .int 0, .ref (o + 1), .ref (o + 2), .ref (o + 3), .ref (o + 4), .ref (o + 5), .int 0, .int 1, .ref (o + 6), .int 0, .ref (o + 7), .ref (o + 8), .int 0, .int (-1), .ref (o + 9), .ref (o + 10), .ref (o + 11), .ref (o + 12), .ref (o + 13), .ref (o + 14), .ref (o + 15), .ref (o + 16), .ref (o + 17), .ref (o + 18), .ref (o + 19), .ref (o + 20), .ref (o + 21)] := J21.put u23 v23
  have H0 : mo_at G b23 o mo_K0 (fun _ _ => 0) := ⟨I23.1, I23.2.1, hB⟩
  exact mi_loop H0 (fun h' A' H' V' S' fr => ⟨rfl, rfl, ⟨_, A', H', V', S'⟩, fun b hb => (fr b (Or.inl hb)).trans (I23.2.2 b hb)⟩)
end SI
