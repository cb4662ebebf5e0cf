/-! copies: the model's list against the program's -/
def ms_put (ms : List sv_E) (e : sv_E) : List sv_E := match ms.findIdx? (fun a => decide (a.1 = e.1)) with
  | none => ms ++ [e]
  | some i => ms.set i e
def ms_del (ms : List sv_E) (f : Int32) : List sv_E := match ms.findIdx? (fun a => decide (a.1 = f)) with
  | none => ms
  | some i => ms_out ms i
def ms_now (fs ms : List sv_E) (f : Int32) : List sv_E := match sv_find fs f with
  | some e => ms_put ms e
  | none => ms_del ms f
theorem fx_none {l : List sv_E} {f : Int32} (h : l.find? (fun a => decide (a.1 = f)) = none) : ∀ b ∈ l, b.1 ≠ f := fun b hb => by
  have := List.find?_eq_none.mp h b hb
  simpa using this
theorem rP.len {ms cs : List sv_E} (H : rP ms cs) (hs : sv_srt cs) : ms.length = cs.length := Nat.le_antisymm (dn_len H.1 (fun e he => (H.2 e).mp he)) (dn_len (srt_dn hs) (fun e he => (H.2 e).mpr he))
theorem mem_mp {ms : List sv_E} {e' : sv_E} (hp : dn ms) : dn (ms_put ms e') ∧ ∀ e, e ∈ ms_put ms e' ↔ e = e' ∨ (e ∈ ms ∧ e.1 ≠ e'.1) := by
  unfold ms_put
  rcases fx (fun a : sv_E => decide (a.1 = e'.1)) ms with ⟨w1, w2⟩ | ⟨i, a, he, w1, w2, w3, -⟩
  · rw [w2]
    have := fun e => mem_ap (e := e) (e' := e') hp (fx_none w1)
    exact ⟨(this e').2, fun e => (this e).1⟩
  · rw [w2]
    have ha : a.1 = e'.1 := by simpa using w3
    have := fun e => mem_st (e := e) (e' := e') hp he (Or.inl ha.symm)
    exact ⟨(this e').2, fun e => by rw [(this e).1, ha]⟩
theorem mem_md {ms : List sv_E} {f : Int32} (hp : dn ms) : dn (ms_del ms f) ∧ ∀ e, e ∈ ms_del ms f ↔ e ∈ ms ∧ e.1 ≠ f := by
  unfold ms_del
  rcases fx (fun a : sv_E => decide (a.1 = f)) ms with ⟨w1, w2⟩ | ⟨i, a, he, w1, w2, w3, -⟩
  · rw [w2]
    exact ⟨hp, fun e => ⟨fun q => ⟨q, fx_none w1 e q⟩, fun q => q.1⟩⟩
  · rw [w2]
    have ha : a.1 = f := by simpa using w3
    have := fun e => mem_out (e := e) hp he
    exact ⟨(this a).2, fun e => by rw [(this e).1, ha]⟩
theorem rP_put {ms cs : List sv_E} {e : sv_E} (H : rP ms cs) (hs : sv_srt cs) (hl : cs.length < 512) : rP (ms_put ms e) (sv_put cs 512 e) := by
  obtain ⟨q1, q2⟩ := mem_mp (e' := e) H.1
  refine ⟨q1, fun x => ?_⟩
  rw [q2, mem_put hs hl, H.2]
theorem rP_del {ms cs : List sv_E} {f : Int32} (H : rP ms cs) (hs : sv_srt cs) : rP (ms_del ms f) (cs.eraseP (fun e => decide (e.1 = f))) := by
  obtain ⟨q1, q2⟩ := mem_md (f := f) H.1
  refine ⟨q1, fun x => ?_⟩
  rw [q2, mem_er (srt_dn hs), H.2]
theorem find_1 {fs : List sv_E} {f : Int32} {e : sv_E} (h : sv_find fs f = some e) : e.1 = f ∧ e ∈ fs := ⟨by simpa using List.find?_some h, List.mem_of_find?_eq_some h⟩
theorem rP_live {fs ms : List sv_E} {C : List sv_E × Nat} {f : Int32} {e : sv_E} (h : sv_find fs f = some e) (H : rP ms C.1) (hs : sv_srt C.1) (hl : C.1.length < 512) : rP (ms_now fs ms f) (sv_now fs C f).1 := by
  unfold ms_now sv_now
  rw [h]
  exact rP_put H hs hl
theorem rP_now {fs ms : List sv_E} {C : List sv_E × Nat} {f : Int32} (H : rP ms C.1) (hs : sv_srt C.1) (hl : C.1.length < 512) : rP (ms_now fs ms f) (sv_now fs (sv_del C f) f).1 := by
  unfold ms_now sv_now
  cases h : sv_find fs f with
  | none => exact rP_del H hs
  | some e =>
    have hef := (find_1 h).1
    show rP (ms_put ms e) (sv_put (C.1.eraseP (fun e => decide (e.1 = f))) 512 e)
    obtain ⟨q1, q2⟩ := mem_mp (e' := e) H.1
    refine ⟨q1, fun x => ?_⟩
    have hle : (C.1.eraseP (fun e => decide (e.1 = f))).length ≤ C.1.length := List.Sublist.length_le (List.eraseP_sublist ..)
    rw [q2, mem_put (srt_er hs) (by omega), mem_er (srt_dn hs), H.2, hef]
    constructor
    · rintro (q | q)
      · exact Or.inl q
      · exact Or.inr ⟨q, q.2⟩
    · rintro (q | q)
      · exact Or.inl q
      · exact Or.inr q.1
/-- numbers that a copy can hold -/
def bd (l : List sv_E) : Prop := ∀ e ∈ l, 0 < e.1 ∧ e.1 < 270
theorem bd_in {x : Int32} (h : 0 < x ∧ x < 270) : x ∈ (List.range 269).map (fun k => nI (k + 1)) := by
  obtain ⟨k, hk, rfl⟩ := nI_of (Int32.not_lt.mpr (Int32.le_of_lt h.1))
  have h1 : k < 270 := (nI_ltI (b := 270) hk (by decide)).mp h.2
  have h0 : 0 < k := (nI_ltI (a := 0) (b := k) (by decide) hk).mp h.1
  exact List.mem_map.mpr ⟨k - 1, List.mem_range.mpr (by omega), by rw [Nat.sub_add_cancel h0]⟩
theorem bd_len {l : List sv_E} (hp : dn l) (h : bd l) : l.length ≤ 269 := by
  have := dn_bd hp (fun e he => bd_in (h e he))
  rw [List.length_map, List.length_range] at this
  exact this
theorem bd_put {cs : List sv_E} {e : sv_E} {m : Nat} (hs : sv_srt cs) (hl : cs.length < m) (h : bd cs) (he : 0 < e.1 ∧ e.1 < 270) : bd (sv_put cs m e) := by
  intro x hx
  rcases (mem_put hs hl).mp hx with q | q
  · rw [q]
    exact he
  · exact h x q.1
/-- a copy in order, with numbers that it can hold -/
def iC (cs : List sv_E) : Prop := sv_srt cs ∧ bd cs
theorem iC.len {cs : List sv_E} (H : iC cs) : cs.length ≤ 269 := bd_len (srt_dn H.1) H.2
theorem iC.put {cs : List sv_E} {e : sv_E} (H : iC cs) (he : 0 < e.1 ∧ e.1 < 270) : iC (sv_put cs 512 e) := by
  have := H.len
  exact ⟨srt_put H.1 (by omega), bd_put H.1 (by omega) H.2 he⟩
theorem iC.er {cs : List sv_E} {p : sv_E → Bool} (H : iC cs) : iC (cs.eraseP p) := ⟨srt_er H.1, fun e he => H.2 e (List.mem_of_mem_eraseP he)⟩
theorem iC.fl {cs : List sv_E} {p : sv_E → Bool} (H : iC cs) : iC (cs.filter p) := ⟨srt_fl H.1, fun e he => H.2 e (List.mem_filter.mp he).1⟩
theorem iC.now {fs : List sv_E} {C : List sv_E × Nat} {f : Int32} (hb : bd fs) (H : iC C.1) : iC (sv_now fs C f).1 := by
  unfold sv_now
  cases h : sv_find fs f with
  | none => exact H
  | some e => exact iC.put H (hb e (find_1 h).2)
theorem iC.cps {fs : List sv_E} {pg : Nat → Int32} (hb : bd fs) : ∀ (k i : Nat) (C : List sv_E × Nat), iC C.1 → iC (sv_cps fs pg k i C).1
  | 0, _, _, H => H
  | k + 1, i, C, H => iC.cps hb k (i + 1) _ (iC.now hb H)
theorem iC.cnt {fs : List sv_E} {C : List sv_E × Nat} {e : sv_E} {r : Int32} (hb : bd fs) (H : iC C.1) (he : 0 < e.1 ∧ e.1 < 270) : iC (sv_cnt fs C e r).1 := by
  unfold sv_cnt
  split
  · split
    · exact iC.put H he
    · exact iC.er H
  · exact iC.now hb (C := sv_del C e.1) (iC.er H)
/-- the files that the kept notes name -/
def bdR (hd : Nat) (rg : Nat → Nat → Int32) : Prop := ∀ s, rg_tl hd ≤ s → s < hd → 0 < rg (s % 16) 0 ∧ rg (s % 16) 0 < 270
theorem iC.act {hd : Nat} {rg : Nat → Nat → Int32} {fs : List sv_E} {S : sv_S} (hb : bd fs) (hr : bdR hd rg) (hc : su_cur S ≤ hd) (H : iC (su_cp S)) : iC (su_cp (sv_act hd rg fs S).2) := by
  unfold sv_act
  split
  · show iC (sv_cpC fs S).1
    exact iC.cps hb 4 0 _ (iC.fl H)
  · split
    · exact H
    · rename_i hls hcur
      cases hs : sv_scan rg 127 (hd - su_cur S) (su_cur S) with
      | none => exact H
      | some s =>
        have := sv_scan_in hs
        show iC (sv_cnt fs (su_cp S, su_cap S) (sv_nt rg s) (rg (s % 16) 5)).1
        exact iC.cnt (C := (su_cp S, su_cap S)) hb H (hr s (by omega) (by omega))
