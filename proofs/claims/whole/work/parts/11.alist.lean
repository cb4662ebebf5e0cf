/-! lists: contracts of what the class calls -/
theorem xt_o {G : xa_G} {M : xa_M} {dp kc ks : Nat} {as : List Value} {h : xa_H} {sz : Nat} {Q : Outcome → xa_H → Nat → Prop} (hO : xa_O M) (hcat : (as.all fun v => decide (v.category = 1)) = true) (hn : Nat.ble as.length M.2.2.1 = true) (k : xa_W G M dp kc ks 0 (as.map some ++ List.replicate (M.2.2.1 - as.length) none) [] h sz Q) : xa_T G M dp kc ks as h sz Q :=
  xt_of hO (fun v hv => by simpa using List.all_eq_true.mp hcat v hv) (Nat.le_of_ble_eq_true hn) k
theorem xw_cl {G : xa_G} {M M' : xa_M} {dp dp' kc ks kc' ks' pc : Nat} {L : List (Option Value)} {stk as rest : List Value} {h : xa_H} {sz : Nat} {Q Q' : Outcome → xa_H → Nat → Prop} (hT : xa_T G M' dp' kc' ks' as h sz Q') (hI : xa_inv G M M' pc stk as rest h) (hO : xa_O M') (hdp : Nat.ble (dp' + 1) dp = true) (hml : Nat.ble M'.2.2.1 100 = true) (hst : Nat.ble ((rest.map fun v => v.category).sum) 8 = true)
    (hret : ∀ v h' z, Q' (.returned v) h' z → xa_W G M dp kc ks (pc + 3) L (v.toList ++ rest) h' z Q) (hthr : ∀ x h' z, Q' (.threw x) h' z → xa_X G M dp kc ks pc L rest x h' z Q) : xa_W G M dp (kc + kc') (ks + ks') pc L stk h sz Q :=
  xw_call hI hT hO (Nat.le_of_ble_eq_true hdp) (Nat.le_of_ble_eq_true hml) (Nat.le_of_ble_eq_true hst) hret hthr
theorem xw_cl0 {G : xa_G} {M M' : xa_M} {dp dp' kc ks pc : Nat} {L : List (Option Value)} {stk as rest : List Value} {h : xa_H} {sz : Nat} {Q Q' : Outcome → xa_H → Nat → Prop} (hT : xa_T G M' dp' 0 0 as h sz Q') (hI : xa_inv G M M' pc stk as rest h) (hO : xa_O M') (hdp : Nat.ble (dp' + 1) dp = true) (hml : Nat.ble M'.2.2.1 100 = true) (hst : Nat.ble ((rest.map fun v => v.category).sum) 8 = true)
    (hret : ∀ v h' z, Q' (.returned v) h' z → xa_W G M dp kc ks (pc + 3) L (v.toList ++ rest) h' z Q) (hthr : ∀ x h' z, Q' (.threw x) h' z → xa_X G M dp kc ks pc L rest x h' z Q) : xa_W G M dp kc ks pc L stk h sz Q := xw_cl hT hI hO hdp hml hst hret hthr
/-- an answer, the heap as it was -/
def xq_same (h : xa_H) (sz : Nat) (v : Option Value) : Outcome → xa_H → Nat → Prop := fun o h' z => o = .returned v ∧ h' = h ∧ z = sz
abbrev xr_q (t n : Nat) (f : Nat → Option Nat) : xa_E := .inl (t, (n, .inr (.inr (.inr (.inr f)))))
/-- a list at a: n objects in an array at ea of cap places -/
def al_at (h : xa_H) (a ea n cap : Nat) (f : Nat → Option Nat) : Prop := (∃ mc : Int32, h a = some (.inr (8, [.int mc, .ref ea, .int (nI n)]))) ∧ h ea = some (xr_q 3 cap f) ∧ n ≤ cap ∧ cap < 1000000
section AL
variable {G : xa_G} {h : xa_H} {sz : Nat}
theorem ct_P_checkIndex {i n : Int32} (h0 : ¬ i < 0) (h1 : i < n) : xa_T G mm_P_checkIndex 0 0 0 [.int i, .int n, .null] h sz (xq_same h sz (some (.int i))) := by
  refine xt_o ok_P_checkIndex rfl rfl ?_
  refine xw_iload_n dd_P_checkIndex_0 rfl ?_
  refine xw_if_lt 9 dd_P_checkIndex_1 (by decide) (fun hc => absurd hc h0) (fun hc => ?_)
  refine xw_iload_n dd_P_checkIndex_4 rfl ?_
  refine xw_iload_n dd_P_checkIndex_5 rfl ?_
  refine xw_icmp_lt 16 dd_P_checkIndex_6 (by decide) (fun hc => ?_) (fun hc => absurd h1 hc)
  refine xw_iload_n dd_P_checkIndex_16 rfl ?_
  exact xw_iret dd_P_checkIndex_17 rfl ⟨rfl, rfl, rfl⟩
theorem ct_O_checkIndex {i n : Int32} (h0 : ¬ i < 0) (h1 : i < n) : xa_T G mm_O_checkIndex 1 0 0 [.int i, .int n] h sz (xq_same h sz (some (.int i))) := by
  refine xt_o ok_O_checkIndex rfl rfl ?_
  refine xw_iload_n dd_O_checkIndex_0 rfl ?_
  refine xw_iload_n dd_O_checkIndex_1 rfl ?_
  refine xw_null dd_O_checkIndex_2 ?_
  refine xw_cl0 (ct_P_checkIndex h0 h1) iv_O_checkIndex_3 ok_P_checkIndex rfl rfl rfl ?_ (fun _ _ _ q => by cases q.1)
  rintro v h1 z1 ⟨hv, rfl, rfl⟩
  cases hv
  exact xw_iret dd_O_checkIndex_6 rfl ⟨rfl, rfl, rfl⟩
theorem ct_A_size {a ea n cap : Nat} {f : Nat → Option Nat} (hA : al_at h a ea n cap f) : xa_T G mm_A_size 0 0 0 [.ref a] h sz (xq_same h sz (some (.int (nI n)))) := by
  obtain ⟨⟨mc, h1⟩, -⟩ := hA
  refine xt_o ok_A_size rfl rfl ?_
  refine xw_aloadR_n dd_A_size_0 rfl ?_
  refine xw_get fl_A_48 dd_A_size_1 h1 rfl ?_
  exact xw_iret dd_A_size_4 rfl ⟨rfl, rfl, rfl⟩
theorem ct_A_isEmpty {a ea n cap : Nat} {f : Nat → Option Nat} (hA : al_at h a ea n cap f) : xa_T G mm_A_isEmpty 0 0 0 [.ref a] h sz (xq_same h sz (some (.int (if n = 0 then 1 else 0)))) := by
  obtain ⟨⟨mc, h1⟩, -, h2, h3⟩ := hA
  refine xt_o ok_A_isEmpty rfl rfl ?_
  refine xw_aloadR_n dd_A_isEmpty_0 rfl ?_
  refine xw_get fl_A_48 dd_A_isEmpty_1 h1 rfl ?_
  refine xw_if_ne 11 dd_A_isEmpty_4 (by decide) (fun hc => ?_) (fun hc => ?_)
  · refine xw_iconst 0 dd_A_isEmpty_11 (by decide) ?_
    have hn : ¬ n = 0 := fun e => hc (by rw [e]; rfl)
    exact xw_zret dd_A_isEmpty_12 rfl rfl ⟨by rw [if_neg hn], rfl, rfl⟩
  · refine xw_iconst 1 dd_A_isEmpty_7 (by decide) ?_
    refine xw_goto 12 dd_A_isEmpty_8 (by decide) ?_
    have hn : n = 0 := by
      by_cases hn : n = 0
      · exact hn
      · exact absurd hc (nI_ne0 (by omega) (by omega))
    exact xw_zret dd_A_isEmpty_12 rfl rfl ⟨by rw [if_pos hn], rfl, rfl⟩
theorem ct_A_elementData {a ea n cap i : Nat} {f : Nat → Option Nat} (hA : al_at h a ea n cap f) (hi : i < cap) : xa_T G mm_A_elementData 0 0 0 [.ref a, .int (nI i)] h sz (xq_same h sz (some (va_rf (f i)))) := by
  obtain ⟨⟨mc, h1⟩, h2, h3, h4⟩ := hA
  refine xt_o ok_A_elementData rfl rfl ?_
  refine xw_aloadR_n dd_A_elementData_0 rfl ?_
  refine xw_get fl_A_9 dd_A_elementData_1 h1 rfl ?_
  refine xw_iload_n dd_A_elementData_4 rfl ?_
  refine xw_aald (t := 3) rfl dd_A_elementData_5 h2 (vp_in_nI hi (by omega)) ?_
  rw [nI_clamp (by omega)]
  exact xw_aret dd_A_elementData_6 rfl (Or.inl ⟨_, rfl⟩) ⟨rfl, rfl, rfl⟩
theorem ct_A_get {a ea n cap i : Nat} {f : Nat → Option Nat} (hA : al_at h a ea n cap f) (hi : i < n) : xa_T G mm_A_get 2 0 0 [.ref a, .int (nI i)] h sz (xq_same h sz (some (va_rf (f i)))) := by
  have hA0 := hA
  obtain ⟨⟨mc, h1⟩, h2, h3, h4⟩ := hA
  refine xt_o ok_A_get rfl rfl ?_
  refine xw_iload_n dd_A_get_0 rfl ?_
  refine xw_aloadR_n dd_A_get_1 rfl ?_
  refine xw_get fl_A_48 dd_A_get_2 h1 rfl ?_
  refine xw_cl0 (ct_O_checkIndex (nI_pos (by omega)) (nI_lt hi (by omega))) iv_A_get_5 ok_O_checkIndex rfl rfl rfl ?_ (fun _ _ _ q => by cases q.1)
  rintro v h' z1 ⟨hv, rfl, rfl⟩
  cases hv
  refine xw_pop dd_A_get_8 rfl ?_
  refine xw_aloadR_n dd_A_get_9 rfl ?_
  refine xw_iload_n dd_A_get_10 rfl ?_
  refine xw_cl0 (ct_A_elementData hA0 (by omega)) (iv_A_get_11 h1) ok_A_elementData rfl rfl rfl ?_ (fun _ _ _ q => by cases q.1)
  rintro v h' z1 ⟨hv, rfl, rfl⟩
  cases hv
  exact xw_aret dd_A_get_14 rfl (Or.inl ⟨_, rfl⟩) ⟨rfl, rfl, rfl⟩
end AL
