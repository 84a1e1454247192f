theorem vin_a {x M : Int32} {N : Nat} (hN : N < 2 ^ 31) (hM : M.toInt = (N : Int)) (h0 : ¬ x < 0) (h1 : ¬ M ≤ x) : vp_in x N := by
  rw [vp_in_iff]
  rw [Int32.lt_iff_toInt_lt] at h0
  rw [Int32.le_iff_toInt_le] at h1
  have e0 : (0 : Int32).toInt = 0 := by decide
  omega
theorem nI_self {x : Int32} (h : ¬ x < 0) : x = nI x.toNatClampNeg := by
  obtain ⟨j, hj, rfl⟩ := nI_of h
  rw [nI_clamp hj]
theorem vin_seller {x : Int32} (h : fX_checkSeller x = 0) : vp_in x 6 := by
  unfold fX_checkSeller at h
  by_cases h0 : x < 0
  · rw [if_pos h0] at h; cases h
  · rw [if_neg h0] at h
    by_cases h1 : x < 6
    · exact vin_a (M := 6) (by decide) (by decide) h0 (by rw [Int32.not_le]; exact h1)
    · rw [if_neg h1] at h; cases h
theorem vin_buyer {x : Int32} (h : fX_checkBuyer x = 0) : vp_in x 10 := by
  unfold fX_checkBuyer at h
  by_cases h0 : x < 0
  · rw [if_pos h0] at h; cases h
  · rw [if_neg h0] at h
    by_cases h1 : x < 10
    · exact vin_a (M := 10) (by decide) (by decide) h0 (by rw [Int32.not_le]; exact h1)
    · rw [if_neg h1] at h; cases h
theorem bnd_eq0 {k : Nat} {α : Type} {r : Nat × α} {z : α} (h : (bnd k r z).1 = 0) : k = 0 := by
  unfold bnd at h
  by_cases hk : k = 0
  · exact hk
  · rw [if_neg hk] at h; exact h
def fX_findLot (n : Nat) (p0 : Int32) : Option Nat := if p0 < 0 then none else (if 30 ≤ p0 then none else (if p0.toNatClampNeg < n then some p0.toNatClampNeg else none))
theorem hdyX_findLot : yX_findLot.cls ≠ "java/lang/invoke/MethodHandle" ∧ yX_findLot.cls ≠ "java/lang/invoke/VarHandle" ∧ (parseMethodDescriptor yX_findLot.desc).map (fun d => d.parameters.length) = some 1 := by decide +kernel
theorem dX_findLot_0 : decode bX_findLot 0 = .ok (.iload_n 1, 1) := by decide +kernel
theorem dX_findLot_1 : decode bX_findLot 1 = .ok (.ifCond .lt 21, 3) := by decide +kernel
theorem dX_findLot_4 : decode bX_findLot 4 = .ok (.iload_n 1, 1) := by decide +kernel
theorem dX_findLot_5 : decode bX_findLot 5 = .ok (.aload_n 0, 1) := by decide +kernel
theorem dX_findLot_6 : decode bX_findLot 6 = .ok (.getfield 11, 3) := by decide +kernel
theorem dX_findLot_9 : decode bX_findLot 9 = .ok (.arraylength, 1) := by decide +kernel
theorem dX_findLot_10 : decode bX_findLot 10 = .ok (.if_icmp .ge 12, 3) := by decide +kernel
theorem dX_findLot_13 : decode bX_findLot 13 = .ok (.aload_n 0, 1) := by decide +kernel
theorem dX_findLot_14 : decode bX_findLot 14 = .ok (.getfield 11, 3) := by decide +kernel
theorem dX_findLot_17 : decode bX_findLot 17 = .ok (.iload_n 1, 1) := by decide +kernel
theorem dX_findLot_18 : decode bX_findLot 18 = .ok (.aaload, 1) := by decide +kernel
theorem dX_findLot_19 : decode bX_findLot 19 = .ok (.goto 4, 3) := by decide +kernel
theorem dX_findLot_22 : decode bX_findLot 22 = .ok (.aconst_null, 1) := by decide +kernel
theorem dX_findLot_23 : decode bX_findLot 23 = .ok (.astore_n 2, 1) := by decide +kernel
theorem dX_findLot_24 : decode bX_findLot 24 = .ok (.aload_n 2, 1) := by decide +kernel
theorem dX_findLot_25 : decode bX_findLot 25 = .ok (.ifnonnull 13, 3) := by decide +kernel
theorem dX_findLot_28 : decode bX_findLot 28 = .ok (.new 176, 3) := by decide +kernel
theorem dX_findLot_31 : decode bX_findLot 31 = .ok (.dup, 1) := by decide +kernel
theorem dX_findLot_32 : decode bX_findLot 32 = .ok (.ldc 178, 2) := by decide +kernel
theorem dX_findLot_34 : decode bX_findLot 34 = .ok (.invokespecial 180, 3) := by decide +kernel
theorem dX_findLot_37 : decode bX_findLot 37 = .ok (.athrow, 1) := by decide +kernel
theorem dX_findLot_38 : decode bX_findLot 38 = .ok (.aload_n 2, 1) := by decide +kernel
theorem dX_findLot_39 : decode bX_findLot 39 = .ok (.areturn, 1) := by decide +kernel
set_option maxHeartbeats 4000000 in
set_option maxRecDepth 100000 in
theorem cX_findLot (l : Launch) (hl9 : l.stackTraces = false) (D : va_G) (tI tJ tL : ClassId) (A : Nat → Prop) (sg ad : Nat → Nat) (n : Nat) (sL : NL) (sA : NA) (p0 : Int32) : vx_Met l yX_findLot (Cond.code yX_findLot bX_findLot 3 (some (FieldType.object "DroitLine$Lot")) :: wNeed) { frames := 6, cells := 1, slots := 6, locals := 90 } (va_Pc [.ref (ad 0), .int p0] (GP D tI tJ tL A sg ad n sL sA)) (va_Qq (fun r (i : Nat) => fX_findLot n p0 = some i ∧ i < n ∧ p0 = nI i ∧ r = some (ad (4 * i + 11))) (fun _ t => GW D tI tJ tL A ad n sL sA t.heap) A) (XQ D tI tJ tL A ad n sL sA (if fX_findLot n p0 = none then 1 else 0)) 1 6 A := by
  refine en_XG (av := [.ref (ad 0), .int p0]) (by decide) (Nat.le_of_ble_eq_true rfl) ?_
  intro p e s m below meth c hx hb hml hown hts hr hlocks hT hC H locs hG hS ls hl
  replace hl : lv_has ls 3 [(0, .ref (ad 0)), (1, .int p0)] := hl
  refine lv_iload_n hx hb dX_findLot_0 rfl (lv_at hl 1 rfl) ?_
  refine lv_if_lt (tgt := 22) hx hb dX_findLot_1 (by decide) (fun c_1 => ?_) (fun c_1 => ?_)
  · refine lv_null hx hb dX_findLot_22 ?_
    refine lv_astore_nN (lv' := [(2, .null), (0, .ref (ad 0)), (1, .int p0)]) hx hb dX_findLot_23 rfl hl (by decide) rfl (fun ls hl => ?_)
    refine lv_aload_nN hx hb dX_findLot_24 rfl (lv_at hl 0 rfl) ?_
    refine lv_ifnonnullN hx hb dX_findLot_25 ?_
    exact rc_throw (text := "no such lot") hx hb hts hown hC hG hS hl9 hlocks hT (Or.inl ⟨rfl, if_pos (by rw [fX_findLot, if_pos c_1] <;> rfl)⟩) (by decide +kernel) q_57 q_5 (by decide) at_I (hl.1.trans hml.symm) dX_findLot_28 dX_findLot_31 dX_findLot_32 dX_findLot_34 dX_findLot_37 (Nat.le_of_ble_eq_true rfl) (Nat.le_of_ble_eq_true rfl) (Nat.le_of_ble_eq_true rfl) (Nat.le_of_ble_eq_true rfl) (Nat.le_of_ble_eq_true rfl) (Nat.le_of_ble_eq_true rfl)
  · refine lv_iload_n hx hb dX_findLot_4 rfl (lv_at hl 1 rfl) ?_
    refine lv_aload_n hx hb dX_findLot_5 rfl (lv_at hl 0 rfl) ?_
    refine rx_get (v := .ref (ad 1)) hx hb hts hown hC hG 0 (by decide) q_21 (rfl) dX_findLot_6 ?_
    refine rh_len hx hb hC hG (v := 30) rfl dX_findLot_9 ?_
    refine lv_icmp_ge (tgt := 22) hx hb dX_findLot_10 (by decide) (fun c_2 => ?_) (fun c_2 => ?_)
    · refine lv_null hx hb dX_findLot_22 ?_
      refine lv_astore_nN (lv' := [(2, .null), (0, .ref (ad 0)), (1, .int p0)]) hx hb dX_findLot_23 rfl hl (by decide) rfl (fun ls hl => ?_)
      refine lv_aload_nN hx hb dX_findLot_24 rfl (lv_at hl 0 rfl) ?_
      refine lv_ifnonnullN hx hb dX_findLot_25 ?_
      exact rc_throw (text := "no such lot") hx hb hts hown hC hG hS hl9 hlocks hT (Or.inl ⟨rfl, if_pos (by rw [fX_findLot, if_neg c_1, if_pos c_2] <;> rfl)⟩) (by decide +kernel) q_57 q_5 (by decide) at_I (hl.1.trans hml.symm) dX_findLot_28 dX_findLot_31 dX_findLot_32 dX_findLot_34 dX_findLot_37 (Nat.le_of_ble_eq_true rfl) (Nat.le_of_ble_eq_true rfl) (Nat.le_of_ble_eq_true rfl) (Nat.le_of_ble_eq_true rfl) (Nat.le_of_ble_eq_true rfl) (Nat.le_of_ble_eq_true rfl)
    · refine lv_aload_n hx hb dX_findLot_13 rfl (lv_at hl 0 rfl) ?_
      refine rx_get (v := .ref (ad 1)) hx hb hts hown hC hG 0 (by decide) q_21 (rfl) dX_findLot_14 ?_
      refine lv_iload_n hx hb dX_findLot_17 rfl (lv_at hl 1 rfl) ?_
      refine rh_ld hx hb hC hG (vin_a (by decide) (by decide) c_1 c_2) dX_findLot_18 ?_
      by_cases h_3 : p0.toNatClampNeg < n
      · rw [show hof ad n p0.toNatClampNeg = some (ad (4 * p0.toNatClampNeg + 11)) from if_pos h_3]
        refine W.eq (g2 := F0 m 19 ls (.ref (ad (4 * p0.toNatClampNeg + 11)) :: [])) rfl ?_
        have hi := h_3
        refine lv_goto (tgt := 23) hx hb dX_findLot_19 (by decide) ?_
        refine lv_astore_n (lv' := [(2, .ref (ad (4 * p0.toNatClampNeg + 11))), (0, .ref (ad 0)), (1, .int p0)]) hx hb dX_findLot_23 rfl hl (by decide) rfl (fun ls hl => ?_)
        refine lv_aload_n hx hb dX_findLot_24 rfl (lv_at hl 0 rfl) ?_
        refine lv_ifnonnull (tgt := 38) hx hb dX_findLot_25 (by decide) ?_
        refine lv_aload_n hx hb dX_findLot_38 rfl (lv_at hl 0 rfl) ?_
        refine vx_ret ?_
        refine W.widen (k := 1) (n := 6) (Nat.le_of_ble_eq_true rfl) (Nat.le_of_ble_eq_true rfl) ?_
        exact W.aret (v := .ref (ad (4 * p0.toNatClampNeg + 11))) hx hb hr (Or.inl ⟨_, rfl⟩) (Or.inr ⟨_, rfl⟩) (fun t ht hW => ⟨⟨some (ad (4 * p0.toNatClampNeg + 11)), p0.toNatClampNeg, rfl, ⟨(by rw [fX_findLot, if_neg c_1, if_neg c_2, if_pos h_3] <;> rfl), h_3, nI_self c_1, rfl⟩, gw_at hG ht⟩, hS.F ht⟩) hS.2.2 dX_findLot_39
      · rw [show hof ad n p0.toNatClampNeg = none from if_neg h_3]
        refine W.eq (g2 := F0 m 19 ls (.null :: [])) rfl ?_
        refine lv_goto (tgt := 23) hx hb dX_findLot_19 (by decide) ?_
        refine lv_astore_nN (lv' := [(2, .null), (0, .ref (ad 0)), (1, .int p0)]) hx hb dX_findLot_23 rfl hl (by decide) rfl (fun ls hl => ?_)
        refine lv_aload_nN hx hb dX_findLot_24 rfl (lv_at hl 0 rfl) ?_
        refine lv_ifnonnullN hx hb dX_findLot_25 ?_
        exact rc_throw (text := "no such lot") hx hb hts hown hC hG hS hl9 hlocks hT (Or.inl ⟨rfl, if_pos (by rw [fX_findLot, if_neg c_1, if_neg c_2, if_neg h_3] <;> rfl)⟩) (by decide +kernel) q_57 q_5 (by decide) at_I (hl.1.trans hml.symm) dX_findLot_28 dX_findLot_31 dX_findLot_32 dX_findLot_34 dX_findLot_37 (Nat.le_of_ble_eq_true rfl) (Nat.le_of_ble_eq_true rfl) (Nat.le_of_ble_eq_true rfl) (Nat.le_of_ble_eq_true rfl) (Nat.le_of_ble_eq_true rfl) (Nat.le_of_ble_eq_true rfl)
def fO_buyerAt (sL : NL) (sA : NA) (i : Nat) (p0 : Int32) : Int32 := if p0 < 0 then (-1) else (if (sA (4 * i + 12) 2) ≤ p0 then (-1) else (if 10 ≤ p0 then (-1) else sA (4 * i + 13) p0.toNatClampNeg))
theorem hdyO_buyerAt : yO_buyerAt.cls ≠ "java/lang/invoke/MethodHandle" ∧ yO_buyerAt.cls ≠ "java/lang/invoke/VarHandle" ∧ (parseMethodDescriptor yO_buyerAt.desc).map (fun d => d.parameters.length) = some 1 := by decide +kernel
theorem dO_buyerAt_0 : decode bO_buyerAt 0 = .ok (.iload_n 1, 1) := by decide +kernel
theorem dO_buyerAt_1 : decode bO_buyerAt 1 = .ok (.ifCond .lt 29, 3) := by decide +kernel
theorem dO_buyerAt_4 : decode bO_buyerAt 4 = .ok (.iload_n 1, 1) := by decide +kernel
theorem dO_buyerAt_5 : decode bO_buyerAt 5 = .ok (.aload_n 0, 1) := by decide +kernel
theorem dO_buyerAt_6 : decode bO_buyerAt 6 = .ok (.getfield 18, 3) := by decide +kernel
theorem dO_buyerAt_9 : decode bO_buyerAt 9 = .ok (.if_icmp .ge 21, 3) := by decide +kernel
theorem dO_buyerAt_12 : decode bO_buyerAt 12 = .ok (.iload_n 1, 1) := by decide +kernel
theorem dO_buyerAt_13 : decode bO_buyerAt 13 = .ok (.aload_n 0, 1) := by decide +kernel
theorem dO_buyerAt_14 : decode bO_buyerAt 14 = .ok (.getfield 9, 3) := by decide +kernel
theorem dO_buyerAt_17 : decode bO_buyerAt 17 = .ok (.arraylength, 1) := by decide +kernel
theorem dO_buyerAt_18 : decode bO_buyerAt 18 = .ok (.if_icmp .ge 12, 3) := by decide +kernel
theorem dO_buyerAt_21 : decode bO_buyerAt 21 = .ok (.aload_n 0, 1) := by decide +kernel
theorem dO_buyerAt_22 : decode bO_buyerAt 22 = .ok (.getfield 9, 3) := by decide +kernel
theorem dO_buyerAt_25 : decode bO_buyerAt 25 = .ok (.iload_n 1, 1) := by decide +kernel
theorem dO_buyerAt_26 : decode bO_buyerAt 26 = .ok (.iaload, 1) := by decide +kernel
theorem dO_buyerAt_27 : decode bO_buyerAt 27 = .ok (.goto 4, 3) := by decide +kernel
theorem dO_buyerAt_30 : decode bO_buyerAt 30 = .ok (.iconst (-1), 1) := by decide +kernel
theorem dO_buyerAt_31 : decode bO_buyerAt 31 = .ok (.ireturn, 1) := by decide +kernel
set_option maxHeartbeats 4000000 in
set_option maxRecDepth 100000 in
theorem cO_buyerAt (l : Launch) (D : va_G) (tI tJ tL : ClassId) (A : Nat → Prop) (sg ad : Nat → Nat) (n : Nat) (sL : NL) (sA : NA) (i : Nat) (hi : i < n) (p0 : Int32) : Met l yO_buyerAt (Cond.code yO_buyerAt bO_buyerAt 2 (some FieldType.int) :: wNeed) { frames := 0, cells := 0, slots := 0, locals := 0 } (va_Pc [.ref (ad (4 * i + 12)), .int p0] (GP D tI tJ tL A sg ad n sL sA)) (vp_Si fun r => r = fO_buyerAt sL sA i p0) 0 0 (fun _ => False) := by
  refine en_M (av := [.ref (ad (4 * i + 12)), .int p0]) (by decide) (Nat.le_of_ble_eq_true rfl) ?_
  intro p e s m below meth c hx hb hml hown hts hr hlocks hmname hP ls hl
  obtain ⟨hG, hC⟩ := hP
  have hS : va_S A s.heap s.heap [] := va_S.rf
  replace hl : lv_has ls 2 [(0, .ref (ad (4 * i + 12))), (1, .int p0)] := hl
  refine lv_iload_n hx hb dO_buyerAt_0 rfl (lv_at hl 1 rfl) ?_
  refine lv_if_lt (tgt := 30) hx hb dO_buyerAt_1 (by decide) (fun c_1 => ?_) (fun c_1 => ?_)
  · refine lv_iconst (v := (-1)) hx hb dO_buyerAt_30 (by decide) ?_
    exact W.iret (v := (-1)) hx hb hr (fun t ht hW => ⟨_, rfl, (by rw [fO_buyerAt, if_pos c_1] <;> rfl), ht⟩) (fun q h => nomatch h) dO_buyerAt_31
  · refine lv_iload_n hx hb dO_buyerAt_4 rfl (lv_at hl 1 rfl) ?_
    refine lv_aload_n hx hb dO_buyerAt_5 rfl (lv_at hl 0 rfl) ?_
    refine ro_get (v := .int (sA (4 * i + 12) 2)) hx hb hts hown hC hG 2 hi (by decide) q_225 (rfl) dO_buyerAt_6 ?_
    refine lv_icmp_ge (tgt := 30) hx hb dO_buyerAt_9 (by decide) (fun c_2 => ?_) (fun c_2 => ?_)
    · refine lv_iconst (v := (-1)) hx hb dO_buyerAt_30 (by decide) ?_
      exact W.iret (v := (-1)) hx hb hr (fun t ht hW => ⟨_, rfl, (by rw [fO_buyerAt, if_neg c_1, if_pos c_2] <;> rfl), ht⟩) (fun q h => nomatch h) dO_buyerAt_31
    · refine lv_iload_n hx hb dO_buyerAt_12 rfl (lv_at hl 1 rfl) ?_
      refine lv_aload_n hx hb dO_buyerAt_13 rfl (lv_at hl 0 rfl) ?_
      refine ro_get (v := .ref (ad (4 * i + 13))) hx hb hts hown hC hG 0 hi (by decide) q_223 (rfl) dO_buyerAt_14 ?_
      refine ra_len hx hb hC hG (4 * i + 13) 10 (by omega) (fun _ _ => gr_B i) (v := 10) rfl dO_buyerAt_17 ?_
      refine lv_icmp_ge (tgt := 30) hx hb dO_buyerAt_18 (by decide) (fun c_3 => ?_) (fun c_3 => ?_)
      · refine lv_iconst (v := (-1)) hx hb dO_buyerAt_30 (by decide) ?_
        exact W.iret (v := (-1)) hx hb hr (fun t ht hW => ⟨_, rfl, (by rw [fO_buyerAt, if_neg c_1, if_neg c_2, if_pos c_3] <;> rfl), ht⟩) (fun q h => nomatch h) dO_buyerAt_31
      · refine lv_aload_n hx hb dO_buyerAt_21 rfl (lv_at hl 0 rfl) ?_
        refine ro_get (v := .ref (ad (4 * i + 13))) hx hb hts hown hC hG 0 hi (by decide) q_223 (rfl) dO_buyerAt_22 ?_
        refine lv_iload_n hx hb dO_buyerAt_25 rfl (lv_at hl 1 rfl) ?_
        refine ra_ld hx hb hC hG (4 * i + 13) 10 (by omega) (fun _ _ => gr_B i) (vin_a (by decide) (by decide) c_1 c_3) dO_buyerAt_26 ?_
        refine lv_goto (tgt := 31) hx hb dO_buyerAt_27 (by decide) ?_
        exact W.iret (v := sA (4 * i + 13) p0.toNatClampNeg) hx hb hr (fun t ht hW => ⟨_, rfl, (by rw [fO_buyerAt, if_neg c_1, if_neg c_2, if_neg c_3] <;> rfl), ht⟩) (fun q h => nomatch h) dO_buyerAt_31
def fO_amountAt (sL : NL) (sA : NA) (i : Nat) (p0 : Int32) : Int32 := if p0 < 0 then (-1) else (if (sA (4 * i + 12) 2) ≤ p0 then (-1) else (if 10 ≤ p0 then (-1) else sA (4 * i + 14) p0.toNatClampNeg))
theorem hdyO_amountAt : yO_amountAt.cls ≠ "java/lang/invoke/MethodHandle" ∧ yO_amountAt.cls ≠ "java/lang/invoke/VarHandle" ∧ (parseMethodDescriptor yO_amountAt.desc).map (fun d => d.parameters.length) = some 1 := by decide +kernel
theorem dO_amountAt_0 : decode bO_amountAt 0 = .ok (.iload_n 1, 1) := by decide +kernel
theorem dO_amountAt_1 : decode bO_amountAt 1 = .ok (.ifCond .lt 29, 3) := by decide +kernel
theorem dO_amountAt_4 : decode bO_amountAt 4 = .ok (.iload_n 1, 1) := by decide +kernel
theorem dO_amountAt_5 : decode bO_amountAt 5 = .ok (.aload_n 0, 1) := by decide +kernel
theorem dO_amountAt_6 : decode bO_amountAt 6 = .ok (.getfield 18, 3) := by decide +kernel
theorem dO_amountAt_9 : decode bO_amountAt 9 = .ok (.if_icmp .ge 21, 3) := by decide +kernel
theorem dO_amountAt_12 : decode bO_amountAt 12 = .ok (.iload_n 1, 1) := by decide +kernel
theorem dO_amountAt_13 : decode bO_amountAt 13 = .ok (.aload_n 0, 1) := by decide +kernel
theorem dO_amountAt_14 : decode bO_amountAt 14 = .ok (.getfield 15, 3) := by decide +kernel
theorem dO_amountAt_17 : decode bO_amountAt 17 = .ok (.arraylength, 1) := by decide +kernel
theorem dO_amountAt_18 : decode bO_amountAt 18 = .ok (.if_icmp .ge 12, 3) := by decide +kernel
theorem dO_amountAt_21 : decode bO_amountAt 21 = .ok (.aload_n 0, 1) := by decide +kernel
theorem dO_amountAt_22 : decode bO_amountAt 22 = .ok (.getfield 15, 3) := by decide +kernel
theorem dO_amountAt_25 : decode bO_amountAt 25 = .ok (.iload_n 1, 1) := by decide +kernel
theorem dO_amountAt_26 : decode bO_amountAt 26 = .ok (.iaload, 1) := by decide +kernel
theorem dO_amountAt_27 : decode bO_amountAt 27 = .ok (.goto 4, 3) := by decide +kernel
theorem dO_amountAt_30 : decode bO_amountAt 30 = .ok (.iconst (-1), 1) := by decide +kernel
theorem dO_amountAt_31 : decode bO_amountAt 31 = .ok (.ireturn, 1) := by decide +kernel
set_option maxHeartbeats 4000000 in
set_option maxRecDepth 100000 in
theorem cO_amountAt (l : Launch) (D : va_G) (tI tJ tL : ClassId) (A : Nat → Prop) (sg ad : Nat → Nat) (n : Nat) (sL : NL) (sA : NA) (i : Nat) (hi : i < n) (p0 : Int32) : Met l yO_amountAt (Cond.code yO_amountAt bO_amountAt 2 (some FieldType.int) :: wNeed) { frames := 0, cells := 0, slots := 0, locals := 0 } (va_Pc [.ref (ad (4 * i + 12)), .int p0] (GP D tI tJ tL A sg ad n sL sA)) (vp_Si fun r => r = fO_amountAt sL sA i p0) 0 0 (fun _ => False) := by
  refine en_M (av := [.ref (ad (4 * i + 12)), .int p0]) (by decide) (Nat.le_of_ble_eq_true rfl) ?_
  intro p e s m below meth c hx hb hml hown hts hr hlocks hmname hP ls hl
  obtain ⟨hG, hC⟩ := hP
  have hS : va_S A s.heap s.heap [] := va_S.rf
  replace hl : lv_has ls 2 [(0, .ref (ad (4 * i + 12))), (1, .int p0)] := hl
  refine lv_iload_n hx hb dO_amountAt_0 rfl (lv_at hl 1 rfl) ?_
  refine lv_if_lt (tgt := 30) hx hb dO_amountAt_1 (by decide) (fun c_1 => ?_) (fun c_1 => ?_)
  · refine lv_iconst (v := (-1)) hx hb dO_amountAt_30 (by decide) ?_
    exact W.iret (v := (-1)) hx hb hr (fun t ht hW => ⟨_, rfl, (by rw [fO_amountAt, if_pos c_1] <;> rfl), ht⟩) (fun q h => nomatch h) dO_amountAt_31
  · refine lv_iload_n hx hb dO_amountAt_4 rfl (lv_at hl 1 rfl) ?_
    refine lv_aload_n hx hb dO_amountAt_5 rfl (lv_at hl 0 rfl) ?_
    refine ro_get (v := .int (sA (4 * i + 12) 2)) hx hb hts hown hC hG 2 hi (by decide) q_225 (rfl) dO_amountAt_6 ?_
    refine lv_icmp_ge (tgt := 30) hx hb dO_amountAt_9 (by decide) (fun c_2 => ?_) (fun c_2 => ?_)
    · refine lv_iconst (v := (-1)) hx hb dO_amountAt_30 (by decide) ?_
      exact W.iret (v := (-1)) hx hb hr (fun t ht hW => ⟨_, rfl, (by rw [fO_amountAt, if_neg c_1, if_pos c_2] <;> rfl), ht⟩) (fun q h => nomatch h) dO_amountAt_31
    · refine lv_iload_n hx hb dO_amountAt_12 rfl (lv_at hl 1 rfl) ?_
      refine lv_aload_n hx hb dO_amountAt_13 rfl (lv_at hl 0 rfl) ?_
      refine ro_get (v := .ref (ad (4 * i + 14))) hx hb hts hown hC hG 1 hi (by decide) q_224 (rfl) dO_amountAt_14 ?_
      refine ra_len hx hb hC hG (4 * i + 14) 10 (by omega) (fun _ _ => gr_Am i) (v := 10) rfl dO_amountAt_17 ?_
      refine lv_icmp_ge (tgt := 30) hx hb dO_amountAt_18 (by decide) (fun c_3 => ?_) (fun c_3 => ?_)
      · refine lv_iconst (v := (-1)) hx hb dO_amountAt_30 (by decide) ?_
        exact W.iret (v := (-1)) hx hb hr (fun t ht hW => ⟨_, rfl, (by rw [fO_amountAt, if_neg c_1, if_neg c_2, if_pos c_3] <;> rfl), ht⟩) (fun q h => nomatch h) dO_amountAt_31
      · refine lv_aload_n hx hb dO_amountAt_21 rfl (lv_at hl 0 rfl) ?_
        refine ro_get (v := .ref (ad (4 * i + 14))) hx hb hts hown hC hG 1 hi (by decide) q_224 (rfl) dO_amountAt_22 ?_
        refine lv_iload_n hx hb dO_amountAt_25 rfl (lv_at hl 1 rfl) ?_
        refine ra_ld hx hb hC hG (4 * i + 14) 10 (by omega) (fun _ _ => gr_Am i) (vin_a (by decide) (by decide) c_1 c_3) dO_amountAt_26 ?_
        refine lv_goto (tgt := 31) hx hb dO_amountAt_27 (by decide) ?_
        exact W.iret (v := sA (4 * i + 14) p0.toNatClampNeg) hx hb hr (fun t ht hW => ⟨_, rfl, (by rw [fO_amountAt, if_neg c_1, if_neg c_2, if_neg c_3] <;> rfl), ht⟩) (fun q h => nomatch h) dO_amountAt_31
def fL_heldForIt (sL : NL) (sA : NA) (i : Nat) : Int32 := if (sA (4 * i + 11) 4) = 4 then 0 else (if (sA (4 * i + 11) 4) = 3 then (sA (4 * i + 11) 6) - (sA (4 * i + 11) 10) else 0 - (sA (4 * i + 11) 10))
theorem hdyL_heldForIt : yL_heldForIt.cls ≠ "java/lang/invoke/MethodHandle" ∧ yL_heldForIt.cls ≠ "java/lang/invoke/VarHandle" ∧ (parseMethodDescriptor yL_heldForIt.desc).map (fun d => d.parameters.length) = some 0 := by decide +kernel
theorem dL_heldForIt_0 : decode bL_heldForIt 0 = .ok (.aload_n 0, 1) := by decide +kernel
theorem dL_heldForIt_1 : decode bL_heldForIt 1 = .ok (.getfield 28, 3) := by decide +kernel
theorem dL_heldForIt_4 : decode bL_heldForIt 4 = .ok (.iconst 4, 1) := by decide +kernel
theorem dL_heldForIt_5 : decode bL_heldForIt 5 = .ok (.if_icmp .ne 5, 3) := by decide +kernel
theorem dL_heldForIt_8 : decode bL_heldForIt 8 = .ok (.iconst 0, 1) := by decide +kernel
theorem dL_heldForIt_9 : decode bL_heldForIt 9 = .ok (.ireturn, 1) := by decide +kernel
theorem dL_heldForIt_10 : decode bL_heldForIt 10 = .ok (.aload_n 0, 1) := by decide +kernel
theorem dL_heldForIt_11 : decode bL_heldForIt 11 = .ok (.getfield 28, 3) := by decide +kernel
theorem dL_heldForIt_14 : decode bL_heldForIt 14 = .ok (.iconst 3, 1) := by decide +kernel
theorem dL_heldForIt_15 : decode bL_heldForIt 15 = .ok (.if_icmp .ne 10, 3) := by decide +kernel
theorem dL_heldForIt_18 : decode bL_heldForIt 18 = .ok (.aload_n 0, 1) := by decide +kernel
theorem dL_heldForIt_19 : decode bL_heldForIt 19 = .ok (.getfield 34, 3) := by decide +kernel
theorem dL_heldForIt_22 : decode bL_heldForIt 22 = .ok (.goto 4, 3) := by decide +kernel
theorem dL_heldForIt_25 : decode bL_heldForIt 25 = .ok (.iconst 0, 1) := by decide +kernel
theorem dL_heldForIt_26 : decode bL_heldForIt 26 = .ok (.aload_n 0, 1) := by decide +kernel
theorem dL_heldForIt_27 : decode bL_heldForIt 27 = .ok (.getfield 43, 3) := by decide +kernel
theorem dL_heldForIt_30 : decode bL_heldForIt 30 = .ok (.isub, 1) := by decide +kernel
theorem dL_heldForIt_31 : decode bL_heldForIt 31 = .ok (.ireturn, 1) := by decide +kernel
set_option maxHeartbeats 4000000 in
set_option maxRecDepth 100000 in
theorem cL_heldForIt (l : Launch) (D : va_G) (tI tJ tL : ClassId) (A : Nat → Prop) (sg ad : Nat → Nat) (n : Nat) (sL : NL) (sA : NA) (i : Nat) (hi : i < n) : Met l yL_heldForIt (Cond.code yL_heldForIt bL_heldForIt 1 (some FieldType.int) :: wNeed) { frames := 0, cells := 0, slots := 0, locals := 0 } (va_Pc [.ref (ad (4 * i + 11))] (GP D tI tJ tL A sg ad n sL sA)) (vp_Si fun r => r = fL_heldForIt sL sA i) 0 0 (fun _ => False) := by
  refine en_M (av := [.ref (ad (4 * i + 11))]) (by decide) (Nat.le_of_ble_eq_true rfl) ?_
  intro p e s m below meth c hx hb hml hown hts hr hlocks hmname hP ls hl
  obtain ⟨hG, hC⟩ := hP
  have hS : va_S A s.heap s.heap [] := va_S.rf
  replace hl : lv_has ls 1 [(0, .ref (ad (4 * i + 11)))] := hl
  refine lv_aload_n hx hb dL_heldForIt_0 rfl (lv_at hl 0 rfl) ?_
  refine rl_get (v := .int (sA (4 * i + 11) 4)) hx hb hts hown hC hG 4 hi (by decide) q_243 (rfl) dL_heldForIt_1 ?_
  refine lv_iconst (v := 4) hx hb dL_heldForIt_4 (by decide) ?_
  refine lv_icmp_ne (tgt := 10) hx hb dL_heldForIt_5 (by decide) (fun c_1 => ?_) (fun c_1 => ?_)
  · refine lv_aload_n hx hb dL_heldForIt_10 rfl (lv_at hl 0 rfl) ?_
    refine rl_get (v := .int (sA (4 * i + 11) 4)) hx hb hts hown hC hG 4 hi (by decide) q_243 (rfl) dL_heldForIt_11 ?_
    refine lv_iconst (v := 3) hx hb dL_heldForIt_14 (by decide) ?_
    refine lv_icmp_ne (tgt := 25) hx hb dL_heldForIt_15 (by decide) (fun c_2 => ?_) (fun c_2 => ?_)
    · refine lv_iconst (v := 0) hx hb dL_heldForIt_25 (by decide) ?_
      refine lv_aload_n hx hb dL_heldForIt_26 rfl (lv_at hl 0 rfl) ?_
      refine rl_get (v := .int (sA (4 * i + 11) 10)) hx hb hts hown hC hG 10 hi (by decide) q_253 (rfl) dL_heldForIt_27 ?_
      refine lv_isub hx hb dL_heldForIt_30 ?_
      exact W.iret (v := 0 - (sA (4 * i + 11) 10)) hx hb hr (fun t ht hW => ⟨_, rfl, (by rw [fL_heldForIt, if_neg c_1, if_neg c_2] <;> rfl), ht⟩) (fun q h => nomatch h) dL_heldForIt_31
    · refine lv_aload_n hx hb dL_heldForIt_18 rfl (lv_at hl 0 rfl) ?_
      refine rl_get (v := .int (sA (4 * i + 11) 6)) hx hb hts hown hC hG 6 hi (by decide) q_247 (rfl) dL_heldForIt_19 ?_
      refine lv_goto (tgt := 26) hx hb dL_heldForIt_22 (by decide) ?_
      refine lv_aload_n hx hb dL_heldForIt_26 rfl (lv_at hl 0 rfl) ?_
      refine rl_get (v := .int (sA (4 * i + 11) 10)) hx hb hts hown hC hG 10 hi (by decide) q_253 (rfl) dL_heldForIt_27 ?_
      refine lv_isub hx hb dL_heldForIt_30 ?_
      exact W.iret (v := (sA (4 * i + 11) 6) - (sA (4 * i + 11) 10)) hx hb hr (fun t ht hW => ⟨_, rfl, (by rw [fL_heldForIt, if_neg c_1, if_pos c_2] <;> rfl), ht⟩) (fun q h => nomatch h) dL_heldForIt_31
  · refine lv_iconst (v := 0) hx hb dL_heldForIt_8 (by decide) ?_
    exact W.iret (v := 0) hx hb hr (fun t ht hW => ⟨_, rfl, (by rw [fL_heldForIt, if_pos c_1] <;> rfl), ht⟩) (fun q h => nomatch h) dL_heldForIt_9
def fL_open (sL : NL) (sA : NA) (i : Nat) (p0 : Int32) : NL × NA := (sL, (up2 (up2 (up2 (up2 (up2 sA (4 * i + 12) 2 0) (4 * i + 11) 3 p0) (4 * i + 11) 4 0) (4 * i + 11) 5 (-1)) (4 * i + 11) 6 (-1)))
theorem hdyL_open : yL_open.cls ≠ "java/lang/invoke/MethodHandle" ∧ yL_open.cls ≠ "java/lang/invoke/VarHandle" ∧ (parseMethodDescriptor yL_open.desc).map (fun d => d.parameters.length) = some 1 := by decide +kernel
theorem dL_open_0 : decode bL_open 0 = .ok (.aload_n 0, 1) := by decide +kernel
theorem dL_open_1 : decode bL_open 1 = .ok (.getfield 24, 3) := by decide +kernel
theorem dL_open_4 : decode bL_open 4 = .ok (.iconst 0, 1) := by decide +kernel
theorem dL_open_5 : decode bL_open 5 = .ok (.putfield 40, 3) := by decide +kernel
theorem dL_open_8 : decode bL_open 8 = .ok (.aload_n 0, 1) := by decide +kernel
theorem dL_open_9 : decode bL_open 9 = .ok (.iload_n 1, 1) := by decide +kernel
theorem dL_open_10 : decode bL_open 10 = .ok (.putfield 18, 3) := by decide +kernel
theorem dL_open_13 : decode bL_open 13 = .ok (.aload_n 0, 1) := by decide +kernel
theorem dL_open_14 : decode bL_open 14 = .ok (.iconst 0, 1) := by decide +kernel
theorem dL_open_15 : decode bL_open 15 = .ok (.putfield 28, 3) := by decide +kernel
theorem dL_open_18 : decode bL_open 18 = .ok (.aload_n 0, 1) := by decide +kernel
theorem dL_open_19 : decode bL_open 19 = .ok (.iconst (-1), 1) := by decide +kernel
theorem dL_open_20 : decode bL_open 20 = .ok (.putfield 31, 3) := by decide +kernel
theorem dL_open_23 : decode bL_open 23 = .ok (.aload_n 0, 1) := by decide +kernel
theorem dL_open_24 : decode bL_open 24 = .ok (.iconst (-1), 1) := by decide +kernel
theorem dL_open_25 : decode bL_open 25 = .ok (.putfield 34, 3) := by decide +kernel
theorem dL_open_28 : decode bL_open 28 = .ok (.return_, 1) := by decide +kernel
set_option maxHeartbeats 4000000 in
set_option maxRecDepth 100000 in
theorem cL_open (l : Launch) (D : va_G) (tI tJ tL : ClassId) (A : Nat → Prop) (sg ad : Nat → Nat) (n : Nat) (sL : NL) (sA : NA) (i : Nat) (hi : i < n) (p0 : Int32) : Met l yL_open (Cond.code yL_open bL_open 2 none :: wNeed) { frames := 0, cells := 0, slots := 0, locals := 0 } (va_Pc [.ref (ad (4 * i + 11)), .int p0] (GP D tI tJ tL A sg ad n sL sA)) (va_Qv (fun u : NL × NA => fL_open sL sA i p0 = u) (fun u t => GW D tI tJ tL A ad n u.1 u.2 t.heap) A) 0 0 A := by
  refine en_G (av := [.ref (ad (4 * i + 11)), .int p0]) (by decide) (Nat.le_of_ble_eq_true rfl) ?_
  intro p e s m below meth c hx hb hml hown hts hr hlocks hmname hC H locs hG hS ls hl
  replace hl : lv_has ls 2 [(0, .ref (ad (4 * i + 11))), (1, .int p0)] := hl
  refine lv_aload_n hx hb dL_open_0 rfl (lv_at hl 0 rfl) ?_
  refine rl_get (v := .ref (ad (4 * i + 12))) hx hb hts hown hC hG 2 hi (by decide) q_239 (rfl) dL_open_1 ?_
  refine lv_iconst (v := 0) hx hb dL_open_4 (by decide) ?_
  refine ro_putN hx hb hts hown hC hG hS hi z_226 dL_open_5 (fun H locs hG hS => ?_)
  refine lv_aload_n hx hb dL_open_8 rfl (lv_at hl 0 rfl) ?_
  refine lv_iload_n hx hb dL_open_9 rfl (lv_at hl 1 rfl) ?_
  refine rl_put hx hb hts hown hC hG hS 3 hi (by decide) (by decide) q_241 dL_open_10 (fun H locs hG hS => ?_)
  refine lv_aload_n hx hb dL_open_13 rfl (lv_at hl 0 rfl) ?_
  refine lv_iconst (v := 0) hx hb dL_open_14 (by decide) ?_
  refine rl_put hx hb hts hown hC hG hS 4 hi (by decide) (by decide) q_243 dL_open_15 (fun H locs hG hS => ?_)
  refine lv_aload_n hx hb dL_open_18 rfl (lv_at hl 0 rfl) ?_
  refine lv_iconst (v := (-1)) hx hb dL_open_19 (by decide) ?_
  refine rl_put hx hb hts hown hC hG hS 5 hi (by decide) (by decide) q_245 dL_open_20 (fun H locs hG hS => ?_)
  refine lv_aload_n hx hb dL_open_23 rfl (lv_at hl 0 rfl) ?_
  refine lv_iconst (v := (-1)) hx hb dL_open_24 (by decide) ?_
  refine rl_put hx hb hts hown hC hG hS 6 hi (by decide) (by decide) q_247 dL_open_25 (fun H locs hG hS => ?_)
  refine W.widen (k := 0) (n := 0) (Nat.le_of_ble_eq_true rfl) (Nat.le_of_ble_eq_true rfl) ?_
  exact W.vret hx hb hr (fun t ht hW => ⟨⟨(sL, (up2 (up2 (up2 (up2 (up2 sA (4 * i + 12) 2 0) (4 * i + 11) 3 p0) (4 * i + 11) 4 0) (4 * i + 11) 5 (-1)) (4 * i + 11) 6 (-1))), rfl, (by rw [fL_open] <;> rfl), gw_at hG ht⟩, hS.F ht⟩) hS.2.2 dL_open_28
def fX_isTooLongDead (sL : NL) (sA : NA) (i : Nat) : Int32 := if (sA (4 * i + 11) 1) = 0 then 0 else (if ((sA (4 * i + 11) 7) - (sA (4 * i + 11) 1)) ≤ 70 then 0 else 1)
theorem hdyX_isTooLongDead : yX_isTooLongDead.cls ≠ "java/lang/invoke/MethodHandle" ∧ yX_isTooLongDead.cls ≠ "java/lang/invoke/VarHandle" ∧ (parseMethodDescriptor yX_isTooLongDead.desc).map (fun d => d.parameters.length) = some 1 := by decide +kernel
theorem dX_isTooLongDead_0 : decode bX_isTooLongDead 0 = .ok (.aload_n 0, 1) := by decide +kernel
theorem dX_isTooLongDead_1 : decode bX_isTooLongDead 1 = .ok (.getfield 209, 3) := by decide +kernel
theorem dX_isTooLongDead_4 : decode bX_isTooLongDead 4 = .ok (.ifCond .eq 21, 3) := by decide +kernel
theorem dX_isTooLongDead_7 : decode bX_isTooLongDead 7 = .ok (.aload_n 0, 1) := by decide +kernel
theorem dX_isTooLongDead_8 : decode bX_isTooLongDead 8 = .ok (.getfield 107, 3) := by decide +kernel
theorem dX_isTooLongDead_11 : decode bX_isTooLongDead 11 = .ok (.aload_n 0, 1) := by decide +kernel
theorem dX_isTooLongDead_12 : decode bX_isTooLongDead 12 = .ok (.getfield 209, 3) := by decide +kernel
theorem dX_isTooLongDead_15 : decode bX_isTooLongDead 15 = .ok (.isub, 1) := by decide +kernel
theorem dX_isTooLongDead_16 : decode bX_isTooLongDead 16 = .ok (.bipush 70, 2) := by decide +kernel
theorem dX_isTooLongDead_18 : decode bX_isTooLongDead 18 = .ok (.if_icmp .le 7, 3) := by decide +kernel
theorem dX_isTooLongDead_21 : decode bX_isTooLongDead 21 = .ok (.iconst 1, 1) := by decide +kernel
theorem dX_isTooLongDead_22 : decode bX_isTooLongDead 22 = .ok (.goto 4, 3) := by decide +kernel
theorem dX_isTooLongDead_25 : decode bX_isTooLongDead 25 = .ok (.iconst 0, 1) := by decide +kernel
theorem dX_isTooLongDead_26 : decode bX_isTooLongDead 26 = .ok (.ireturn, 1) := by decide +kernel
set_option maxHeartbeats 4000000 in
set_option maxRecDepth 100000 in
theorem cX_isTooLongDead (l : Launch) (D : va_G) (tI tJ tL : ClassId) (A : Nat → Prop) (sg ad : Nat → Nat) (n : Nat) (sL : NL) (sA : NA) (i : Nat) (hi : i < n) : Met l yX_isTooLongDead (Cond.code yX_isTooLongDead bX_isTooLongDead 1 (some FieldType.boolean) :: wNeed) { frames := 0, cells := 0, slots := 0, locals := 0 } (va_Pc [.ref (ad (4 * i + 11))] (GP D tI tJ tL A sg ad n sL sA)) (vp_Si fun r => r = fX_isTooLongDead sL sA i) 0 0 (fun _ => False) := by
  refine en_M (av := [.ref (ad (4 * i + 11))]) (by decide) (Nat.le_of_ble_eq_true rfl) ?_
  intro p e s m below meth c hx hb hml hown hts hr hlocks hmname hP ls hl
  obtain ⟨hG, hC⟩ := hP
  have hS : va_S A s.heap s.heap [] := va_S.rf
  replace hl : lv_has ls 1 [(0, .ref (ad (4 * i + 11)))] := hl
  refine lv_aload_n hx hb dX_isTooLongDead_0 rfl (lv_at hl 0 rfl) ?_
  refine rl_getN (v := .int (sA (4 * i + 11) 1)) hx hb hts hown hC hG 1 hi (by decide) z_238 (rfl) dX_isTooLongDead_1 ?_
  refine lv_if_eq (tgt := 25) hx hb dX_isTooLongDead_4 (by decide) (fun c_1 => ?_) (fun c_1 => ?_)
  · refine lv_iconst (v := 0) hx hb dX_isTooLongDead_25 (by decide) ?_
    exact W.zret (v := 0) hx hb hr rfl (fun t ht hW => ⟨_, rfl, (by rw [fX_isTooLongDead, if_pos c_1] <;> rfl), ht⟩) (fun q h => nomatch h) dX_isTooLongDead_26
  · refine lv_aload_n hx hb dX_isTooLongDead_7 rfl (lv_at hl 0 rfl) ?_
    refine rl_getN (v := .int (sA (4 * i + 11) 7)) hx hb hts hown hC hG 7 hi (by decide) z_249 (rfl) dX_isTooLongDead_8 ?_
    refine lv_aload_n hx hb dX_isTooLongDead_11 rfl (lv_at hl 0 rfl) ?_
    refine rl_getN (v := .int (sA (4 * i + 11) 1)) hx hb hts hown hC hG 1 hi (by decide) z_238 (rfl) dX_isTooLongDead_12 ?_
    refine lv_isub hx hb dX_isTooLongDead_15 ?_
    refine lv_bipush (v := 70) hx hb dX_isTooLongDead_16 (by decide) ?_
    refine lv_icmp_le (tgt := 25) hx hb dX_isTooLongDead_18 (by decide) (fun c_2 => ?_) (fun c_2 => ?_)
    · refine lv_iconst (v := 0) hx hb dX_isTooLongDead_25 (by decide) ?_
      exact W.zret (v := 0) hx hb hr rfl (fun t ht hW => ⟨_, rfl, (by rw [fX_isTooLongDead, if_neg c_1, if_pos c_2] <;> rfl), ht⟩) (fun q h => nomatch h) dX_isTooLongDead_26
    · refine lv_iconst (v := 1) hx hb dX_isTooLongDead_21 (by decide) ?_
      refine lv_goto (tgt := 26) hx hb dX_isTooLongDead_22 (by decide) ?_
      exact W.zret (v := 1) hx hb hr rfl (fun t ht hW => ⟨_, rfl, (by rw [fX_isTooLongDead, if_neg c_1, if_neg c_2] <;> rfl), ht⟩) (fun q h => nomatch h) dX_isTooLongDead_26
def fX_shareOf (sL : NL) (sA : NA) (i : Nat) : Int32 := if (sA (4 * i + 11) 1) = (-1) then 0 else (if (sA (4 * i + 11) 6) < 1000 then 0 else (if (fX_isTooLongDead sL sA i) = 0 then imin 12500 (((fX_ofBand (sA (4 * i + 11) 6) 0 50000 4) + (fX_ofBand (sA (4 * i + 11) 6) 50000 200000 3)) + (fX_ofBand (sA (4 * i + 11) 6) 200000 1000000 1)) else 0))
theorem hdyX_shareOf : yX_shareOf.cls ≠ "java/lang/invoke/MethodHandle" ∧ yX_shareOf.cls ≠ "java/lang/invoke/VarHandle" ∧ (parseMethodDescriptor yX_shareOf.desc).map (fun d => d.parameters.length) = some 1 := by decide +kernel
theorem dX_shareOf_0 : decode bX_shareOf 0 = .ok (.aload_n 0, 1) := by decide +kernel
theorem dX_shareOf_1 : decode bX_shareOf 1 = .ok (.getfield 101, 3) := by decide +kernel
theorem dX_shareOf_4 : decode bX_shareOf 4 = .ok (.istore_n 1, 1) := by decide +kernel
theorem dX_shareOf_5 : decode bX_shareOf 5 = .ok (.aload_n 0, 1) := by decide +kernel
theorem dX_shareOf_6 : decode bX_shareOf 6 = .ok (.getfield 209, 3) := by decide +kernel
theorem dX_shareOf_9 : decode bX_shareOf 9 = .ok (.iconst (-1), 1) := by decide +kernel
theorem dX_shareOf_10 : decode bX_shareOf 10 = .ok (.if_icmp .eq 17, 3) := by decide +kernel
theorem dX_shareOf_13 : decode bX_shareOf 13 = .ok (.iload_n 1, 1) := by decide +kernel
theorem dX_shareOf_14 : decode bX_shareOf 14 = .ok (.sipush 1000, 3) := by decide +kernel
theorem dX_shareOf_17 : decode bX_shareOf 17 = .ok (.if_icmp .lt 10, 3) := by decide +kernel
theorem dX_shareOf_20 : decode bX_shareOf 20 = .ok (.aload_n 0, 1) := by decide +kernel
theorem dX_shareOf_21 : decode bX_shareOf 21 = .ok (.invokestatic 212, 3) := by decide +kernel
theorem dX_shareOf_24 : decode bX_shareOf 24 = .ok (.ifCond .eq 5, 3) := by decide +kernel
theorem dX_shareOf_27 : decode bX_shareOf 27 = .ok (.iconst 0, 1) := by decide +kernel
theorem dX_shareOf_28 : decode bX_shareOf 28 = .ok (.ireturn, 1) := by decide +kernel
theorem dX_shareOf_29 : decode bX_shareOf 29 = .ok (.iload_n 1, 1) := by decide +kernel
theorem dX_shareOf_30 : decode bX_shareOf 30 = .ok (.iconst 0, 1) := by decide +kernel
theorem dX_shareOf_31 : decode bX_shareOf 31 = .ok (.ldc 208, 2) := by decide +kernel
theorem dX_shareOf_33 : decode bX_shareOf 33 = .ok (.iconst 4, 1) := by decide +kernel
theorem dX_shareOf_34 : decode bX_shareOf 34 = .ok (.invokestatic 204, 3) := by decide +kernel
theorem dX_shareOf_37 : decode bX_shareOf 37 = .ok (.iload_n 1, 1) := by decide +kernel
theorem dX_shareOf_38 : decode bX_shareOf 38 = .ok (.ldc 208, 2) := by decide +kernel
theorem dX_shareOf_40 : decode bX_shareOf 40 = .ok (.ldc 216, 2) := by decide +kernel
theorem dX_shareOf_42 : decode bX_shareOf 42 = .ok (.iconst 3, 1) := by decide +kernel
theorem dX_shareOf_43 : decode bX_shareOf 43 = .ok (.invokestatic 204, 3) := by decide +kernel
theorem dX_shareOf_46 : decode bX_shareOf 46 = .ok (.iadd, 1) := by decide +kernel
theorem dX_shareOf_47 : decode bX_shareOf 47 = .ok (.iload_n 1, 1) := by decide +kernel
theorem dX_shareOf_48 : decode bX_shareOf 48 = .ok (.ldc 216, 2) := by decide +kernel
theorem dX_shareOf_50 : decode bX_shareOf 50 = .ok (.ldc 30, 2) := by decide +kernel
theorem dX_shareOf_52 : decode bX_shareOf 52 = .ok (.iconst 1, 1) := by decide +kernel
theorem dX_shareOf_53 : decode bX_shareOf 53 = .ok (.invokestatic 204, 3) := by decide +kernel
theorem dX_shareOf_56 : decode bX_shareOf 56 = .ok (.iadd, 1) := by decide +kernel
theorem dX_shareOf_57 : decode bX_shareOf 57 = .ok (.istore_n 2, 1) := by decide +kernel
theorem dX_shareOf_58 : decode bX_shareOf 58 = .ok (.sipush 12500, 3) := by decide +kernel
theorem dX_shareOf_61 : decode bX_shareOf 61 = .ok (.iload_n 2, 1) := by decide +kernel
theorem dX_shareOf_62 : decode bX_shareOf 62 = .ok (.invokestatic 195, 3) := by decide +kernel
theorem dX_shareOf_65 : decode bX_shareOf 65 = .ok (.ireturn, 1) := by decide +kernel
set_option maxHeartbeats 4000000 in
set_option maxRecDepth 100000 in
theorem cX_shareOf (l : Launch) (D : va_G) (tI tJ tL : ClassId) (A : Nat → Prop) (sg ad : Nat → Nat) (n : Nat) (sL : NL) (sA : NA) (i : Nat) (hi : i < n) : Met l yX_shareOf (Cond.code yX_shareOf bX_shareOf 3 (some FieldType.int) :: wNeed) { frames := 2, cells := 0, slots := 0, locals := 44 } (va_Pc [.ref (ad (4 * i + 11))] (GP D tI tJ tL A sg ad n sL sA)) (vp_Si fun r => r = fX_shareOf sL sA i) 0 0 (fun _ => False) := by
  refine en_M (av := [.ref (ad (4 * i + 11))]) (by decide) (Nat.le_of_ble_eq_true rfl) ?_
  intro p e s m below meth c hx hb hml hown hts hr hlocks hmname hP ls hl
  obtain ⟨hG, hC⟩ := hP
  have hS : va_S A s.heap s.heap [] := va_S.rf
  replace hl : lv_has ls 3 [(0, .ref (ad (4 * i + 11)))] := hl
  refine lv_aload_n hx hb dX_shareOf_0 rfl (lv_at hl 0 rfl) ?_
  refine rl_getN (v := .int (sA (4 * i + 11) 6)) hx hb hts hown hC hG 6 hi (by decide) z_248 (rfl) dX_shareOf_1 ?_
  refine lv_istore_n (lv' := [(1, .int (sA (4 * i + 11) 6)), (0, .ref (ad (4 * i + 11)))]) hx hb dX_shareOf_4 rfl hl (by decide) rfl (fun ls hl => ?_)
  refine lv_aload_n hx hb dX_shareOf_5 rfl (lv_at hl 1 rfl) ?_
  refine rl_getN (v := .int (sA (4 * i + 11) 1)) hx hb hts hown hC hG 1 hi (by decide) z_238 (rfl) dX_shareOf_6 ?_
  refine lv_iconst (v := (-1)) hx hb dX_shareOf_9 (by decide) ?_
  refine lv_icmp_eq (tgt := 27) hx hb dX_shareOf_10 (by decide) (fun c_1 => ?_) (fun c_1 => ?_)
  · refine lv_iconst (v := 0) hx hb dX_shareOf_27 (by decide) ?_
    exact W.iret (v := 0) hx hb hr (fun t ht hW => ⟨_, rfl, (by rw [fX_shareOf, if_pos c_1] <;> rfl), ht⟩) (fun q h => nomatch h) dX_shareOf_28
  · refine lv_iload_n hx hb dX_shareOf_13 rfl (lv_at hl 0 rfl) ?_
    refine lv_sipush (v := 1000) hx hb dX_shareOf_14 (by decide) ?_
    refine lv_icmp_lt (tgt := 27) hx hb dX_shareOf_17 (by decide) (fun c_2 => ?_) (fun c_2 => ?_)
    · refine lv_iconst (v := 0) hx hb dX_shareOf_27 (by decide) ?_
      exact W.iret (v := 0) hx hb hr (fun t ht hW => ⟨_, rfl, (by rw [fX_shareOf, if_neg c_1, if_pos c_2] <;> rfl), ht⟩) (fun q h => nomatch h) dX_shareOf_28
    · refine lv_aload_n hx hb dX_shareOf_20 rfl (lv_at hl 1 rfl) ?_
      refine rcS2 (rest := []) (As := [.ref (ad (4 * i + 11))]) hx hb hml hown hts hC hG hS (cX_isTooLongDead l D tI tJ tL A sg ad n sL sA i hi) (gS q_393 q_394 q_1 q_395) rfl rfl ⟨rfl, hdyX_isTooLongDead⟩ ⟨Nat.le_of_ble_eq_true rfl, Nat.le_of_ble_eq_true rfl⟩ hl.1 rfl (Nat.le_of_ble_eq_true rfl) dX_shareOf_21 ⟨Nat.le_of_ble_eq_true rfl, Nat.le_of_ble_eq_true rfl⟩ ?_
      refine lv_if_eq (tgt := 29) hx hb dX_shareOf_24 (by decide) (fun c_3 => ?_) (fun c_3 => ?_)
      · refine lv_iload_n hx hb dX_shareOf_29 rfl (lv_at hl 0 rfl) ?_
        refine lv_iconst (v := 0) hx hb dX_shareOf_30 (by decide) ?_
        refine lv_ldc (v := 50000) hx hb hown (hts _ q_355) dX_shareOf_31 ?_
        refine lv_iconst (v := 4) hx hb dX_shareOf_33 (by decide) ?_
        refine rcS1 (rest := []) (As := [.int (sA (4 * i + 11) 6), .int 0, .int 50000, .int 4]) hx hb hml hown hts (cX_ofBand l (sA (4 * i + 11) 6) 0 50000 4) (gS q_352 q_353 q_1 q_354) rfl rfl ⟨rfl, hdyX_ofBand⟩ ⟨Nat.le_of_ble_eq_true rfl, Nat.le_of_ble_eq_true rfl⟩ hl.1 rfl (Nat.le_of_ble_eq_true rfl) dX_shareOf_34 ⟨Nat.le_of_ble_eq_true rfl, Nat.le_of_ble_eq_true rfl⟩ ?_
        refine lv_iload_n hx hb dX_shareOf_37 rfl (lv_at hl 0 rfl) ?_
        refine lv_ldc (v := 50000) hx hb hown (hts _ q_355) dX_shareOf_38 ?_
        refine lv_ldc (v := 200000) hx hb hown (hts _ q_396) dX_shareOf_40 ?_
        refine lv_iconst (v := 3) hx hb dX_shareOf_42 (by decide) ?_
        refine rcS1 (rest := [.int (fX_ofBand (sA (4 * i + 11) 6) 0 50000 4)]) (As := [.int (sA (4 * i + 11) 6), .int 50000, .int 200000, .int 3]) hx hb hml hown hts (cX_ofBand l (sA (4 * i + 11) 6) 50000 200000 3) (gS q_352 q_353 q_1 q_354) rfl rfl ⟨rfl, hdyX_ofBand⟩ ⟨Nat.le_of_ble_eq_true rfl, Nat.le_of_ble_eq_true rfl⟩ hl.1 rfl (Nat.le_of_ble_eq_true rfl) dX_shareOf_43 ⟨Nat.le_of_ble_eq_true rfl, Nat.le_of_ble_eq_true rfl⟩ ?_
        refine lv_iadd hx hb dX_shareOf_46 ?_
        refine lv_iload_n hx hb dX_shareOf_47 rfl (lv_at hl 0 rfl) ?_
        refine lv_ldc (v := 200000) hx hb hown (hts _ q_396) dX_shareOf_48 ?_
        refine lv_ldc (v := 1000000) hx hb hown (hts _ q_186) dX_shareOf_50 ?_
        refine lv_iconst (v := 1) hx hb dX_shareOf_52 (by decide) ?_
        refine rcS1 (rest := [.int ((fX_ofBand (sA (4 * i + 11) 6) 0 50000 4) + (fX_ofBand (sA (4 * i + 11) 6) 50000 200000 3))]) (As := [.int (sA (4 * i + 11) 6), .int 200000, .int 1000000, .int 1]) hx hb hml hown hts (cX_ofBand l (sA (4 * i + 11) 6) 200000 1000000 1) (gS q_352 q_353 q_1 q_354) rfl rfl ⟨rfl, hdyX_ofBand⟩ ⟨Nat.le_of_ble_eq_true rfl, Nat.le_of_ble_eq_true rfl⟩ hl.1 rfl (Nat.le_of_ble_eq_true rfl) dX_shareOf_53 ⟨Nat.le_of_ble_eq_true rfl, Nat.le_of_ble_eq_true rfl⟩ ?_
        refine lv_iadd hx hb dX_shareOf_56 ?_
        refine lv_istore_n (lv' := [(2, .int (((fX_ofBand (sA (4 * i + 11) 6) 0 50000 4) + (fX_ofBand (sA (4 * i + 11) 6) 50000 200000 3)) + (fX_ofBand (sA (4 * i + 11) 6) 200000 1000000 1))), (1, .int (sA (4 * i + 11) 6)), (0, .ref (ad (4 * i + 11)))]) hx hb dX_shareOf_57 rfl hl (by decide) rfl (fun ls hl => ?_)
        refine lv_sipush (v := 12500) hx hb dX_shareOf_58 (by decide) ?_
        refine lv_iload_n hx hb dX_shareOf_61 rfl (lv_at hl 0 rfl) ?_
        refine va_mmin hx hb (by rw [hml]; exact hl.1.symm) hown (hts _ q_333) (hts _ q_334) (hts _ q_6) (hts _ q_335) (Nat.le_of_ble_eq_true rfl) (Nat.le_of_ble_eq_true rfl) (Nat.le_of_ble_eq_true rfl) (Nat.le_of_ble_eq_true rfl) dX_shareOf_62 ?_
        exact W.iret (v := imin 12500 (((fX_ofBand (sA (4 * i + 11) 6) 0 50000 4) + (fX_ofBand (sA (4 * i + 11) 6) 50000 200000 3)) + (fX_ofBand (sA (4 * i + 11) 6) 200000 1000000 1))) hx hb hr (fun t ht hW => ⟨_, rfl, (by rw [fX_shareOf, if_neg c_1, if_neg c_2, if_pos c_3] <;> rfl), ht⟩) (fun q h => nomatch h) dX_shareOf_65
      · refine lv_iconst (v := 0) hx hb dX_shareOf_27 (by decide) ?_
        exact W.iret (v := 0) hx hb hr (fun t ht hW => ⟨_, rfl, (by rw [fX_shareOf, if_neg c_1, if_neg c_2, if_neg c_3] <;> rfl), ht⟩) (fun q h => nomatch h) dX_shareOf_28
def fX_interestOf (sL : NL) (sA : NA) (i : Nat) : Int32 := if (sA (4 * i + 11) 4) = 4 then sA (4 * i + 11) 12 else (((((sA (4 * i + 11) 10 : Int32).toInt64) * (((sA 0 4) - (sA (4 * i + 11) 11) : Int32).toInt64)) * ((sA 0 5 : Int32).toInt64)) / 100000 : Int64).toInt32
theorem hdyX_interestOf : yX_interestOf.cls ≠ "java/lang/invoke/MethodHandle" ∧ yX_interestOf.cls ≠ "java/lang/invoke/VarHandle" ∧ (parseMethodDescriptor yX_interestOf.desc).map (fun d => d.parameters.length) = some 1 := by decide +kernel
theorem dX_interestOf_0 : decode bX_interestOf 0 = .ok (.aload_n 1, 1) := by decide +kernel
theorem dX_interestOf_1 : decode bX_interestOf 1 = .ok (.getfield 85, 3) := by decide +kernel
theorem dX_interestOf_4 : decode bX_interestOf 4 = .ok (.iconst 4, 1) := by decide +kernel
theorem dX_interestOf_5 : decode bX_interestOf 5 = .ok (.if_icmp .ne 8, 3) := by decide +kernel
theorem dX_interestOf_8 : decode bX_interestOf 8 = .ok (.aload_n 1, 1) := by decide +kernel
theorem dX_interestOf_9 : decode bX_interestOf 9 = .ok (.getfield 168, 3) := by decide +kernel
theorem dX_interestOf_12 : decode bX_interestOf 12 = .ok (.ireturn, 1) := by decide +kernel
theorem dX_interestOf_13 : decode bX_interestOf 13 = .ok (.aload_n 0, 1) := by decide +kernel
theorem dX_interestOf_14 : decode bX_interestOf 14 = .ok (.getfield 104, 3) := by decide +kernel
theorem dX_interestOf_17 : decode bX_interestOf 17 = .ok (.aload_n 1, 1) := by decide +kernel
theorem dX_interestOf_18 : decode bX_interestOf 18 = .ok (.getfield 149, 3) := by decide +kernel
theorem dX_interestOf_21 : decode bX_interestOf 21 = .ok (.isub, 1) := by decide +kernel
theorem dX_interestOf_22 : decode bX_interestOf 22 = .ok (.i2l, 1) := by decide +kernel
theorem dX_interestOf_23 : decode bX_interestOf 23 = .ok (.lstore_n 2, 1) := by decide +kernel
theorem dX_interestOf_24 : decode bX_interestOf 24 = .ok (.aload_n 1, 1) := by decide +kernel
theorem dX_interestOf_25 : decode bX_interestOf 25 = .ok (.getfield 144, 3) := by decide +kernel
theorem dX_interestOf_28 : decode bX_interestOf 28 = .ok (.i2l, 1) := by decide +kernel
theorem dX_interestOf_29 : decode bX_interestOf 29 = .ok (.lload_n 2, 1) := by decide +kernel
theorem dX_interestOf_30 : decode bX_interestOf 30 = .ok (.lmul, 1) := by decide +kernel
theorem dX_interestOf_31 : decode bX_interestOf 31 = .ok (.aload_n 0, 1) := by decide +kernel
theorem dX_interestOf_32 : decode bX_interestOf 32 = .ok (.getfield 22, 3) := by decide +kernel
theorem dX_interestOf_35 : decode bX_interestOf 35 = .ok (.i2l, 1) := by decide +kernel
theorem dX_interestOf_36 : decode bX_interestOf 36 = .ok (.lmul, 1) := by decide +kernel
theorem dX_interestOf_37 : decode bX_interestOf 37 = .ok (.ldc2_w 217, 3) := by decide +kernel
theorem dX_interestOf_40 : decode bX_interestOf 40 = .ok (.ldiv, 1) := by decide +kernel
theorem dX_interestOf_41 : decode bX_interestOf 41 = .ok (.l2i, 1) := by decide +kernel
theorem dX_interestOf_42 : decode bX_interestOf 42 = .ok (.ireturn, 1) := by decide +kernel
set_option maxHeartbeats 4000000 in
set_option maxRecDepth 100000 in
theorem cX_interestOf (l : Launch) (D : va_G) (tI tJ tL : ClassId) (A : Nat → Prop) (sg ad : Nat → Nat) (n : Nat) (sL : NL) (sA : NA) (i : Nat) (hi : i < n) : Met l yX_interestOf (Cond.code yX_interestOf bX_interestOf 4 (some FieldType.int) :: wNeed) { frames := 0, cells := 0, slots := 0, locals := 0 } (va_Pc [.ref (ad 0), .ref (ad (4 * i + 11))] (GP D tI tJ tL A sg ad n sL sA)) (vp_Si fun r => r = fX_interestOf sL sA i) 0 0 (fun _ => False) := by
  refine en_M (av := [.ref (ad 0), .ref (ad (4 * i + 11))]) (by decide) (Nat.le_of_ble_eq_true rfl) ?_
  intro p e s m below meth c hx hb hml hown hts hr hlocks hmname hP ls hl
  obtain ⟨hG, hC⟩ := hP
  have hS : va_S A s.heap s.heap [] := va_S.rf
  replace hl : lv_has ls 4 [(0, .ref (ad 0)), (1, .ref (ad (4 * i + 11)))] := hl
  refine lv_aload_n hx hb dX_interestOf_0 rfl (lv_at hl 1 rfl) ?_
  refine rl_getN (v := .int (sA (4 * i + 11) 4)) hx hb hts hown hC hG 4 hi (by decide) z_244 (rfl) dX_interestOf_1 ?_
  refine lv_iconst (v := 4) hx hb dX_interestOf_4 (by decide) ?_
  refine lv_icmp_ne (tgt := 13) hx hb dX_interestOf_5 (by decide) (fun c_1 => ?_) (fun c_1 => ?_)
  · refine lv_aload_n hx hb dX_interestOf_13 rfl (lv_at hl 0 rfl) ?_
    refine rx_get (v := .int (sA 0 4)) hx hb hts hown hC hG 4 (by decide) q_25 (rfl) dX_interestOf_14 ?_
    refine lv_aload_n hx hb dX_interestOf_17 rfl (lv_at hl 1 rfl) ?_
    refine rl_getN (v := .int (sA (4 * i + 11) 11)) hx hb hts hown hC hG 11 hi (by decide) z_255 (rfl) dX_interestOf_18 ?_
    refine lv_isub hx hb dX_interestOf_21 ?_
    refine lv_i2l (v := ((sA 0 4) - (sA (4 * i + 11) 11) : Int32).toInt64) hx hb dX_interestOf_22 rfl ?_
    refine lv_lstore_n (lv' := [(2, .long (((sA 0 4) - (sA (4 * i + 11) 11) : Int32).toInt64)), (0, .ref (ad 0)), (1, .ref (ad (4 * i + 11)))]) hx hb dX_interestOf_23 rfl hl (by decide) rfl (fun ls hl => ?_)
    refine lv_aload_n hx hb dX_interestOf_24 rfl (lv_at hl 2 rfl) ?_
    refine rl_getN (v := .int (sA (4 * i + 11) 10)) hx hb hts hown hC hG 10 hi (by decide) z_254 (rfl) dX_interestOf_25 ?_
    refine lv_i2l (v := (sA (4 * i + 11) 10 : Int32).toInt64) hx hb dX_interestOf_28 rfl ?_
    refine lv_lload_n hx hb dX_interestOf_29 rfl (lv_at hl 0 rfl) ?_
    refine lv_lmul hx hb dX_interestOf_30 ?_
    refine lv_aload_n hx hb dX_interestOf_31 rfl (lv_at hl 1 rfl) ?_
    refine rx_get (v := .int (sA 0 5)) hx hb hts hown hC hG 5 (by decide) q_26 (rfl) dX_interestOf_32 ?_
    refine lv_i2l (v := (sA 0 5 : Int32).toInt64) hx hb dX_interestOf_35 rfl ?_
    refine lv_lmul hx hb dX_interestOf_36 ?_
    refine lv_ldc2 (v := 100000) hx hb hown (hts _ q_401) dX_interestOf_37 ?_
    refine lv_ldiv hx hb dX_interestOf_40 (by decide) ?_
    refine lv_l2i (v := (((((sA (4 * i + 11) 10 : Int32).toInt64) * (((sA 0 4) - (sA (4 * i + 11) 11) : Int32).toInt64)) * ((sA 0 5 : Int32).toInt64)) / 100000 : Int64).toInt32) hx hb dX_interestOf_41 rfl ?_
    exact W.iret (v := (((((sA (4 * i + 11) 10 : Int32).toInt64) * (((sA 0 4) - (sA (4 * i + 11) 11) : Int32).toInt64)) * ((sA 0 5 : Int32).toInt64)) / 100000 : Int64).toInt32) hx hb hr (fun t ht hW => ⟨_, rfl, (by rw [fX_interestOf, if_neg c_1] <;> rfl), ht⟩) (fun q h => nomatch h) dX_interestOf_42
  · refine lv_aload_n hx hb dX_interestOf_8 rfl (lv_at hl 1 rfl) ?_
    refine rl_getN (v := .int (sA (4 * i + 11) 12)) hx hb hts hown hC hG 12 hi (by decide) z_256 (rfl) dX_interestOf_9 ?_
    exact W.iret (v := sA (4 * i + 11) 12) hx hb hr (fun t ht hW => ⟨_, rfl, (by rw [fX_interestOf, if_pos c_1] <;> rfl), ht⟩) (fun q h => nomatch h) dX_interestOf_12
def fX_hundredthsOf (sL : NL) (sA : NA) (p0 : Int32) : Nat × Int32 := bnd (fX_checkSeller p0) ((0, sA 2 p0.toNatClampNeg)) 0
theorem hdyX_hundredthsOf : yX_hundredthsOf.cls ≠ "java/lang/invoke/MethodHandle" ∧ yX_hundredthsOf.cls ≠ "java/lang/invoke/VarHandle" ∧ (parseMethodDescriptor yX_hundredthsOf.desc).map (fun d => d.parameters.length) = some 1 := by decide +kernel
theorem dX_hundredthsOf_0 : decode bX_hundredthsOf 0 = .ok (.iload_n 1, 1) := by decide +kernel
theorem dX_hundredthsOf_1 : decode bX_hundredthsOf 1 = .ok (.invokestatic 26, 3) := by decide +kernel
theorem dX_hundredthsOf_4 : decode bX_hundredthsOf 4 = .ok (.aload_n 0, 1) := by decide +kernel
theorem dX_hundredthsOf_5 : decode bX_hundredthsOf 5 = .ok (.getfield 15, 3) := by decide +kernel
theorem dX_hundredthsOf_8 : decode bX_hundredthsOf 8 = .ok (.iload_n 1, 1) := by decide +kernel
theorem dX_hundredthsOf_9 : decode bX_hundredthsOf 9 = .ok (.iaload, 1) := by decide +kernel
theorem dX_hundredthsOf_10 : decode bX_hundredthsOf 10 = .ok (.ireturn, 1) := by decide +kernel
set_option maxHeartbeats 4000000 in
set_option maxRecDepth 100000 in
theorem cX_hundredthsOf (l : Launch) (hl9 : l.stackTraces = false) (D : va_G) (tI tJ tL : ClassId) (A : Nat → Prop) (sg ad : Nat → Nat) (n : Nat) (sL : NL) (sA : NA) (p0 : Int32) : vx_Met l yX_hundredthsOf (Cond.code yX_hundredthsOf bX_hundredthsOf 2 (some FieldType.int) :: wNeed) { frames := 7, cells := 1, slots := 6, locals := 110 } (va_Pc [.ref (ad 0), .int p0] (GP D tI tJ tL A sg ad n sL sA)) (va_Qi (fun r (_ : Unit) => fX_hundredthsOf sL sA p0 = (0, r)) (fun _ t => GW D tI tJ tL A ad n sL sA t.heap) A) (XQ D tI tJ tL A ad n sL sA (fX_hundredthsOf sL sA p0).1) 1 6 A := by
  refine en_XG (av := [.ref (ad 0), .int p0]) (by decide) (Nat.le_of_ble_eq_true rfl) ?_
  intro p e s m below meth c hx hb hml hown hts hr hlocks hT hC H locs hG hS ls hl
  replace hl : lv_has ls 2 [(0, .ref (ad 0)), (1, .int p0)] := hl
  refine lv_iload_n hx hb dX_hundredthsOf_0 rfl (lv_at hl 1 rfl) ?_
  refine rcS4 (rest := []) (As := [.int p0]) (Mc := 1) (Ms := 6) hx hb hml hown hts hC hG hS hlocks hT (cX_checkSeller l hl9 D tI tJ tL A sg ad n sL sA p0) (gS q_54 q_55 q_1 q_56) rfl rfl ⟨rfl, hdyX_checkSeller⟩ ⟨Nat.le_of_ble_eq_true rfl, Nat.le_of_ble_eq_true rfl⟩ hl.1 rfl (Nat.le_of_ble_eq_true rfl) dX_hundredthsOf_1 ⟨Nat.le_of_ble_eq_true rfl, Nat.le_of_ble_eq_true rfl⟩ ⟨Nat.le_of_ble_eq_true rfl, Nat.le_of_ble_eq_true rfl⟩ (fun h => by rw [fX_hundredthsOf, bnd_n h] <;> rfl) (fun h_1 H locs hG hS => ?_)
  refine lv_aload_n hx hb dX_hundredthsOf_4 rfl (lv_at hl 0 rfl) ?_
  refine rx_get (v := .ref (ad 2)) hx hb hts hown hC hG 1 (by decide) q_22 (rfl) dX_hundredthsOf_5 ?_
  refine lv_iload_n hx hb dX_hundredthsOf_8 rfl (lv_at hl 1 rfl) ?_
  refine ra_ld hx hb hC hG 2 6 (by omega) (fun _ _ => rfl) (vin_seller h_1) dX_hundredthsOf_9 ?_
  refine vx_ret ?_
  refine W.widen (k := 1) (n := 6) (Nat.le_of_ble_eq_true rfl) (Nat.le_of_ble_eq_true rfl) ?_
  exact W.iret (v := sA 2 p0.toNatClampNeg) hx hb hr (fun t ht hW => ⟨⟨(sA 2 p0.toNatClampNeg), (), rfl, (by rw [fX_hundredthsOf, bnd_0 h_1] <;> rfl), gw_at hG ht⟩, hS.F ht⟩) hS.2.2 dX_hundredthsOf_10
def fX_owedBy (sL : NL) (sA : NA) (p0 : Int32) : Nat × Int32 := bnd (fX_checkBuyer p0) ((0, sA 3 p0.toNatClampNeg)) 0
theorem hdyX_owedBy : yX_owedBy.cls ≠ "java/lang/invoke/MethodHandle" ∧ yX_owedBy.cls ≠ "java/lang/invoke/VarHandle" ∧ (parseMethodDescriptor yX_owedBy.desc).map (fun d => d.parameters.length) = some 1 := by decide +kernel
theorem dX_owedBy_0 : decode bX_owedBy 0 = .ok (.iload_n 1, 1) := by decide +kernel
theorem dX_owedBy_1 : decode bX_owedBy 1 = .ok (.invokestatic 58, 3) := by decide +kernel
theorem dX_owedBy_4 : decode bX_owedBy 4 = .ok (.aload_n 0, 1) := by decide +kernel
theorem dX_owedBy_5 : decode bX_owedBy 5 = .ok (.getfield 19, 3) := by decide +kernel
theorem dX_owedBy_8 : decode bX_owedBy 8 = .ok (.iload_n 1, 1) := by decide +kernel
theorem dX_owedBy_9 : decode bX_owedBy 9 = .ok (.iaload, 1) := by decide +kernel
theorem dX_owedBy_10 : decode bX_owedBy 10 = .ok (.ireturn, 1) := by decide +kernel
set_option maxHeartbeats 4000000 in
set_option maxRecDepth 100000 in
theorem cX_owedBy (l : Launch) (hl9 : l.stackTraces = false) (D : va_G) (tI tJ tL : ClassId) (A : Nat → Prop) (sg ad : Nat → Nat) (n : Nat) (sL : NL) (sA : NA) (p0 : Int32) : vx_Met l yX_owedBy (Cond.code yX_owedBy bX_owedBy 2 (some FieldType.int) :: wNeed) { frames := 7, cells := 1, slots := 6, locals := 110 } (va_Pc [.ref (ad 0), .int p0] (GP D tI tJ tL A sg ad n sL sA)) (va_Qi (fun r (_ : Unit) => fX_owedBy sL sA p0 = (0, r)) (fun _ t => GW D tI tJ tL A ad n sL sA t.heap) A) (XQ D tI tJ tL A ad n sL sA (fX_owedBy sL sA p0).1) 1 6 A := by
  refine en_XG (av := [.ref (ad 0), .int p0]) (by decide) (Nat.le_of_ble_eq_true rfl) ?_
  intro p e s m below meth c hx hb hml hown hts hr hlocks hT hC H locs hG hS ls hl
  replace hl : lv_has ls 2 [(0, .ref (ad 0)), (1, .int p0)] := hl
  refine lv_iload_n hx hb dX_owedBy_0 rfl (lv_at hl 1 rfl) ?_
  refine rcS4 (rest := []) (As := [.int p0]) (Mc := 1) (Ms := 6) hx hb hml hown hts hC hG hS hlocks hT (cX_checkBuyer l hl9 D tI tJ tL A sg ad n sL sA p0) (gS q_293 q_294 q_1 q_295) rfl rfl ⟨rfl, hdyX_checkBuyer⟩ ⟨Nat.le_of_ble_eq_true rfl, Nat.le_of_ble_eq_true rfl⟩ hl.1 rfl (Nat.le_of_ble_eq_true rfl) dX_owedBy_1 ⟨Nat.le_of_ble_eq_true rfl, Nat.le_of_ble_eq_true rfl⟩ ⟨Nat.le_of_ble_eq_true rfl, Nat.le_of_ble_eq_true rfl⟩ (fun h => by rw [fX_owedBy, bnd_n h] <;> rfl) (fun h_1 H locs hG hS => ?_)
  refine lv_aload_n hx hb dX_owedBy_4 rfl (lv_at hl 0 rfl) ?_
  refine rx_get (v := .ref (ad 3)) hx hb hts hown hC hG 2 (by decide) q_23 (rfl) dX_owedBy_5 ?_
  refine lv_iload_n hx hb dX_owedBy_8 rfl (lv_at hl 1 rfl) ?_
  refine ra_ld hx hb hC hG 3 10 (by omega) (fun _ _ => rfl) (vin_buyer h_1) dX_owedBy_9 ?_
  refine vx_ret ?_
  refine W.widen (k := 1) (n := 6) (Nat.le_of_ble_eq_true rfl) (Nat.le_of_ble_eq_true rfl) ?_
  exact W.iret (v := sA 3 p0.toNatClampNeg) hx hb hr (fun t ht hW => ⟨⟨(sA 3 p0.toNatClampNeg), (), rfl, (by rw [fX_owedBy, bnd_0 h_1] <;> rfl), gw_at hG ht⟩, hS.F ht⟩) hS.2.2 dX_owedBy_10
def fX_addToDebt (sL : NL) (sA : NA) (p0 : Int32) (p1 : Int32) : NL × NA := (sL, (up2 sA 3 p0.toNatClampNeg ((sA 3 p0.toNatClampNeg) + p1)))
theorem hdyX_addToDebt : yX_addToDebt.cls ≠ "java/lang/invoke/MethodHandle" ∧ yX_addToDebt.cls ≠ "java/lang/invoke/VarHandle" ∧ (parseMethodDescriptor yX_addToDebt.desc).map (fun d => d.parameters.length) = some 2 := by decide +kernel
theorem dX_addToDebt_0 : decode bX_addToDebt 0 = .ok (.iload_n 1, 1) := by decide +kernel
theorem dX_addToDebt_1 : decode bX_addToDebt 1 = .ok (.invokestatic 58, 3) := by decide +kernel
theorem dX_addToDebt_4 : decode bX_addToDebt 4 = .ok (.aload_n 0, 1) := by decide +kernel
theorem dX_addToDebt_5 : decode bX_addToDebt 5 = .ok (.getfield 19, 3) := by decide +kernel
theorem dX_addToDebt_8 : decode bX_addToDebt 8 = .ok (.iload_n 1, 1) := by decide +kernel
theorem dX_addToDebt_9 : decode bX_addToDebt 9 = .ok (.dup2, 1) := by decide +kernel
theorem dX_addToDebt_10 : decode bX_addToDebt 10 = .ok (.iaload, 1) := by decide +kernel
theorem dX_addToDebt_11 : decode bX_addToDebt 11 = .ok (.iload_n 2, 1) := by decide +kernel
theorem dX_addToDebt_12 : decode bX_addToDebt 12 = .ok (.iadd, 1) := by decide +kernel
theorem dX_addToDebt_13 : decode bX_addToDebt 13 = .ok (.iastore, 1) := by decide +kernel
theorem dX_addToDebt_14 : decode bX_addToDebt 14 = .ok (.return_, 1) := by decide +kernel
set_option maxHeartbeats 4000000 in
set_option maxRecDepth 100000 in
theorem cX_addToDebt (l : Launch) (hl9 : l.stackTraces = false) (D : va_G) (tI tJ tL : ClassId) (A : Nat → Prop) (sg ad : Nat → Nat) (n : Nat) (sL : NL) (sA : NA) (p0 : Int32) (p1 : Int32) (hq : fX_checkBuyer p0 = 0) : Met l yX_addToDebt (Cond.code yX_addToDebt bX_addToDebt 3 none :: wNeed) { frames := 7, cells := 1, slots := 6, locals := 110 } (va_Pc [.ref (ad 0), .int p0, .int p1] (GP D tI tJ tL A sg ad n sL sA)) (va_Qv (fun u : NL × NA => fX_addToDebt sL sA p0 p1 = u) (fun u t => GW D tI tJ tL A ad n u.1 u.2 t.heap) A) 1 6 A := by
  refine en_G (av := [.ref (ad 0), .int p0, .int p1]) (by decide) (Nat.le_of_ble_eq_true rfl) ?_
  intro p e s m below meth c hx hb hml hown hts hr hlocks hmname hC H locs hG hS ls hl
  replace hl : lv_has ls 3 [(0, .ref (ad 0)), (1, .int p0), (2, .int p1)] := hl
  refine lv_iload_n hx hb dX_addToDebt_0 rfl (lv_at hl 1 rfl) ?_
  refine rcS4n (rest := []) (As := [.int p0]) hx hb hml hown hts hC hG hS (cX_checkBuyer l hl9 D tI tJ tL A sg ad n sL sA p0) (gS q_293 q_294 q_1 q_295) rfl rfl ⟨rfl, hdyX_checkBuyer⟩ ⟨Nat.le_of_ble_eq_true rfl, Nat.le_of_ble_eq_true rfl⟩ hl.1 rfl (Nat.le_of_ble_eq_true rfl) dX_addToDebt_1 ⟨Nat.le_of_ble_eq_true rfl, Nat.le_of_ble_eq_true rfl⟩ (hq) (fun H locs hG hS => ?_)
  refine lv_aload_n hx hb dX_addToDebt_4 rfl (lv_at hl 0 rfl) ?_
  refine rx_get (v := .ref (ad 3)) hx hb hts hown hC hG 2 (by decide) q_23 (rfl) dX_addToDebt_5 ?_
  refine lv_iload_n hx hb dX_addToDebt_8 rfl (lv_at hl 1 rfl) ?_
  refine lv_dup2_11 hx hb dX_addToDebt_9 rfl rfl ?_
  refine ra_ld hx hb hC hG 3 10 (by omega) (fun _ _ => rfl) (vin_buyer hq) dX_addToDebt_10 ?_
  refine lv_iload_n hx hb dX_addToDebt_11 rfl (lv_at hl 2 rfl) ?_
  refine lv_iadd hx hb dX_addToDebt_12 ?_
  refine ra_st hx hb hC hG hS 3 10 (by omega) (fun _ _ => rfl) (vin_buyer hq) dX_addToDebt_13 (fun H locs hG hS => ?_)
  refine W.widen (k := 1) (n := 6) (Nat.le_of_ble_eq_true rfl) (Nat.le_of_ble_eq_true rfl) ?_
  exact W.vret hx hb hr (fun t ht hW => ⟨⟨(sL, (up2 sA 3 p0.toNatClampNeg ((sA 3 p0.toNatClampNeg) + p1))), rfl, (by rw [fX_addToDebt] <;> rfl), gw_at hG ht⟩, hS.F ht⟩) hS.2.2 dX_addToDebt_14
def fX_closeGap (sL : NL) (sA : NA) (i : Nat) : NL × NA := if (sA (4 * i + 11) 8) = (-1) then (sL, sA) else ((fX_addToDebt sL sA (sA (4 * i + 11) 8) (imax 0 ((sA (4 * i + 11) 9) - (sA (4 * i + 11) 6)))).1, (up2 ((fX_addToDebt sL sA (sA (4 * i + 11) 8) (imax 0 ((sA (4 * i + 11) 9) - (sA (4 * i + 11) 6)))).2) (4 * i + 11) 8 (-1)))
theorem hdyX_closeGap : yX_closeGap.cls ≠ "java/lang/invoke/MethodHandle" ∧ yX_closeGap.cls ≠ "java/lang/invoke/VarHandle" ∧ (parseMethodDescriptor yX_closeGap.desc).map (fun d => d.parameters.length) = some 1 := by decide +kernel
theorem dX_closeGap_0 : decode bX_closeGap 0 = .ok (.aload_n 1, 1) := by decide +kernel
theorem dX_closeGap_1 : decode bX_closeGap 1 = .ok (.getfield 130, 3) := by decide +kernel
theorem dX_closeGap_4 : decode bX_closeGap 4 = .ok (.iconst (-1), 1) := by decide +kernel
theorem dX_closeGap_5 : decode bX_closeGap 5 = .ok (.if_icmp .ne 4, 3) := by decide +kernel
theorem dX_closeGap_8 : decode bX_closeGap 8 = .ok (.return_, 1) := by decide +kernel
theorem dX_closeGap_9 : decode bX_closeGap 9 = .ok (.aload_n 0, 1) := by decide +kernel
theorem dX_closeGap_10 : decode bX_closeGap 10 = .ok (.aload_n 1, 1) := by decide +kernel
theorem dX_closeGap_11 : decode bX_closeGap 11 = .ok (.getfield 130, 3) := by decide +kernel
theorem dX_closeGap_14 : decode bX_closeGap 14 = .ok (.iconst 0, 1) := by decide +kernel
theorem dX_closeGap_15 : decode bX_closeGap 15 = .ok (.aload_n 1, 1) := by decide +kernel
theorem dX_closeGap_16 : decode bX_closeGap 16 = .ok (.getfield 133, 3) := by decide +kernel
theorem dX_closeGap_19 : decode bX_closeGap 19 = .ok (.aload_n 1, 1) := by decide +kernel
theorem dX_closeGap_20 : decode bX_closeGap 20 = .ok (.getfield 101, 3) := by decide +kernel
theorem dX_closeGap_23 : decode bX_closeGap 23 = .ok (.isub, 1) := by decide +kernel
theorem dX_closeGap_24 : decode bX_closeGap 24 = .ok (.invokestatic 201, 3) := by decide +kernel
theorem dX_closeGap_27 : decode bX_closeGap 27 = .ok (.invokevirtual 141, 3) := by decide +kernel
theorem dX_closeGap_30 : decode bX_closeGap 30 = .ok (.aload_n 1, 1) := by decide +kernel
theorem dX_closeGap_31 : decode bX_closeGap 31 = .ok (.iconst (-1), 1) := by decide +kernel
theorem dX_closeGap_32 : decode bX_closeGap 32 = .ok (.putfield 130, 3) := by decide +kernel
theorem dX_closeGap_35 : decode bX_closeGap 35 = .ok (.return_, 1) := by decide +kernel
set_option maxHeartbeats 4000000 in
set_option maxRecDepth 100000 in
theorem cX_closeGap (l : Launch) (hl9 : l.stackTraces = false) (D : va_G) (tI tJ tL : ClassId) (A : Nat → Prop) (sg ad : Nat → Nat) (n : Nat) (sL : NL) (sA : NA) (i : Nat) (hi : i < n) (hq : sA (4 * i + 11) 8 = (-1) ∨ fX_checkBuyer (sA (4 * i + 11) 8) = 0) : Met l yX_closeGap (Cond.code yX_closeGap bX_closeGap 2 none :: wNeed) { frames := 8, cells := 1, slots := 6, locals := 132 } (va_Pc [.ref (ad 0), .ref (ad (4 * i + 11))] (GP D tI tJ tL A sg ad n sL sA)) (va_Qv (fun u : NL × NA => fX_closeGap sL sA i = u) (fun u t => GW D tI tJ tL A ad n u.1 u.2 t.heap) A) 1 6 A := by
  refine en_G (av := [.ref (ad 0), .ref (ad (4 * i + 11))]) (by decide) (Nat.le_of_ble_eq_true rfl) ?_
  intro p e s m below meth c hx hb hml hown hts hr hlocks hmname hC H locs hG hS ls hl
  replace hl : lv_has ls 2 [(0, .ref (ad 0)), (1, .ref (ad (4 * i + 11)))] := hl
  refine lv_aload_n hx hb dX_closeGap_0 rfl (lv_at hl 1 rfl) ?_
  refine rl_getN (v := .int (sA (4 * i + 11) 8)) hx hb hts hown hC hG 8 hi (by decide) z_251 (rfl) dX_closeGap_1 ?_
  refine lv_iconst (v := (-1)) hx hb dX_closeGap_4 (by decide) ?_
  refine lv_icmp_ne (tgt := 9) hx hb dX_closeGap_5 (by decide) (fun c_1 => ?_) (fun c_1 => ?_)
  · refine lv_aload_n hx hb dX_closeGap_9 rfl (lv_at hl 0 rfl) ?_
    refine lv_aload_n hx hb dX_closeGap_10 rfl (lv_at hl 1 rfl) ?_
    refine rl_getN (v := .int (sA (4 * i + 11) 8)) hx hb hts hown hC hG 8 hi (by decide) z_251 (rfl) dX_closeGap_11 ?_
    refine lv_iconst (v := 0) hx hb dX_closeGap_14 (by decide) ?_
    refine lv_aload_n hx hb dX_closeGap_15 rfl (lv_at hl 1 rfl) ?_
    refine rl_getN (v := .int (sA (4 * i + 11) 9)) hx hb hts hown hC hG 9 hi (by decide) z_252 (rfl) dX_closeGap_16 ?_
    refine lv_aload_n hx hb dX_closeGap_19 rfl (lv_at hl 1 rfl) ?_
    refine rl_getN (v := .int (sA (4 * i + 11) 6)) hx hb hts hown hC hG 6 hi (by decide) z_248 (rfl) dX_closeGap_20 ?_
    refine lv_isub hx hb dX_closeGap_23 ?_
    refine va_mmax hx hb (by rw [hml]; exact hl.1.symm) hown (hts _ q_336) (hts _ q_310) (hts _ q_6) (hts _ q_311) (Nat.le_of_ble_eq_true rfl) (Nat.le_of_ble_eq_true rfl) (Nat.le_of_ble_eq_true rfl) (Nat.le_of_ble_eq_true rfl) dX_closeGap_24 ?_
    refine rcV3v (rest := []) (As := [.int (sA (4 * i + 11) 8), .int (imax 0 ((sA (4 * i + 11) 9) - (sA (4 * i + 11) 6)))]) hx hb hml hown hts hC hG hS (cX_addToDebt l hl9 D tI tJ tL A sg ad n sL sA (sA (4 * i + 11) 8) (imax 0 ((sA (4 * i + 11) 9) - (sA (4 * i + 11) 6))) (hq.resolve_left c_1)) (recX hC hG) (gV q_360 q_362 q_p3 q_1 q_363) rfl rfl ⟨rfl, hdyX_addToDebt⟩ ⟨Nat.le_of_ble_eq_true rfl, Nat.le_of_ble_eq_true rfl⟩ hl.1 rfl (Nat.le_of_ble_eq_true rfl) dX_closeGap_27 ⟨Nat.le_of_ble_eq_true rfl, Nat.le_of_ble_eq_true rfl⟩ (fun H locs hG hS => ?_)
    refine lv_aload_n hx hb dX_closeGap_30 rfl (lv_at hl 1 rfl) ?_
    refine lv_iconst (v := (-1)) hx hb dX_closeGap_31 (by decide) ?_
    refine rl_putN hx hb hts hown hC hG hS 8 hi (by decide) (by decide) z_251 dX_closeGap_32 (fun H locs hG hS => ?_)
    refine W.widen (k := 1) (n := 6) (Nat.le_of_ble_eq_true rfl) (Nat.le_of_ble_eq_true rfl) ?_
    exact W.vret hx hb hr (fun t ht hW => ⟨⟨((fX_addToDebt sL sA (sA (4 * i + 11) 8) (imax 0 ((sA (4 * i + 11) 9) - (sA (4 * i + 11) 6)))).1, (up2 ((fX_addToDebt sL sA (sA (4 * i + 11) 8) (imax 0 ((sA (4 * i + 11) 9) - (sA (4 * i + 11) 6)))).2) (4 * i + 11) 8 (-1))), rfl, (by rw [fX_closeGap, if_neg c_1] <;> rfl), gw_at hG ht⟩, hS.F ht⟩) hS.2.2 dX_closeGap_35
  · refine W.widen (k := 1) (n := 6) (Nat.le_of_ble_eq_true rfl) (Nat.le_of_ble_eq_true rfl) ?_
    exact W.vret hx hb hr (fun t ht hW => ⟨⟨(sL, sA), rfl, (by rw [fX_closeGap, if_pos c_1] <;> rfl), gw_at hG ht⟩, hS.F ht⟩) hS.2.2 dX_closeGap_8
