def wmax (a b : Int32) : Int32 := if a ≤ b then b else a
def wmin (a b : Int32) : Int32 := if b ≤ a then b else a
theorem grdW {i j : Nat} (hi : i < 6) (hj : j ≤ 10) (h : ¬ nI (10 * i + 10) ≤ nI (10 * i + j)) : j < 10 := by
  rw [nI_leI (by omega) (by omega)] at h
  omega
/-- the best place so far -/
def BW (sA : NA) (i : Nat) (x : Int32) : Prop := x = (-1) ∨ ∃ q : Nat, q < 10 ∧ x = nI (10 * i + q) ∧ 0 < sA 7 (10 * i + q)
theorem BW.ex {sA : NA} {i : Nat} {x : Int32} (h : BW sA i x) (hx : ¬ x < 0) : ∃ q : Nat, q < 10 ∧ x = nI (10 * i + q) ∧ 0 < sA 7 (10 * i + q) := h.resolve_left (fun e => hx (by rw [e]; decide))
theorem BW.vin {sA : NA} {i : Nat} {x : Int32} (h : BW sA i x) (hi : i < 6) (hx : ¬ x < 0) : vp_in x 60 := by
  obtain ⟨q, hq, e, -⟩ := h.ex hx
  rw [e]
  exact vp_in_nI (by omega) (by omega)
theorem BW.pc {sA : NA} {i : Nat} {x : Int32} (h : BW sA i x) (hi : i < 6) (hx : ¬ x < 0) (hpc : ∀ q : Nat, q < 10 → 0 < sA 7 (10 * i + q) → PC (sA 7 (10 * i + q) - 1)) : PC (sA 7 x.toNatClampNeg - 1) := by
  obtain ⟨q, hq, e, h0⟩ := h.ex hx
  rw [e, nI_clamp (by omega)]
  exact hpc q hq h0
theorem pos_of {x : Int32} (h : ¬ x ≤ 0) : 0 < x := Int32.not_le.mp h
theorem y_pc {y : Int32} (h : y = (-1) ∨ PC y) (hy : 0 ≤ y) : PC y := h.resolve_left (fun e => absurd hy (by rw [e]; decide))
def fW_share (sL : NL) (sA : NA) (i : Nat) : Int32 := if (sA 5 (10 * i + 3)) < 2 then 0 else (if (sA 5 (10 * i + 2)) < 0 then 0 else (if (sA 5 (10 * i + 5)) < 1000 then 0 else (if (sA 5 (10 * i + 2)) = 0 then if 12500 ≤ (((fW_hundredths (sA 5 (10 * i + 5)) 0 50000 4) + (fW_hundredths (sA 5 (10 * i + 5)) 50000 200000 3)) + (fW_hundredths (sA 5 (10 * i + 5)) 200000 2000000 1)) then 12500 else ((fW_hundredths (sA 5 (10 * i + 5)) 0 50000 4) + (fW_hundredths (sA 5 (10 * i + 5)) 50000 200000 3)) + (fW_hundredths (sA 5 (10 * i + 5)) 200000 2000000 1) else (if (2000 + ((sA 5 (10 * i + 6)) / 365)) ≤ ((sA 5 (10 * i + 2)) + 70) then if 12500 ≤ (((fW_hundredths (sA 5 (10 * i + 5)) 0 50000 4) + (fW_hundredths (sA 5 (10 * i + 5)) 50000 200000 3)) + (fW_hundredths (sA 5 (10 * i + 5)) 200000 2000000 1)) then 12500 else ((fW_hundredths (sA 5 (10 * i + 5)) 0 50000 4) + (fW_hundredths (sA 5 (10 * i + 5)) 50000 200000 3)) + (fW_hundredths (sA 5 (10 * i + 5)) 200000 2000000 1) else 0))))
theorem hdyW_share : yW_share.cls ≠ "java/lang/invoke/MethodHandle" ∧ yW_share.cls ≠ "java/lang/invoke/VarHandle" ∧ (parseMethodDescriptor yW_share.desc).map (fun d => d.parameters.length) = some 2 := by decide +kernel
theorem dW_share_0 : decode bW_share 0 = .ok (.aload_n 0, 1) := by decide +kernel
theorem dW_share_1 : decode bW_share 1 = .ok (.bipush 10, 2) := by decide +kernel
theorem dW_share_3 : decode bW_share 3 = .ok (.iload_n 1, 1) := by decide +kernel
theorem dW_share_4 : decode bW_share 4 = .ok (.imul, 1) := by decide +kernel
theorem dW_share_5 : decode bW_share 5 = .ok (.iconst 5, 1) := by decide +kernel
theorem dW_share_6 : decode bW_share 6 = .ok (.iadd, 1) := by decide +kernel
theorem dW_share_7 : decode bW_share 7 = .ok (.iaload, 1) := by decide +kernel
theorem dW_share_8 : decode bW_share 8 = .ok (.istore_n 2, 1) := by decide +kernel
theorem dW_share_9 : decode bW_share 9 = .ok (.aload_n 0, 1) := by decide +kernel
theorem dW_share_10 : decode bW_share 10 = .ok (.bipush 10, 2) := by decide +kernel
theorem dW_share_12 : decode bW_share 12 = .ok (.iload_n 1, 1) := by decide +kernel
theorem dW_share_13 : decode bW_share 13 = .ok (.imul, 1) := by decide +kernel
theorem dW_share_14 : decode bW_share 14 = .ok (.iconst 2, 1) := by decide +kernel
theorem dW_share_15 : decode bW_share 15 = .ok (.iadd, 1) := by decide +kernel
theorem dW_share_16 : decode bW_share 16 = .ok (.iaload, 1) := by decide +kernel
theorem dW_share_17 : decode bW_share 17 = .ok (.istore_n 3, 1) := by decide +kernel
theorem dW_share_18 : decode bW_share 18 = .ok (.sipush 2000, 3) := by decide +kernel
theorem dW_share_21 : decode bW_share 21 = .ok (.aload_n 0, 1) := by decide +kernel
theorem dW_share_22 : decode bW_share 22 = .ok (.bipush 10, 2) := by decide +kernel
theorem dW_share_24 : decode bW_share 24 = .ok (.iload_n 1, 1) := by decide +kernel
theorem dW_share_25 : decode bW_share 25 = .ok (.imul, 1) := by decide +kernel
theorem dW_share_26 : decode bW_share 26 = .ok (.bipush 6, 2) := by decide +kernel
theorem dW_share_28 : decode bW_share 28 = .ok (.iadd, 1) := by decide +kernel
theorem dW_share_29 : decode bW_share 29 = .ok (.iaload, 1) := by decide +kernel
theorem dW_share_30 : decode bW_share 30 = .ok (.sipush 365, 3) := by decide +kernel
theorem dW_share_33 : decode bW_share 33 = .ok (.idiv, 1) := by decide +kernel
theorem dW_share_34 : decode bW_share 34 = .ok (.iadd, 1) := by decide +kernel
theorem dW_share_35 : decode bW_share 35 = .ok (.istore 4, 2) := by decide +kernel
theorem dW_share_37 : decode bW_share 37 = .ok (.aload_n 0, 1) := by decide +kernel
theorem dW_share_38 : decode bW_share 38 = .ok (.bipush 10, 2) := by decide +kernel
theorem dW_share_40 : decode bW_share 40 = .ok (.iload_n 1, 1) := by decide +kernel
theorem dW_share_41 : decode bW_share 41 = .ok (.imul, 1) := by decide +kernel
theorem dW_share_42 : decode bW_share 42 = .ok (.iconst 3, 1) := by decide +kernel
theorem dW_share_43 : decode bW_share 43 = .ok (.iadd, 1) := by decide +kernel
theorem dW_share_44 : decode bW_share 44 = .ok (.iaload, 1) := by decide +kernel
theorem dW_share_45 : decode bW_share 45 = .ok (.iconst 2, 1) := by decide +kernel
theorem dW_share_46 : decode bW_share 46 = .ok (.if_icmp .lt 27, 3) := by decide +kernel
theorem dW_share_49 : decode bW_share 49 = .ok (.iload_n 3, 1) := by decide +kernel
theorem dW_share_50 : decode bW_share 50 = .ok (.ifCond .lt 23, 3) := by decide +kernel
theorem dW_share_53 : decode bW_share 53 = .ok (.iload_n 2, 1) := by decide +kernel
theorem dW_share_54 : decode bW_share 54 = .ok (.sipush 1000, 3) := by decide +kernel
theorem dW_share_57 : decode bW_share 57 = .ok (.if_icmp .lt 16, 3) := by decide +kernel
theorem dW_share_60 : decode bW_share 60 = .ok (.iload_n 3, 1) := by decide +kernel
theorem dW_share_61 : decode bW_share 61 = .ok (.ifCond .eq 14, 3) := by decide +kernel
theorem dW_share_64 : decode bW_share 64 = .ok (.iload_n 3, 1) := by decide +kernel
theorem dW_share_65 : decode bW_share 65 = .ok (.bipush 70, 2) := by decide +kernel
theorem dW_share_67 : decode bW_share 67 = .ok (.iadd, 1) := by decide +kernel
theorem dW_share_68 : decode bW_share 68 = .ok (.iload 4, 2) := by decide +kernel
theorem dW_share_70 : decode bW_share 70 = .ok (.if_icmp .ge 5, 3) := by decide +kernel
theorem dW_share_73 : decode bW_share 73 = .ok (.iconst 0, 1) := by decide +kernel
theorem dW_share_74 : decode bW_share 74 = .ok (.ireturn, 1) := by decide +kernel
theorem dW_share_75 : decode bW_share 75 = .ok (.iload_n 2, 1) := by decide +kernel
theorem dW_share_76 : decode bW_share 76 = .ok (.iconst 0, 1) := by decide +kernel
theorem dW_share_77 : decode bW_share 77 = .ok (.ldc 18, 2) := by decide +kernel
theorem dW_share_79 : decode bW_share 79 = .ok (.iconst 4, 1) := by decide +kernel
theorem dW_share_80 : decode bW_share 80 = .ok (.invokestatic 14, 3) := by decide +kernel
theorem dW_share_83 : decode bW_share 83 = .ok (.iload_n 2, 1) := by decide +kernel
theorem dW_share_84 : decode bW_share 84 = .ok (.ldc 18, 2) := by decide +kernel
theorem dW_share_86 : decode bW_share 86 = .ok (.ldc 19, 2) := by decide +kernel
theorem dW_share_88 : decode bW_share 88 = .ok (.iconst 3, 1) := by decide +kernel
theorem dW_share_89 : decode bW_share 89 = .ok (.invokestatic 14, 3) := by decide +kernel
theorem dW_share_92 : decode bW_share 92 = .ok (.iadd, 1) := by decide +kernel
theorem dW_share_93 : decode bW_share 93 = .ok (.iload_n 2, 1) := by decide +kernel
theorem dW_share_94 : decode bW_share 94 = .ok (.ldc 19, 2) := by decide +kernel
theorem dW_share_96 : decode bW_share 96 = .ok (.ldc 7, 2) := by decide +kernel
theorem dW_share_98 : decode bW_share 98 = .ok (.iconst 1, 1) := by decide +kernel
theorem dW_share_99 : decode bW_share 99 = .ok (.invokestatic 14, 3) := by decide +kernel
theorem dW_share_102 : decode bW_share 102 = .ok (.iadd, 1) := by decide +kernel
theorem dW_share_103 : decode bW_share 103 = .ok (.istore 5, 2) := by decide +kernel
theorem dW_share_105 : decode bW_share 105 = .ok (.iload 5, 2) := by decide +kernel
theorem dW_share_107 : decode bW_share 107 = .ok (.sipush 12500, 3) := by decide +kernel
theorem dW_share_110 : decode bW_share 110 = .ok (.if_icmp .ge 8, 3) := by decide +kernel
theorem dW_share_113 : decode bW_share 113 = .ok (.iload 5, 2) := by decide +kernel
theorem dW_share_115 : decode bW_share 115 = .ok (.goto 6, 3) := by decide +kernel
theorem dW_share_118 : decode bW_share 118 = .ok (.sipush 12500, 3) := by decide +kernel
theorem dW_share_121 : decode bW_share 121 = .ok (.ireturn, 1) := by decide +kernel
set_option maxHeartbeats 4000000 in
set_option maxRecDepth 100000 in
theorem cW_share (l : Launch) (D : va_G) (tI tJ tL : ClassId) (A : Nat → Prop) (sg ad : Nat → Nat) (n : Nat) (sL : NL) (sA : NA) (i : Nat) (hi : i < 6) : Met l yW_share (Cond.code yW_share bW_share 6 (some FieldType.int) :: wNeed) { frames := 1, cells := 0, slots := 0, locals := 24 } (va_Pc [.ref (ad 5), .int (nI i)] (GP D tI tJ tL A sg ad n sL sA)) (vp_Si fun r => r = fW_share sL sA i) 0 0 (fun _ => False) := by
  refine en_M (av := [.ref (ad 5), .int (nI i)]) (by decide) (Nat.le_of_ble_eq_true rfl) ?_
  intro p e s m below meth c hx hb hml hown hts hr hlocks hmname hP ls hl
  obtain ⟨hG, hC⟩ := hP
  have hS : va_S A s.heap s.heap [] := va_S.rf
  replace hl : lv_has ls 6 [(0, .ref (ad 5)), (1, .int (nI i))] := hl
  refine lv_aload_n hx hb dW_share_0 rfl (lv_at hl 0 rfl) ?_
  refine lv_bipush (v := 10) hx hb dW_share_1 (by decide) ?_
  refine lv_iload_n hx hb dW_share_3 rfl (lv_at hl 1 rfl) ?_
  refine lv_imul hx hb dW_share_4 ?_
  rw [show (10 : Int32) * (nI i) = nI (10 * i) from pk_mul 10 i]
  refine lv_iconst (v := 5) hx hb dW_share_5 (by decide) ?_
  refine lv_iadd hx hb dW_share_6 ?_
  rw [show (nI (10 * i)) + (5 : Int32) = nI (10 * i + 5) from nI_add (10 * i) 5]
  refine ra_ld hx hb hC hG 5 60 (by omega) (fun _ _ => rfl) (vp_in_nI (by omega) (by omega)) dW_share_7 ?_
  rw [show (nI (10 * i + 5)).toNatClampNeg = (10 * i + 5) from nI_clamp (by omega)]
  refine lv_istore_n (lv' := [(2, .int (sA 5 (10 * i + 5))), (0, .ref (ad 5)), (1, .int (nI i))]) hx hb dW_share_8 rfl hl (by decide) rfl (fun ls hl => ?_)
  refine lv_aload_n hx hb dW_share_9 rfl (lv_at hl 1 rfl) ?_
  refine lv_bipush (v := 10) hx hb dW_share_10 (by decide) ?_
  refine lv_iload_n hx hb dW_share_12 rfl (lv_at hl 2 rfl) ?_
  refine lv_imul hx hb dW_share_13 ?_
  rw [show (10 : Int32) * (nI i) = nI (10 * i) from pk_mul 10 i]
  refine lv_iconst (v := 2) hx hb dW_share_14 (by decide) ?_
  refine lv_iadd hx hb dW_share_15 ?_
  rw [show (nI (10 * i)) + (2 : Int32) = nI (10 * i + 2) from nI_add (10 * i) 2]
  refine ra_ld hx hb hC hG 5 60 (by omega) (fun _ _ => rfl) (vp_in_nI (by omega) (by omega)) dW_share_16 ?_
  rw [show (nI (10 * i + 2)).toNatClampNeg = (10 * i + 2) from nI_clamp (by omega)]
  refine lv_istore_n (lv' := [(3, .int (sA 5 (10 * i + 2))), (2, .int (sA 5 (10 * i + 5))), (0, .ref (ad 5)), (1, .int (nI i))]) hx hb dW_share_17 rfl hl (by decide) rfl (fun ls hl => ?_)
  refine lv_sipush (v := 2000) hx hb dW_share_18 (by decide) ?_
  refine lv_aload_n hx hb dW_share_21 rfl (lv_at hl 2 rfl) ?_
  refine lv_bipush (v := 10) hx hb dW_share_22 (by decide) ?_
  refine lv_iload_n hx hb dW_share_24 rfl (lv_at hl 3 rfl) ?_
  refine lv_imul hx hb dW_share_25 ?_
  rw [show (10 : Int32) * (nI i) = nI (10 * i) from pk_mul 10 i]
  refine lv_bipush (v := 6) hx hb dW_share_26 (by decide) ?_
  refine lv_iadd hx hb dW_share_28 ?_
  rw [show (nI (10 * i)) + (6 : Int32) = nI (10 * i + 6) from nI_add (10 * i) 6]
  refine ra_ld hx hb hC hG 5 60 (by omega) (fun _ _ => rfl) (vp_in_nI (by omega) (by omega)) dW_share_29 ?_
  rw [show (nI (10 * i + 6)).toNatClampNeg = (10 * i + 6) from nI_clamp (by omega)]
  refine lv_sipush (v := 365) hx hb dW_share_30 (by decide) ?_
  refine lv_idiv hx hb dW_share_33 (by decide) ?_
  refine lv_iadd hx hb dW_share_34 ?_
  refine lv_istore (lv' := [(4, .int (2000 + ((sA 5 (10 * i + 6)) / 365))), (3, .int (sA 5 (10 * i + 2))), (2, .int (sA 5 (10 * i + 5))), (0, .ref (ad 5)), (1, .int (nI i))]) hx hb dW_share_35 hl (by decide) rfl (fun ls hl => ?_)
  refine lv_aload_n hx hb dW_share_37 rfl (lv_at hl 3 rfl) ?_
  refine lv_bipush (v := 10) hx hb dW_share_38 (by decide) ?_
  refine lv_iload_n hx hb dW_share_40 rfl (lv_at hl 4 rfl) ?_
  refine lv_imul hx hb dW_share_41 ?_
  rw [show (10 : Int32) * (nI i) = nI (10 * i) from pk_mul 10 i]
  refine lv_iconst (v := 3) hx hb dW_share_42 (by decide) ?_
  refine lv_iadd hx hb dW_share_43 ?_
  rw [show (nI (10 * i)) + (3 : Int32) = nI (10 * i + 3) from nI_add (10 * i) 3]
  refine ra_ld hx hb hC hG 5 60 (by omega) (fun _ _ => rfl) (vp_in_nI (by omega) (by omega)) dW_share_44 ?_
  rw [show (nI (10 * i + 3)).toNatClampNeg = (10 * i + 3) from nI_clamp (by omega)]
  refine lv_iconst (v := 2) hx hb dW_share_45 (by decide) ?_
  refine lv_icmp_lt (tgt := 73) hx hb dW_share_46 (by decide) (fun c_1 => ?_) (fun c_1 => ?_)
  · refine lv_iconst (v := 0) hx hb dW_share_73 (by decide) ?_
    exact W.iret (v := 0) hx hb hr (fun t ht hW => ⟨_, rfl, (by rw [fW_share, if_pos c_1] <;> rfl), ht⟩) (fun q h => nomatch h) dW_share_74
  · refine lv_iload_n hx hb dW_share_49 rfl (lv_at hl 1 rfl) ?_
    refine lv_if_lt (tgt := 73) hx hb dW_share_50 (by decide) (fun c_2 => ?_) (fun c_2 => ?_)
    · refine lv_iconst (v := 0) hx hb dW_share_73 (by decide) ?_
      exact W.iret (v := 0) hx hb hr (fun t ht hW => ⟨_, rfl, (by rw [fW_share, if_neg c_1, if_pos c_2] <;> rfl), ht⟩) (fun q h => nomatch h) dW_share_74
    · refine lv_iload_n hx hb dW_share_53 rfl (lv_at hl 2 rfl) ?_
      refine lv_sipush (v := 1000) hx hb dW_share_54 (by decide) ?_
      refine lv_icmp_lt (tgt := 73) hx hb dW_share_57 (by decide) (fun c_3 => ?_) (fun c_3 => ?_)
      · refine lv_iconst (v := 0) hx hb dW_share_73 (by decide) ?_
        exact W.iret (v := 0) hx hb hr (fun t ht hW => ⟨_, rfl, (by rw [fW_share, if_neg c_1, if_neg c_2, if_pos c_3] <;> rfl), ht⟩) (fun q h => nomatch h) dW_share_74
      · refine lv_iload_n hx hb dW_share_60 rfl (lv_at hl 1 rfl) ?_
        refine lv_if_eq (tgt := 75) hx hb dW_share_61 (by decide) (fun c_4 => ?_) (fun c_4 => ?_)
        · refine lv_iload_n hx hb dW_share_75 rfl (lv_at hl 2 rfl) ?_
          refine lv_iconst (v := 0) hx hb dW_share_76 (by decide) ?_
          refine lv_ldc (v := 50000) hx hb hown (hts _ q_158) dW_share_77 ?_
          refine lv_iconst (v := 4) hx hb dW_share_79 (by decide) ?_
          refine rcS1 (rest := []) (As := [.int (sA 5 (10 * i + 5)), .int 0, .int 50000, .int 4]) hx hb hml hown hts (cW_hundredths l (sA 5 (10 * i + 5)) 0 50000 4) (gS q_155 q_156 q_0 q_157) rfl rfl ⟨rfl, hdyW_hundredths⟩ ⟨Nat.le_of_ble_eq_true rfl, Nat.le_of_ble_eq_true rfl⟩ hl.1 rfl (Nat.le_of_ble_eq_true rfl) dW_share_80 ⟨Nat.le_of_ble_eq_true rfl, Nat.le_of_ble_eq_true rfl⟩ ?_
          refine lv_iload_n hx hb dW_share_83 rfl (lv_at hl 2 rfl) ?_
          refine lv_ldc (v := 50000) hx hb hown (hts _ q_158) dW_share_84 ?_
          refine lv_ldc (v := 200000) hx hb hown (hts _ q_162) dW_share_86 ?_
          refine lv_iconst (v := 3) hx hb dW_share_88 (by decide) ?_
          refine rcS1 (rest := [.int (fW_hundredths (sA 5 (10 * i + 5)) 0 50000 4)]) (As := [.int (sA 5 (10 * i + 5)), .int 50000, .int 200000, .int 3]) hx hb hml hown hts (cW_hundredths l (sA 5 (10 * i + 5)) 50000 200000 3) (gS q_155 q_156 q_0 q_157) rfl rfl ⟨rfl, hdyW_hundredths⟩ ⟨Nat.le_of_ble_eq_true rfl, Nat.le_of_ble_eq_true rfl⟩ hl.1 rfl (Nat.le_of_ble_eq_true rfl) dW_share_89 ⟨Nat.le_of_ble_eq_true rfl, Nat.le_of_ble_eq_true rfl⟩ ?_
          refine lv_iadd hx hb dW_share_92 ?_
          refine lv_iload_n hx hb dW_share_93 rfl (lv_at hl 2 rfl) ?_
          refine lv_ldc (v := 200000) hx hb hown (hts _ q_162) dW_share_94 ?_
          refine lv_ldc (v := 2000000) hx hb hown (hts _ q_151) dW_share_96 ?_
          refine lv_iconst (v := 1) hx hb dW_share_98 (by decide) ?_
          refine rcS1 (rest := [.int ((fW_hundredths (sA 5 (10 * i + 5)) 0 50000 4) + (fW_hundredths (sA 5 (10 * i + 5)) 50000 200000 3))]) (As := [.int (sA 5 (10 * i + 5)), .int 200000, .int 2000000, .int 1]) hx hb hml hown hts (cW_hundredths l (sA 5 (10 * i + 5)) 200000 2000000 1) (gS q_155 q_156 q_0 q_157) rfl rfl ⟨rfl, hdyW_hundredths⟩ ⟨Nat.le_of_ble_eq_true rfl, Nat.le_of_ble_eq_true rfl⟩ hl.1 rfl (Nat.le_of_ble_eq_true rfl) dW_share_99 ⟨Nat.le_of_ble_eq_true rfl, Nat.le_of_ble_eq_true rfl⟩ ?_
          refine lv_iadd hx hb dW_share_102 ?_
          refine lv_istore (lv' := [(5, .int (((fW_hundredths (sA 5 (10 * i + 5)) 0 50000 4) + (fW_hundredths (sA 5 (10 * i + 5)) 50000 200000 3)) + (fW_hundredths (sA 5 (10 * i + 5)) 200000 2000000 1))), (4, .int (2000 + ((sA 5 (10 * i + 6)) / 365))), (3, .int (sA 5 (10 * i + 2))), (2, .int (sA 5 (10 * i + 5))), (0, .ref (ad 5)), (1, .int (nI i))]) hx hb dW_share_103 hl (by decide) rfl (fun ls hl => ?_)
          refine W_key (g2 := F0 m 121 ls (.int (if 12500 ≤ (((fW_hundredths (sA 5 (10 * i + 5)) 0 50000 4) + (fW_hundredths (sA 5 (10 * i + 5)) 50000 200000 3)) + (fW_hundredths (sA 5 (10 * i + 5)) 200000 2000000 1)) then 12500 else ((fW_hundredths (sA 5 (10 * i + 5)) 0 50000 4) + (fW_hundredths (sA 5 (10 * i + 5)) 50000 200000 3)) + (fW_hundredths (sA 5 (10 * i + 5)) 200000 2000000 1)) :: [])) (fun key => ?_) ?_
          · refine lv_iload hx hb dW_share_105 (lv_at hl 0 rfl) ?_
            refine lv_sipush (v := 12500) hx hb dW_share_107 (by decide) ?_
            refine lv_icmp_ge (tgt := 118) hx hb dW_share_110 (by decide) (fun c_5 => ?_) (fun c_5 => ?_)
            · refine lv_sipush (v := 12500) hx hb dW_share_118 (by decide) ?_
              exact W.eq (by rw [if_pos c_5]) key
            · refine lv_iload hx hb dW_share_113 (lv_at hl 0 rfl) ?_
              refine lv_goto (tgt := 121) hx hb dW_share_115 (by decide) ?_
              exact W.eq (by rw [if_neg c_5]) key
          exact W.iret (v := if 12500 ≤ (((fW_hundredths (sA 5 (10 * i + 5)) 0 50000 4) + (fW_hundredths (sA 5 (10 * i + 5)) 50000 200000 3)) + (fW_hundredths (sA 5 (10 * i + 5)) 200000 2000000 1)) then 12500 else ((fW_hundredths (sA 5 (10 * i + 5)) 0 50000 4) + (fW_hundredths (sA 5 (10 * i + 5)) 50000 200000 3)) + (fW_hundredths (sA 5 (10 * i + 5)) 200000 2000000 1)) hx hb hr (fun t ht hW => ⟨_, rfl, (by rw [fW_share, if_neg c_1, if_neg c_2, if_neg c_3, if_pos c_4] <;> rfl), ht⟩) (fun q h => nomatch h) dW_share_121
        · refine lv_iload_n hx hb dW_share_64 rfl (lv_at hl 1 rfl) ?_
          refine lv_bipush (v := 70) hx hb dW_share_65 (by decide) ?_
          refine lv_iadd hx hb dW_share_67 ?_
          refine lv_iload hx hb dW_share_68 (lv_at hl 0 rfl) ?_
          refine lv_icmp_ge (tgt := 75) hx hb dW_share_70 (by decide) (fun c_6 => ?_) (fun c_6 => ?_)
          · refine lv_iload_n hx hb dW_share_75 rfl (lv_at hl 2 rfl) ?_
            refine lv_iconst (v := 0) hx hb dW_share_76 (by decide) ?_
            refine lv_ldc (v := 50000) hx hb hown (hts _ q_158) dW_share_77 ?_
            refine lv_iconst (v := 4) hx hb dW_share_79 (by decide) ?_
            refine rcS1 (rest := []) (As := [.int (sA 5 (10 * i + 5)), .int 0, .int 50000, .int 4]) hx hb hml hown hts (cW_hundredths l (sA 5 (10 * i + 5)) 0 50000 4) (gS q_155 q_156 q_0 q_157) rfl rfl ⟨rfl, hdyW_hundredths⟩ ⟨Nat.le_of_ble_eq_true rfl, Nat.le_of_ble_eq_true rfl⟩ hl.1 rfl (Nat.le_of_ble_eq_true rfl) dW_share_80 ⟨Nat.le_of_ble_eq_true rfl, Nat.le_of_ble_eq_true rfl⟩ ?_
            refine lv_iload_n hx hb dW_share_83 rfl (lv_at hl 2 rfl) ?_
            refine lv_ldc (v := 50000) hx hb hown (hts _ q_158) dW_share_84 ?_
            refine lv_ldc (v := 200000) hx hb hown (hts _ q_162) dW_share_86 ?_
            refine lv_iconst (v := 3) hx hb dW_share_88 (by decide) ?_
            refine rcS1 (rest := [.int (fW_hundredths (sA 5 (10 * i + 5)) 0 50000 4)]) (As := [.int (sA 5 (10 * i + 5)), .int 50000, .int 200000, .int 3]) hx hb hml hown hts (cW_hundredths l (sA 5 (10 * i + 5)) 50000 200000 3) (gS q_155 q_156 q_0 q_157) rfl rfl ⟨rfl, hdyW_hundredths⟩ ⟨Nat.le_of_ble_eq_true rfl, Nat.le_of_ble_eq_true rfl⟩ hl.1 rfl (Nat.le_of_ble_eq_true rfl) dW_share_89 ⟨Nat.le_of_ble_eq_true rfl, Nat.le_of_ble_eq_true rfl⟩ ?_
            refine lv_iadd hx hb dW_share_92 ?_
            refine lv_iload_n hx hb dW_share_93 rfl (lv_at hl 2 rfl) ?_
            refine lv_ldc (v := 200000) hx hb hown (hts _ q_162) dW_share_94 ?_
            refine lv_ldc (v := 2000000) hx hb hown (hts _ q_151) dW_share_96 ?_
            refine lv_iconst (v := 1) hx hb dW_share_98 (by decide) ?_
            refine rcS1 (rest := [.int ((fW_hundredths (sA 5 (10 * i + 5)) 0 50000 4) + (fW_hundredths (sA 5 (10 * i + 5)) 50000 200000 3))]) (As := [.int (sA 5 (10 * i + 5)), .int 200000, .int 2000000, .int 1]) hx hb hml hown hts (cW_hundredths l (sA 5 (10 * i + 5)) 200000 2000000 1) (gS q_155 q_156 q_0 q_157) rfl rfl ⟨rfl, hdyW_hundredths⟩ ⟨Nat.le_of_ble_eq_true rfl, Nat.le_of_ble_eq_true rfl⟩ hl.1 rfl (Nat.le_of_ble_eq_true rfl) dW_share_99 ⟨Nat.le_of_ble_eq_true rfl, Nat.le_of_ble_eq_true rfl⟩ ?_
            refine lv_iadd hx hb dW_share_102 ?_
            refine lv_istore (lv' := [(5, .int (((fW_hundredths (sA 5 (10 * i + 5)) 0 50000 4) + (fW_hundredths (sA 5 (10 * i + 5)) 50000 200000 3)) + (fW_hundredths (sA 5 (10 * i + 5)) 200000 2000000 1))), (4, .int (2000 + ((sA 5 (10 * i + 6)) / 365))), (3, .int (sA 5 (10 * i + 2))), (2, .int (sA 5 (10 * i + 5))), (0, .ref (ad 5)), (1, .int (nI i))]) hx hb dW_share_103 hl (by decide) rfl (fun ls hl => ?_)
            refine W_key (g2 := F0 m 121 ls (.int (if 12500 ≤ (((fW_hundredths (sA 5 (10 * i + 5)) 0 50000 4) + (fW_hundredths (sA 5 (10 * i + 5)) 50000 200000 3)) + (fW_hundredths (sA 5 (10 * i + 5)) 200000 2000000 1)) then 12500 else ((fW_hundredths (sA 5 (10 * i + 5)) 0 50000 4) + (fW_hundredths (sA 5 (10 * i + 5)) 50000 200000 3)) + (fW_hundredths (sA 5 (10 * i + 5)) 200000 2000000 1)) :: [])) (fun key => ?_) ?_
            · refine lv_iload hx hb dW_share_105 (lv_at hl 0 rfl) ?_
              refine lv_sipush (v := 12500) hx hb dW_share_107 (by decide) ?_
              refine lv_icmp_ge (tgt := 118) hx hb dW_share_110 (by decide) (fun c_7 => ?_) (fun c_7 => ?_)
              · refine lv_sipush (v := 12500) hx hb dW_share_118 (by decide) ?_
                exact W.eq (by rw [if_pos c_7]) key
              · refine lv_iload hx hb dW_share_113 (lv_at hl 0 rfl) ?_
                refine lv_goto (tgt := 121) hx hb dW_share_115 (by decide) ?_
                exact W.eq (by rw [if_neg c_7]) key
            exact W.iret (v := if 12500 ≤ (((fW_hundredths (sA 5 (10 * i + 5)) 0 50000 4) + (fW_hundredths (sA 5 (10 * i + 5)) 50000 200000 3)) + (fW_hundredths (sA 5 (10 * i + 5)) 200000 2000000 1)) then 12500 else ((fW_hundredths (sA 5 (10 * i + 5)) 0 50000 4) + (fW_hundredths (sA 5 (10 * i + 5)) 50000 200000 3)) + (fW_hundredths (sA 5 (10 * i + 5)) 200000 2000000 1)) hx hb hr (fun t ht hW => ⟨_, rfl, (by rw [fW_share, if_neg c_1, if_neg c_2, if_neg c_3, if_neg c_4, if_pos c_6] <;> rfl), ht⟩) (fun q h => nomatch h) dW_share_121
          · refine lv_iconst (v := 0) hx hb dW_share_73 (by decide) ?_
            exact W.iret (v := 0) hx hb hr (fun t ht hW => ⟨_, rfl, (by rw [fW_share, if_neg c_1, if_neg c_2, if_neg c_3, if_neg c_4, if_neg c_6] <;> rfl), ht⟩) (fun q h => nomatch h) dW_share_74
def fW_interest (sL : NL) (sA : NA) (i : Nat) : Int32 := if (sA 5 (10 * i + 3)) = 4 then sA 6 (3 * i + 2) else (((((sA 6 (3 * i) : Int32).toInt64) * (((sA 4 2) - (sA 6 (3 * i + 1)) : Int32).toInt64)) * ((sA 4 3 : Int32).toInt64)) / 100000 : Int64).toInt32
theorem hdyW_interest : yW_interest.cls ≠ "java/lang/invoke/MethodHandle" ∧ yW_interest.cls ≠ "java/lang/invoke/VarHandle" ∧ (parseMethodDescriptor yW_interest.desc).map (fun d => d.parameters.length) = some 4 := by decide +kernel
theorem dW_interest_0 : decode bW_interest 0 = .ok (.aload_n 2, 1) := by decide +kernel
theorem dW_interest_1 : decode bW_interest 1 = .ok (.iconst 3, 1) := by decide +kernel
theorem dW_interest_2 : decode bW_interest 2 = .ok (.iload_n 3, 1) := by decide +kernel
theorem dW_interest_3 : decode bW_interest 3 = .ok (.imul, 1) := by decide +kernel
theorem dW_interest_4 : decode bW_interest 4 = .ok (.iaload, 1) := by decide +kernel
theorem dW_interest_5 : decode bW_interest 5 = .ok (.i2l, 1) := by decide +kernel
theorem dW_interest_6 : decode bW_interest 6 = .ok (.aload_n 0, 1) := by decide +kernel
theorem dW_interest_7 : decode bW_interest 7 = .ok (.iconst 2, 1) := by decide +kernel
theorem dW_interest_8 : decode bW_interest 8 = .ok (.iaload, 1) := by decide +kernel
theorem dW_interest_9 : decode bW_interest 9 = .ok (.aload_n 2, 1) := by decide +kernel
theorem dW_interest_10 : decode bW_interest 10 = .ok (.iconst 3, 1) := by decide +kernel
theorem dW_interest_11 : decode bW_interest 11 = .ok (.iload_n 3, 1) := by decide +kernel
theorem dW_interest_12 : decode bW_interest 12 = .ok (.imul, 1) := by decide +kernel
theorem dW_interest_13 : decode bW_interest 13 = .ok (.iconst 1, 1) := by decide +kernel
theorem dW_interest_14 : decode bW_interest 14 = .ok (.iadd, 1) := by decide +kernel
theorem dW_interest_15 : decode bW_interest 15 = .ok (.iaload, 1) := by decide +kernel
theorem dW_interest_16 : decode bW_interest 16 = .ok (.isub, 1) := by decide +kernel
theorem dW_interest_17 : decode bW_interest 17 = .ok (.i2l, 1) := by decide +kernel
theorem dW_interest_18 : decode bW_interest 18 = .ok (.lmul, 1) := by decide +kernel
theorem dW_interest_19 : decode bW_interest 19 = .ok (.aload_n 0, 1) := by decide +kernel
theorem dW_interest_20 : decode bW_interest 20 = .ok (.iconst 3, 1) := by decide +kernel
theorem dW_interest_21 : decode bW_interest 21 = .ok (.iaload, 1) := by decide +kernel
theorem dW_interest_22 : decode bW_interest 22 = .ok (.i2l, 1) := by decide +kernel
theorem dW_interest_23 : decode bW_interest 23 = .ok (.lmul, 1) := by decide +kernel
theorem dW_interest_24 : decode bW_interest 24 = .ok (.lstore 4, 2) := by decide +kernel
theorem dW_interest_26 : decode bW_interest 26 = .ok (.aload_n 1, 1) := by decide +kernel
theorem dW_interest_27 : decode bW_interest 27 = .ok (.bipush 10, 2) := by decide +kernel
theorem dW_interest_29 : decode bW_interest 29 = .ok (.iload_n 3, 1) := by decide +kernel
theorem dW_interest_30 : decode bW_interest 30 = .ok (.imul, 1) := by decide +kernel
theorem dW_interest_31 : decode bW_interest 31 = .ok (.iconst 3, 1) := by decide +kernel
theorem dW_interest_32 : decode bW_interest 32 = .ok (.iadd, 1) := by decide +kernel
theorem dW_interest_33 : decode bW_interest 33 = .ok (.iaload, 1) := by decide +kernel
theorem dW_interest_34 : decode bW_interest 34 = .ok (.iconst 4, 1) := by decide +kernel
theorem dW_interest_35 : decode bW_interest 35 = .ok (.if_icmp .ne 13, 3) := by decide +kernel
theorem dW_interest_38 : decode bW_interest 38 = .ok (.aload_n 2, 1) := by decide +kernel
theorem dW_interest_39 : decode bW_interest 39 = .ok (.iconst 3, 1) := by decide +kernel
theorem dW_interest_40 : decode bW_interest 40 = .ok (.iload_n 3, 1) := by decide +kernel
theorem dW_interest_41 : decode bW_interest 41 = .ok (.imul, 1) := by decide +kernel
theorem dW_interest_42 : decode bW_interest 42 = .ok (.iconst 2, 1) := by decide +kernel
theorem dW_interest_43 : decode bW_interest 43 = .ok (.iadd, 1) := by decide +kernel
theorem dW_interest_44 : decode bW_interest 44 = .ok (.iaload, 1) := by decide +kernel
theorem dW_interest_45 : decode bW_interest 45 = .ok (.goto 10, 3) := by decide +kernel
theorem dW_interest_48 : decode bW_interest 48 = .ok (.lload 4, 2) := by decide +kernel
theorem dW_interest_50 : decode bW_interest 50 = .ok (.ldc2_w 20, 3) := by decide +kernel
theorem dW_interest_53 : decode bW_interest 53 = .ok (.ldiv, 1) := by decide +kernel
theorem dW_interest_54 : decode bW_interest 54 = .ok (.l2i, 1) := by decide +kernel
theorem dW_interest_55 : decode bW_interest 55 = .ok (.ireturn, 1) := by decide +kernel
set_option maxHeartbeats 4000000 in
set_option maxRecDepth 100000 in
theorem cW_interest (l : Launch) (D : va_G) (tI tJ tL : ClassId) (A : Nat → Prop) (sg ad : Nat → Nat) (n : Nat) (sL : NL) (sA : NA) (i : Nat) (hi : i < 6) : Met l yW_interest (Cond.code yW_interest bW_interest 6 (some FieldType.int) :: wNeed) { frames := 0, cells := 0, slots := 0, locals := 0 } (va_Pc [.ref (ad 4), .ref (ad 5), .ref (ad 6), .int (nI i)] (GP D tI tJ tL A sg ad n sL sA)) (vp_Si fun r => r = fW_interest sL sA i) 0 0 (fun _ => False) := by
  refine en_M (av := [.ref (ad 4), .ref (ad 5), .ref (ad 6), .int (nI i)]) (by decide) (Nat.le_of_ble_eq_true rfl) ?_
  intro p e s m below meth c hx hb hml hown hts hr hlocks hmname hP ls hl
  obtain ⟨hG, hC⟩ := hP
  have hS : va_S A s.heap s.heap [] := va_S.rf
  replace hl : lv_has ls 6 [(0, .ref (ad 4)), (1, .ref (ad 5)), (2, .ref (ad 6)), (3, .int (nI i))] := hl
  refine lv_aload_n hx hb dW_interest_0 rfl (lv_at hl 2 rfl) ?_
  refine lv_iconst (v := 3) hx hb dW_interest_1 (by decide) ?_
  refine lv_iload_n hx hb dW_interest_2 rfl (lv_at hl 3 rfl) ?_
  refine lv_imul hx hb dW_interest_3 ?_
  rw [show (3 : Int32) * (nI i) = nI (3 * i) from pk_mul 3 i]
  refine ra_ld hx hb hC hG 6 18 (by omega) (fun _ _ => rfl) (vp_in_nI (by omega) (by omega)) dW_interest_4 ?_
  rw [show (nI (3 * i)).toNatClampNeg = (3 * i) from nI_clamp (by omega)]
  refine lv_i2l (v := (sA 6 (3 * i) : Int32).toInt64) hx hb dW_interest_5 rfl ?_
  refine lv_aload_n hx hb dW_interest_6 rfl (lv_at hl 0 rfl) ?_
  refine lv_iconst (v := 2) hx hb dW_interest_7 (by decide) ?_
  refine ra_ld hx hb hC hG 4 5 (by omega) (fun _ _ => rfl) (by rw [vp_in_iff]; decide) dW_interest_8 ?_
  rw [show (2 : Int32).toNatClampNeg = 2 from rfl]
  refine lv_aload_n hx hb dW_interest_9 rfl (lv_at hl 2 rfl) ?_
  refine lv_iconst (v := 3) hx hb dW_interest_10 (by decide) ?_
  refine lv_iload_n hx hb dW_interest_11 rfl (lv_at hl 3 rfl) ?_
  refine lv_imul hx hb dW_interest_12 ?_
  rw [show (3 : Int32) * (nI i) = nI (3 * i) from pk_mul 3 i]
  refine lv_iconst (v := 1) hx hb dW_interest_13 (by decide) ?_
  refine lv_iadd hx hb dW_interest_14 ?_
  rw [show (nI (3 * i)) + (1 : Int32) = nI (3 * i + 1) from nI_add (3 * i) 1]
  refine ra_ld hx hb hC hG 6 18 (by omega) (fun _ _ => rfl) (vp_in_nI (by omega) (by omega)) dW_interest_15 ?_
  rw [show (nI (3 * i + 1)).toNatClampNeg = (3 * i + 1) from nI_clamp (by omega)]
  refine lv_isub hx hb dW_interest_16 ?_
  refine lv_i2l (v := ((sA 4 2) - (sA 6 (3 * i + 1)) : Int32).toInt64) hx hb dW_interest_17 rfl ?_
  refine lv_lmul hx hb dW_interest_18 ?_
  refine lv_aload_n hx hb dW_interest_19 rfl (lv_at hl 0 rfl) ?_
  refine lv_iconst (v := 3) hx hb dW_interest_20 (by decide) ?_
  refine ra_ld hx hb hC hG 4 5 (by omega) (fun _ _ => rfl) (by rw [vp_in_iff]; decide) dW_interest_21 ?_
  rw [show (3 : Int32).toNatClampNeg = 3 from rfl]
  refine lv_i2l (v := (sA 4 3 : Int32).toInt64) hx hb dW_interest_22 rfl ?_
  refine lv_lmul hx hb dW_interest_23 ?_
  refine lv_lstore (lv' := [(4, .long ((((sA 6 (3 * i) : Int32).toInt64) * (((sA 4 2) - (sA 6 (3 * i + 1)) : Int32).toInt64)) * ((sA 4 3 : Int32).toInt64))), (0, .ref (ad 4)), (1, .ref (ad 5)), (2, .ref (ad 6)), (3, .int (nI i))]) hx hb dW_interest_24 hl (by decide) rfl (fun ls hl => ?_)
  refine lv_aload_n hx hb dW_interest_26 rfl (lv_at hl 2 rfl) ?_
  refine lv_bipush (v := 10) hx hb dW_interest_27 (by decide) ?_
  refine lv_iload_n hx hb dW_interest_29 rfl (lv_at hl 4 rfl) ?_
  refine lv_imul hx hb dW_interest_30 ?_
  rw [show (10 : Int32) * (nI i) = nI (10 * i) from pk_mul 10 i]
  refine lv_iconst (v := 3) hx hb dW_interest_31 (by decide) ?_
  refine lv_iadd hx hb dW_interest_32 ?_
  rw [show (nI (10 * i)) + (3 : Int32) = nI (10 * i + 3) from nI_add (10 * i) 3]
  refine ra_ld hx hb hC hG 5 60 (by omega) (fun _ _ => rfl) (vp_in_nI (by omega) (by omega)) dW_interest_33 ?_
  rw [show (nI (10 * i + 3)).toNatClampNeg = (10 * i + 3) from nI_clamp (by omega)]
  refine lv_iconst (v := 4) hx hb dW_interest_34 (by decide) ?_
  refine lv_icmp_ne (tgt := 48) hx hb dW_interest_35 (by decide) (fun c_1 => ?_) (fun c_1 => ?_)
  · refine lv_lload hx hb dW_interest_48 (lv_at hl 0 rfl) ?_
    refine lv_ldc2 (v := 100000) hx hb hown (hts _ q_166) dW_interest_50 ?_
    refine lv_ldiv hx hb dW_interest_53 (by decide) ?_
    refine lv_l2i (v := (((((sA 6 (3 * i) : Int32).toInt64) * (((sA 4 2) - (sA 6 (3 * i + 1)) : Int32).toInt64)) * ((sA 4 3 : Int32).toInt64)) / 100000 : Int64).toInt32) hx hb dW_interest_54 rfl ?_
    exact W.iret (v := (((((sA 6 (3 * i) : Int32).toInt64) * (((sA 4 2) - (sA 6 (3 * i + 1)) : Int32).toInt64)) * ((sA 4 3 : Int32).toInt64)) / 100000 : Int64).toInt32) hx hb hr (fun t ht hW => ⟨_, rfl, (by rw [fW_interest, if_neg c_1] <;> rfl), ht⟩) (fun q h => nomatch h) dW_interest_55
  · refine lv_aload_n hx hb dW_interest_38 rfl (lv_at hl 3 rfl) ?_
    refine lv_iconst (v := 3) hx hb dW_interest_39 (by decide) ?_
    refine lv_iload_n hx hb dW_interest_40 rfl (lv_at hl 4 rfl) ?_
    refine lv_imul hx hb dW_interest_41 ?_
    rw [show (3 : Int32) * (nI i) = nI (3 * i) from pk_mul 3 i]
    refine lv_iconst (v := 2) hx hb dW_interest_42 (by decide) ?_
    refine lv_iadd hx hb dW_interest_43 ?_
    rw [show (nI (3 * i)) + (2 : Int32) = nI (3 * i + 2) from nI_add (3 * i) 2]
    refine ra_ld hx hb hC hG 6 18 (by omega) (fun _ _ => rfl) (vp_in_nI (by omega) (by omega)) dW_interest_44 ?_
    rw [show (nI (3 * i + 2)).toNatClampNeg = (3 * i + 2) from nI_clamp (by omega)]
    refine lv_goto (tgt := 55) hx hb dW_interest_45 (by decide) ?_
    exact W.iret (v := sA 6 (3 * i + 2)) hx hb hr (fun t ht hW => ⟨_, rfl, (by rw [fW_interest, if_pos c_1] <;> rfl), ht⟩) (fun q h => nomatch h) dW_interest_55
def lW_clears (sL : NL) (i : Nat) : Nat → Nat → Int32 → NA → Int32 × NL × NA
  | 0, _, _, _ => (0, sL, fun _ _ => 0)
  | f + 1, j, x, sA1 => if (nI (10 * i + 10)) ≤ (nI (10 * i + j)) then (x, sL, sA1) else (if (sA1 7 (10 * i + j)) ≤ 0 then lW_clears sL i f (j + 1) (x + 0) (up2 sA1 7 (10 * i + j) 0) else lW_clears sL i f (j + 1) (x + 1) (up2 sA1 7 (10 * i + j) 0))
def fW_clears (sL : NL) (sA : NA) (i : Nat) : Int32 × NL × NA := lW_clears sL i 11 0 0 sA
theorem hdyW_clears : yW_clears.cls ≠ "java/lang/invoke/MethodHandle" ∧ yW_clears.cls ≠ "java/lang/invoke/VarHandle" ∧ (parseMethodDescriptor yW_clears.desc).map (fun d => d.parameters.length) = some 2 := by decide +kernel
theorem dW_clears_0 : decode bW_clears 0 = .ok (.iconst 0, 1) := by decide +kernel
theorem dW_clears_1 : decode bW_clears 1 = .ok (.istore_n 2, 1) := by decide +kernel
theorem dW_clears_2 : decode bW_clears 2 = .ok (.bipush 10, 2) := by decide +kernel
theorem dW_clears_4 : decode bW_clears 4 = .ok (.iload_n 1, 1) := by decide +kernel
theorem dW_clears_5 : decode bW_clears 5 = .ok (.imul, 1) := by decide +kernel
theorem dW_clears_6 : decode bW_clears 6 = .ok (.istore_n 3, 1) := by decide +kernel
theorem dW_clears_7 : decode bW_clears 7 = .ok (.iload_n 3, 1) := by decide +kernel
theorem dW_clears_8 : decode bW_clears 8 = .ok (.bipush 10, 2) := by decide +kernel
theorem dW_clears_10 : decode bW_clears 10 = .ok (.iload_n 1, 1) := by decide +kernel
theorem dW_clears_11 : decode bW_clears 11 = .ok (.imul, 1) := by decide +kernel
theorem dW_clears_12 : decode bW_clears 12 = .ok (.bipush 10, 2) := by decide +kernel
theorem dW_clears_14 : decode bW_clears 14 = .ok (.iadd, 1) := by decide +kernel
theorem dW_clears_15 : decode bW_clears 15 = .ok (.if_icmp .ge 27, 3) := by decide +kernel
theorem dW_clears_18 : decode bW_clears 18 = .ok (.iload_n 2, 1) := by decide +kernel
theorem dW_clears_19 : decode bW_clears 19 = .ok (.aload_n 0, 1) := by decide +kernel
theorem dW_clears_20 : decode bW_clears 20 = .ok (.iload_n 3, 1) := by decide +kernel
theorem dW_clears_21 : decode bW_clears 21 = .ok (.iaload, 1) := by decide +kernel
theorem dW_clears_22 : decode bW_clears 22 = .ok (.ifCond .le 7, 3) := by decide +kernel
theorem dW_clears_25 : decode bW_clears 25 = .ok (.iconst 1, 1) := by decide +kernel
theorem dW_clears_26 : decode bW_clears 26 = .ok (.goto 4, 3) := by decide +kernel
theorem dW_clears_29 : decode bW_clears 29 = .ok (.iconst 0, 1) := by decide +kernel
theorem dW_clears_30 : decode bW_clears 30 = .ok (.iadd, 1) := by decide +kernel
theorem dW_clears_31 : decode bW_clears 31 = .ok (.istore_n 2, 1) := by decide +kernel
theorem dW_clears_32 : decode bW_clears 32 = .ok (.aload_n 0, 1) := by decide +kernel
theorem dW_clears_33 : decode bW_clears 33 = .ok (.iload_n 3, 1) := by decide +kernel
theorem dW_clears_34 : decode bW_clears 34 = .ok (.iconst 0, 1) := by decide +kernel
theorem dW_clears_35 : decode bW_clears 35 = .ok (.iastore, 1) := by decide +kernel
theorem dW_clears_36 : decode bW_clears 36 = .ok (.iinc 3 1, 3) := by decide +kernel
theorem dW_clears_39 : decode bW_clears 39 = .ok (.goto (-32), 3) := by decide +kernel
theorem dW_clears_42 : decode bW_clears 42 = .ok (.iload_n 2, 1) := by decide +kernel
theorem dW_clears_43 : decode bW_clears 43 = .ok (.ireturn, 1) := by decide +kernel
set_option maxHeartbeats 4000000 in
set_option maxRecDepth 100000 in
theorem cW_clears (l : Launch) (D : va_G) (tI tJ tL : ClassId) (A : Nat → Prop) (sg ad : Nat → Nat) (n : Nat) (sL : NL) (sA : NA) (i : Nat) (hi : i < 6) : Met l yW_clears (Cond.code yW_clears bW_clears 4 (some FieldType.int) :: wNeed) { frames := 0, cells := 0, slots := 0, locals := 0 } (va_Pc [.ref (ad 7), .int (nI i)] (GP D tI tJ tL A sg ad n sL sA)) (va_Qi (fun r (u : NL × NA) => fW_clears sL sA i = (r, u.1, u.2)) (fun u t => GW D tI tJ tL A ad n u.1 u.2 t.heap) A) 0 0 A := by
  refine en_G (av := [.ref (ad 7), .int (nI i)]) (by decide) (Nat.le_of_ble_eq_true rfl) ?_
  intro p e s m below meth c hx hb hml hown hts hr hlocks hmname hC H locs hG hS ls hl
  replace hl : lv_has ls 4 [(0, .ref (ad 7)), (1, .int (nI i))] := hl
  refine lv_iconst (v := 0) hx hb dW_clears_0 (by decide) ?_
  refine lv_istore_n (lv' := [(2, .int 0), (0, .ref (ad 7)), (1, .int (nI i))]) hx hb dW_clears_1 rfl hl (by decide) rfl (fun ls hl => ?_)
  refine lv_bipush (v := 10) hx hb dW_clears_2 (by decide) ?_
  refine lv_iload_n hx hb dW_clears_4 rfl (lv_at hl 2 rfl) ?_
  refine lv_imul hx hb dW_clears_5 ?_
  rw [show (10 : Int32) * (nI i) = nI (10 * i) from pk_mul 10 i]
  refine lv_istore_n (lv' := [(3, .int (nI (10 * i))), (2, .int 0), (0, .ref (ad 7)), (1, .int (nI i))]) hx hb dW_clears_6 rfl hl (by decide) rfl (fun ls hl => ?_)
  replace hl : ∃ (f : Nat) (j : Nat) (x : Int32) (sA1 : NA), j + f = 11 ∧ j ≤ 10 ∧ fW_clears sL sA i = lW_clears sL i f j x sA1 ∧ GW D tI tJ tL A ad n sL sA1 H ∧ lv_has ls 4 [(3, .int (nI (10 * i + j))), (2, .int x), (0, .ref (ad 7)), (1, .int (nI i))] := ⟨11, 0, 0, sA, rfl, by omega, (by rw [fW_clears] <;> rfl), hG, hl⟩
  clear hG
  obtain ⟨f, j, x, sA1, hf, hj, hF, hG, hl⟩ := hl
  induction f generalizing j x sA1 H locs ls with
  | zero => exact absurd hf (by omega)
  | succ f ih =>
    refine lv_iload_n hx hb dW_clears_7 rfl (lv_at hl 0 rfl) ?_
    refine lv_bipush (v := 10) hx hb dW_clears_8 (by decide) ?_
    refine lv_iload_n hx hb dW_clears_10 rfl (lv_at hl 3 rfl) ?_
    refine lv_imul hx hb dW_clears_11 ?_
    rw [show (10 : Int32) * (nI i) = nI (10 * i) from pk_mul 10 i]
    refine lv_bipush (v := 10) hx hb dW_clears_12 (by decide) ?_
    refine lv_iadd hx hb dW_clears_14 ?_
    rw [show (nI (10 * i)) + (10 : Int32) = nI (10 * i + 10) from nI_add (10 * i) 10]
    refine lv_icmp_ge (tgt := 42) hx hb dW_clears_15 (by decide) (fun c_1 => ?_) (fun c_1 => ?_)
    · refine lv_iload_n hx hb dW_clears_42 rfl (lv_at hl 1 rfl) ?_
      refine W.widen (k := 0) (n := 0) (Nat.le_of_ble_eq_true rfl) (Nat.le_of_ble_eq_true rfl) ?_
      exact W.iret (v := x) hx hb hr (fun t ht hW => ⟨⟨x, (sL, sA1), rfl, (by rw [hF, lW_clears, if_pos c_1] <;> rfl), gw_at hG ht⟩, hS.F ht⟩) hS.2.2 dW_clears_43
    · refine lv_iload_n hx hb dW_clears_18 rfl (lv_at hl 1 rfl) ?_
      refine lv_aload_n hx hb dW_clears_19 rfl (lv_at hl 2 rfl) ?_
      refine lv_iload_n hx hb dW_clears_20 rfl (lv_at hl 0 rfl) ?_
      refine ra_ld hx hb hC hG 7 60 (by omega) (fun _ _ => rfl) (vp_in_nI (by have hlt := grdW hi (by omega) c_1; omega) (by omega)) dW_clears_21 ?_
      rw [show (nI (10 * i + j)).toNatClampNeg = (10 * i + j) from nI_clamp (by omega)]
      refine lv_if_le (tgt := 29) hx hb dW_clears_22 (by decide) (fun c_2 => ?_) (fun c_2 => ?_)
      · refine lv_iconst (v := 0) hx hb dW_clears_29 (by decide) ?_
        refine lv_iadd hx hb dW_clears_30 ?_
        refine lv_istore_n (lv' := [(2, .int (x + 0)), (3, .int (nI (10 * i + j))), (0, .ref (ad 7)), (1, .int (nI i))]) hx hb dW_clears_31 rfl hl (by decide) rfl (fun ls hl => ?_)
        refine lv_aload_n hx hb dW_clears_32 rfl (lv_at hl 2 rfl) ?_
        refine lv_iload_n hx hb dW_clears_33 rfl (lv_at hl 1 rfl) ?_
        refine lv_iconst (v := 0) hx hb dW_clears_34 (by decide) ?_
        refine ra_st hx hb hC hG hS 7 60 (by omega) (fun _ _ => rfl) (vp_in_nI (by have hlt := grdW hi (by omega) c_1; omega) (by omega)) dW_clears_35 (fun H locs hG hS => ?_)
        rw [show (nI (10 * i + j)).toNatClampNeg = (10 * i + j) from nI_clamp (by omega)] at hG
        refine lv_iinc (v := nI (10 * i + j + 1)) (lv' := [(3, .int (nI (10 * i + j + 1))), (2, .int (x + 0)), (0, .ref (ad 7)), (1, .int (nI i))]) hx hb dW_clears_36 hl (k := 1) rfl (nI_1 (10 * i + j)) (by decide) rfl (fun ls hl => ?_)
        refine lv_goto (tgt := 7) hx hb dW_clears_39 (by decide) ?_
        exact ih (j := j + 1) (x := x + 0) (sA1 := (up2 sA1 7 (10 * i + j) 0)) (H := H) (locs := locs) (hS := hS) (hG := hG) (ls := ls) (hf := by omega) (hj := by have hlt := grdW hi (by omega) c_1; omega) (hF := by rw [hF, lW_clears, if_neg c_1, if_pos c_2] <;> rfl) (hl := lv_sub hl [0, 1, 2, 3] rfl)
      · refine lv_iconst (v := 1) hx hb dW_clears_25 (by decide) ?_
        refine lv_goto (tgt := 30) hx hb dW_clears_26 (by decide) ?_
        refine lv_iadd hx hb dW_clears_30 ?_
        refine lv_istore_n (lv' := [(2, .int (x + 1)), (3, .int (nI (10 * i + j))), (0, .ref (ad 7)), (1, .int (nI i))]) hx hb dW_clears_31 rfl hl (by decide) rfl (fun ls hl => ?_)
        refine lv_aload_n hx hb dW_clears_32 rfl (lv_at hl 2 rfl) ?_
        refine lv_iload_n hx hb dW_clears_33 rfl (lv_at hl 1 rfl) ?_
        refine lv_iconst (v := 0) hx hb dW_clears_34 (by decide) ?_
        refine ra_st hx hb hC hG hS 7 60 (by omega) (fun _ _ => rfl) (vp_in_nI (by have hlt := grdW hi (by omega) c_1; omega) (by omega)) dW_clears_35 (fun H locs hG hS => ?_)
        rw [show (nI (10 * i + j)).toNatClampNeg = (10 * i + j) from nI_clamp (by omega)] at hG
        refine lv_iinc (v := nI (10 * i + j + 1)) (lv' := [(3, .int (nI (10 * i + j + 1))), (2, .int (x + 1)), (0, .ref (ad 7)), (1, .int (nI i))]) hx hb dW_clears_36 hl (k := 1) rfl (nI_1 (10 * i + j)) (by decide) rfl (fun ls hl => ?_)
        refine lv_goto (tgt := 7) hx hb dW_clears_39 (by decide) ?_
        exact ih (j := j + 1) (x := x + 1) (sA1 := (up2 sA1 7 (10 * i + j) 0)) (H := H) (locs := locs) (hS := hS) (hG := hG) (ls := ls) (hf := by omega) (hj := by have hlt := grdW hi (by omega) c_1; omega) (hF := by rw [hF, lW_clears, if_neg c_1, if_neg c_2] <;> rfl) (hl := lv_sub hl [0, 1, 2, 3] rfl)
def lW_falls (sL : NL) (sA : NA) (i : Nat) : Nat → Nat → Int32 → Int32 → Int32 × NL × NA
  | 0, _, _, _ => (0, sL, sA)
  | f + 1, j, x, y => if 10 ≤ (nI j) then (if x < 0 then ((-1), sL, (up2 sA 5 (10 * i + 3) 1)) else (if (sA 5 (10 * i + 1)) ≤ ((sA 7 x.toNatClampNeg) - 1) then (if 0 ≤ y then (wmin (wmax (fW_next y) (sA 5 (10 * i + 1))) ((sA 7 x.toNatClampNeg) - 1), sL, (up2 (up2 (up2 (up2 sA 5 (10 * i + 3) 2) 5 (10 * i + 4) (x - x / 10 * 10)) 5 (10 * i + 5) (wmin (wmax (fW_next y) (sA 5 (10 * i + 1))) ((sA 7 x.toNatClampNeg) - 1))) 5 (10 * i + 6) (sA 4 2))) else (if (sA 5 (10 * i + 1)) = 0 then (wmin (wmax 50 (sA 5 (10 * i + 1))) ((sA 7 x.toNatClampNeg) - 1), sL, (up2 (up2 (up2 (up2 sA 5 (10 * i + 3) 2) 5 (10 * i + 4) (x - x / 10 * 10)) 5 (10 * i + 5) (wmin (wmax 50 (sA 5 (10 * i + 1))) ((sA 7 x.toNatClampNeg) - 1))) 5 (10 * i + 6) (sA 4 2))) else (wmin (wmax (sA 5 (10 * i + 1)) (sA 5 (10 * i + 1))) ((sA 7 x.toNatClampNeg) - 1), sL, (up2 (up2 (up2 (up2 sA 5 (10 * i + 3) 2) 5 (10 * i + 4) (x - x / 10 * 10)) 5 (10 * i + 5) (wmin (wmax (sA 5 (10 * i + 1)) (sA 5 (10 * i + 1))) ((sA 7 x.toNatClampNeg) - 1))) 5 (10 * i + 6) (sA 4 2))))) else ((-1), sL, (up2 sA 5 (10 * i + 3) 1)))) else (if (sA 7 (10 * i + j)) ≤ 0 then lW_falls sL sA i f (j + 1) x y else (if x < 0 then lW_falls sL sA i f (j + 1) (nI (10 * i + j)) (-1) else (if (sA 7 x.toNatClampNeg) < (sA 7 (10 * i + j)) then lW_falls sL sA i f (j + 1) (nI (10 * i + j)) ((sA 7 x.toNatClampNeg) - 1) else (if (sA 7 (10 * i + j)) = (sA 7 x.toNatClampNeg) then (if (sA 8 x.toNatClampNeg) ≤ (sA 8 (10 * i + j)) then (if ((sA 7 (10 * i + j)) - 1) ≤ y then lW_falls sL sA i f (j + 1) x y else lW_falls sL sA i f (j + 1) x ((sA 7 (10 * i + j)) - 1)) else lW_falls sL sA i f (j + 1) (nI (10 * i + j)) ((sA 7 x.toNatClampNeg) - 1)) else (if ((sA 7 (10 * i + j)) - 1) ≤ y then lW_falls sL sA i f (j + 1) x y else lW_falls sL sA i f (j + 1) x ((sA 7 (10 * i + j)) - 1))))))
def fW_falls (sL : NL) (sA : NA) (i : Nat) : Int32 × NL × NA := lW_falls sL sA i 11 0 (-1) (-1)
theorem hdyW_falls : yW_falls.cls ≠ "java/lang/invoke/MethodHandle" ∧ yW_falls.cls ≠ "java/lang/invoke/VarHandle" ∧ (parseMethodDescriptor yW_falls.desc).map (fun d => d.parameters.length) = some 5 := by decide +kernel
theorem dW_falls_0 : decode bW_falls 0 = .ok (.iconst (-1), 1) := by decide +kernel
theorem dW_falls_1 : decode bW_falls 1 = .ok (.istore 5, 2) := by decide +kernel
theorem dW_falls_3 : decode bW_falls 3 = .ok (.iconst (-1), 1) := by decide +kernel
theorem dW_falls_4 : decode bW_falls 4 = .ok (.istore 6, 2) := by decide +kernel
theorem dW_falls_6 : decode bW_falls 6 = .ok (.iconst 0, 1) := by decide +kernel
theorem dW_falls_7 : decode bW_falls 7 = .ok (.istore 7, 2) := by decide +kernel
theorem dW_falls_9 : decode bW_falls 9 = .ok (.iload 7, 2) := by decide +kernel
theorem dW_falls_11 : decode bW_falls 11 = .ok (.bipush 10, 2) := by decide +kernel
theorem dW_falls_13 : decode bW_falls 13 = .ok (.if_icmp .ge 139, 3) := by decide +kernel
theorem dW_falls_16 : decode bW_falls 16 = .ok (.bipush 10, 2) := by decide +kernel
theorem dW_falls_18 : decode bW_falls 18 = .ok (.iload 4, 2) := by decide +kernel
theorem dW_falls_20 : decode bW_falls 20 = .ok (.imul, 1) := by decide +kernel
theorem dW_falls_21 : decode bW_falls 21 = .ok (.iload 7, 2) := by decide +kernel
theorem dW_falls_23 : decode bW_falls 23 = .ok (.iadd, 1) := by decide +kernel
theorem dW_falls_24 : decode bW_falls 24 = .ok (.istore 8, 2) := by decide +kernel
theorem dW_falls_26 : decode bW_falls 26 = .ok (.aload_n 2, 1) := by decide +kernel
theorem dW_falls_27 : decode bW_falls 27 = .ok (.iload 8, 2) := by decide +kernel
theorem dW_falls_29 : decode bW_falls 29 = .ok (.iaload, 1) := by decide +kernel
theorem dW_falls_30 : decode bW_falls 30 = .ok (.ifCond .le 45, 3) := by decide +kernel
theorem dW_falls_33 : decode bW_falls 33 = .ok (.iload 5, 2) := by decide +kernel
theorem dW_falls_35 : decode bW_falls 35 = .ok (.ifCond .lt 36, 3) := by decide +kernel
theorem dW_falls_38 : decode bW_falls 38 = .ok (.aload_n 2, 1) := by decide +kernel
theorem dW_falls_39 : decode bW_falls 39 = .ok (.iload 8, 2) := by decide +kernel
theorem dW_falls_41 : decode bW_falls 41 = .ok (.iaload, 1) := by decide +kernel
theorem dW_falls_42 : decode bW_falls 42 = .ok (.aload_n 2, 1) := by decide +kernel
theorem dW_falls_43 : decode bW_falls 43 = .ok (.iload 5, 2) := by decide +kernel
theorem dW_falls_45 : decode bW_falls 45 = .ok (.iaload, 1) := by decide +kernel
theorem dW_falls_46 : decode bW_falls 46 = .ok (.if_icmp .gt 25, 3) := by decide +kernel
theorem dW_falls_49 : decode bW_falls 49 = .ok (.aload_n 2, 1) := by decide +kernel
theorem dW_falls_50 : decode bW_falls 50 = .ok (.iload 8, 2) := by decide +kernel
theorem dW_falls_52 : decode bW_falls 52 = .ok (.iaload, 1) := by decide +kernel
theorem dW_falls_53 : decode bW_falls 53 = .ok (.aload_n 2, 1) := by decide +kernel
theorem dW_falls_54 : decode bW_falls 54 = .ok (.iload 5, 2) := by decide +kernel
theorem dW_falls_56 : decode bW_falls 56 = .ok (.iaload, 1) := by decide +kernel
theorem dW_falls_57 : decode bW_falls 57 = .ok (.if_icmp .ne 18, 3) := by decide +kernel
theorem dW_falls_60 : decode bW_falls 60 = .ok (.aload_n 3, 1) := by decide +kernel
theorem dW_falls_61 : decode bW_falls 61 = .ok (.iload 8, 2) := by decide +kernel
theorem dW_falls_63 : decode bW_falls 63 = .ok (.iaload, 1) := by decide +kernel
theorem dW_falls_64 : decode bW_falls 64 = .ok (.aload_n 3, 1) := by decide +kernel
theorem dW_falls_65 : decode bW_falls 65 = .ok (.iload 5, 2) := by decide +kernel
theorem dW_falls_67 : decode bW_falls 67 = .ok (.iaload, 1) := by decide +kernel
theorem dW_falls_68 : decode bW_falls 68 = .ok (.if_icmp .ge 7, 3) := by decide +kernel
theorem dW_falls_71 : decode bW_falls 71 = .ok (.iconst 1, 1) := by decide +kernel
theorem dW_falls_72 : decode bW_falls 72 = .ok (.goto 4, 3) := by decide +kernel
theorem dW_falls_75 : decode bW_falls 75 = .ok (.iconst 0, 1) := by decide +kernel
theorem dW_falls_76 : decode bW_falls 76 = .ok (.istore 9, 2) := by decide +kernel
theorem dW_falls_78 : decode bW_falls 78 = .ok (.iload 9, 2) := by decide +kernel
theorem dW_falls_80 : decode bW_falls 80 = .ok (.ifCond .eq 21, 3) := by decide +kernel
theorem dW_falls_83 : decode bW_falls 83 = .ok (.iload 5, 2) := by decide +kernel
theorem dW_falls_85 : decode bW_falls 85 = .ok (.ifCond .ge 7, 3) := by decide +kernel
theorem dW_falls_88 : decode bW_falls 88 = .ok (.iconst (-1), 1) := by decide +kernel
theorem dW_falls_89 : decode bW_falls 89 = .ok (.goto 41, 3) := by decide +kernel
theorem dW_falls_92 : decode bW_falls 92 = .ok (.aload_n 2, 1) := by decide +kernel
theorem dW_falls_93 : decode bW_falls 93 = .ok (.iload 5, 2) := by decide +kernel
theorem dW_falls_95 : decode bW_falls 95 = .ok (.iaload, 1) := by decide +kernel
theorem dW_falls_96 : decode bW_falls 96 = .ok (.iconst 1, 1) := by decide +kernel
theorem dW_falls_97 : decode bW_falls 97 = .ok (.isub, 1) := by decide +kernel
theorem dW_falls_98 : decode bW_falls 98 = .ok (.goto 32, 3) := by decide +kernel
theorem dW_falls_101 : decode bW_falls 101 = .ok (.aload_n 2, 1) := by decide +kernel
theorem dW_falls_102 : decode bW_falls 102 = .ok (.iload 8, 2) := by decide +kernel
theorem dW_falls_104 : decode bW_falls 104 = .ok (.iaload, 1) := by decide +kernel
theorem dW_falls_105 : decode bW_falls 105 = .ok (.ifCond .le 23, 3) := by decide +kernel
theorem dW_falls_108 : decode bW_falls 108 = .ok (.aload_n 2, 1) := by decide +kernel
theorem dW_falls_109 : decode bW_falls 109 = .ok (.iload 8, 2) := by decide +kernel
theorem dW_falls_111 : decode bW_falls 111 = .ok (.iaload, 1) := by decide +kernel
theorem dW_falls_112 : decode bW_falls 112 = .ok (.iconst 1, 1) := by decide +kernel
theorem dW_falls_113 : decode bW_falls 113 = .ok (.isub, 1) := by decide +kernel
theorem dW_falls_114 : decode bW_falls 114 = .ok (.iload 6, 2) := by decide +kernel
theorem dW_falls_116 : decode bW_falls 116 = .ok (.if_icmp .le 12, 3) := by decide +kernel
theorem dW_falls_119 : decode bW_falls 119 = .ok (.aload_n 2, 1) := by decide +kernel
theorem dW_falls_120 : decode bW_falls 120 = .ok (.iload 8, 2) := by decide +kernel
theorem dW_falls_122 : decode bW_falls 122 = .ok (.iaload, 1) := by decide +kernel
theorem dW_falls_123 : decode bW_falls 123 = .ok (.iconst 1, 1) := by decide +kernel
theorem dW_falls_124 : decode bW_falls 124 = .ok (.isub, 1) := by decide +kernel
theorem dW_falls_125 : decode bW_falls 125 = .ok (.goto 5, 3) := by decide +kernel
theorem dW_falls_128 : decode bW_falls 128 = .ok (.iload 6, 2) := by decide +kernel
theorem dW_falls_130 : decode bW_falls 130 = .ok (.istore 6, 2) := by decide +kernel
theorem dW_falls_132 : decode bW_falls 132 = .ok (.iload 9, 2) := by decide +kernel
theorem dW_falls_134 : decode bW_falls 134 = .ok (.ifCond .eq 8, 3) := by decide +kernel
theorem dW_falls_137 : decode bW_falls 137 = .ok (.iload 8, 2) := by decide +kernel
theorem dW_falls_139 : decode bW_falls 139 = .ok (.goto 5, 3) := by decide +kernel
theorem dW_falls_142 : decode bW_falls 142 = .ok (.iload 5, 2) := by decide +kernel
theorem dW_falls_144 : decode bW_falls 144 = .ok (.istore 5, 2) := by decide +kernel
theorem dW_falls_146 : decode bW_falls 146 = .ok (.iinc 7 1, 3) := by decide +kernel
theorem dW_falls_149 : decode bW_falls 149 = .ok (.goto (-140), 3) := by decide +kernel
theorem dW_falls_152 : decode bW_falls 152 = .ok (.aload_n 1, 1) := by decide +kernel
theorem dW_falls_153 : decode bW_falls 153 = .ok (.bipush 10, 2) := by decide +kernel
theorem dW_falls_155 : decode bW_falls 155 = .ok (.iload 4, 2) := by decide +kernel
theorem dW_falls_157 : decode bW_falls 157 = .ok (.imul, 1) := by decide +kernel
theorem dW_falls_158 : decode bW_falls 158 = .ok (.iconst 1, 1) := by decide +kernel
theorem dW_falls_159 : decode bW_falls 159 = .ok (.iadd, 1) := by decide +kernel
theorem dW_falls_160 : decode bW_falls 160 = .ok (.iaload, 1) := by decide +kernel
theorem dW_falls_161 : decode bW_falls 161 = .ok (.istore 7, 2) := by decide +kernel
theorem dW_falls_163 : decode bW_falls 163 = .ok (.iload 5, 2) := by decide +kernel
theorem dW_falls_165 : decode bW_falls 165 = .ok (.ifCond .lt 14, 3) := by decide +kernel
theorem dW_falls_168 : decode bW_falls 168 = .ok (.aload_n 2, 1) := by decide +kernel
theorem dW_falls_169 : decode bW_falls 169 = .ok (.iload 5, 2) := by decide +kernel
theorem dW_falls_171 : decode bW_falls 171 = .ok (.iaload, 1) := by decide +kernel
theorem dW_falls_172 : decode bW_falls 172 = .ok (.iconst 1, 1) := by decide +kernel
theorem dW_falls_173 : decode bW_falls 173 = .ok (.isub, 1) := by decide +kernel
theorem dW_falls_174 : decode bW_falls 174 = .ok (.iload 7, 2) := by decide +kernel
theorem dW_falls_176 : decode bW_falls 176 = .ok (.if_icmp .ge 15, 3) := by decide +kernel
theorem dW_falls_179 : decode bW_falls 179 = .ok (.aload_n 1, 1) := by decide +kernel
theorem dW_falls_180 : decode bW_falls 180 = .ok (.bipush 10, 2) := by decide +kernel
theorem dW_falls_182 : decode bW_falls 182 = .ok (.iload 4, 2) := by decide +kernel
theorem dW_falls_184 : decode bW_falls 184 = .ok (.imul, 1) := by decide +kernel
theorem dW_falls_185 : decode bW_falls 185 = .ok (.iconst 3, 1) := by decide +kernel
theorem dW_falls_186 : decode bW_falls 186 = .ok (.iadd, 1) := by decide +kernel
theorem dW_falls_187 : decode bW_falls 187 = .ok (.iconst 1, 1) := by decide +kernel
theorem dW_falls_188 : decode bW_falls 188 = .ok (.iastore, 1) := by decide +kernel
theorem dW_falls_189 : decode bW_falls 189 = .ok (.iconst (-1), 1) := by decide +kernel
theorem dW_falls_190 : decode bW_falls 190 = .ok (.ireturn, 1) := by decide +kernel
theorem dW_falls_191 : decode bW_falls 191 = .ok (.iload 6, 2) := by decide +kernel
theorem dW_falls_193 : decode bW_falls 193 = .ok (.ifCond .ge 18, 3) := by decide +kernel
theorem dW_falls_196 : decode bW_falls 196 = .ok (.iload 7, 2) := by decide +kernel
theorem dW_falls_198 : decode bW_falls 198 = .ok (.ifCond .ne 8, 3) := by decide +kernel
theorem dW_falls_201 : decode bW_falls 201 = .ok (.bipush 50, 2) := by decide +kernel
theorem dW_falls_203 : decode bW_falls 203 = .ok (.goto 13, 3) := by decide +kernel
theorem dW_falls_206 : decode bW_falls 206 = .ok (.iload 7, 2) := by decide +kernel
theorem dW_falls_208 : decode bW_falls 208 = .ok (.goto 8, 3) := by decide +kernel
theorem dW_falls_211 : decode bW_falls 211 = .ok (.iload 6, 2) := by decide +kernel
theorem dW_falls_213 : decode bW_falls 213 = .ok (.invokestatic 22, 3) := by decide +kernel
theorem dW_falls_216 : decode bW_falls 216 = .ok (.istore 8, 2) := by decide +kernel
theorem dW_falls_218 : decode bW_falls 218 = .ok (.iload 8, 2) := by decide +kernel
theorem dW_falls_220 : decode bW_falls 220 = .ok (.iload 7, 2) := by decide +kernel
theorem dW_falls_222 : decode bW_falls 222 = .ok (.if_icmp .le 8, 3) := by decide +kernel
theorem dW_falls_225 : decode bW_falls 225 = .ok (.iload 8, 2) := by decide +kernel
theorem dW_falls_227 : decode bW_falls 227 = .ok (.goto 5, 3) := by decide +kernel
theorem dW_falls_230 : decode bW_falls 230 = .ok (.iload 7, 2) := by decide +kernel
theorem dW_falls_232 : decode bW_falls 232 = .ok (.istore 8, 2) := by decide +kernel
theorem dW_falls_234 : decode bW_falls 234 = .ok (.iload 8, 2) := by decide +kernel
theorem dW_falls_236 : decode bW_falls 236 = .ok (.aload_n 2, 1) := by decide +kernel
theorem dW_falls_237 : decode bW_falls 237 = .ok (.iload 5, 2) := by decide +kernel
theorem dW_falls_239 : decode bW_falls 239 = .ok (.iaload, 1) := by decide +kernel
theorem dW_falls_240 : decode bW_falls 240 = .ok (.iconst 1, 1) := by decide +kernel
theorem dW_falls_241 : decode bW_falls 241 = .ok (.isub, 1) := by decide +kernel
theorem dW_falls_242 : decode bW_falls 242 = .ok (.if_icmp .ge 8, 3) := by decide +kernel
theorem dW_falls_245 : decode bW_falls 245 = .ok (.iload 8, 2) := by decide +kernel
theorem dW_falls_247 : decode bW_falls 247 = .ok (.goto 9, 3) := by decide +kernel
theorem dW_falls_250 : decode bW_falls 250 = .ok (.aload_n 2, 1) := by decide +kernel
theorem dW_falls_251 : decode bW_falls 251 = .ok (.iload 5, 2) := by decide +kernel
theorem dW_falls_253 : decode bW_falls 253 = .ok (.iaload, 1) := by decide +kernel
theorem dW_falls_254 : decode bW_falls 254 = .ok (.iconst 1, 1) := by decide +kernel
theorem dW_falls_255 : decode bW_falls 255 = .ok (.isub, 1) := by decide +kernel
theorem dW_falls_256 : decode bW_falls 256 = .ok (.istore 8, 2) := by decide +kernel
theorem dW_falls_258 : decode bW_falls 258 = .ok (.aload_n 1, 1) := by decide +kernel
theorem dW_falls_259 : decode bW_falls 259 = .ok (.bipush 10, 2) := by decide +kernel
theorem dW_falls_261 : decode bW_falls 261 = .ok (.iload 4, 2) := by decide +kernel
theorem dW_falls_263 : decode bW_falls 263 = .ok (.imul, 1) := by decide +kernel
theorem dW_falls_264 : decode bW_falls 264 = .ok (.iconst 3, 1) := by decide +kernel
theorem dW_falls_265 : decode bW_falls 265 = .ok (.iadd, 1) := by decide +kernel
theorem dW_falls_266 : decode bW_falls 266 = .ok (.iconst 2, 1) := by decide +kernel
theorem dW_falls_267 : decode bW_falls 267 = .ok (.iastore, 1) := by decide +kernel
theorem dW_falls_268 : decode bW_falls 268 = .ok (.aload_n 1, 1) := by decide +kernel
theorem dW_falls_269 : decode bW_falls 269 = .ok (.bipush 10, 2) := by decide +kernel
theorem dW_falls_271 : decode bW_falls 271 = .ok (.iload 4, 2) := by decide +kernel
theorem dW_falls_273 : decode bW_falls 273 = .ok (.imul, 1) := by decide +kernel
theorem dW_falls_274 : decode bW_falls 274 = .ok (.iconst 4, 1) := by decide +kernel
theorem dW_falls_275 : decode bW_falls 275 = .ok (.iadd, 1) := by decide +kernel
theorem dW_falls_276 : decode bW_falls 276 = .ok (.iload 5, 2) := by decide +kernel
theorem dW_falls_278 : decode bW_falls 278 = .ok (.bipush 10, 2) := by decide +kernel
theorem dW_falls_280 : decode bW_falls 280 = .ok (.irem, 1) := by decide +kernel
theorem dW_falls_281 : decode bW_falls 281 = .ok (.iastore, 1) := by decide +kernel
theorem dW_falls_282 : decode bW_falls 282 = .ok (.aload_n 1, 1) := by decide +kernel
theorem dW_falls_283 : decode bW_falls 283 = .ok (.bipush 10, 2) := by decide +kernel
theorem dW_falls_285 : decode bW_falls 285 = .ok (.iload 4, 2) := by decide +kernel
theorem dW_falls_287 : decode bW_falls 287 = .ok (.imul, 1) := by decide +kernel
theorem dW_falls_288 : decode bW_falls 288 = .ok (.iconst 5, 1) := by decide +kernel
theorem dW_falls_289 : decode bW_falls 289 = .ok (.iadd, 1) := by decide +kernel
theorem dW_falls_290 : decode bW_falls 290 = .ok (.iload 8, 2) := by decide +kernel
theorem dW_falls_292 : decode bW_falls 292 = .ok (.iastore, 1) := by decide +kernel
theorem dW_falls_293 : decode bW_falls 293 = .ok (.aload_n 1, 1) := by decide +kernel
theorem dW_falls_294 : decode bW_falls 294 = .ok (.bipush 10, 2) := by decide +kernel
theorem dW_falls_296 : decode bW_falls 296 = .ok (.iload 4, 2) := by decide +kernel
theorem dW_falls_298 : decode bW_falls 298 = .ok (.imul, 1) := by decide +kernel
theorem dW_falls_299 : decode bW_falls 299 = .ok (.bipush 6, 2) := by decide +kernel
theorem dW_falls_301 : decode bW_falls 301 = .ok (.iadd, 1) := by decide +kernel
theorem dW_falls_302 : decode bW_falls 302 = .ok (.aload_n 0, 1) := by decide +kernel
theorem dW_falls_303 : decode bW_falls 303 = .ok (.iconst 2, 1) := by decide +kernel
theorem dW_falls_304 : decode bW_falls 304 = .ok (.iaload, 1) := by decide +kernel
theorem dW_falls_305 : decode bW_falls 305 = .ok (.iastore, 1) := by decide +kernel
theorem dW_falls_306 : decode bW_falls 306 = .ok (.iload 8, 2) := by decide +kernel
theorem dW_falls_308 : decode bW_falls 308 = .ok (.ireturn, 1) := by decide +kernel
set_option maxHeartbeats 4000000 in
set_option maxRecDepth 100000 in
theorem cW_falls (l : Launch) (D : va_G) (tI tJ tL : ClassId) (A : Nat → Prop) (sg ad : Nat → Nat) (n : Nat) (sL : NL) (sA : NA) (i : Nat) (hi : i < 6) (hpc : ∀ q : Nat, q < 10 → 0 < sA 7 (10 * i + q) → PC (sA 7 (10 * i + q) - 1)) : Met l yW_falls (Cond.code yW_falls bW_falls 10 (some FieldType.int) :: wNeed) { frames := 2, cells := 42, slots := 168, locals := 46 } (va_Pc [.ref (ad 4), .ref (ad 5), .ref (ad 7), .ref (ad 8), .int (nI i)] (GP D tI tJ tL A sg ad n sL sA)) (va_Qi (fun r (u : NL × NA) => fW_falls sL sA i = (r, u.1, u.2)) (fun u t => GW D tI tJ tL A ad n u.1 u.2 t.heap) A) 42 168 A := by
  refine en_G (av := [.ref (ad 4), .ref (ad 5), .ref (ad 7), .ref (ad 8), .int (nI i)]) (by decide) (Nat.le_of_ble_eq_true rfl) ?_
  intro p e s m below meth c hx hb hml hown hts hr hlocks hmname hC H locs hG hS ls hl
  replace hl : lv_has ls 10 [(0, .ref (ad 4)), (1, .ref (ad 5)), (2, .ref (ad 7)), (3, .ref (ad 8)), (4, .int (nI i))] := hl
  refine lv_iconst (v := (-1)) hx hb dW_falls_0 (by decide) ?_
  refine lv_istore (lv' := [(5, .int (-1)), (0, .ref (ad 4)), (1, .ref (ad 5)), (2, .ref (ad 7)), (3, .ref (ad 8)), (4, .int (nI i))]) hx hb dW_falls_1 hl (by decide) rfl (fun ls hl => ?_)
  refine lv_iconst (v := (-1)) hx hb dW_falls_3 (by decide) ?_
  refine lv_istore (lv' := [(6, .int (-1)), (5, .int (-1)), (0, .ref (ad 4)), (1, .ref (ad 5)), (2, .ref (ad 7)), (3, .ref (ad 8)), (4, .int (nI i))]) hx hb dW_falls_4 hl (by decide) rfl (fun ls hl => ?_)
  refine lv_iconst (v := 0) hx hb dW_falls_6 (by decide) ?_
  refine lv_istore (lv' := [(7, .int 0), (6, .int (-1)), (5, .int (-1)), (0, .ref (ad 4)), (1, .ref (ad 5)), (2, .ref (ad 7)), (3, .ref (ad 8)), (4, .int (nI i))]) hx hb dW_falls_7 hl (by decide) rfl (fun ls hl => ?_)
  replace hl : ∃ (f : Nat) (j : Nat) (x : Int32) (y : Int32), j + f = 11 ∧ j ≤ 10 ∧ BW sA i x ∧ (y = (-1) ∨ PC y) ∧ fW_falls sL sA i = lW_falls sL sA i f j x y ∧ lv_has ls 10 [(7, .int (nI j)), (6, .int y), (5, .int x), (0, .ref (ad 4)), (1, .ref (ad 5)), (2, .ref (ad 7)), (3, .ref (ad 8)), (4, .int (nI i))] := ⟨11, 0, (-1), (-1), rfl, by omega, Or.inl rfl, Or.inl rfl, (by rw [fW_falls] <;> rfl), hl⟩
  obtain ⟨f, j, x, y, hf, hj, hx9, hy, hF, hl⟩ := hl
  induction f generalizing j x y ls with
  | zero => exact absurd hf (by omega)
  | succ f ih =>
    refine lv_iload hx hb dW_falls_9 (lv_at hl 0 rfl) ?_
    refine lv_bipush (v := 10) hx hb dW_falls_11 (by decide) ?_
    refine lv_icmp_ge (tgt := 152) hx hb dW_falls_13 (by decide) (fun c_1 => ?_) (fun c_1 => ?_)
    · refine lv_aload_n hx hb dW_falls_152 rfl (lv_at hl 4 rfl) ?_
      refine lv_bipush (v := 10) hx hb dW_falls_153 (by decide) ?_
      refine lv_iload hx hb dW_falls_155 (lv_at hl 7 rfl) ?_
      refine lv_imul hx hb dW_falls_157 ?_
      rw [show (10 : Int32) * (nI i) = nI (10 * i) from pk_mul 10 i]
      refine lv_iconst (v := 1) hx hb dW_falls_158 (by decide) ?_
      refine lv_iadd hx hb dW_falls_159 ?_
      rw [show (nI (10 * i)) + (1 : Int32) = nI (10 * i + 1) from nI_add (10 * i) 1]
      refine ra_ld hx hb hC hG 5 60 (by omega) (fun _ _ => rfl) (vp_in_nI (by omega) (by omega)) dW_falls_160 ?_
      rw [show (nI (10 * i + 1)).toNatClampNeg = (10 * i + 1) from nI_clamp (by omega)]
      refine lv_istore (lv' := [(7, .int (sA 5 (10 * i + 1))), (6, .int y), (5, .int x), (0, .ref (ad 4)), (1, .ref (ad 5)), (2, .ref (ad 7)), (3, .ref (ad 8)), (4, .int (nI i))]) hx hb dW_falls_161 hl (by decide) rfl (fun ls hl => ?_)
      refine lv_iload hx hb dW_falls_163 (lv_at hl 2 rfl) ?_
      refine lv_if_lt (tgt := 179) hx hb dW_falls_165 (by decide) (fun c_2 => ?_) (fun c_2 => ?_)
      · refine lv_aload_n hx hb dW_falls_179 rfl (lv_at hl 4 rfl) ?_
        refine lv_bipush (v := 10) hx hb dW_falls_180 (by decide) ?_
        refine lv_iload hx hb dW_falls_182 (lv_at hl 7 rfl) ?_
        refine lv_imul hx hb dW_falls_184 ?_
        rw [show (10 : Int32) * (nI i) = nI (10 * i) from pk_mul 10 i]
        refine lv_iconst (v := 3) hx hb dW_falls_185 (by decide) ?_
        refine lv_iadd hx hb dW_falls_186 ?_
        rw [show (nI (10 * i)) + (3 : Int32) = nI (10 * i + 3) from nI_add (10 * i) 3]
        refine lv_iconst (v := 1) hx hb dW_falls_187 (by decide) ?_
        refine ra_st hx hb hC hG hS 5 60 (by omega) (fun _ _ => rfl) (vp_in_nI (by omega) (by omega)) dW_falls_188 (fun H locs hG hS => ?_)
        rw [show (nI (10 * i + 3)).toNatClampNeg = (10 * i + 3) from nI_clamp (by omega)] at hG
        refine lv_iconst (v := (-1)) hx hb dW_falls_189 (by decide) ?_
        refine W.widen (k := 42) (n := 168) (Nat.le_of_ble_eq_true rfl) (Nat.le_of_ble_eq_true rfl) ?_
        exact W.iret (v := (-1)) hx hb hr (fun t ht hW => ⟨⟨(-1), (sL, (up2 sA 5 (10 * i + 3) 1)), rfl, (by rw [hF, lW_falls, if_pos c_1, if_pos c_2] <;> rfl), gw_at hG ht⟩, hS.F ht⟩) hS.2.2 dW_falls_190
      · refine lv_aload_n hx hb dW_falls_168 rfl (lv_at hl 5 rfl) ?_
        refine lv_iload hx hb dW_falls_169 (lv_at hl 2 rfl) ?_
        refine ra_ld hx hb hC hG 7 60 (by omega) (fun _ _ => rfl) (hx9.vin hi c_2) dW_falls_171 ?_
        refine lv_iconst (v := 1) hx hb dW_falls_172 (by decide) ?_
        refine lv_isub hx hb dW_falls_173 ?_
        refine lv_iload hx hb dW_falls_174 (lv_at hl 0 rfl) ?_
        refine lv_icmp_ge (tgt := 191) hx hb dW_falls_176 (by decide) (fun c_3 => ?_) (fun c_3 => ?_)
        · refine lv_iload hx hb dW_falls_191 (lv_at hl 1 rfl) ?_
          refine lv_if_ge (tgt := 211) hx hb dW_falls_193 (by decide) (fun c_4 => ?_) (fun c_4 => ?_)
          · refine lv_iload hx hb dW_falls_211 (lv_at hl 1 rfl) ?_
            refine rcS1c (rest := []) (As := [.int y]) hx hb hml hown hts hS (cW_next l D y (y_pc hy c_4)) (gS q_170 q_171 q_0 q_172) rfl rfl ⟨rfl, hdyW_next⟩ ⟨Nat.le_of_ble_eq_true rfl, Nat.le_of_ble_eq_true rfl⟩ hl.1 rfl (Nat.le_of_ble_eq_true rfl) dW_falls_213 ⟨Nat.le_of_ble_eq_true rfl, Nat.le_of_ble_eq_true rfl⟩ (fun H1 locs hk9 hS => ?_)
            replace hG := hG.kept hk9
            clear hk9
            generalize H1 = H at hG hS ⊢
            refine lv_istore (lv' := [(8, .int (fW_next y)), (7, .int (sA 5 (10 * i + 1))), (6, .int y), (5, .int x), (0, .ref (ad 4)), (1, .ref (ad 5)), (2, .ref (ad 7)), (3, .ref (ad 8)), (4, .int (nI i))]) hx hb dW_falls_216 hl (by decide) rfl (fun ls hl => ?_)
            refine W_key (g2 := F0 m 232 ls (.int (wmax (fW_next y) (sA 5 (10 * i + 1))) :: [])) (fun key => ?_) ?_
            · refine lv_iload hx hb dW_falls_218 (lv_at hl 0 rfl) ?_
              refine lv_iload hx hb dW_falls_220 (lv_at hl 1 rfl) ?_
              refine lv_icmp_le (tgt := 230) hx hb dW_falls_222 (by decide) (fun c_5 => ?_) (fun c_5 => ?_)
              · refine lv_iload hx hb dW_falls_230 (lv_at hl 1 rfl) ?_
                exact W.eq (by rw [wmax, if_pos c_5]) key
              · refine lv_iload hx hb dW_falls_225 (lv_at hl 0 rfl) ?_
                refine lv_goto (tgt := 232) hx hb dW_falls_227 (by decide) ?_
                exact W.eq (by rw [wmax, if_neg c_5]) key
            refine lv_istore (lv' := [(8, .int (wmax (fW_next y) (sA 5 (10 * i + 1)))), (7, .int (sA 5 (10 * i + 1))), (6, .int y), (5, .int x), (0, .ref (ad 4)), (1, .ref (ad 5)), (2, .ref (ad 7)), (3, .ref (ad 8)), (4, .int (nI i))]) hx hb dW_falls_232 hl (by decide) rfl (fun ls hl => ?_)
            refine W_key (g2 := F0 m 256 ls (.int (wmin (wmax (fW_next y) (sA 5 (10 * i + 1))) ((sA 7 x.toNatClampNeg) - 1)) :: [])) (fun key => ?_) ?_
            · refine lv_iload hx hb dW_falls_234 (lv_at hl 0 rfl) ?_
              refine lv_aload_n hx hb dW_falls_236 rfl (lv_at hl 6 rfl) ?_
              refine lv_iload hx hb dW_falls_237 (lv_at hl 3 rfl) ?_
              refine ra_ld hx hb hC hG 7 60 (by omega) (fun _ _ => rfl) (hx9.vin hi c_2) dW_falls_239 ?_
              refine lv_iconst (v := 1) hx hb dW_falls_240 (by decide) ?_
              refine lv_isub hx hb dW_falls_241 ?_
              refine lv_icmp_ge (tgt := 250) hx hb dW_falls_242 (by decide) (fun c_6 => ?_) (fun c_6 => ?_)
              · refine lv_aload_n hx hb dW_falls_250 rfl (lv_at hl 6 rfl) ?_
                refine lv_iload hx hb dW_falls_251 (lv_at hl 3 rfl) ?_
                refine ra_ld hx hb hC hG 7 60 (by omega) (fun _ _ => rfl) (hx9.vin hi c_2) dW_falls_253 ?_
                refine lv_iconst (v := 1) hx hb dW_falls_254 (by decide) ?_
                refine lv_isub hx hb dW_falls_255 ?_
                exact W.eq (by rw [wmin, if_pos c_6]) key
              · refine lv_iload hx hb dW_falls_245 (lv_at hl 0 rfl) ?_
                refine lv_goto (tgt := 256) hx hb dW_falls_247 (by decide) ?_
                exact W.eq (by rw [wmin, if_neg c_6]) key
            refine lv_istore (lv' := [(8, .int (wmin (wmax (fW_next y) (sA 5 (10 * i + 1))) ((sA 7 x.toNatClampNeg) - 1))), (7, .int (sA 5 (10 * i + 1))), (6, .int y), (5, .int x), (0, .ref (ad 4)), (1, .ref (ad 5)), (2, .ref (ad 7)), (3, .ref (ad 8)), (4, .int (nI i))]) hx hb dW_falls_256 hl (by decide) rfl (fun ls hl => ?_)
            refine lv_aload_n hx hb dW_falls_258 rfl (lv_at hl 5 rfl) ?_
            refine lv_bipush (v := 10) hx hb dW_falls_259 (by decide) ?_
            refine lv_iload hx hb dW_falls_261 (lv_at hl 8 rfl) ?_
            refine lv_imul hx hb dW_falls_263 ?_
            rw [show (10 : Int32) * (nI i) = nI (10 * i) from pk_mul 10 i]
            refine lv_iconst (v := 3) hx hb dW_falls_264 (by decide) ?_
            refine lv_iadd hx hb dW_falls_265 ?_
            rw [show (nI (10 * i)) + (3 : Int32) = nI (10 * i + 3) from nI_add (10 * i) 3]
            refine lv_iconst (v := 2) hx hb dW_falls_266 (by decide) ?_
            refine ra_st hx hb hC hG hS 5 60 (by omega) (fun _ _ => rfl) (vp_in_nI (by omega) (by omega)) dW_falls_267 (fun H locs hG hS => ?_)
            rw [show (nI (10 * i + 3)).toNatClampNeg = (10 * i + 3) from nI_clamp (by omega)] at hG
            refine lv_aload_n hx hb dW_falls_268 rfl (lv_at hl 5 rfl) ?_
            refine lv_bipush (v := 10) hx hb dW_falls_269 (by decide) ?_
            refine lv_iload hx hb dW_falls_271 (lv_at hl 8 rfl) ?_
            refine lv_imul hx hb dW_falls_273 ?_
            rw [show (10 : Int32) * (nI i) = nI (10 * i) from pk_mul 10 i]
            refine lv_iconst (v := 4) hx hb dW_falls_274 (by decide) ?_
            refine lv_iadd hx hb dW_falls_275 ?_
            rw [show (nI (10 * i)) + (4 : Int32) = nI (10 * i + 4) from nI_add (10 * i) 4]
            refine lv_iload hx hb dW_falls_276 (lv_at hl 3 rfl) ?_
            refine lv_bipush (v := 10) hx hb dW_falls_278 (by decide) ?_
            refine lv_irem hx hb dW_falls_280 (by decide) ?_
            refine ra_st hx hb hC hG hS 5 60 (by omega) (fun _ _ => rfl) (vp_in_nI (by omega) (by omega)) dW_falls_281 (fun H locs hG hS => ?_)
            rw [show (nI (10 * i + 4)).toNatClampNeg = (10 * i + 4) from nI_clamp (by omega)] at hG
            refine lv_aload_n hx hb dW_falls_282 rfl (lv_at hl 5 rfl) ?_
            refine lv_bipush (v := 10) hx hb dW_falls_283 (by decide) ?_
            refine lv_iload hx hb dW_falls_285 (lv_at hl 8 rfl) ?_
            refine lv_imul hx hb dW_falls_287 ?_
            rw [show (10 : Int32) * (nI i) = nI (10 * i) from pk_mul 10 i]
            refine lv_iconst (v := 5) hx hb dW_falls_288 (by decide) ?_
            refine lv_iadd hx hb dW_falls_289 ?_
            rw [show (nI (10 * i)) + (5 : Int32) = nI (10 * i + 5) from nI_add (10 * i) 5]
            refine lv_iload hx hb dW_falls_290 (lv_at hl 0 rfl) ?_
            refine ra_st hx hb hC hG hS 5 60 (by omega) (fun _ _ => rfl) (vp_in_nI (by omega) (by omega)) dW_falls_292 (fun H locs hG hS => ?_)
            rw [show (nI (10 * i + 5)).toNatClampNeg = (10 * i + 5) from nI_clamp (by omega)] at hG
            refine lv_aload_n hx hb dW_falls_293 rfl (lv_at hl 5 rfl) ?_
            refine lv_bipush (v := 10) hx hb dW_falls_294 (by decide) ?_
            refine lv_iload hx hb dW_falls_296 (lv_at hl 8 rfl) ?_
            refine lv_imul hx hb dW_falls_298 ?_
            rw [show (10 : Int32) * (nI i) = nI (10 * i) from pk_mul 10 i]
            refine lv_bipush (v := 6) hx hb dW_falls_299 (by decide) ?_
            refine lv_iadd hx hb dW_falls_301 ?_
            rw [show (nI (10 * i)) + (6 : Int32) = nI (10 * i + 6) from nI_add (10 * i) 6]
            refine lv_aload_n hx hb dW_falls_302 rfl (lv_at hl 4 rfl) ?_
            refine lv_iconst (v := 2) hx hb dW_falls_303 (by decide) ?_
            refine ra_ld hx hb hC hG 4 5 (by omega) (fun _ _ => rfl) (by rw [vp_in_iff]; decide) dW_falls_304 ?_
            rw [show (2 : Int32).toNatClampNeg = 2 from rfl]
            refine W.eq (g2 := F0 m 305 ls (.int (sA 4 2) :: .int (nI (10 * i + 6)) :: .ref (ad 5) :: [])) (by simp [up2, upd]) ?_
            refine ra_st hx hb hC hG hS 5 60 (by omega) (fun _ _ => rfl) (vp_in_nI (by omega) (by omega)) dW_falls_305 (fun H locs hG hS => ?_)
            rw [show (nI (10 * i + 6)).toNatClampNeg = (10 * i + 6) from nI_clamp (by omega)] at hG
            refine lv_iload hx hb dW_falls_306 (lv_at hl 0 rfl) ?_
            refine W.widen (k := 42) (n := 168) (Nat.le_of_ble_eq_true rfl) (Nat.le_of_ble_eq_true rfl) ?_
            exact W.iret (v := wmin (wmax (fW_next y) (sA 5 (10 * i + 1))) ((sA 7 x.toNatClampNeg) - 1)) hx hb hr (fun t ht hW => ⟨⟨(wmin (wmax (fW_next y) (sA 5 (10 * i + 1))) ((sA 7 x.toNatClampNeg) - 1)), (sL, (up2 (up2 (up2 (up2 sA 5 (10 * i + 3) 2) 5 (10 * i + 4) (x - x / 10 * 10)) 5 (10 * i + 5) (wmin (wmax (fW_next y) (sA 5 (10 * i + 1))) ((sA 7 x.toNatClampNeg) - 1))) 5 (10 * i + 6) (sA 4 2))), rfl, (by rw [hF, lW_falls, if_pos c_1, if_neg c_2, if_pos c_3, if_pos c_4] <;> rfl), gw_at hG ht⟩, hS.F ht⟩) hS.2.2 dW_falls_308
          · refine lv_iload hx hb dW_falls_196 (lv_at hl 0 rfl) ?_
            refine lv_if_ne (tgt := 206) hx hb dW_falls_198 (by decide) (fun c_7 => ?_) (fun c_7 => ?_)
            · refine lv_iload hx hb dW_falls_206 (lv_at hl 0 rfl) ?_
              refine lv_goto (tgt := 216) hx hb dW_falls_208 (by decide) ?_
              refine lv_istore (lv' := [(8, .int (sA 5 (10 * i + 1))), (7, .int (sA 5 (10 * i + 1))), (6, .int y), (5, .int x), (0, .ref (ad 4)), (1, .ref (ad 5)), (2, .ref (ad 7)), (3, .ref (ad 8)), (4, .int (nI i))]) hx hb dW_falls_216 hl (by decide) rfl (fun ls hl => ?_)
              refine W_key (g2 := F0 m 232 ls (.int (wmax (sA 5 (10 * i + 1)) (sA 5 (10 * i + 1))) :: [])) (fun key => ?_) ?_
              · refine lv_iload hx hb dW_falls_218 (lv_at hl 0 rfl) ?_
                refine lv_iload hx hb dW_falls_220 (lv_at hl 1 rfl) ?_
                refine lv_icmp_le (tgt := 230) hx hb dW_falls_222 (by decide) (fun c_8 => ?_) (fun c_8 => ?_)
                · refine lv_iload hx hb dW_falls_230 (lv_at hl 1 rfl) ?_
                  exact W.eq (by rw [wmax, if_pos c_8]) key
                · refine lv_iload hx hb dW_falls_225 (lv_at hl 0 rfl) ?_
                  refine lv_goto (tgt := 232) hx hb dW_falls_227 (by decide) ?_
                  exact W.eq (by rw [wmax, if_neg c_8]) key
              refine lv_istore (lv' := [(8, .int (wmax (sA 5 (10 * i + 1)) (sA 5 (10 * i + 1)))), (7, .int (sA 5 (10 * i + 1))), (6, .int y), (5, .int x), (0, .ref (ad 4)), (1, .ref (ad 5)), (2, .ref (ad 7)), (3, .ref (ad 8)), (4, .int (nI i))]) hx hb dW_falls_232 hl (by decide) rfl (fun ls hl => ?_)
              refine W_key (g2 := F0 m 256 ls (.int (wmin (wmax (sA 5 (10 * i + 1)) (sA 5 (10 * i + 1))) ((sA 7 x.toNatClampNeg) - 1)) :: [])) (fun key => ?_) ?_
              · refine lv_iload hx hb dW_falls_234 (lv_at hl 0 rfl) ?_
                refine lv_aload_n hx hb dW_falls_236 rfl (lv_at hl 6 rfl) ?_
                refine lv_iload hx hb dW_falls_237 (lv_at hl 3 rfl) ?_
                refine ra_ld hx hb hC hG 7 60 (by omega) (fun _ _ => rfl) (hx9.vin hi c_2) dW_falls_239 ?_
                refine lv_iconst (v := 1) hx hb dW_falls_240 (by decide) ?_
                refine lv_isub hx hb dW_falls_241 ?_
                refine lv_icmp_ge (tgt := 250) hx hb dW_falls_242 (by decide) (fun c_9 => ?_) (fun c_9 => ?_)
                · refine lv_aload_n hx hb dW_falls_250 rfl (lv_at hl 6 rfl) ?_
                  refine lv_iload hx hb dW_falls_251 (lv_at hl 3 rfl) ?_
                  refine ra_ld hx hb hC hG 7 60 (by omega) (fun _ _ => rfl) (hx9.vin hi c_2) dW_falls_253 ?_
                  refine lv_iconst (v := 1) hx hb dW_falls_254 (by decide) ?_
                  refine lv_isub hx hb dW_falls_255 ?_
                  exact W.eq (by rw [wmin, if_pos c_9]) key
                · refine lv_iload hx hb dW_falls_245 (lv_at hl 0 rfl) ?_
                  refine lv_goto (tgt := 256) hx hb dW_falls_247 (by decide) ?_
                  exact W.eq (by rw [wmin, if_neg c_9]) key
              refine lv_istore (lv' := [(8, .int (wmin (wmax (sA 5 (10 * i + 1)) (sA 5 (10 * i + 1))) ((sA 7 x.toNatClampNeg) - 1))), (7, .int (sA 5 (10 * i + 1))), (6, .int y), (5, .int x), (0, .ref (ad 4)), (1, .ref (ad 5)), (2, .ref (ad 7)), (3, .ref (ad 8)), (4, .int (nI i))]) hx hb dW_falls_256 hl (by decide) rfl (fun ls hl => ?_)
              refine lv_aload_n hx hb dW_falls_258 rfl (lv_at hl 5 rfl) ?_
              refine lv_bipush (v := 10) hx hb dW_falls_259 (by decide) ?_
              refine lv_iload hx hb dW_falls_261 (lv_at hl 8 rfl) ?_
              refine lv_imul hx hb dW_falls_263 ?_
              rw [show (10 : Int32) * (nI i) = nI (10 * i) from pk_mul 10 i]
              refine lv_iconst (v := 3) hx hb dW_falls_264 (by decide) ?_
              refine lv_iadd hx hb dW_falls_265 ?_
              rw [show (nI (10 * i)) + (3 : Int32) = nI (10 * i + 3) from nI_add (10 * i) 3]
              refine lv_iconst (v := 2) hx hb dW_falls_266 (by decide) ?_
              refine ra_st hx hb hC hG hS 5 60 (by omega) (fun _ _ => rfl) (vp_in_nI (by omega) (by omega)) dW_falls_267 (fun H locs hG hS => ?_)
              rw [show (nI (10 * i + 3)).toNatClampNeg = (10 * i + 3) from nI_clamp (by omega)] at hG
              refine lv_aload_n hx hb dW_falls_268 rfl (lv_at hl 5 rfl) ?_
              refine lv_bipush (v := 10) hx hb dW_falls_269 (by decide) ?_
              refine lv_iload hx hb dW_falls_271 (lv_at hl 8 rfl) ?_
              refine lv_imul hx hb dW_falls_273 ?_
              rw [show (10 : Int32) * (nI i) = nI (10 * i) from pk_mul 10 i]
              refine lv_iconst (v := 4) hx hb dW_falls_274 (by decide) ?_
              refine lv_iadd hx hb dW_falls_275 ?_
              rw [show (nI (10 * i)) + (4 : Int32) = nI (10 * i + 4) from nI_add (10 * i) 4]
              refine lv_iload hx hb dW_falls_276 (lv_at hl 3 rfl) ?_
              refine lv_bipush (v := 10) hx hb dW_falls_278 (by decide) ?_
              refine lv_irem hx hb dW_falls_280 (by decide) ?_
              refine ra_st hx hb hC hG hS 5 60 (by omega) (fun _ _ => rfl) (vp_in_nI (by omega) (by omega)) dW_falls_281 (fun H locs hG hS => ?_)
              rw [show (nI (10 * i + 4)).toNatClampNeg = (10 * i + 4) from nI_clamp (by omega)] at hG
              refine lv_aload_n hx hb dW_falls_282 rfl (lv_at hl 5 rfl) ?_
              refine lv_bipush (v := 10) hx hb dW_falls_283 (by decide) ?_
              refine lv_iload hx hb dW_falls_285 (lv_at hl 8 rfl) ?_
              refine lv_imul hx hb dW_falls_287 ?_
              rw [show (10 : Int32) * (nI i) = nI (10 * i) from pk_mul 10 i]
              refine lv_iconst (v := 5) hx hb dW_falls_288 (by decide) ?_
              refine lv_iadd hx hb dW_falls_289 ?_
              rw [show (nI (10 * i)) + (5 : Int32) = nI (10 * i + 5) from nI_add (10 * i) 5]
              refine lv_iload hx hb dW_falls_290 (lv_at hl 0 rfl) ?_
              refine ra_st hx hb hC hG hS 5 60 (by omega) (fun _ _ => rfl) (vp_in_nI (by omega) (by omega)) dW_falls_292 (fun H locs hG hS => ?_)
              rw [show (nI (10 * i + 5)).toNatClampNeg = (10 * i + 5) from nI_clamp (by omega)] at hG
              refine lv_aload_n hx hb dW_falls_293 rfl (lv_at hl 5 rfl) ?_
              refine lv_bipush (v := 10) hx hb dW_falls_294 (by decide) ?_
              refine lv_iload hx hb dW_falls_296 (lv_at hl 8 rfl) ?_
              refine lv_imul hx hb dW_falls_298 ?_
              rw [show (10 : Int32) * (nI i) = nI (10 * i) from pk_mul 10 i]
              refine lv_bipush (v := 6) hx hb dW_falls_299 (by decide) ?_
              refine lv_iadd hx hb dW_falls_301 ?_
              rw [show (nI (10 * i)) + (6 : Int32) = nI (10 * i + 6) from nI_add (10 * i) 6]
              refine lv_aload_n hx hb dW_falls_302 rfl (lv_at hl 4 rfl) ?_
              refine lv_iconst (v := 2) hx hb dW_falls_303 (by decide) ?_
              refine ra_ld hx hb hC hG 4 5 (by omega) (fun _ _ => rfl) (by rw [vp_in_iff]; decide) dW_falls_304 ?_
              rw [show (2 : Int32).toNatClampNeg = 2 from rfl]
              refine W.eq (g2 := F0 m 305 ls (.int (sA 4 2) :: .int (nI (10 * i + 6)) :: .ref (ad 5) :: [])) (by simp [up2, upd]) ?_
              refine ra_st hx hb hC hG hS 5 60 (by omega) (fun _ _ => rfl) (vp_in_nI (by omega) (by omega)) dW_falls_305 (fun H locs hG hS => ?_)
              rw [show (nI (10 * i + 6)).toNatClampNeg = (10 * i + 6) from nI_clamp (by omega)] at hG
              refine lv_iload hx hb dW_falls_306 (lv_at hl 0 rfl) ?_
              refine W.widen (k := 42) (n := 168) (Nat.le_of_ble_eq_true rfl) (Nat.le_of_ble_eq_true rfl) ?_
              exact W.iret (v := wmin (wmax (sA 5 (10 * i + 1)) (sA 5 (10 * i + 1))) ((sA 7 x.toNatClampNeg) - 1)) hx hb hr (fun t ht hW => ⟨⟨(wmin (wmax (sA 5 (10 * i + 1)) (sA 5 (10 * i + 1))) ((sA 7 x.toNatClampNeg) - 1)), (sL, (up2 (up2 (up2 (up2 sA 5 (10 * i + 3) 2) 5 (10 * i + 4) (x - x / 10 * 10)) 5 (10 * i + 5) (wmin (wmax (sA 5 (10 * i + 1)) (sA 5 (10 * i + 1))) ((sA 7 x.toNatClampNeg) - 1))) 5 (10 * i + 6) (sA 4 2))), rfl, (by rw [hF, lW_falls, if_pos c_1, if_neg c_2, if_pos c_3, if_neg c_4, if_neg c_7] <;> rfl), gw_at hG ht⟩, hS.F ht⟩) hS.2.2 dW_falls_308
            · refine lv_bipush (v := 50) hx hb dW_falls_201 (by decide) ?_
              refine lv_goto (tgt := 216) hx hb dW_falls_203 (by decide) ?_
              refine lv_istore (lv' := [(8, .int 50), (7, .int (sA 5 (10 * i + 1))), (6, .int y), (5, .int x), (0, .ref (ad 4)), (1, .ref (ad 5)), (2, .ref (ad 7)), (3, .ref (ad 8)), (4, .int (nI i))]) hx hb dW_falls_216 hl (by decide) rfl (fun ls hl => ?_)
              refine W_key (g2 := F0 m 232 ls (.int (wmax 50 (sA 5 (10 * i + 1))) :: [])) (fun key => ?_) ?_
              · refine lv_iload hx hb dW_falls_218 (lv_at hl 0 rfl) ?_
                refine lv_iload hx hb dW_falls_220 (lv_at hl 1 rfl) ?_
                refine lv_icmp_le (tgt := 230) hx hb dW_falls_222 (by decide) (fun c_10 => ?_) (fun c_10 => ?_)
                · refine lv_iload hx hb dW_falls_230 (lv_at hl 1 rfl) ?_
                  exact W.eq (by rw [wmax, if_pos c_10]) key
                · refine lv_iload hx hb dW_falls_225 (lv_at hl 0 rfl) ?_
                  refine lv_goto (tgt := 232) hx hb dW_falls_227 (by decide) ?_
                  exact W.eq (by rw [wmax, if_neg c_10]) key
              refine lv_istore (lv' := [(8, .int (wmax 50 (sA 5 (10 * i + 1)))), (7, .int (sA 5 (10 * i + 1))), (6, .int y), (5, .int x), (0, .ref (ad 4)), (1, .ref (ad 5)), (2, .ref (ad 7)), (3, .ref (ad 8)), (4, .int (nI i))]) hx hb dW_falls_232 hl (by decide) rfl (fun ls hl => ?_)
              refine W_key (g2 := F0 m 256 ls (.int (wmin (wmax 50 (sA 5 (10 * i + 1))) ((sA 7 x.toNatClampNeg) - 1)) :: [])) (fun key => ?_) ?_
              · refine lv_iload hx hb dW_falls_234 (lv_at hl 0 rfl) ?_
                refine lv_aload_n hx hb dW_falls_236 rfl (lv_at hl 6 rfl) ?_
                refine lv_iload hx hb dW_falls_237 (lv_at hl 3 rfl) ?_
                refine ra_ld hx hb hC hG 7 60 (by omega) (fun _ _ => rfl) (hx9.vin hi c_2) dW_falls_239 ?_
                refine lv_iconst (v := 1) hx hb dW_falls_240 (by decide) ?_
                refine lv_isub hx hb dW_falls_241 ?_
                refine lv_icmp_ge (tgt := 250) hx hb dW_falls_242 (by decide) (fun c_11 => ?_) (fun c_11 => ?_)
                · refine lv_aload_n hx hb dW_falls_250 rfl (lv_at hl 6 rfl) ?_
                  refine lv_iload hx hb dW_falls_251 (lv_at hl 3 rfl) ?_
                  refine ra_ld hx hb hC hG 7 60 (by omega) (fun _ _ => rfl) (hx9.vin hi c_2) dW_falls_253 ?_
                  refine lv_iconst (v := 1) hx hb dW_falls_254 (by decide) ?_
                  refine lv_isub hx hb dW_falls_255 ?_
                  exact W.eq (by rw [wmin, if_pos c_11]) key
                · refine lv_iload hx hb dW_falls_245 (lv_at hl 0 rfl) ?_
                  refine lv_goto (tgt := 256) hx hb dW_falls_247 (by decide) ?_
                  exact W.eq (by rw [wmin, if_neg c_11]) key
              refine lv_istore (lv' := [(8, .int (wmin (wmax 50 (sA 5 (10 * i + 1))) ((sA 7 x.toNatClampNeg) - 1))), (7, .int (sA 5 (10 * i + 1))), (6, .int y), (5, .int x), (0, .ref (ad 4)), (1, .ref (ad 5)), (2, .ref (ad 7)), (3, .ref (ad 8)), (4, .int (nI i))]) hx hb dW_falls_256 hl (by decide) rfl (fun ls hl => ?_)
              refine lv_aload_n hx hb dW_falls_258 rfl (lv_at hl 5 rfl) ?_
              refine lv_bipush (v := 10) hx hb dW_falls_259 (by decide) ?_
              refine lv_iload hx hb dW_falls_261 (lv_at hl 8 rfl) ?_
              refine lv_imul hx hb dW_falls_263 ?_
              rw [show (10 : Int32) * (nI i) = nI (10 * i) from pk_mul 10 i]
              refine lv_iconst (v := 3) hx hb dW_falls_264 (by decide) ?_
              refine lv_iadd hx hb dW_falls_265 ?_
              rw [show (nI (10 * i)) + (3 : Int32) = nI (10 * i + 3) from nI_add (10 * i) 3]
              refine lv_iconst (v := 2) hx hb dW_falls_266 (by decide) ?_
              refine ra_st hx hb hC hG hS 5 60 (by omega) (fun _ _ => rfl) (vp_in_nI (by omega) (by omega)) dW_falls_267 (fun H locs hG hS => ?_)
              rw [show (nI (10 * i + 3)).toNatClampNeg = (10 * i + 3) from nI_clamp (by omega)] at hG
              refine lv_aload_n hx hb dW_falls_268 rfl (lv_at hl 5 rfl) ?_
              refine lv_bipush (v := 10) hx hb dW_falls_269 (by decide) ?_
              refine lv_iload hx hb dW_falls_271 (lv_at hl 8 rfl) ?_
              refine lv_imul hx hb dW_falls_273 ?_
              rw [show (10 : Int32) * (nI i) = nI (10 * i) from pk_mul 10 i]
              refine lv_iconst (v := 4) hx hb dW_falls_274 (by decide) ?_
              refine lv_iadd hx hb dW_falls_275 ?_
              rw [show (nI (10 * i)) + (4 : Int32) = nI (10 * i + 4) from nI_add (10 * i) 4]
              refine lv_iload hx hb dW_falls_276 (lv_at hl 3 rfl) ?_
              refine lv_bipush (v := 10) hx hb dW_falls_278 (by decide) ?_
              refine lv_irem hx hb dW_falls_280 (by decide) ?_
              refine ra_st hx hb hC hG hS 5 60 (by omega) (fun _ _ => rfl) (vp_in_nI (by omega) (by omega)) dW_falls_281 (fun H locs hG hS => ?_)
              rw [show (nI (10 * i + 4)).toNatClampNeg = (10 * i + 4) from nI_clamp (by omega)] at hG
              refine lv_aload_n hx hb dW_falls_282 rfl (lv_at hl 5 rfl) ?_
              refine lv_bipush (v := 10) hx hb dW_falls_283 (by decide) ?_
              refine lv_iload hx hb dW_falls_285 (lv_at hl 8 rfl) ?_
              refine lv_imul hx hb dW_falls_287 ?_
              rw [show (10 : Int32) * (nI i) = nI (10 * i) from pk_mul 10 i]
              refine lv_iconst (v := 5) hx hb dW_falls_288 (by decide) ?_
              refine lv_iadd hx hb dW_falls_289 ?_
              rw [show (nI (10 * i)) + (5 : Int32) = nI (10 * i + 5) from nI_add (10 * i) 5]
              refine lv_iload hx hb dW_falls_290 (lv_at hl 0 rfl) ?_
              refine ra_st hx hb hC hG hS 5 60 (by omega) (fun _ _ => rfl) (vp_in_nI (by omega) (by omega)) dW_falls_292 (fun H locs hG hS => ?_)
              rw [show (nI (10 * i + 5)).toNatClampNeg = (10 * i + 5) from nI_clamp (by omega)] at hG
              refine lv_aload_n hx hb dW_falls_293 rfl (lv_at hl 5 rfl) ?_
              refine lv_bipush (v := 10) hx hb dW_falls_294 (by decide) ?_
              refine lv_iload hx hb dW_falls_296 (lv_at hl 8 rfl) ?_
              refine lv_imul hx hb dW_falls_298 ?_
              rw [show (10 : Int32) * (nI i) = nI (10 * i) from pk_mul 10 i]
              refine lv_bipush (v := 6) hx hb dW_falls_299 (by decide) ?_
              refine lv_iadd hx hb dW_falls_301 ?_
              rw [show (nI (10 * i)) + (6 : Int32) = nI (10 * i + 6) from nI_add (10 * i) 6]
              refine lv_aload_n hx hb dW_falls_302 rfl (lv_at hl 4 rfl) ?_
              refine lv_iconst (v := 2) hx hb dW_falls_303 (by decide) ?_
              refine ra_ld hx hb hC hG 4 5 (by omega) (fun _ _ => rfl) (by rw [vp_in_iff]; decide) dW_falls_304 ?_
              rw [show (2 : Int32).toNatClampNeg = 2 from rfl]
              refine W.eq (g2 := F0 m 305 ls (.int (sA 4 2) :: .int (nI (10 * i + 6)) :: .ref (ad 5) :: [])) (by simp [up2, upd]) ?_
              refine ra_st hx hb hC hG hS 5 60 (by omega) (fun _ _ => rfl) (vp_in_nI (by omega) (by omega)) dW_falls_305 (fun H locs hG hS => ?_)
              rw [show (nI (10 * i + 6)).toNatClampNeg = (10 * i + 6) from nI_clamp (by omega)] at hG
              refine lv_iload hx hb dW_falls_306 (lv_at hl 0 rfl) ?_
              refine W.widen (k := 42) (n := 168) (Nat.le_of_ble_eq_true rfl) (Nat.le_of_ble_eq_true rfl) ?_
              exact W.iret (v := wmin (wmax 50 (sA 5 (10 * i + 1))) ((sA 7 x.toNatClampNeg) - 1)) hx hb hr (fun t ht hW => ⟨⟨(wmin (wmax 50 (sA 5 (10 * i + 1))) ((sA 7 x.toNatClampNeg) - 1)), (sL, (up2 (up2 (up2 (up2 sA 5 (10 * i + 3) 2) 5 (10 * i + 4) (x - x / 10 * 10)) 5 (10 * i + 5) (wmin (wmax 50 (sA 5 (10 * i + 1))) ((sA 7 x.toNatClampNeg) - 1))) 5 (10 * i + 6) (sA 4 2))), rfl, (by rw [hF, lW_falls, if_pos c_1, if_neg c_2, if_pos c_3, if_neg c_4, if_pos c_7] <;> rfl), gw_at hG ht⟩, hS.F ht⟩) hS.2.2 dW_falls_308
        · refine lv_aload_n hx hb dW_falls_179 rfl (lv_at hl 4 rfl) ?_
          refine lv_bipush (v := 10) hx hb dW_falls_180 (by decide) ?_
          refine lv_iload hx hb dW_falls_182 (lv_at hl 7 rfl) ?_
          refine lv_imul hx hb dW_falls_184 ?_
          rw [show (10 : Int32) * (nI i) = nI (10 * i) from pk_mul 10 i]
          refine lv_iconst (v := 3) hx hb dW_falls_185 (by decide) ?_
          refine lv_iadd hx hb dW_falls_186 ?_
          rw [show (nI (10 * i)) + (3 : Int32) = nI (10 * i + 3) from nI_add (10 * i) 3]
          refine lv_iconst (v := 1) hx hb dW_falls_187 (by decide) ?_
          refine ra_st hx hb hC hG hS 5 60 (by omega) (fun _ _ => rfl) (vp_in_nI (by omega) (by omega)) dW_falls_188 (fun H locs hG hS => ?_)
          rw [show (nI (10 * i + 3)).toNatClampNeg = (10 * i + 3) from nI_clamp (by omega)] at hG
          refine lv_iconst (v := (-1)) hx hb dW_falls_189 (by decide) ?_
          refine W.widen (k := 42) (n := 168) (Nat.le_of_ble_eq_true rfl) (Nat.le_of_ble_eq_true rfl) ?_
          exact W.iret (v := (-1)) hx hb hr (fun t ht hW => ⟨⟨(-1), (sL, (up2 sA 5 (10 * i + 3) 1)), rfl, (by rw [hF, lW_falls, if_pos c_1, if_neg c_2, if_neg c_3] <;> rfl), gw_at hG ht⟩, hS.F ht⟩) hS.2.2 dW_falls_190
    · refine lv_bipush (v := 10) hx hb dW_falls_16 (by decide) ?_
      refine lv_iload hx hb dW_falls_18 (lv_at hl 7 rfl) ?_
      refine lv_imul hx hb dW_falls_20 ?_
      rw [show (10 : Int32) * (nI i) = nI (10 * i) from pk_mul 10 i]
      refine lv_iload hx hb dW_falls_21 (lv_at hl 0 rfl) ?_
      refine lv_iadd hx hb dW_falls_23 ?_
      rw [show (nI (10 * i)) + (nI j) = nI (10 * i + j) from nI_add (10 * i) j]
      refine lv_istore (lv' := [(8, .int (nI (10 * i + j))), (7, .int (nI j)), (6, .int y), (5, .int x), (0, .ref (ad 4)), (1, .ref (ad 5)), (2, .ref (ad 7)), (3, .ref (ad 8)), (4, .int (nI i))]) hx hb dW_falls_24 hl (by decide) rfl (fun ls hl => ?_)
      refine lv_aload_n hx hb dW_falls_26 rfl (lv_at hl 6 rfl) ?_
      refine lv_iload hx hb dW_falls_27 (lv_at hl 0 rfl) ?_
      refine ra_ld hx hb hC hG 7 60 (by omega) (fun _ _ => rfl) (vp_in_nI (by have hlt := lt_guard10 (by omega) c_1; omega) (by omega)) dW_falls_29 ?_
      rw [show (nI (10 * i + j)).toNatClampNeg = (10 * i + j) from nI_clamp (by omega)]
      refine lv_if_le (tgt := 75) hx hb dW_falls_30 (by decide) (fun c_12 => ?_) (fun c_12 => ?_)
      · refine lv_iconst (v := 0) hx hb dW_falls_75 (by decide) ?_
        refine lv_istore (lv' := [(9, .int 0), (8, .int (nI (10 * i + j))), (7, .int (nI j)), (6, .int y), (5, .int x), (0, .ref (ad 4)), (1, .ref (ad 5)), (2, .ref (ad 7)), (3, .ref (ad 8)), (4, .int (nI i))]) hx hb dW_falls_76 hl (by decide) rfl (fun ls hl => ?_)
        refine lv_iload hx hb dW_falls_78 (lv_at hl 0 rfl) ?_
        refine lv_if_eq (tgt := 101) hx hb dW_falls_80 (by decide) (fun c_13 => ?_) (fun c_13 => ?_)
        · refine lv_aload_n hx hb dW_falls_101 rfl (lv_at hl 7 rfl) ?_
          refine lv_iload hx hb dW_falls_102 (lv_at hl 1 rfl) ?_
          refine ra_ld hx hb hC hG 7 60 (by omega) (fun _ _ => rfl) (vp_in_nI (by have hlt := lt_guard10 (by omega) c_1; omega) (by omega)) dW_falls_104 ?_
          rw [show (nI (10 * i + j)).toNatClampNeg = (10 * i + j) from nI_clamp (by omega)]
          refine lv_if_le (tgt := 128) hx hb dW_falls_105 (by decide) (fun c_14 => ?_) (fun c_14 => ?_)
          · refine lv_iload hx hb dW_falls_128 (lv_at hl 3 rfl) ?_
            refine lv_istore (lv' := [(6, .int y), (9, .int 0), (8, .int (nI (10 * i + j))), (7, .int (nI j)), (5, .int x), (0, .ref (ad 4)), (1, .ref (ad 5)), (2, .ref (ad 7)), (3, .ref (ad 8)), (4, .int (nI i))]) hx hb dW_falls_130 hl (by decide) rfl (fun ls hl => ?_)
            refine lv_iload hx hb dW_falls_132 (lv_at hl 1 rfl) ?_
            refine lv_if_eq (tgt := 142) hx hb dW_falls_134 (by decide) (fun c_15 => ?_) (fun c_15 => ?_)
            · refine lv_iload hx hb dW_falls_142 (lv_at hl 4 rfl) ?_
              refine lv_istore (lv' := [(5, .int x), (6, .int y), (9, .int 0), (8, .int (nI (10 * i + j))), (7, .int (nI j)), (0, .ref (ad 4)), (1, .ref (ad 5)), (2, .ref (ad 7)), (3, .ref (ad 8)), (4, .int (nI i))]) hx hb dW_falls_144 hl (by decide) rfl (fun ls hl => ?_)
              refine lv_iinc (v := nI (j + 1)) (lv' := [(7, .int (nI (j + 1))), (5, .int x), (6, .int y), (9, .int 0), (8, .int (nI (10 * i + j))), (0, .ref (ad 4)), (1, .ref (ad 5)), (2, .ref (ad 7)), (3, .ref (ad 8)), (4, .int (nI i))]) hx hb dW_falls_146 hl (k := 4) rfl (nI_1 j) (by decide) rfl (fun ls hl => ?_)
              refine lv_goto (tgt := 9) hx hb dW_falls_149 (by decide) ?_
              exact ih (j := j + 1) (x := x) (y := y) (ls := ls) (hf := by omega) (hj := by have hlt := lt_guard10 (by omega) c_1; omega) (hx9 := hx9) (hy := hy) (hF := by rw [hF, lW_falls, if_neg c_1, if_pos c_12] <;> rfl) (hl := lv_sub hl [0, 2, 1, 5, 6, 7, 8, 9] rfl)
            · exact absurd c_15 (by decide)
          · exact (by first | exact absurd c_12 c_14 | exact absurd c_14 c_12)
        · exact absurd c_13 (by decide)
      · refine lv_iload hx hb dW_falls_33 (lv_at hl 3 rfl) ?_
        refine lv_if_lt (tgt := 71) hx hb dW_falls_35 (by decide) (fun c_16 => ?_) (fun c_16 => ?_)
        · refine lv_iconst (v := 1) hx hb dW_falls_71 (by decide) ?_
          refine lv_goto (tgt := 76) hx hb dW_falls_72 (by decide) ?_
          refine lv_istore (lv' := [(9, .int 1), (8, .int (nI (10 * i + j))), (7, .int (nI j)), (6, .int y), (5, .int x), (0, .ref (ad 4)), (1, .ref (ad 5)), (2, .ref (ad 7)), (3, .ref (ad 8)), (4, .int (nI i))]) hx hb dW_falls_76 hl (by decide) rfl (fun ls hl => ?_)
          refine lv_iload hx hb dW_falls_78 (lv_at hl 0 rfl) ?_
          refine lv_if_eq (tgt := 101) hx hb dW_falls_80 (by decide) (fun c_17 => ?_) (fun c_17 => ?_)
          · exact absurd c_17 (by decide)
          · refine lv_iload hx hb dW_falls_83 (lv_at hl 4 rfl) ?_
            refine lv_if_ge (tgt := 92) hx hb dW_falls_85 (by decide) (fun c_18 => ?_) (fun c_18 => ?_)
            · exact absurd c_18 (Int32.not_le.mpr c_16)
            · refine lv_iconst (v := (-1)) hx hb dW_falls_88 (by decide) ?_
              refine lv_goto (tgt := 130) hx hb dW_falls_89 (by decide) ?_
              refine lv_istore (lv' := [(6, .int (-1)), (9, .int 1), (8, .int (nI (10 * i + j))), (7, .int (nI j)), (5, .int x), (0, .ref (ad 4)), (1, .ref (ad 5)), (2, .ref (ad 7)), (3, .ref (ad 8)), (4, .int (nI i))]) hx hb dW_falls_130 hl (by decide) rfl (fun ls hl => ?_)
              refine lv_iload hx hb dW_falls_132 (lv_at hl 1 rfl) ?_
              refine lv_if_eq (tgt := 142) hx hb dW_falls_134 (by decide) (fun c_19 => ?_) (fun c_19 => ?_)
              · exact absurd c_19 (by decide)
              · refine lv_iload hx hb dW_falls_137 (lv_at hl 2 rfl) ?_
                refine lv_goto (tgt := 144) hx hb dW_falls_139 (by decide) ?_
                refine lv_istore (lv' := [(5, .int (nI (10 * i + j))), (6, .int (-1)), (9, .int 1), (8, .int (nI (10 * i + j))), (7, .int (nI j)), (0, .ref (ad 4)), (1, .ref (ad 5)), (2, .ref (ad 7)), (3, .ref (ad 8)), (4, .int (nI i))]) hx hb dW_falls_144 hl (by decide) rfl (fun ls hl => ?_)
                refine lv_iinc (v := nI (j + 1)) (lv' := [(7, .int (nI (j + 1))), (5, .int (nI (10 * i + j))), (6, .int (-1)), (9, .int 1), (8, .int (nI (10 * i + j))), (0, .ref (ad 4)), (1, .ref (ad 5)), (2, .ref (ad 7)), (3, .ref (ad 8)), (4, .int (nI i))]) hx hb dW_falls_146 hl (k := 4) rfl (nI_1 j) (by decide) rfl (fun ls hl => ?_)
                refine lv_goto (tgt := 9) hx hb dW_falls_149 (by decide) ?_
                exact ih (j := j + 1) (x := nI (10 * i + j)) (y := (-1)) (ls := ls) (hf := by omega) (hj := by have hlt := lt_guard10 (by omega) c_1; omega) (hx9 := Or.inr ⟨j, lt_guard10 (by omega) c_1, rfl, pos_of c_12⟩) (hy := Or.inl rfl) (hF := by rw [hF, lW_falls, if_neg c_1, if_neg c_12, if_pos c_16] <;> rfl) (hl := lv_sub hl [0, 2, 1, 5, 6, 7, 8, 9] rfl)
        · refine lv_aload_n hx hb dW_falls_38 rfl (lv_at hl 6 rfl) ?_
          refine lv_iload hx hb dW_falls_39 (lv_at hl 0 rfl) ?_
          refine ra_ld hx hb hC hG 7 60 (by omega) (fun _ _ => rfl) (vp_in_nI (by have hlt := lt_guard10 (by omega) c_1; omega) (by omega)) dW_falls_41 ?_
          rw [show (nI (10 * i + j)).toNatClampNeg = (10 * i + j) from nI_clamp (by omega)]
          refine lv_aload_n hx hb dW_falls_42 rfl (lv_at hl 6 rfl) ?_
          refine lv_iload hx hb dW_falls_43 (lv_at hl 3 rfl) ?_
          refine ra_ld hx hb hC hG 7 60 (by omega) (fun _ _ => rfl) (hx9.vin hi c_16) dW_falls_45 ?_
          refine lv_icmp_gt (tgt := 71) hx hb dW_falls_46 (by decide) (fun c_20 => ?_) (fun c_20 => ?_)
          · refine lv_iconst (v := 1) hx hb dW_falls_71 (by decide) ?_
            refine lv_goto (tgt := 76) hx hb dW_falls_72 (by decide) ?_
            refine lv_istore (lv' := [(9, .int 1), (8, .int (nI (10 * i + j))), (7, .int (nI j)), (6, .int y), (5, .int x), (0, .ref (ad 4)), (1, .ref (ad 5)), (2, .ref (ad 7)), (3, .ref (ad 8)), (4, .int (nI i))]) hx hb dW_falls_76 hl (by decide) rfl (fun ls hl => ?_)
            refine lv_iload hx hb dW_falls_78 (lv_at hl 0 rfl) ?_
            refine lv_if_eq (tgt := 101) hx hb dW_falls_80 (by decide) (fun c_21 => ?_) (fun c_21 => ?_)
            · exact absurd c_21 (by decide)
            · refine lv_iload hx hb dW_falls_83 (lv_at hl 4 rfl) ?_
              refine lv_if_ge (tgt := 92) hx hb dW_falls_85 (by decide) (fun c_22 => ?_) (fun c_22 => ?_)
              · refine lv_aload_n hx hb dW_falls_92 rfl (lv_at hl 7 rfl) ?_
                refine lv_iload hx hb dW_falls_93 (lv_at hl 4 rfl) ?_
                refine ra_ld hx hb hC hG 7 60 (by omega) (fun _ _ => rfl) (hx9.vin hi c_16) dW_falls_95 ?_
                refine lv_iconst (v := 1) hx hb dW_falls_96 (by decide) ?_
                refine lv_isub hx hb dW_falls_97 ?_
                refine lv_goto (tgt := 130) hx hb dW_falls_98 (by decide) ?_
                refine lv_istore (lv' := [(6, .int ((sA 7 x.toNatClampNeg) - 1)), (9, .int 1), (8, .int (nI (10 * i + j))), (7, .int (nI j)), (5, .int x), (0, .ref (ad 4)), (1, .ref (ad 5)), (2, .ref (ad 7)), (3, .ref (ad 8)), (4, .int (nI i))]) hx hb dW_falls_130 hl (by decide) rfl (fun ls hl => ?_)
                refine lv_iload hx hb dW_falls_132 (lv_at hl 1 rfl) ?_
                refine lv_if_eq (tgt := 142) hx hb dW_falls_134 (by decide) (fun c_23 => ?_) (fun c_23 => ?_)
                · exact absurd c_23 (by decide)
                · refine lv_iload hx hb dW_falls_137 (lv_at hl 2 rfl) ?_
                  refine lv_goto (tgt := 144) hx hb dW_falls_139 (by decide) ?_
                  refine lv_istore (lv' := [(5, .int (nI (10 * i + j))), (6, .int ((sA 7 x.toNatClampNeg) - 1)), (9, .int 1), (8, .int (nI (10 * i + j))), (7, .int (nI j)), (0, .ref (ad 4)), (1, .ref (ad 5)), (2, .ref (ad 7)), (3, .ref (ad 8)), (4, .int (nI i))]) hx hb dW_falls_144 hl (by decide) rfl (fun ls hl => ?_)
                  refine lv_iinc (v := nI (j + 1)) (lv' := [(7, .int (nI (j + 1))), (5, .int (nI (10 * i + j))), (6, .int ((sA 7 x.toNatClampNeg) - 1)), (9, .int 1), (8, .int (nI (10 * i + j))), (0, .ref (ad 4)), (1, .ref (ad 5)), (2, .ref (ad 7)), (3, .ref (ad 8)), (4, .int (nI i))]) hx hb dW_falls_146 hl (k := 4) rfl (nI_1 j) (by decide) rfl (fun ls hl => ?_)
                  refine lv_goto (tgt := 9) hx hb dW_falls_149 (by decide) ?_
                  exact ih (j := j + 1) (x := nI (10 * i + j)) (y := (sA 7 x.toNatClampNeg) - 1) (ls := ls) (hf := by omega) (hj := by have hlt := lt_guard10 (by omega) c_1; omega) (hx9 := Or.inr ⟨j, lt_guard10 (by omega) c_1, rfl, pos_of c_12⟩) (hy := Or.inr (hx9.pc hi c_16 hpc)) (hF := by rw [hF, lW_falls, if_neg c_1, if_neg c_12, if_neg c_16, if_pos c_20] <;> rfl) (hl := lv_sub hl [0, 2, 1, 5, 6, 7, 8, 9] rfl)
              · exact absurd c_22 (fun q => q (Int32.not_lt.mp c_16))
          · refine lv_aload_n hx hb dW_falls_49 rfl (lv_at hl 6 rfl) ?_
            refine lv_iload hx hb dW_falls_50 (lv_at hl 0 rfl) ?_
            refine ra_ld hx hb hC hG 7 60 (by omega) (fun _ _ => rfl) (vp_in_nI (by have hlt := lt_guard10 (by omega) c_1; omega) (by omega)) dW_falls_52 ?_
            rw [show (nI (10 * i + j)).toNatClampNeg = (10 * i + j) from nI_clamp (by omega)]
            refine lv_aload_n hx hb dW_falls_53 rfl (lv_at hl 6 rfl) ?_
            refine lv_iload hx hb dW_falls_54 (lv_at hl 3 rfl) ?_
            refine ra_ld hx hb hC hG 7 60 (by omega) (fun _ _ => rfl) (hx9.vin hi c_16) dW_falls_56 ?_
            refine lv_icmp_ne (tgt := 75) hx hb dW_falls_57 (by decide) (fun c_24 => ?_) (fun c_24 => ?_)
            · refine lv_iconst (v := 0) hx hb dW_falls_75 (by decide) ?_
              refine lv_istore (lv' := [(9, .int 0), (8, .int (nI (10 * i + j))), (7, .int (nI j)), (6, .int y), (5, .int x), (0, .ref (ad 4)), (1, .ref (ad 5)), (2, .ref (ad 7)), (3, .ref (ad 8)), (4, .int (nI i))]) hx hb dW_falls_76 hl (by decide) rfl (fun ls hl => ?_)
              refine lv_iload hx hb dW_falls_78 (lv_at hl 0 rfl) ?_
              refine lv_if_eq (tgt := 101) hx hb dW_falls_80 (by decide) (fun c_25 => ?_) (fun c_25 => ?_)
              · refine lv_aload_n hx hb dW_falls_101 rfl (lv_at hl 7 rfl) ?_
                refine lv_iload hx hb dW_falls_102 (lv_at hl 1 rfl) ?_
                refine ra_ld hx hb hC hG 7 60 (by omega) (fun _ _ => rfl) (vp_in_nI (by have hlt := lt_guard10 (by omega) c_1; omega) (by omega)) dW_falls_104 ?_
                rw [show (nI (10 * i + j)).toNatClampNeg = (10 * i + j) from nI_clamp (by omega)]
                refine lv_if_le (tgt := 128) hx hb dW_falls_105 (by decide) (fun c_26 => ?_) (fun c_26 => ?_)
                · exact (by first | exact absurd c_12 c_26 | exact absurd c_26 c_12)
                · refine lv_aload_n hx hb dW_falls_108 rfl (lv_at hl 7 rfl) ?_
                  refine lv_iload hx hb dW_falls_109 (lv_at hl 1 rfl) ?_
                  refine ra_ld hx hb hC hG 7 60 (by omega) (fun _ _ => rfl) (vp_in_nI (by have hlt := lt_guard10 (by omega) c_1; omega) (by omega)) dW_falls_111 ?_
                  rw [show (nI (10 * i + j)).toNatClampNeg = (10 * i + j) from nI_clamp (by omega)]
                  refine lv_iconst (v := 1) hx hb dW_falls_112 (by decide) ?_
                  refine lv_isub hx hb dW_falls_113 ?_
                  refine lv_iload hx hb dW_falls_114 (lv_at hl 3 rfl) ?_
                  refine lv_icmp_le (tgt := 128) hx hb dW_falls_116 (by decide) (fun c_27 => ?_) (fun c_27 => ?_)
                  · refine lv_iload hx hb dW_falls_128 (lv_at hl 3 rfl) ?_
                    refine lv_istore (lv' := [(6, .int y), (9, .int 0), (8, .int (nI (10 * i + j))), (7, .int (nI j)), (5, .int x), (0, .ref (ad 4)), (1, .ref (ad 5)), (2, .ref (ad 7)), (3, .ref (ad 8)), (4, .int (nI i))]) hx hb dW_falls_130 hl (by decide) rfl (fun ls hl => ?_)
                    refine lv_iload hx hb dW_falls_132 (lv_at hl 1 rfl) ?_
                    refine lv_if_eq (tgt := 142) hx hb dW_falls_134 (by decide) (fun c_28 => ?_) (fun c_28 => ?_)
                    · refine lv_iload hx hb dW_falls_142 (lv_at hl 4 rfl) ?_
                      refine lv_istore (lv' := [(5, .int x), (6, .int y), (9, .int 0), (8, .int (nI (10 * i + j))), (7, .int (nI j)), (0, .ref (ad 4)), (1, .ref (ad 5)), (2, .ref (ad 7)), (3, .ref (ad 8)), (4, .int (nI i))]) hx hb dW_falls_144 hl (by decide) rfl (fun ls hl => ?_)
                      refine lv_iinc (v := nI (j + 1)) (lv' := [(7, .int (nI (j + 1))), (5, .int x), (6, .int y), (9, .int 0), (8, .int (nI (10 * i + j))), (0, .ref (ad 4)), (1, .ref (ad 5)), (2, .ref (ad 7)), (3, .ref (ad 8)), (4, .int (nI i))]) hx hb dW_falls_146 hl (k := 4) rfl (nI_1 j) (by decide) rfl (fun ls hl => ?_)
                      refine lv_goto (tgt := 9) hx hb dW_falls_149 (by decide) ?_
                      exact ih (j := j + 1) (x := x) (y := y) (ls := ls) (hf := by omega) (hj := by have hlt := lt_guard10 (by omega) c_1; omega) (hx9 := hx9) (hy := hy) (hF := by rw [hF, lW_falls, if_neg c_1, if_neg c_12, if_neg c_16, if_neg c_20, if_neg c_24, if_pos c_27] <;> rfl) (hl := lv_sub hl [0, 2, 1, 5, 6, 7, 8, 9] rfl)
                    · exact absurd c_28 (by decide)
                  · refine lv_aload_n hx hb dW_falls_119 rfl (lv_at hl 7 rfl) ?_
                    refine lv_iload hx hb dW_falls_120 (lv_at hl 1 rfl) ?_
                    refine ra_ld hx hb hC hG 7 60 (by omega) (fun _ _ => rfl) (vp_in_nI (by have hlt := lt_guard10 (by omega) c_1; omega) (by omega)) dW_falls_122 ?_
                    rw [show (nI (10 * i + j)).toNatClampNeg = (10 * i + j) from nI_clamp (by omega)]
                    refine lv_iconst (v := 1) hx hb dW_falls_123 (by decide) ?_
                    refine lv_isub hx hb dW_falls_124 ?_
                    refine lv_goto (tgt := 130) hx hb dW_falls_125 (by decide) ?_
                    refine lv_istore (lv' := [(6, .int ((sA 7 (10 * i + j)) - 1)), (9, .int 0), (8, .int (nI (10 * i + j))), (7, .int (nI j)), (5, .int x), (0, .ref (ad 4)), (1, .ref (ad 5)), (2, .ref (ad 7)), (3, .ref (ad 8)), (4, .int (nI i))]) hx hb dW_falls_130 hl (by decide) rfl (fun ls hl => ?_)
                    refine lv_iload hx hb dW_falls_132 (lv_at hl 1 rfl) ?_
                    refine lv_if_eq (tgt := 142) hx hb dW_falls_134 (by decide) (fun c_29 => ?_) (fun c_29 => ?_)
                    · refine lv_iload hx hb dW_falls_142 (lv_at hl 4 rfl) ?_
                      refine lv_istore (lv' := [(5, .int x), (6, .int ((sA 7 (10 * i + j)) - 1)), (9, .int 0), (8, .int (nI (10 * i + j))), (7, .int (nI j)), (0, .ref (ad 4)), (1, .ref (ad 5)), (2, .ref (ad 7)), (3, .ref (ad 8)), (4, .int (nI i))]) hx hb dW_falls_144 hl (by decide) rfl (fun ls hl => ?_)
                      refine lv_iinc (v := nI (j + 1)) (lv' := [(7, .int (nI (j + 1))), (5, .int x), (6, .int ((sA 7 (10 * i + j)) - 1)), (9, .int 0), (8, .int (nI (10 * i + j))), (0, .ref (ad 4)), (1, .ref (ad 5)), (2, .ref (ad 7)), (3, .ref (ad 8)), (4, .int (nI i))]) hx hb dW_falls_146 hl (k := 4) rfl (nI_1 j) (by decide) rfl (fun ls hl => ?_)
                      refine lv_goto (tgt := 9) hx hb dW_falls_149 (by decide) ?_
                      exact ih (j := j + 1) (x := x) (y := (sA 7 (10 * i + j)) - 1) (ls := ls) (hf := by omega) (hj := by have hlt := lt_guard10 (by omega) c_1; omega) (hx9 := hx9) (hy := Or.inr (hpc j (lt_guard10 (by omega) c_1) (pos_of c_12))) (hF := by rw [hF, lW_falls, if_neg c_1, if_neg c_12, if_neg c_16, if_neg c_20, if_neg c_24, if_neg c_27] <;> rfl) (hl := lv_sub hl [0, 2, 1, 5, 6, 7, 8, 9] rfl)
                    · exact absurd c_29 (by decide)
              · exact absurd c_25 (by decide)
            · refine lv_aload_n hx hb dW_falls_60 rfl (lv_at hl 7 rfl) ?_
              refine lv_iload hx hb dW_falls_61 (lv_at hl 0 rfl) ?_
              refine ra_ld hx hb hC hG 8 60 (by omega) (fun _ _ => rfl) (vp_in_nI (by have hlt := lt_guard10 (by omega) c_1; omega) (by omega)) dW_falls_63 ?_
              rw [show (nI (10 * i + j)).toNatClampNeg = (10 * i + j) from nI_clamp (by omega)]
              refine lv_aload_n hx hb dW_falls_64 rfl (lv_at hl 7 rfl) ?_
              refine lv_iload hx hb dW_falls_65 (lv_at hl 3 rfl) ?_
              refine ra_ld hx hb hC hG 8 60 (by omega) (fun _ _ => rfl) (hx9.vin hi c_16) dW_falls_67 ?_
              refine lv_icmp_ge (tgt := 75) hx hb dW_falls_68 (by decide) (fun c_30 => ?_) (fun c_30 => ?_)
              · refine lv_iconst (v := 0) hx hb dW_falls_75 (by decide) ?_
                refine lv_istore (lv' := [(9, .int 0), (8, .int (nI (10 * i + j))), (7, .int (nI j)), (6, .int y), (5, .int x), (0, .ref (ad 4)), (1, .ref (ad 5)), (2, .ref (ad 7)), (3, .ref (ad 8)), (4, .int (nI i))]) hx hb dW_falls_76 hl (by decide) rfl (fun ls hl => ?_)
                refine lv_iload hx hb dW_falls_78 (lv_at hl 0 rfl) ?_
                refine lv_if_eq (tgt := 101) hx hb dW_falls_80 (by decide) (fun c_31 => ?_) (fun c_31 => ?_)
                · refine lv_aload_n hx hb dW_falls_101 rfl (lv_at hl 7 rfl) ?_
                  refine lv_iload hx hb dW_falls_102 (lv_at hl 1 rfl) ?_
                  refine ra_ld hx hb hC hG 7 60 (by omega) (fun _ _ => rfl) (vp_in_nI (by have hlt := lt_guard10 (by omega) c_1; omega) (by omega)) dW_falls_104 ?_
                  rw [show (nI (10 * i + j)).toNatClampNeg = (10 * i + j) from nI_clamp (by omega)]
                  refine lv_if_le (tgt := 128) hx hb dW_falls_105 (by decide) (fun c_32 => ?_) (fun c_32 => ?_)
                  · exact (by first | exact absurd c_12 c_32 | exact absurd c_32 c_12)
                  · refine lv_aload_n hx hb dW_falls_108 rfl (lv_at hl 7 rfl) ?_
                    refine lv_iload hx hb dW_falls_109 (lv_at hl 1 rfl) ?_
                    refine ra_ld hx hb hC hG 7 60 (by omega) (fun _ _ => rfl) (vp_in_nI (by have hlt := lt_guard10 (by omega) c_1; omega) (by omega)) dW_falls_111 ?_
                    rw [show (nI (10 * i + j)).toNatClampNeg = (10 * i + j) from nI_clamp (by omega)]
                    refine lv_iconst (v := 1) hx hb dW_falls_112 (by decide) ?_
                    refine lv_isub hx hb dW_falls_113 ?_
                    refine lv_iload hx hb dW_falls_114 (lv_at hl 3 rfl) ?_
                    refine lv_icmp_le (tgt := 128) hx hb dW_falls_116 (by decide) (fun c_33 => ?_) (fun c_33 => ?_)
                    · refine lv_iload hx hb dW_falls_128 (lv_at hl 3 rfl) ?_
                      refine lv_istore (lv' := [(6, .int y), (9, .int 0), (8, .int (nI (10 * i + j))), (7, .int (nI j)), (5, .int x), (0, .ref (ad 4)), (1, .ref (ad 5)), (2, .ref (ad 7)), (3, .ref (ad 8)), (4, .int (nI i))]) hx hb dW_falls_130 hl (by decide) rfl (fun ls hl => ?_)
                      refine lv_iload hx hb dW_falls_132 (lv_at hl 1 rfl) ?_
                      refine lv_if_eq (tgt := 142) hx hb dW_falls_134 (by decide) (fun c_34 => ?_) (fun c_34 => ?_)
                      · refine lv_iload hx hb dW_falls_142 (lv_at hl 4 rfl) ?_
                        refine lv_istore (lv' := [(5, .int x), (6, .int y), (9, .int 0), (8, .int (nI (10 * i + j))), (7, .int (nI j)), (0, .ref (ad 4)), (1, .ref (ad 5)), (2, .ref (ad 7)), (3, .ref (ad 8)), (4, .int (nI i))]) hx hb dW_falls_144 hl (by decide) rfl (fun ls hl => ?_)
                        refine lv_iinc (v := nI (j + 1)) (lv' := [(7, .int (nI (j + 1))), (5, .int x), (6, .int y), (9, .int 0), (8, .int (nI (10 * i + j))), (0, .ref (ad 4)), (1, .ref (ad 5)), (2, .ref (ad 7)), (3, .ref (ad 8)), (4, .int (nI i))]) hx hb dW_falls_146 hl (k := 4) rfl (nI_1 j) (by decide) rfl (fun ls hl => ?_)
                        refine lv_goto (tgt := 9) hx hb dW_falls_149 (by decide) ?_
                        exact ih (j := j + 1) (x := x) (y := y) (ls := ls) (hf := by omega) (hj := by have hlt := lt_guard10 (by omega) c_1; omega) (hx9 := hx9) (hy := hy) (hF := by rw [hF, lW_falls, if_neg c_1, if_neg c_12, if_neg c_16, if_neg c_20, if_pos c_24, if_pos c_30, if_pos c_33] <;> rfl) (hl := lv_sub hl [0, 2, 1, 5, 6, 7, 8, 9] rfl)
                      · exact absurd c_34 (by decide)
                    · refine lv_aload_n hx hb dW_falls_119 rfl (lv_at hl 7 rfl) ?_
                      refine lv_iload hx hb dW_falls_120 (lv_at hl 1 rfl) ?_
                      refine ra_ld hx hb hC hG 7 60 (by omega) (fun _ _ => rfl) (vp_in_nI (by have hlt := lt_guard10 (by omega) c_1; omega) (by omega)) dW_falls_122 ?_
                      rw [show (nI (10 * i + j)).toNatClampNeg = (10 * i + j) from nI_clamp (by omega)]
                      refine lv_iconst (v := 1) hx hb dW_falls_123 (by decide) ?_
                      refine lv_isub hx hb dW_falls_124 ?_
                      refine lv_goto (tgt := 130) hx hb dW_falls_125 (by decide) ?_
                      refine lv_istore (lv' := [(6, .int ((sA 7 (10 * i + j)) - 1)), (9, .int 0), (8, .int (nI (10 * i + j))), (7, .int (nI j)), (5, .int x), (0, .ref (ad 4)), (1, .ref (ad 5)), (2, .ref (ad 7)), (3, .ref (ad 8)), (4, .int (nI i))]) hx hb dW_falls_130 hl (by decide) rfl (fun ls hl => ?_)
                      refine lv_iload hx hb dW_falls_132 (lv_at hl 1 rfl) ?_
                      refine lv_if_eq (tgt := 142) hx hb dW_falls_134 (by decide) (fun c_35 => ?_) (fun c_35 => ?_)
                      · refine lv_iload hx hb dW_falls_142 (lv_at hl 4 rfl) ?_
                        refine lv_istore (lv' := [(5, .int x), (6, .int ((sA 7 (10 * i + j)) - 1)), (9, .int 0), (8, .int (nI (10 * i + j))), (7, .int (nI j)), (0, .ref (ad 4)), (1, .ref (ad 5)), (2, .ref (ad 7)), (3, .ref (ad 8)), (4, .int (nI i))]) hx hb dW_falls_144 hl (by decide) rfl (fun ls hl => ?_)
                        refine lv_iinc (v := nI (j + 1)) (lv' := [(7, .int (nI (j + 1))), (5, .int x), (6, .int ((sA 7 (10 * i + j)) - 1)), (9, .int 0), (8, .int (nI (10 * i + j))), (0, .ref (ad 4)), (1, .ref (ad 5)), (2, .ref (ad 7)), (3, .ref (ad 8)), (4, .int (nI i))]) hx hb dW_falls_146 hl (k := 4) rfl (nI_1 j) (by decide) rfl (fun ls hl => ?_)
                        refine lv_goto (tgt := 9) hx hb dW_falls_149 (by decide) ?_
                        exact ih (j := j + 1) (x := x) (y := (sA 7 (10 * i + j)) - 1) (ls := ls) (hf := by omega) (hj := by have hlt := lt_guard10 (by omega) c_1; omega) (hx9 := hx9) (hy := Or.inr (hpc j (lt_guard10 (by omega) c_1) (pos_of c_12))) (hF := by rw [hF, lW_falls, if_neg c_1, if_neg c_12, if_neg c_16, if_neg c_20, if_pos c_24, if_pos c_30, if_neg c_33] <;> rfl) (hl := lv_sub hl [0, 2, 1, 5, 6, 7, 8, 9] rfl)
                      · exact absurd c_35 (by decide)
                · exact absurd c_31 (by decide)
              · refine lv_iconst (v := 1) hx hb dW_falls_71 (by decide) ?_
                refine lv_goto (tgt := 76) hx hb dW_falls_72 (by decide) ?_
                refine lv_istore (lv' := [(9, .int 1), (8, .int (nI (10 * i + j))), (7, .int (nI j)), (6, .int y), (5, .int x), (0, .ref (ad 4)), (1, .ref (ad 5)), (2, .ref (ad 7)), (3, .ref (ad 8)), (4, .int (nI i))]) hx hb dW_falls_76 hl (by decide) rfl (fun ls hl => ?_)
                refine lv_iload hx hb dW_falls_78 (lv_at hl 0 rfl) ?_
                refine lv_if_eq (tgt := 101) hx hb dW_falls_80 (by decide) (fun c_36 => ?_) (fun c_36 => ?_)
                · exact absurd c_36 (by decide)
                · refine lv_iload hx hb dW_falls_83 (lv_at hl 4 rfl) ?_
                  refine lv_if_ge (tgt := 92) hx hb dW_falls_85 (by decide) (fun c_37 => ?_) (fun c_37 => ?_)
                  · refine lv_aload_n hx hb dW_falls_92 rfl (lv_at hl 7 rfl) ?_
                    refine lv_iload hx hb dW_falls_93 (lv_at hl 4 rfl) ?_
                    refine ra_ld hx hb hC hG 7 60 (by omega) (fun _ _ => rfl) (hx9.vin hi c_16) dW_falls_95 ?_
                    refine lv_iconst (v := 1) hx hb dW_falls_96 (by decide) ?_
                    refine lv_isub hx hb dW_falls_97 ?_
                    refine lv_goto (tgt := 130) hx hb dW_falls_98 (by decide) ?_
                    refine lv_istore (lv' := [(6, .int ((sA 7 x.toNatClampNeg) - 1)), (9, .int 1), (8, .int (nI (10 * i + j))), (7, .int (nI j)), (5, .int x), (0, .ref (ad 4)), (1, .ref (ad 5)), (2, .ref (ad 7)), (3, .ref (ad 8)), (4, .int (nI i))]) hx hb dW_falls_130 hl (by decide) rfl (fun ls hl => ?_)
                    refine lv_iload hx hb dW_falls_132 (lv_at hl 1 rfl) ?_
                    refine lv_if_eq (tgt := 142) hx hb dW_falls_134 (by decide) (fun c_38 => ?_) (fun c_38 => ?_)
                    · exact absurd c_38 (by decide)
                    · refine lv_iload hx hb dW_falls_137 (lv_at hl 2 rfl) ?_
                      refine lv_goto (tgt := 144) hx hb dW_falls_139 (by decide) ?_
                      refine lv_istore (lv' := [(5, .int (nI (10 * i + j))), (6, .int ((sA 7 x.toNatClampNeg) - 1)), (9, .int 1), (8, .int (nI (10 * i + j))), (7, .int (nI j)), (0, .ref (ad 4)), (1, .ref (ad 5)), (2, .ref (ad 7)), (3, .ref (ad 8)), (4, .int (nI i))]) hx hb dW_falls_144 hl (by decide) rfl (fun ls hl => ?_)
                      refine lv_iinc (v := nI (j + 1)) (lv' := [(7, .int (nI (j + 1))), (5, .int (nI (10 * i + j))), (6, .int ((sA 7 x.toNatClampNeg) - 1)), (9, .int 1), (8, .int (nI (10 * i + j))), (0, .ref (ad 4)), (1, .ref (ad 5)), (2, .ref (ad 7)), (3, .ref (ad 8)), (4, .int (nI i))]) hx hb dW_falls_146 hl (k := 4) rfl (nI_1 j) (by decide) rfl (fun ls hl => ?_)
                      refine lv_goto (tgt := 9) hx hb dW_falls_149 (by decide) ?_
                      exact ih (j := j + 1) (x := nI (10 * i + j)) (y := (sA 7 x.toNatClampNeg) - 1) (ls := ls) (hf := by omega) (hj := by have hlt := lt_guard10 (by omega) c_1; omega) (hx9 := Or.inr ⟨j, lt_guard10 (by omega) c_1, rfl, pos_of c_12⟩) (hy := Or.inr (hx9.pc hi c_16 hpc)) (hF := by rw [hF, lW_falls, if_neg c_1, if_neg c_12, if_neg c_16, if_neg c_20, if_pos c_24, if_neg c_30] <;> rfl) (hl := lv_sub hl [0, 2, 1, 5, 6, 7, 8, 9] rfl)
                  · exact absurd c_37 (fun q => q (Int32.not_lt.mp c_16))
