theorem highest_rng {sL : NL} {sA : NA} {p : Int32} (hp : vp_in p 30) : ∀ (f j : Nat) (x : Int32), j + f = 11 → (x = (-1) ∨ vp_in x 300) → (lM_highest sL sA p f j x = (-1) ∨ vp_in (lM_highest sL sA p f j x) 300) := by
  intro f
  induction f with
  | zero =>
    intro j x _ _
    exact Or.inr (by rw [lM_highest, vp_in_iff]; decide)
  | succ f ih =>
    intro j x hf hx
    rw [lM_highest]
    by_cases hg : ((10 * p) + 10) ≤ (nI (10 * p.toNatClampNeg + j))
    · rw [if_pos hg]; exact hx
    · rw [if_neg hg]
      have hlt := grd10 hp (by omega) hg
      have hpa := vin_nat hp
      have hk : vp_in (nI (10 * p.toNatClampNeg + j)) 300 := vp_in_nI (by omega) (by omega)
      repeat' split
      all_goals first | exact ih _ _ (by omega) hx | exact ih _ _ (by omega) (Or.inr hk)
theorem highest_in {sL : NL} {sA : NA} {p : Int32} (hp : vp_in p 30) (h : ¬ fM_highest sL sA p = (-1)) : vp_in (fM_highest sL sA p) 300 := (highest_rng (sL := sL) (sA := sA) hp 11 0 (-1) rfl (Or.inl rfl)).resolve_left h
def fM_interestFor (sL : NL) (sA : NA) (p0 : Int32) : Int32 := if (sA 9 p0.toNatClampNeg) = 4 then sA 19 p0.toNatClampNeg else (((((sA 17 p0.toNatClampNeg : Int32).toInt64) * (((sA 5 19) - (sA 18 p0.toNatClampNeg) : Int32).toInt64)) * ((sA 5 18 : Int32).toInt64)) / 100000 : Int64).toInt32
theorem hdyM_interestFor : yM_interestFor.cls ≠ "java/lang/invoke/MethodHandle" ∧ yM_interestFor.cls ≠ "java/lang/invoke/VarHandle" ∧ (parseMethodDescriptor yM_interestFor.desc).map (fun d => d.parameters.length) = some 1 := by decide +kernel
theorem dM_interestFor_0 : decode bM_interestFor 0 = .ok (.aload_n 0, 1) := by decide +kernel
theorem dM_interestFor_1 : decode bM_interestFor 1 = .ok (.getfield 19, 3) := by decide +kernel
theorem dM_interestFor_4 : decode bM_interestFor 4 = .ok (.iload_n 1, 1) := by decide +kernel
theorem dM_interestFor_5 : decode bM_interestFor 5 = .ok (.iaload, 1) := by decide +kernel
theorem dM_interestFor_6 : decode bM_interestFor 6 = .ok (.iconst 4, 1) := by decide +kernel
theorem dM_interestFor_7 : decode bM_interestFor 7 = .ok (.if_icmp .ne 10, 3) := by decide +kernel
theorem dM_interestFor_10 : decode bM_interestFor 10 = .ok (.aload_n 0, 1) := by decide +kernel
theorem dM_interestFor_11 : decode bM_interestFor 11 = .ok (.getfield 49, 3) := by decide +kernel
theorem dM_interestFor_14 : decode bM_interestFor 14 = .ok (.iload_n 1, 1) := by decide +kernel
theorem dM_interestFor_15 : decode bM_interestFor 15 = .ok (.iaload, 1) := by decide +kernel
theorem dM_interestFor_16 : decode bM_interestFor 16 = .ok (.ireturn, 1) := by decide +kernel
theorem dM_interestFor_17 : decode bM_interestFor 17 = .ok (.aload_n 0, 1) := by decide +kernel
theorem dM_interestFor_18 : decode bM_interestFor 18 = .ok (.getfield 43, 3) := by decide +kernel
theorem dM_interestFor_21 : decode bM_interestFor 21 = .ok (.iload_n 1, 1) := by decide +kernel
theorem dM_interestFor_22 : decode bM_interestFor 22 = .ok (.iaload, 1) := by decide +kernel
theorem dM_interestFor_23 : decode bM_interestFor 23 = .ok (.i2l, 1) := by decide +kernel
theorem dM_interestFor_24 : decode bM_interestFor 24 = .ok (.aload_n 0, 1) := by decide +kernel
theorem dM_interestFor_25 : decode bM_interestFor 25 = .ok (.getfield 101, 3) := by decide +kernel
theorem dM_interestFor_28 : decode bM_interestFor 28 = .ok (.aload_n 0, 1) := by decide +kernel
theorem dM_interestFor_29 : decode bM_interestFor 29 = .ok (.getfield 46, 3) := by decide +kernel
theorem dM_interestFor_32 : decode bM_interestFor 32 = .ok (.iload_n 1, 1) := by decide +kernel
theorem dM_interestFor_33 : decode bM_interestFor 33 = .ok (.iaload, 1) := by decide +kernel
theorem dM_interestFor_34 : decode bM_interestFor 34 = .ok (.isub, 1) := by decide +kernel
theorem dM_interestFor_35 : decode bM_interestFor 35 = .ok (.i2l, 1) := by decide +kernel
theorem dM_interestFor_36 : decode bM_interestFor 36 = .ok (.lmul, 1) := by decide +kernel
theorem dM_interestFor_37 : decode bM_interestFor 37 = .ok (.aload_n 0, 1) := by decide +kernel
theorem dM_interestFor_38 : decode bM_interestFor 38 = .ok (.getfield 58, 3) := by decide +kernel
theorem dM_interestFor_41 : decode bM_interestFor 41 = .ok (.i2l, 1) := by decide +kernel
theorem dM_interestFor_42 : decode bM_interestFor 42 = .ok (.lmul, 1) := by decide +kernel
theorem dM_interestFor_43 : decode bM_interestFor 43 = .ok (.ldc2_w 124, 3) := by decide +kernel
theorem dM_interestFor_46 : decode bM_interestFor 46 = .ok (.ldiv, 1) := by decide +kernel
theorem dM_interestFor_47 : decode bM_interestFor 47 = .ok (.l2i, 1) := by decide +kernel
theorem dM_interestFor_48 : decode bM_interestFor 48 = .ok (.ireturn, 1) := by decide +kernel
set_option maxHeartbeats 4000000 in
set_option maxRecDepth 100000 in
theorem cM_interestFor (l : Launch) (D : va_G) (tI tJ tL : ClassId) (A : Nat → Prop) (sg ad : Nat → Nat) (n : Nat) (sL : NL) (sA : NA) (p0 : Int32) (hp : vp_in p0 30) : Met l yM_interestFor (Cond.code yM_interestFor bM_interestFor 2 (some FieldType.int) :: wNeed) { frames := 0, cells := 0, slots := 0, locals := 0 } (va_Pc [.ref (ad 5), .int p0] (GP D tI tJ tL A sg ad n sL sA)) (vp_Si fun r => r = fM_interestFor sL sA p0) 0 0 (fun _ => False) := by
  refine en_M (av := [.ref (ad 5), .int p0]) (by decide) (Nat.le_of_ble_eq_true rfl) ?_
  intro p e s m below meth c hx hb hml hown hts hr hlocks hmname hP ls hl
  obtain ⟨hG, hC⟩ := hP
  have hS : va_S A s.heap s.heap [] := va_S.rf
  replace hl : lv_has ls 2 [(0, .ref (ad 5)), (1, .int p0)] := hl
  refine lv_aload_n hx hb dM_interestFor_0 rfl (lv_at hl 0 rfl) ?_
  refine rm_get (v := .ref (ad 9)) hx hb hts hown hC hG 4 (by decide) q_514 (rfl) dM_interestFor_1 ?_
  refine lv_iload_n hx hb dM_interestFor_4 rfl (lv_at hl 1 rfl) ?_
  refine ra_ld hx hb hC hG 9 30 (by omega) (fun _ _ => rfl) (hp) dM_interestFor_5 ?_
  refine lv_iconst (v := 4) hx hb dM_interestFor_6 (by decide) ?_
  refine lv_icmp_ne (tgt := 17) hx hb dM_interestFor_7 (by decide) (fun c_1 => ?_) (fun c_1 => ?_)
  · refine lv_aload_n hx hb dM_interestFor_17 rfl (lv_at hl 0 rfl) ?_
    refine rm_get (v := .ref (ad 17)) hx hb hts hown hC hG 13 (by decide) q_523 (rfl) dM_interestFor_18 ?_
    refine lv_iload_n hx hb dM_interestFor_21 rfl (lv_at hl 1 rfl) ?_
    refine ra_ld hx hb hC hG 17 30 (by omega) (fun _ _ => rfl) (hp) dM_interestFor_22 ?_
    refine lv_i2l (v := (sA 17 p0.toNatClampNeg : Int32).toInt64) hx hb dM_interestFor_23 rfl ?_
    refine lv_aload_n hx hb dM_interestFor_24 rfl (lv_at hl 0 rfl) ?_
    refine rm_get (v := .int (sA 5 19)) hx hb hts hown hC hG 19 (by decide) q_529 (rfl) dM_interestFor_25 ?_
    refine lv_aload_n hx hb dM_interestFor_28 rfl (lv_at hl 0 rfl) ?_
    refine rm_get (v := .ref (ad 18)) hx hb hts hown hC hG 14 (by decide) q_524 (rfl) dM_interestFor_29 ?_
    refine lv_iload_n hx hb dM_interestFor_32 rfl (lv_at hl 1 rfl) ?_
    refine ra_ld hx hb hC hG 18 30 (by omega) (fun _ _ => rfl) (hp) dM_interestFor_33 ?_
    refine lv_isub hx hb dM_interestFor_34 ?_
    refine lv_i2l (v := ((sA 5 19) - (sA 18 p0.toNatClampNeg) : Int32).toInt64) hx hb dM_interestFor_35 rfl ?_
    refine lv_lmul hx hb dM_interestFor_36 ?_
    refine lv_aload_n hx hb dM_interestFor_37 rfl (lv_at hl 0 rfl) ?_
    refine rm_get (v := .int (sA 5 18)) hx hb hts hown hC hG 18 (by decide) q_528 (rfl) dM_interestFor_38 ?_
    refine lv_i2l (v := (sA 5 18 : Int32).toInt64) hx hb dM_interestFor_41 rfl ?_
    refine lv_lmul hx hb dM_interestFor_42 ?_
    refine lv_ldc2 (v := 100000) hx hb hown (hts _ q_673) dM_interestFor_43 ?_
    refine lv_ldiv hx hb dM_interestFor_46 (by decide) ?_
    refine lv_l2i (v := (((((sA 17 p0.toNatClampNeg : Int32).toInt64) * (((sA 5 19) - (sA 18 p0.toNatClampNeg) : Int32).toInt64)) * ((sA 5 18 : Int32).toInt64)) / 100000 : Int64).toInt32) hx hb dM_interestFor_47 rfl ?_
    exact W.iret (v := (((((sA 17 p0.toNatClampNeg : Int32).toInt64) * (((sA 5 19) - (sA 18 p0.toNatClampNeg) : Int32).toInt64)) * ((sA 5 18 : Int32).toInt64)) / 100000 : Int64).toInt32) hx hb hr (fun t ht hW => ⟨_, rfl, (by rw [fM_interestFor, if_neg c_1] <;> rfl), ht⟩) (fun q h => nomatch h) dM_interestFor_48
  · refine lv_aload_n hx hb dM_interestFor_10 rfl (lv_at hl 0 rfl) ?_
    refine rm_get (v := .ref (ad 19)) hx hb hts hown hC hG 15 (by decide) q_525 (rfl) dM_interestFor_11 ?_
    refine lv_iload_n hx hb dM_interestFor_14 rfl (lv_at hl 1 rfl) ?_
    refine ra_ld hx hb hC hG 19 30 (by omega) (fun _ _ => rfl) (hp) dM_interestFor_15 ?_
    exact W.iret (v := sA 19 p0.toNatClampNeg) hx hb hr (fun t ht hW => ⟨_, rfl, (by rw [fM_interestFor, if_pos c_1] <;> rfl), ht⟩) (fun q h => nomatch h) dM_interestFor_16
def fM_shareFor (sL : NL) (sA : NA) (p0 : Int32) : Int32 := if (sA 8 p0.toNatClampNeg) = (-1) then 0 else (if (sA 11 p0.toNatClampNeg) < 1000 then 0 else (if (sA 8 p0.toNatClampNeg) ≤ 0 then (if 50000 ≤ (sA 11 p0.toNatClampNeg) then (if 200000 ≤ (sA 11 p0.toNatClampNeg) then (if ((((50000 * 4) / 100) + ((150000 * 3) / 100)) + ((((sA 11 p0.toNatClampNeg) - 50000) - 150000) / 100)) ≤ 12500 then (((50000 * 4) / 100) + ((150000 * 3) / 100)) + ((((sA 11 p0.toNatClampNeg) - 50000) - 150000) / 100) else 12500) else (if ((((50000 * 4) / 100) + ((((sA 11 p0.toNatClampNeg) - 50000) * 3) / 100)) + ((((sA 11 p0.toNatClampNeg) - 50000) - ((sA 11 p0.toNatClampNeg) - 50000)) / 100)) ≤ 12500 then (((50000 * 4) / 100) + ((((sA 11 p0.toNatClampNeg) - 50000) * 3) / 100)) + ((((sA 11 p0.toNatClampNeg) - 50000) - ((sA 11 p0.toNatClampNeg) - 50000)) / 100) else 12500)) else (if 200000 ≤ (sA 11 p0.toNatClampNeg) then (if (((((sA 11 p0.toNatClampNeg) * 4) / 100) + ((150000 * 3) / 100)) + ((((sA 11 p0.toNatClampNeg) - (sA 11 p0.toNatClampNeg)) - 150000) / 100)) ≤ 12500 then ((((sA 11 p0.toNatClampNeg) * 4) / 100) + ((150000 * 3) / 100)) + ((((sA 11 p0.toNatClampNeg) - (sA 11 p0.toNatClampNeg)) - 150000) / 100) else 12500) else (if (((((sA 11 p0.toNatClampNeg) * 4) / 100) + ((((sA 11 p0.toNatClampNeg) - (sA 11 p0.toNatClampNeg)) * 3) / 100)) + ((((sA 11 p0.toNatClampNeg) - (sA 11 p0.toNatClampNeg)) - ((sA 11 p0.toNatClampNeg) - (sA 11 p0.toNatClampNeg))) / 100)) ≤ 12500 then ((((sA 11 p0.toNatClampNeg) * 4) / 100) + ((((sA 11 p0.toNatClampNeg) - (sA 11 p0.toNatClampNeg)) * 3) / 100)) + ((((sA 11 p0.toNatClampNeg) - (sA 11 p0.toNatClampNeg)) - ((sA 11 p0.toNatClampNeg) - (sA 11 p0.toNatClampNeg))) / 100) else 12500))) else (if ((2000 + ((sA 12 p0.toNatClampNeg) / 365)) - (sA 8 p0.toNatClampNeg)) ≤ 70 then (if 50000 ≤ (sA 11 p0.toNatClampNeg) then (if 200000 ≤ (sA 11 p0.toNatClampNeg) then (if ((((50000 * 4) / 100) + ((150000 * 3) / 100)) + ((((sA 11 p0.toNatClampNeg) - 50000) - 150000) / 100)) ≤ 12500 then (((50000 * 4) / 100) + ((150000 * 3) / 100)) + ((((sA 11 p0.toNatClampNeg) - 50000) - 150000) / 100) else 12500) else (if ((((50000 * 4) / 100) + ((((sA 11 p0.toNatClampNeg) - 50000) * 3) / 100)) + ((((sA 11 p0.toNatClampNeg) - 50000) - ((sA 11 p0.toNatClampNeg) - 50000)) / 100)) ≤ 12500 then (((50000 * 4) / 100) + ((((sA 11 p0.toNatClampNeg) - 50000) * 3) / 100)) + ((((sA 11 p0.toNatClampNeg) - 50000) - ((sA 11 p0.toNatClampNeg) - 50000)) / 100) else 12500)) else (if 200000 ≤ (sA 11 p0.toNatClampNeg) then (if (((((sA 11 p0.toNatClampNeg) * 4) / 100) + ((150000 * 3) / 100)) + ((((sA 11 p0.toNatClampNeg) - (sA 11 p0.toNatClampNeg)) - 150000) / 100)) ≤ 12500 then ((((sA 11 p0.toNatClampNeg) * 4) / 100) + ((150000 * 3) / 100)) + ((((sA 11 p0.toNatClampNeg) - (sA 11 p0.toNatClampNeg)) - 150000) / 100) else 12500) else (if (((((sA 11 p0.toNatClampNeg) * 4) / 100) + ((((sA 11 p0.toNatClampNeg) - (sA 11 p0.toNatClampNeg)) * 3) / 100)) + ((((sA 11 p0.toNatClampNeg) - (sA 11 p0.toNatClampNeg)) - ((sA 11 p0.toNatClampNeg) - (sA 11 p0.toNatClampNeg))) / 100)) ≤ 12500 then ((((sA 11 p0.toNatClampNeg) * 4) / 100) + ((((sA 11 p0.toNatClampNeg) - (sA 11 p0.toNatClampNeg)) * 3) / 100)) + ((((sA 11 p0.toNatClampNeg) - (sA 11 p0.toNatClampNeg)) - ((sA 11 p0.toNatClampNeg) - (sA 11 p0.toNatClampNeg))) / 100) else 12500))) else 0)))
theorem hdyM_shareFor : yM_shareFor.cls ≠ "java/lang/invoke/MethodHandle" ∧ yM_shareFor.cls ≠ "java/lang/invoke/VarHandle" ∧ (parseMethodDescriptor yM_shareFor.desc).map (fun d => d.parameters.length) = some 1 := by decide +kernel
theorem dM_shareFor_0 : decode bM_shareFor 0 = .ok (.aload_n 0, 1) := by decide +kernel
theorem dM_shareFor_1 : decode bM_shareFor 1 = .ok (.getfield 25, 3) := by decide +kernel
theorem dM_shareFor_4 : decode bM_shareFor 4 = .ok (.iload_n 1, 1) := by decide +kernel
theorem dM_shareFor_5 : decode bM_shareFor 5 = .ok (.iaload, 1) := by decide +kernel
theorem dM_shareFor_6 : decode bM_shareFor 6 = .ok (.istore_n 2, 1) := by decide +kernel
theorem dM_shareFor_7 : decode bM_shareFor 7 = .ok (.sipush 2000, 3) := by decide +kernel
theorem dM_shareFor_10 : decode bM_shareFor 10 = .ok (.aload_n 0, 1) := by decide +kernel
theorem dM_shareFor_11 : decode bM_shareFor 11 = .ok (.getfield 28, 3) := by decide +kernel
theorem dM_shareFor_14 : decode bM_shareFor 14 = .ok (.iload_n 1, 1) := by decide +kernel
theorem dM_shareFor_15 : decode bM_shareFor 15 = .ok (.iaload, 1) := by decide +kernel
theorem dM_shareFor_16 : decode bM_shareFor 16 = .ok (.sipush 365, 3) := by decide +kernel
theorem dM_shareFor_19 : decode bM_shareFor 19 = .ok (.idiv, 1) := by decide +kernel
theorem dM_shareFor_20 : decode bM_shareFor 20 = .ok (.iadd, 1) := by decide +kernel
theorem dM_shareFor_21 : decode bM_shareFor 21 = .ok (.aload_n 0, 1) := by decide +kernel
theorem dM_shareFor_22 : decode bM_shareFor 22 = .ok (.getfield 16, 3) := by decide +kernel
theorem dM_shareFor_25 : decode bM_shareFor 25 = .ok (.iload_n 1, 1) := by decide +kernel
theorem dM_shareFor_26 : decode bM_shareFor 26 = .ok (.iaload, 1) := by decide +kernel
theorem dM_shareFor_27 : decode bM_shareFor 27 = .ok (.isub, 1) := by decide +kernel
theorem dM_shareFor_28 : decode bM_shareFor 28 = .ok (.istore_n 3, 1) := by decide +kernel
theorem dM_shareFor_29 : decode bM_shareFor 29 = .ok (.aload_n 0, 1) := by decide +kernel
theorem dM_shareFor_30 : decode bM_shareFor 30 = .ok (.getfield 16, 3) := by decide +kernel
theorem dM_shareFor_33 : decode bM_shareFor 33 = .ok (.iload_n 1, 1) := by decide +kernel
theorem dM_shareFor_34 : decode bM_shareFor 34 = .ok (.iaload, 1) := by decide +kernel
theorem dM_shareFor_35 : decode bM_shareFor 35 = .ok (.iconst (-1), 1) := by decide +kernel
theorem dM_shareFor_36 : decode bM_shareFor 36 = .ok (.if_icmp .eq 25, 3) := by decide +kernel
theorem dM_shareFor_39 : decode bM_shareFor 39 = .ok (.iload_n 2, 1) := by decide +kernel
theorem dM_shareFor_40 : decode bM_shareFor 40 = .ok (.sipush 1000, 3) := by decide +kernel
theorem dM_shareFor_43 : decode bM_shareFor 43 = .ok (.if_icmp .lt 18, 3) := by decide +kernel
theorem dM_shareFor_46 : decode bM_shareFor 46 = .ok (.aload_n 0, 1) := by decide +kernel
theorem dM_shareFor_47 : decode bM_shareFor 47 = .ok (.getfield 16, 3) := by decide +kernel
theorem dM_shareFor_50 : decode bM_shareFor 50 = .ok (.iload_n 1, 1) := by decide +kernel
theorem dM_shareFor_51 : decode bM_shareFor 51 = .ok (.iaload, 1) := by decide +kernel
theorem dM_shareFor_52 : decode bM_shareFor 52 = .ok (.ifCond .le 11, 3) := by decide +kernel
theorem dM_shareFor_55 : decode bM_shareFor 55 = .ok (.iload_n 3, 1) := by decide +kernel
theorem dM_shareFor_56 : decode bM_shareFor 56 = .ok (.bipush 70, 2) := by decide +kernel
theorem dM_shareFor_58 : decode bM_shareFor 58 = .ok (.if_icmp .le 5, 3) := by decide +kernel
theorem dM_shareFor_61 : decode bM_shareFor 61 = .ok (.iconst 0, 1) := by decide +kernel
theorem dM_shareFor_62 : decode bM_shareFor 62 = .ok (.ireturn, 1) := by decide +kernel
theorem dM_shareFor_63 : decode bM_shareFor 63 = .ok (.iload_n 2, 1) := by decide +kernel
theorem dM_shareFor_64 : decode bM_shareFor 64 = .ok (.ldc 107, 2) := by decide +kernel
theorem dM_shareFor_66 : decode bM_shareFor 66 = .ok (.if_icmp .ge 7, 3) := by decide +kernel
theorem dM_shareFor_69 : decode bM_shareFor 69 = .ok (.iload_n 2, 1) := by decide +kernel
theorem dM_shareFor_70 : decode bM_shareFor 70 = .ok (.goto 5, 3) := by decide +kernel
theorem dM_shareFor_73 : decode bM_shareFor 73 = .ok (.ldc 107, 2) := by decide +kernel
theorem dM_shareFor_75 : decode bM_shareFor 75 = .ok (.istore 4, 2) := by decide +kernel
theorem dM_shareFor_77 : decode bM_shareFor 77 = .ok (.iload_n 2, 1) := by decide +kernel
theorem dM_shareFor_78 : decode bM_shareFor 78 = .ok (.ldc 109, 2) := by decide +kernel
theorem dM_shareFor_80 : decode bM_shareFor 80 = .ok (.if_icmp .ge 10, 3) := by decide +kernel
theorem dM_shareFor_83 : decode bM_shareFor 83 = .ok (.iload_n 2, 1) := by decide +kernel
theorem dM_shareFor_84 : decode bM_shareFor 84 = .ok (.iload 4, 2) := by decide +kernel
theorem dM_shareFor_86 : decode bM_shareFor 86 = .ok (.isub, 1) := by decide +kernel
theorem dM_shareFor_87 : decode bM_shareFor 87 = .ok (.goto 5, 3) := by decide +kernel
theorem dM_shareFor_90 : decode bM_shareFor 90 = .ok (.ldc 110, 2) := by decide +kernel
theorem dM_shareFor_92 : decode bM_shareFor 92 = .ok (.istore 5, 2) := by decide +kernel
theorem dM_shareFor_94 : decode bM_shareFor 94 = .ok (.iload_n 2, 1) := by decide +kernel
theorem dM_shareFor_95 : decode bM_shareFor 95 = .ok (.iload 4, 2) := by decide +kernel
theorem dM_shareFor_97 : decode bM_shareFor 97 = .ok (.isub, 1) := by decide +kernel
theorem dM_shareFor_98 : decode bM_shareFor 98 = .ok (.iload 5, 2) := by decide +kernel
theorem dM_shareFor_100 : decode bM_shareFor 100 = .ok (.isub, 1) := by decide +kernel
theorem dM_shareFor_101 : decode bM_shareFor 101 = .ok (.istore 6, 2) := by decide +kernel
theorem dM_shareFor_103 : decode bM_shareFor 103 = .ok (.iload 4, 2) := by decide +kernel
theorem dM_shareFor_105 : decode bM_shareFor 105 = .ok (.iconst 4, 1) := by decide +kernel
theorem dM_shareFor_106 : decode bM_shareFor 106 = .ok (.imul, 1) := by decide +kernel
theorem dM_shareFor_107 : decode bM_shareFor 107 = .ok (.bipush 100, 2) := by decide +kernel
theorem dM_shareFor_109 : decode bM_shareFor 109 = .ok (.idiv, 1) := by decide +kernel
theorem dM_shareFor_110 : decode bM_shareFor 110 = .ok (.iload 5, 2) := by decide +kernel
theorem dM_shareFor_112 : decode bM_shareFor 112 = .ok (.iconst 3, 1) := by decide +kernel
theorem dM_shareFor_113 : decode bM_shareFor 113 = .ok (.imul, 1) := by decide +kernel
theorem dM_shareFor_114 : decode bM_shareFor 114 = .ok (.bipush 100, 2) := by decide +kernel
theorem dM_shareFor_116 : decode bM_shareFor 116 = .ok (.idiv, 1) := by decide +kernel
theorem dM_shareFor_117 : decode bM_shareFor 117 = .ok (.iadd, 1) := by decide +kernel
theorem dM_shareFor_118 : decode bM_shareFor 118 = .ok (.iload 6, 2) := by decide +kernel
theorem dM_shareFor_120 : decode bM_shareFor 120 = .ok (.bipush 100, 2) := by decide +kernel
theorem dM_shareFor_122 : decode bM_shareFor 122 = .ok (.idiv, 1) := by decide +kernel
theorem dM_shareFor_123 : decode bM_shareFor 123 = .ok (.iadd, 1) := by decide +kernel
theorem dM_shareFor_124 : decode bM_shareFor 124 = .ok (.istore 7, 2) := by decide +kernel
theorem dM_shareFor_126 : decode bM_shareFor 126 = .ok (.iload 7, 2) := by decide +kernel
theorem dM_shareFor_128 : decode bM_shareFor 128 = .ok (.sipush 12500, 3) := by decide +kernel
theorem dM_shareFor_131 : decode bM_shareFor 131 = .ok (.if_icmp .le 9, 3) := by decide +kernel
theorem dM_shareFor_134 : decode bM_shareFor 134 = .ok (.sipush 12500, 3) := by decide +kernel
theorem dM_shareFor_137 : decode bM_shareFor 137 = .ok (.goto 5, 3) := by decide +kernel
theorem dM_shareFor_140 : decode bM_shareFor 140 = .ok (.iload 7, 2) := by decide +kernel
theorem dM_shareFor_142 : decode bM_shareFor 142 = .ok (.ireturn, 1) := by decide +kernel
set_option maxHeartbeats 4000000 in
set_option maxRecDepth 100000 in
theorem cM_shareFor (l : Launch) (D : va_G) (tI tJ tL : ClassId) (A : Nat → Prop) (sg ad : Nat → Nat) (n : Nat) (sL : NL) (sA : NA) (p0 : Int32) (hp : vp_in p0 30) : Met l yM_shareFor (Cond.code yM_shareFor bM_shareFor 8 (some FieldType.int) :: wNeed) { frames := 0, cells := 0, slots := 0, locals := 0 } (va_Pc [.ref (ad 5), .int p0] (GP D tI tJ tL A sg ad n sL sA)) (vp_Si fun r => r = fM_shareFor sL sA p0) 0 0 (fun _ => False) := by
  refine en_M (av := [.ref (ad 5), .int p0]) (by decide) (Nat.le_of_ble_eq_true rfl) ?_
  intro p e s m below meth c hx hb hml hown hts hr hlocks hmname hP ls hl
  obtain ⟨hG, hC⟩ := hP
  have hS : va_S A s.heap s.heap [] := va_S.rf
  replace hl : lv_has ls 8 [(0, .ref (ad 5)), (1, .int p0)] := hl
  refine lv_aload_n hx hb dM_shareFor_0 rfl (lv_at hl 0 rfl) ?_
  refine rm_get (v := .ref (ad 11)) hx hb hts hown hC hG 6 (by decide) q_516 (rfl) dM_shareFor_1 ?_
  refine lv_iload_n hx hb dM_shareFor_4 rfl (lv_at hl 1 rfl) ?_
  refine ra_ld hx hb hC hG 11 30 (by omega) (fun _ _ => rfl) (hp) dM_shareFor_5 ?_
  refine lv_istore_n (lv' := [(2, .int (sA 11 p0.toNatClampNeg)), (0, .ref (ad 5)), (1, .int p0)]) hx hb dM_shareFor_6 rfl hl (by decide) rfl (fun ls hl => ?_)
  refine lv_sipush (v := 2000) hx hb dM_shareFor_7 (by decide) ?_
  refine lv_aload_n hx hb dM_shareFor_10 rfl (lv_at hl 1 rfl) ?_
  refine rm_get (v := .ref (ad 12)) hx hb hts hown hC hG 7 (by decide) q_517 (rfl) dM_shareFor_11 ?_
  refine lv_iload_n hx hb dM_shareFor_14 rfl (lv_at hl 2 rfl) ?_
  refine ra_ld hx hb hC hG 12 30 (by omega) (fun _ _ => rfl) (hp) dM_shareFor_15 ?_
  refine lv_sipush (v := 365) hx hb dM_shareFor_16 (by decide) ?_
  refine lv_idiv hx hb dM_shareFor_19 (by decide) ?_
  refine lv_iadd hx hb dM_shareFor_20 ?_
  refine lv_aload_n hx hb dM_shareFor_21 rfl (lv_at hl 1 rfl) ?_
  refine rm_get (v := .ref (ad 8)) hx hb hts hown hC hG 3 (by decide) q_513 (rfl) dM_shareFor_22 ?_
  refine lv_iload_n hx hb dM_shareFor_25 rfl (lv_at hl 2 rfl) ?_
  refine ra_ld hx hb hC hG 8 30 (by omega) (fun _ _ => rfl) (hp) dM_shareFor_26 ?_
  refine lv_isub hx hb dM_shareFor_27 ?_
  refine lv_istore_n (lv' := [(3, .int ((2000 + ((sA 12 p0.toNatClampNeg) / 365)) - (sA 8 p0.toNatClampNeg))), (2, .int (sA 11 p0.toNatClampNeg)), (0, .ref (ad 5)), (1, .int p0)]) hx hb dM_shareFor_28 rfl hl (by decide) rfl (fun ls hl => ?_)
  refine lv_aload_n hx hb dM_shareFor_29 rfl (lv_at hl 2 rfl) ?_
  refine rm_get (v := .ref (ad 8)) hx hb hts hown hC hG 3 (by decide) q_513 (rfl) dM_shareFor_30 ?_
  refine lv_iload_n hx hb dM_shareFor_33 rfl (lv_at hl 3 rfl) ?_
  refine ra_ld hx hb hC hG 8 30 (by omega) (fun _ _ => rfl) (hp) dM_shareFor_34 ?_
  refine lv_iconst (v := (-1)) hx hb dM_shareFor_35 (by decide) ?_
  refine lv_icmp_eq (tgt := 61) hx hb dM_shareFor_36 (by decide) (fun c_1 => ?_) (fun c_1 => ?_)
  · refine lv_iconst (v := 0) hx hb dM_shareFor_61 (by decide) ?_
    exact W.iret (v := 0) hx hb hr (fun t ht hW => ⟨_, rfl, (by rw [fM_shareFor, if_pos c_1] <;> rfl), ht⟩) (fun q h => nomatch h) dM_shareFor_62
  · refine lv_iload_n hx hb dM_shareFor_39 rfl (lv_at hl 1 rfl) ?_
    refine lv_sipush (v := 1000) hx hb dM_shareFor_40 (by decide) ?_
    refine lv_icmp_lt (tgt := 61) hx hb dM_shareFor_43 (by decide) (fun c_2 => ?_) (fun c_2 => ?_)
    · refine lv_iconst (v := 0) hx hb dM_shareFor_61 (by decide) ?_
      exact W.iret (v := 0) hx hb hr (fun t ht hW => ⟨_, rfl, (by rw [fM_shareFor, if_neg c_1, if_pos c_2] <;> rfl), ht⟩) (fun q h => nomatch h) dM_shareFor_62
    · refine lv_aload_n hx hb dM_shareFor_46 rfl (lv_at hl 2 rfl) ?_
      refine rm_get (v := .ref (ad 8)) hx hb hts hown hC hG 3 (by decide) q_513 (rfl) dM_shareFor_47 ?_
      refine lv_iload_n hx hb dM_shareFor_50 rfl (lv_at hl 3 rfl) ?_
      refine ra_ld hx hb hC hG 8 30 (by omega) (fun _ _ => rfl) (hp) dM_shareFor_51 ?_
      refine lv_if_le (tgt := 63) hx hb dM_shareFor_52 (by decide) (fun c_3 => ?_) (fun c_3 => ?_)
      · refine lv_iload_n hx hb dM_shareFor_63 rfl (lv_at hl 1 rfl) ?_
        refine lv_ldc (v := 50000) hx hb hown (hts _ q_651) dM_shareFor_64 ?_
        refine lv_icmp_ge (tgt := 73) hx hb dM_shareFor_66 (by decide) (fun c_4 => ?_) (fun c_4 => ?_)
        · refine lv_ldc (v := 50000) hx hb hown (hts _ q_651) dM_shareFor_73 ?_
          refine lv_istore (lv' := [(4, .int 50000), (3, .int ((2000 + ((sA 12 p0.toNatClampNeg) / 365)) - (sA 8 p0.toNatClampNeg))), (2, .int (sA 11 p0.toNatClampNeg)), (0, .ref (ad 5)), (1, .int p0)]) hx hb dM_shareFor_75 hl (by decide) rfl (fun ls hl => ?_)
          refine lv_iload_n hx hb dM_shareFor_77 rfl (lv_at hl 2 rfl) ?_
          refine lv_ldc (v := 200000) hx hb hown (hts _ q_678) dM_shareFor_78 ?_
          refine lv_icmp_ge (tgt := 90) hx hb dM_shareFor_80 (by decide) (fun c_5 => ?_) (fun c_5 => ?_)
          · refine lv_ldc (v := 150000) hx hb hown (hts _ q_679) dM_shareFor_90 ?_
            refine lv_istore (lv' := [(5, .int 150000), (4, .int 50000), (3, .int ((2000 + ((sA 12 p0.toNatClampNeg) / 365)) - (sA 8 p0.toNatClampNeg))), (2, .int (sA 11 p0.toNatClampNeg)), (0, .ref (ad 5)), (1, .int p0)]) hx hb dM_shareFor_92 hl (by decide) rfl (fun ls hl => ?_)
            refine lv_iload_n hx hb dM_shareFor_94 rfl (lv_at hl 3 rfl) ?_
            refine lv_iload hx hb dM_shareFor_95 (lv_at hl 1 rfl) ?_
            refine lv_isub hx hb dM_shareFor_97 ?_
            refine lv_iload hx hb dM_shareFor_98 (lv_at hl 0 rfl) ?_
            refine lv_isub hx hb dM_shareFor_100 ?_
            refine lv_istore (lv' := [(6, .int (((sA 11 p0.toNatClampNeg) - 50000) - 150000)), (5, .int 150000), (4, .int 50000), (3, .int ((2000 + ((sA 12 p0.toNatClampNeg) / 365)) - (sA 8 p0.toNatClampNeg))), (2, .int (sA 11 p0.toNatClampNeg)), (0, .ref (ad 5)), (1, .int p0)]) hx hb dM_shareFor_101 hl (by decide) rfl (fun ls hl => ?_)
            refine lv_iload hx hb dM_shareFor_103 (lv_at hl 2 rfl) ?_
            refine lv_iconst (v := 4) hx hb dM_shareFor_105 (by decide) ?_
            refine lv_imul hx hb dM_shareFor_106 ?_
            refine lv_bipush (v := 100) hx hb dM_shareFor_107 (by decide) ?_
            refine lv_idiv hx hb dM_shareFor_109 (by decide) ?_
            refine lv_iload hx hb dM_shareFor_110 (lv_at hl 1 rfl) ?_
            refine lv_iconst (v := 3) hx hb dM_shareFor_112 (by decide) ?_
            refine lv_imul hx hb dM_shareFor_113 ?_
            refine lv_bipush (v := 100) hx hb dM_shareFor_114 (by decide) ?_
            refine lv_idiv hx hb dM_shareFor_116 (by decide) ?_
            refine lv_iadd hx hb dM_shareFor_117 ?_
            refine lv_iload hx hb dM_shareFor_118 (lv_at hl 0 rfl) ?_
            refine lv_bipush (v := 100) hx hb dM_shareFor_120 (by decide) ?_
            refine lv_idiv hx hb dM_shareFor_122 (by decide) ?_
            refine lv_iadd hx hb dM_shareFor_123 ?_
            refine lv_istore (lv' := [(7, .int ((((50000 * 4) / 100) + ((150000 * 3) / 100)) + ((((sA 11 p0.toNatClampNeg) - 50000) - 150000) / 100))), (6, .int (((sA 11 p0.toNatClampNeg) - 50000) - 150000)), (5, .int 150000), (4, .int 50000), (3, .int ((2000 + ((sA 12 p0.toNatClampNeg) / 365)) - (sA 8 p0.toNatClampNeg))), (2, .int (sA 11 p0.toNatClampNeg)), (0, .ref (ad 5)), (1, .int p0)]) hx hb dM_shareFor_124 hl (by decide) rfl (fun ls hl => ?_)
            refine lv_iload hx hb dM_shareFor_126 (lv_at hl 0 rfl) ?_
            refine lv_sipush (v := 12500) hx hb dM_shareFor_128 (by decide) ?_
            refine lv_icmp_le (tgt := 140) hx hb dM_shareFor_131 (by decide) (fun c_6 => ?_) (fun c_6 => ?_)
            · refine lv_iload hx hb dM_shareFor_140 (lv_at hl 0 rfl) ?_
              exact W.iret (v := (((50000 * 4) / 100) + ((150000 * 3) / 100)) + ((((sA 11 p0.toNatClampNeg) - 50000) - 150000) / 100)) hx hb hr (fun t ht hW => ⟨_, rfl, (by rw [fM_shareFor, if_neg c_1, if_neg c_2, if_pos c_3, if_pos c_4, if_pos c_5, if_pos c_6] <;> rfl), ht⟩) (fun q h => nomatch h) dM_shareFor_142
            · refine lv_sipush (v := 12500) hx hb dM_shareFor_134 (by decide) ?_
              refine lv_goto (tgt := 142) hx hb dM_shareFor_137 (by decide) ?_
              exact W.iret (v := 12500) hx hb hr (fun t ht hW => ⟨_, rfl, (by rw [fM_shareFor, if_neg c_1, if_neg c_2, if_pos c_3, if_pos c_4, if_pos c_5, if_neg c_6] <;> rfl), ht⟩) (fun q h => nomatch h) dM_shareFor_142
          · refine lv_iload_n hx hb dM_shareFor_83 rfl (lv_at hl 2 rfl) ?_
            refine lv_iload hx hb dM_shareFor_84 (lv_at hl 0 rfl) ?_
            refine lv_isub hx hb dM_shareFor_86 ?_
            refine lv_goto (tgt := 92) hx hb dM_shareFor_87 (by decide) ?_
            refine lv_istore (lv' := [(5, .int ((sA 11 p0.toNatClampNeg) - 50000)), (4, .int 50000), (3, .int ((2000 + ((sA 12 p0.toNatClampNeg) / 365)) - (sA 8 p0.toNatClampNeg))), (2, .int (sA 11 p0.toNatClampNeg)), (0, .ref (ad 5)), (1, .int p0)]) hx hb dM_shareFor_92 hl (by decide) rfl (fun ls hl => ?_)
            refine lv_iload_n hx hb dM_shareFor_94 rfl (lv_at hl 3 rfl) ?_
            refine lv_iload hx hb dM_shareFor_95 (lv_at hl 1 rfl) ?_
            refine lv_isub hx hb dM_shareFor_97 ?_
            refine lv_iload hx hb dM_shareFor_98 (lv_at hl 0 rfl) ?_
            refine lv_isub hx hb dM_shareFor_100 ?_
            refine lv_istore (lv' := [(6, .int (((sA 11 p0.toNatClampNeg) - 50000) - ((sA 11 p0.toNatClampNeg) - 50000))), (5, .int ((sA 11 p0.toNatClampNeg) - 50000)), (4, .int 50000), (3, .int ((2000 + ((sA 12 p0.toNatClampNeg) / 365)) - (sA 8 p0.toNatClampNeg))), (2, .int (sA 11 p0.toNatClampNeg)), (0, .ref (ad 5)), (1, .int p0)]) hx hb dM_shareFor_101 hl (by decide) rfl (fun ls hl => ?_)
            refine lv_iload hx hb dM_shareFor_103 (lv_at hl 2 rfl) ?_
            refine lv_iconst (v := 4) hx hb dM_shareFor_105 (by decide) ?_
            refine lv_imul hx hb dM_shareFor_106 ?_
            refine lv_bipush (v := 100) hx hb dM_shareFor_107 (by decide) ?_
            refine lv_idiv hx hb dM_shareFor_109 (by decide) ?_
            refine lv_iload hx hb dM_shareFor_110 (lv_at hl 1 rfl) ?_
            refine lv_iconst (v := 3) hx hb dM_shareFor_112 (by decide) ?_
            refine lv_imul hx hb dM_shareFor_113 ?_
            refine lv_bipush (v := 100) hx hb dM_shareFor_114 (by decide) ?_
            refine lv_idiv hx hb dM_shareFor_116 (by decide) ?_
            refine lv_iadd hx hb dM_shareFor_117 ?_
            refine lv_iload hx hb dM_shareFor_118 (lv_at hl 0 rfl) ?_
            refine lv_bipush (v := 100) hx hb dM_shareFor_120 (by decide) ?_
            refine lv_idiv hx hb dM_shareFor_122 (by decide) ?_
            refine lv_iadd hx hb dM_shareFor_123 ?_
            refine lv_istore (lv' := [(7, .int ((((50000 * 4) / 100) + ((((sA 11 p0.toNatClampNeg) - 50000) * 3) / 100)) + ((((sA 11 p0.toNatClampNeg) - 50000) - ((sA 11 p0.toNatClampNeg) - 50000)) / 100))), (6, .int (((sA 11 p0.toNatClampNeg) - 50000) - ((sA 11 p0.toNatClampNeg) - 50000))), (5, .int ((sA 11 p0.toNatClampNeg) - 50000)), (4, .int 50000), (3, .int ((2000 + ((sA 12 p0.toNatClampNeg) / 365)) - (sA 8 p0.toNatClampNeg))), (2, .int (sA 11 p0.toNatClampNeg)), (0, .ref (ad 5)), (1, .int p0)]) hx hb dM_shareFor_124 hl (by decide) rfl (fun ls hl => ?_)
            refine lv_iload hx hb dM_shareFor_126 (lv_at hl 0 rfl) ?_
            refine lv_sipush (v := 12500) hx hb dM_shareFor_128 (by decide) ?_
            refine lv_icmp_le (tgt := 140) hx hb dM_shareFor_131 (by decide) (fun c_7 => ?_) (fun c_7 => ?_)
            · refine lv_iload hx hb dM_shareFor_140 (lv_at hl 0 rfl) ?_
              exact W.iret (v := (((50000 * 4) / 100) + ((((sA 11 p0.toNatClampNeg) - 50000) * 3) / 100)) + ((((sA 11 p0.toNatClampNeg) - 50000) - ((sA 11 p0.toNatClampNeg) - 50000)) / 100)) hx hb hr (fun t ht hW => ⟨_, rfl, (by rw [fM_shareFor, if_neg c_1, if_neg c_2, if_pos c_3, if_pos c_4, if_neg c_5, if_pos c_7] <;> rfl), ht⟩) (fun q h => nomatch h) dM_shareFor_142
            · refine lv_sipush (v := 12500) hx hb dM_shareFor_134 (by decide) ?_
              refine lv_goto (tgt := 142) hx hb dM_shareFor_137 (by decide) ?_
              exact W.iret (v := 12500) hx hb hr (fun t ht hW => ⟨_, rfl, (by rw [fM_shareFor, if_neg c_1, if_neg c_2, if_pos c_3, if_pos c_4, if_neg c_5, if_neg c_7] <;> rfl), ht⟩) (fun q h => nomatch h) dM_shareFor_142
        · refine lv_iload_n hx hb dM_shareFor_69 rfl (lv_at hl 1 rfl) ?_
          refine lv_goto (tgt := 75) hx hb dM_shareFor_70 (by decide) ?_
          refine lv_istore (lv' := [(4, .int (sA 11 p0.toNatClampNeg)), (3, .int ((2000 + ((sA 12 p0.toNatClampNeg) / 365)) - (sA 8 p0.toNatClampNeg))), (2, .int (sA 11 p0.toNatClampNeg)), (0, .ref (ad 5)), (1, .int p0)]) hx hb dM_shareFor_75 hl (by decide) rfl (fun ls hl => ?_)
          refine lv_iload_n hx hb dM_shareFor_77 rfl (lv_at hl 2 rfl) ?_
          refine lv_ldc (v := 200000) hx hb hown (hts _ q_678) dM_shareFor_78 ?_
          refine lv_icmp_ge (tgt := 90) hx hb dM_shareFor_80 (by decide) (fun c_8 => ?_) (fun c_8 => ?_)
          · refine lv_ldc (v := 150000) hx hb hown (hts _ q_679) dM_shareFor_90 ?_
            refine lv_istore (lv' := [(5, .int 150000), (4, .int (sA 11 p0.toNatClampNeg)), (3, .int ((2000 + ((sA 12 p0.toNatClampNeg) / 365)) - (sA 8 p0.toNatClampNeg))), (2, .int (sA 11 p0.toNatClampNeg)), (0, .ref (ad 5)), (1, .int p0)]) hx hb dM_shareFor_92 hl (by decide) rfl (fun ls hl => ?_)
            refine lv_iload_n hx hb dM_shareFor_94 rfl (lv_at hl 3 rfl) ?_
            refine lv_iload hx hb dM_shareFor_95 (lv_at hl 1 rfl) ?_
            refine lv_isub hx hb dM_shareFor_97 ?_
            refine lv_iload hx hb dM_shareFor_98 (lv_at hl 0 rfl) ?_
            refine lv_isub hx hb dM_shareFor_100 ?_
            refine lv_istore (lv' := [(6, .int (((sA 11 p0.toNatClampNeg) - (sA 11 p0.toNatClampNeg)) - 150000)), (5, .int 150000), (4, .int (sA 11 p0.toNatClampNeg)), (3, .int ((2000 + ((sA 12 p0.toNatClampNeg) / 365)) - (sA 8 p0.toNatClampNeg))), (2, .int (sA 11 p0.toNatClampNeg)), (0, .ref (ad 5)), (1, .int p0)]) hx hb dM_shareFor_101 hl (by decide) rfl (fun ls hl => ?_)
            refine lv_iload hx hb dM_shareFor_103 (lv_at hl 2 rfl) ?_
            refine lv_iconst (v := 4) hx hb dM_shareFor_105 (by decide) ?_
            refine lv_imul hx hb dM_shareFor_106 ?_
            refine lv_bipush (v := 100) hx hb dM_shareFor_107 (by decide) ?_
            refine lv_idiv hx hb dM_shareFor_109 (by decide) ?_
            refine lv_iload hx hb dM_shareFor_110 (lv_at hl 1 rfl) ?_
            refine lv_iconst (v := 3) hx hb dM_shareFor_112 (by decide) ?_
            refine lv_imul hx hb dM_shareFor_113 ?_
            refine lv_bipush (v := 100) hx hb dM_shareFor_114 (by decide) ?_
            refine lv_idiv hx hb dM_shareFor_116 (by decide) ?_
            refine lv_iadd hx hb dM_shareFor_117 ?_
            refine lv_iload hx hb dM_shareFor_118 (lv_at hl 0 rfl) ?_
            refine lv_bipush (v := 100) hx hb dM_shareFor_120 (by decide) ?_
            refine lv_idiv hx hb dM_shareFor_122 (by decide) ?_
            refine lv_iadd hx hb dM_shareFor_123 ?_
            refine lv_istore (lv' := [(7, .int (((((sA 11 p0.toNatClampNeg) * 4) / 100) + ((150000 * 3) / 100)) + ((((sA 11 p0.toNatClampNeg) - (sA 11 p0.toNatClampNeg)) - 150000) / 100))), (6, .int (((sA 11 p0.toNatClampNeg) - (sA 11 p0.toNatClampNeg)) - 150000)), (5, .int 150000), (4, .int (sA 11 p0.toNatClampNeg)), (3, .int ((2000 + ((sA 12 p0.toNatClampNeg) / 365)) - (sA 8 p0.toNatClampNeg))), (2, .int (sA 11 p0.toNatClampNeg)), (0, .ref (ad 5)), (1, .int p0)]) hx hb dM_shareFor_124 hl (by decide) rfl (fun ls hl => ?_)
            refine lv_iload hx hb dM_shareFor_126 (lv_at hl 0 rfl) ?_
            refine lv_sipush (v := 12500) hx hb dM_shareFor_128 (by decide) ?_
            refine lv_icmp_le (tgt := 140) hx hb dM_shareFor_131 (by decide) (fun c_9 => ?_) (fun c_9 => ?_)
            · refine lv_iload hx hb dM_shareFor_140 (lv_at hl 0 rfl) ?_
              exact W.iret (v := ((((sA 11 p0.toNatClampNeg) * 4) / 100) + ((150000 * 3) / 100)) + ((((sA 11 p0.toNatClampNeg) - (sA 11 p0.toNatClampNeg)) - 150000) / 100)) hx hb hr (fun t ht hW => ⟨_, rfl, (by rw [fM_shareFor, if_neg c_1, if_neg c_2, if_pos c_3, if_neg c_4, if_pos c_8, if_pos c_9] <;> rfl), ht⟩) (fun q h => nomatch h) dM_shareFor_142
            · refine lv_sipush (v := 12500) hx hb dM_shareFor_134 (by decide) ?_
              refine lv_goto (tgt := 142) hx hb dM_shareFor_137 (by decide) ?_
              exact W.iret (v := 12500) hx hb hr (fun t ht hW => ⟨_, rfl, (by rw [fM_shareFor, if_neg c_1, if_neg c_2, if_pos c_3, if_neg c_4, if_pos c_8, if_neg c_9] <;> rfl), ht⟩) (fun q h => nomatch h) dM_shareFor_142
          · refine lv_iload_n hx hb dM_shareFor_83 rfl (lv_at hl 2 rfl) ?_
            refine lv_iload hx hb dM_shareFor_84 (lv_at hl 0 rfl) ?_
            refine lv_isub hx hb dM_shareFor_86 ?_
            refine lv_goto (tgt := 92) hx hb dM_shareFor_87 (by decide) ?_
            refine lv_istore (lv' := [(5, .int ((sA 11 p0.toNatClampNeg) - (sA 11 p0.toNatClampNeg))), (4, .int (sA 11 p0.toNatClampNeg)), (3, .int ((2000 + ((sA 12 p0.toNatClampNeg) / 365)) - (sA 8 p0.toNatClampNeg))), (2, .int (sA 11 p0.toNatClampNeg)), (0, .ref (ad 5)), (1, .int p0)]) hx hb dM_shareFor_92 hl (by decide) rfl (fun ls hl => ?_)
            refine lv_iload_n hx hb dM_shareFor_94 rfl (lv_at hl 3 rfl) ?_
            refine lv_iload hx hb dM_shareFor_95 (lv_at hl 1 rfl) ?_
            refine lv_isub hx hb dM_shareFor_97 ?_
            refine lv_iload hx hb dM_shareFor_98 (lv_at hl 0 rfl) ?_
            refine lv_isub hx hb dM_shareFor_100 ?_
            refine lv_istore (lv' := [(6, .int (((sA 11 p0.toNatClampNeg) - (sA 11 p0.toNatClampNeg)) - ((sA 11 p0.toNatClampNeg) - (sA 11 p0.toNatClampNeg)))), (5, .int ((sA 11 p0.toNatClampNeg) - (sA 11 p0.toNatClampNeg))), (4, .int (sA 11 p0.toNatClampNeg)), (3, .int ((2000 + ((sA 12 p0.toNatClampNeg) / 365)) - (sA 8 p0.toNatClampNeg))), (2, .int (sA 11 p0.toNatClampNeg)), (0, .ref (ad 5)), (1, .int p0)]) hx hb dM_shareFor_101 hl (by decide) rfl (fun ls hl => ?_)
            refine lv_iload hx hb dM_shareFor_103 (lv_at hl 2 rfl) ?_
            refine lv_iconst (v := 4) hx hb dM_shareFor_105 (by decide) ?_
            refine lv_imul hx hb dM_shareFor_106 ?_
            refine lv_bipush (v := 100) hx hb dM_shareFor_107 (by decide) ?_
            refine lv_idiv hx hb dM_shareFor_109 (by decide) ?_
            refine lv_iload hx hb dM_shareFor_110 (lv_at hl 1 rfl) ?_
            refine lv_iconst (v := 3) hx hb dM_shareFor_112 (by decide) ?_
            refine lv_imul hx hb dM_shareFor_113 ?_
            refine lv_bipush (v := 100) hx hb dM_shareFor_114 (by decide) ?_
            refine lv_idiv hx hb dM_shareFor_116 (by decide) ?_
            refine lv_iadd hx hb dM_shareFor_117 ?_
            refine lv_iload hx hb dM_shareFor_118 (lv_at hl 0 rfl) ?_
            refine lv_bipush (v := 100) hx hb dM_shareFor_120 (by decide) ?_
            refine lv_idiv hx hb dM_shareFor_122 (by decide) ?_
            refine lv_iadd hx hb dM_shareFor_123 ?_
            refine lv_istore (lv' := [(7, .int (((((sA 11 p0.toNatClampNeg) * 4) / 100) + ((((sA 11 p0.toNatClampNeg) - (sA 11 p0.toNatClampNeg)) * 3) / 100)) + ((((sA 11 p0.toNatClampNeg) - (sA 11 p0.toNatClampNeg)) - ((sA 11 p0.toNatClampNeg) - (sA 11 p0.toNatClampNeg))) / 100))), (6, .int (((sA 11 p0.toNatClampNeg) - (sA 11 p0.toNatClampNeg)) - ((sA 11 p0.toNatClampNeg) - (sA 11 p0.toNatClampNeg)))), (5, .int ((sA 11 p0.toNatClampNeg) - (sA 11 p0.toNatClampNeg))), (4, .int (sA 11 p0.toNatClampNeg)), (3, .int ((2000 + ((sA 12 p0.toNatClampNeg) / 365)) - (sA 8 p0.toNatClampNeg))), (2, .int (sA 11 p0.toNatClampNeg)), (0, .ref (ad 5)), (1, .int p0)]) hx hb dM_shareFor_124 hl (by decide) rfl (fun ls hl => ?_)
            refine lv_iload hx hb dM_shareFor_126 (lv_at hl 0 rfl) ?_
            refine lv_sipush (v := 12500) hx hb dM_shareFor_128 (by decide) ?_
            refine lv_icmp_le (tgt := 140) hx hb dM_shareFor_131 (by decide) (fun c_10 => ?_) (fun c_10 => ?_)
            · refine lv_iload hx hb dM_shareFor_140 (lv_at hl 0 rfl) ?_
              exact W.iret (v := ((((sA 11 p0.toNatClampNeg) * 4) / 100) + ((((sA 11 p0.toNatClampNeg) - (sA 11 p0.toNatClampNeg)) * 3) / 100)) + ((((sA 11 p0.toNatClampNeg) - (sA 11 p0.toNatClampNeg)) - ((sA 11 p0.toNatClampNeg) - (sA 11 p0.toNatClampNeg))) / 100)) hx hb hr (fun t ht hW => ⟨_, rfl, (by rw [fM_shareFor, if_neg c_1, if_neg c_2, if_pos c_3, if_neg c_4, if_neg c_8, if_pos c_10] <;> rfl), ht⟩) (fun q h => nomatch h) dM_shareFor_142
            · refine lv_sipush (v := 12500) hx hb dM_shareFor_134 (by decide) ?_
              refine lv_goto (tgt := 142) hx hb dM_shareFor_137 (by decide) ?_
              exact W.iret (v := 12500) hx hb hr (fun t ht hW => ⟨_, rfl, (by rw [fM_shareFor, if_neg c_1, if_neg c_2, if_pos c_3, if_neg c_4, if_neg c_8, if_neg c_10] <;> rfl), ht⟩) (fun q h => nomatch h) dM_shareFor_142
      · refine lv_iload_n hx hb dM_shareFor_55 rfl (lv_at hl 0 rfl) ?_
        refine lv_bipush (v := 70) hx hb dM_shareFor_56 (by decide) ?_
        refine lv_icmp_le (tgt := 63) hx hb dM_shareFor_58 (by decide) (fun c_11 => ?_) (fun c_11 => ?_)
        · refine lv_iload_n hx hb dM_shareFor_63 rfl (lv_at hl 1 rfl) ?_
          refine lv_ldc (v := 50000) hx hb hown (hts _ q_651) dM_shareFor_64 ?_
          refine lv_icmp_ge (tgt := 73) hx hb dM_shareFor_66 (by decide) (fun c_12 => ?_) (fun c_12 => ?_)
          · refine lv_ldc (v := 50000) hx hb hown (hts _ q_651) dM_shareFor_73 ?_
            refine lv_istore (lv' := [(4, .int 50000), (3, .int ((2000 + ((sA 12 p0.toNatClampNeg) / 365)) - (sA 8 p0.toNatClampNeg))), (2, .int (sA 11 p0.toNatClampNeg)), (0, .ref (ad 5)), (1, .int p0)]) hx hb dM_shareFor_75 hl (by decide) rfl (fun ls hl => ?_)
            refine lv_iload_n hx hb dM_shareFor_77 rfl (lv_at hl 2 rfl) ?_
            refine lv_ldc (v := 200000) hx hb hown (hts _ q_678) dM_shareFor_78 ?_
            refine lv_icmp_ge (tgt := 90) hx hb dM_shareFor_80 (by decide) (fun c_13 => ?_) (fun c_13 => ?_)
            · refine lv_ldc (v := 150000) hx hb hown (hts _ q_679) dM_shareFor_90 ?_
              refine lv_istore (lv' := [(5, .int 150000), (4, .int 50000), (3, .int ((2000 + ((sA 12 p0.toNatClampNeg) / 365)) - (sA 8 p0.toNatClampNeg))), (2, .int (sA 11 p0.toNatClampNeg)), (0, .ref (ad 5)), (1, .int p0)]) hx hb dM_shareFor_92 hl (by decide) rfl (fun ls hl => ?_)
              refine lv_iload_n hx hb dM_shareFor_94 rfl (lv_at hl 3 rfl) ?_
              refine lv_iload hx hb dM_shareFor_95 (lv_at hl 1 rfl) ?_
              refine lv_isub hx hb dM_shareFor_97 ?_
              refine lv_iload hx hb dM_shareFor_98 (lv_at hl 0 rfl) ?_
              refine lv_isub hx hb dM_shareFor_100 ?_
              refine lv_istore (lv' := [(6, .int (((sA 11 p0.toNatClampNeg) - 50000) - 150000)), (5, .int 150000), (4, .int 50000), (3, .int ((2000 + ((sA 12 p0.toNatClampNeg) / 365)) - (sA 8 p0.toNatClampNeg))), (2, .int (sA 11 p0.toNatClampNeg)), (0, .ref (ad 5)), (1, .int p0)]) hx hb dM_shareFor_101 hl (by decide) rfl (fun ls hl => ?_)
              refine lv_iload hx hb dM_shareFor_103 (lv_at hl 2 rfl) ?_
              refine lv_iconst (v := 4) hx hb dM_shareFor_105 (by decide) ?_
              refine lv_imul hx hb dM_shareFor_106 ?_
              refine lv_bipush (v := 100) hx hb dM_shareFor_107 (by decide) ?_
              refine lv_idiv hx hb dM_shareFor_109 (by decide) ?_
              refine lv_iload hx hb dM_shareFor_110 (lv_at hl 1 rfl) ?_
              refine lv_iconst (v := 3) hx hb dM_shareFor_112 (by decide) ?_
              refine lv_imul hx hb dM_shareFor_113 ?_
              refine lv_bipush (v := 100) hx hb dM_shareFor_114 (by decide) ?_
              refine lv_idiv hx hb dM_shareFor_116 (by decide) ?_
              refine lv_iadd hx hb dM_shareFor_117 ?_
              refine lv_iload hx hb dM_shareFor_118 (lv_at hl 0 rfl) ?_
              refine lv_bipush (v := 100) hx hb dM_shareFor_120 (by decide) ?_
              refine lv_idiv hx hb dM_shareFor_122 (by decide) ?_
              refine lv_iadd hx hb dM_shareFor_123 ?_
              refine lv_istore (lv' := [(7, .int ((((50000 * 4) / 100) + ((150000 * 3) / 100)) + ((((sA 11 p0.toNatClampNeg) - 50000) - 150000) / 100))), (6, .int (((sA 11 p0.toNatClampNeg) - 50000) - 150000)), (5, .int 150000), (4, .int 50000), (3, .int ((2000 + ((sA 12 p0.toNatClampNeg) / 365)) - (sA 8 p0.toNatClampNeg))), (2, .int (sA 11 p0.toNatClampNeg)), (0, .ref (ad 5)), (1, .int p0)]) hx hb dM_shareFor_124 hl (by decide) rfl (fun ls hl => ?_)
              refine lv_iload hx hb dM_shareFor_126 (lv_at hl 0 rfl) ?_
              refine lv_sipush (v := 12500) hx hb dM_shareFor_128 (by decide) ?_
              refine lv_icmp_le (tgt := 140) hx hb dM_shareFor_131 (by decide) (fun c_14 => ?_) (fun c_14 => ?_)
              · refine lv_iload hx hb dM_shareFor_140 (lv_at hl 0 rfl) ?_
                exact W.iret (v := (((50000 * 4) / 100) + ((150000 * 3) / 100)) + ((((sA 11 p0.toNatClampNeg) - 50000) - 150000) / 100)) hx hb hr (fun t ht hW => ⟨_, rfl, (by rw [fM_shareFor, if_neg c_1, if_neg c_2, if_neg c_3, if_pos c_11, if_pos c_12, if_pos c_13, if_pos c_14] <;> rfl), ht⟩) (fun q h => nomatch h) dM_shareFor_142
              · refine lv_sipush (v := 12500) hx hb dM_shareFor_134 (by decide) ?_
                refine lv_goto (tgt := 142) hx hb dM_shareFor_137 (by decide) ?_
                exact W.iret (v := 12500) hx hb hr (fun t ht hW => ⟨_, rfl, (by rw [fM_shareFor, if_neg c_1, if_neg c_2, if_neg c_3, if_pos c_11, if_pos c_12, if_pos c_13, if_neg c_14] <;> rfl), ht⟩) (fun q h => nomatch h) dM_shareFor_142
            · refine lv_iload_n hx hb dM_shareFor_83 rfl (lv_at hl 2 rfl) ?_
              refine lv_iload hx hb dM_shareFor_84 (lv_at hl 0 rfl) ?_
              refine lv_isub hx hb dM_shareFor_86 ?_
              refine lv_goto (tgt := 92) hx hb dM_shareFor_87 (by decide) ?_
              refine lv_istore (lv' := [(5, .int ((sA 11 p0.toNatClampNeg) - 50000)), (4, .int 50000), (3, .int ((2000 + ((sA 12 p0.toNatClampNeg) / 365)) - (sA 8 p0.toNatClampNeg))), (2, .int (sA 11 p0.toNatClampNeg)), (0, .ref (ad 5)), (1, .int p0)]) hx hb dM_shareFor_92 hl (by decide) rfl (fun ls hl => ?_)
              refine lv_iload_n hx hb dM_shareFor_94 rfl (lv_at hl 3 rfl) ?_
              refine lv_iload hx hb dM_shareFor_95 (lv_at hl 1 rfl) ?_
              refine lv_isub hx hb dM_shareFor_97 ?_
              refine lv_iload hx hb dM_shareFor_98 (lv_at hl 0 rfl) ?_
              refine lv_isub hx hb dM_shareFor_100 ?_
              refine lv_istore (lv' := [(6, .int (((sA 11 p0.toNatClampNeg) - 50000) - ((sA 11 p0.toNatClampNeg) - 50000))), (5, .int ((sA 11 p0.toNatClampNeg) - 50000)), (4, .int 50000), (3, .int ((2000 + ((sA 12 p0.toNatClampNeg) / 365)) - (sA 8 p0.toNatClampNeg))), (2, .int (sA 11 p0.toNatClampNeg)), (0, .ref (ad 5)), (1, .int p0)]) hx hb dM_shareFor_101 hl (by decide) rfl (fun ls hl => ?_)
              refine lv_iload hx hb dM_shareFor_103 (lv_at hl 2 rfl) ?_
              refine lv_iconst (v := 4) hx hb dM_shareFor_105 (by decide) ?_
              refine lv_imul hx hb dM_shareFor_106 ?_
              refine lv_bipush (v := 100) hx hb dM_shareFor_107 (by decide) ?_
              refine lv_idiv hx hb dM_shareFor_109 (by decide) ?_
              refine lv_iload hx hb dM_shareFor_110 (lv_at hl 1 rfl) ?_
              refine lv_iconst (v := 3) hx hb dM_shareFor_112 (by decide) ?_
              refine lv_imul hx hb dM_shareFor_113 ?_
              refine lv_bipush (v := 100) hx hb dM_shareFor_114 (by decide) ?_
              refine lv_idiv hx hb dM_shareFor_116 (by decide) ?_
              refine lv_iadd hx hb dM_shareFor_117 ?_
              refine lv_iload hx hb dM_shareFor_118 (lv_at hl 0 rfl) ?_
              refine lv_bipush (v := 100) hx hb dM_shareFor_120 (by decide) ?_
              refine lv_idiv hx hb dM_shareFor_122 (by decide) ?_
              refine lv_iadd hx hb dM_shareFor_123 ?_
              refine lv_istore (lv' := [(7, .int ((((50000 * 4) / 100) + ((((sA 11 p0.toNatClampNeg) - 50000) * 3) / 100)) + ((((sA 11 p0.toNatClampNeg) - 50000) - ((sA 11 p0.toNatClampNeg) - 50000)) / 100))), (6, .int (((sA 11 p0.toNatClampNeg) - 50000) - ((sA 11 p0.toNatClampNeg) - 50000))), (5, .int ((sA 11 p0.toNatClampNeg) - 50000)), (4, .int 50000), (3, .int ((2000 + ((sA 12 p0.toNatClampNeg) / 365)) - (sA 8 p0.toNatClampNeg))), (2, .int (sA 11 p0.toNatClampNeg)), (0, .ref (ad 5)), (1, .int p0)]) hx hb dM_shareFor_124 hl (by decide) rfl (fun ls hl => ?_)
              refine lv_iload hx hb dM_shareFor_126 (lv_at hl 0 rfl) ?_
              refine lv_sipush (v := 12500) hx hb dM_shareFor_128 (by decide) ?_
              refine lv_icmp_le (tgt := 140) hx hb dM_shareFor_131 (by decide) (fun c_15 => ?_) (fun c_15 => ?_)
              · refine lv_iload hx hb dM_shareFor_140 (lv_at hl 0 rfl) ?_
                exact W.iret (v := (((50000 * 4) / 100) + ((((sA 11 p0.toNatClampNeg) - 50000) * 3) / 100)) + ((((sA 11 p0.toNatClampNeg) - 50000) - ((sA 11 p0.toNatClampNeg) - 50000)) / 100)) hx hb hr (fun t ht hW => ⟨_, rfl, (by rw [fM_shareFor, if_neg c_1, if_neg c_2, if_neg c_3, if_pos c_11, if_pos c_12, if_neg c_13, if_pos c_15] <;> rfl), ht⟩) (fun q h => nomatch h) dM_shareFor_142
              · refine lv_sipush (v := 12500) hx hb dM_shareFor_134 (by decide) ?_
                refine lv_goto (tgt := 142) hx hb dM_shareFor_137 (by decide) ?_
                exact W.iret (v := 12500) hx hb hr (fun t ht hW => ⟨_, rfl, (by rw [fM_shareFor, if_neg c_1, if_neg c_2, if_neg c_3, if_pos c_11, if_pos c_12, if_neg c_13, if_neg c_15] <;> rfl), ht⟩) (fun q h => nomatch h) dM_shareFor_142
          · refine lv_iload_n hx hb dM_shareFor_69 rfl (lv_at hl 1 rfl) ?_
            refine lv_goto (tgt := 75) hx hb dM_shareFor_70 (by decide) ?_
            refine lv_istore (lv' := [(4, .int (sA 11 p0.toNatClampNeg)), (3, .int ((2000 + ((sA 12 p0.toNatClampNeg) / 365)) - (sA 8 p0.toNatClampNeg))), (2, .int (sA 11 p0.toNatClampNeg)), (0, .ref (ad 5)), (1, .int p0)]) hx hb dM_shareFor_75 hl (by decide) rfl (fun ls hl => ?_)
            refine lv_iload_n hx hb dM_shareFor_77 rfl (lv_at hl 2 rfl) ?_
            refine lv_ldc (v := 200000) hx hb hown (hts _ q_678) dM_shareFor_78 ?_
            refine lv_icmp_ge (tgt := 90) hx hb dM_shareFor_80 (by decide) (fun c_16 => ?_) (fun c_16 => ?_)
            · refine lv_ldc (v := 150000) hx hb hown (hts _ q_679) dM_shareFor_90 ?_
              refine lv_istore (lv' := [(5, .int 150000), (4, .int (sA 11 p0.toNatClampNeg)), (3, .int ((2000 + ((sA 12 p0.toNatClampNeg) / 365)) - (sA 8 p0.toNatClampNeg))), (2, .int (sA 11 p0.toNatClampNeg)), (0, .ref (ad 5)), (1, .int p0)]) hx hb dM_shareFor_92 hl (by decide) rfl (fun ls hl => ?_)
              refine lv_iload_n hx hb dM_shareFor_94 rfl (lv_at hl 3 rfl) ?_
              refine lv_iload hx hb dM_shareFor_95 (lv_at hl 1 rfl) ?_
              refine lv_isub hx hb dM_shareFor_97 ?_
              refine lv_iload hx hb dM_shareFor_98 (lv_at hl 0 rfl) ?_
              refine lv_isub hx hb dM_shareFor_100 ?_
              refine lv_istore (lv' := [(6, .int (((sA 11 p0.toNatClampNeg) - (sA 11 p0.toNatClampNeg)) - 150000)), (5, .int 150000), (4, .int (sA 11 p0.toNatClampNeg)), (3, .int ((2000 + ((sA 12 p0.toNatClampNeg) / 365)) - (sA 8 p0.toNatClampNeg))), (2, .int (sA 11 p0.toNatClampNeg)), (0, .ref (ad 5)), (1, .int p0)]) hx hb dM_shareFor_101 hl (by decide) rfl (fun ls hl => ?_)
              refine lv_iload hx hb dM_shareFor_103 (lv_at hl 2 rfl) ?_
              refine lv_iconst (v := 4) hx hb dM_shareFor_105 (by decide) ?_
              refine lv_imul hx hb dM_shareFor_106 ?_
              refine lv_bipush (v := 100) hx hb dM_shareFor_107 (by decide) ?_
              refine lv_idiv hx hb dM_shareFor_109 (by decide) ?_
              refine lv_iload hx hb dM_shareFor_110 (lv_at hl 1 rfl) ?_
              refine lv_iconst (v := 3) hx hb dM_shareFor_112 (by decide) ?_
              refine lv_imul hx hb dM_shareFor_113 ?_
              refine lv_bipush (v := 100) hx hb dM_shareFor_114 (by decide) ?_
              refine lv_idiv hx hb dM_shareFor_116 (by decide) ?_
              refine lv_iadd hx hb dM_shareFor_117 ?_
              refine lv_iload hx hb dM_shareFor_118 (lv_at hl 0 rfl) ?_
              refine lv_bipush (v := 100) hx hb dM_shareFor_120 (by decide) ?_
              refine lv_idiv hx hb dM_shareFor_122 (by decide) ?_
              refine lv_iadd hx hb dM_shareFor_123 ?_
              refine lv_istore (lv' := [(7, .int (((((sA 11 p0.toNatClampNeg) * 4) / 100) + ((150000 * 3) / 100)) + ((((sA 11 p0.toNatClampNeg) - (sA 11 p0.toNatClampNeg)) - 150000) / 100))), (6, .int (((sA 11 p0.toNatClampNeg) - (sA 11 p0.toNatClampNeg)) - 150000)), (5, .int 150000), (4, .int (sA 11 p0.toNatClampNeg)), (3, .int ((2000 + ((sA 12 p0.toNatClampNeg) / 365)) - (sA 8 p0.toNatClampNeg))), (2, .int (sA 11 p0.toNatClampNeg)), (0, .ref (ad 5)), (1, .int p0)]) hx hb dM_shareFor_124 hl (by decide) rfl (fun ls hl => ?_)
              refine lv_iload hx hb dM_shareFor_126 (lv_at hl 0 rfl) ?_
              refine lv_sipush (v := 12500) hx hb dM_shareFor_128 (by decide) ?_
              refine lv_icmp_le (tgt := 140) hx hb dM_shareFor_131 (by decide) (fun c_17 => ?_) (fun c_17 => ?_)
              · refine lv_iload hx hb dM_shareFor_140 (lv_at hl 0 rfl) ?_
                exact W.iret (v := ((((sA 11 p0.toNatClampNeg) * 4) / 100) + ((150000 * 3) / 100)) + ((((sA 11 p0.toNatClampNeg) - (sA 11 p0.toNatClampNeg)) - 150000) / 100)) hx hb hr (fun t ht hW => ⟨_, rfl, (by rw [fM_shareFor, if_neg c_1, if_neg c_2, if_neg c_3, if_pos c_11, if_neg c_12, if_pos c_16, if_pos c_17] <;> rfl), ht⟩) (fun q h => nomatch h) dM_shareFor_142
              · refine lv_sipush (v := 12500) hx hb dM_shareFor_134 (by decide) ?_
                refine lv_goto (tgt := 142) hx hb dM_shareFor_137 (by decide) ?_
                exact W.iret (v := 12500) hx hb hr (fun t ht hW => ⟨_, rfl, (by rw [fM_shareFor, if_neg c_1, if_neg c_2, if_neg c_3, if_pos c_11, if_neg c_12, if_pos c_16, if_neg c_17] <;> rfl), ht⟩) (fun q h => nomatch h) dM_shareFor_142
            · refine lv_iload_n hx hb dM_shareFor_83 rfl (lv_at hl 2 rfl) ?_
              refine lv_iload hx hb dM_shareFor_84 (lv_at hl 0 rfl) ?_
              refine lv_isub hx hb dM_shareFor_86 ?_
              refine lv_goto (tgt := 92) hx hb dM_shareFor_87 (by decide) ?_
              refine lv_istore (lv' := [(5, .int ((sA 11 p0.toNatClampNeg) - (sA 11 p0.toNatClampNeg))), (4, .int (sA 11 p0.toNatClampNeg)), (3, .int ((2000 + ((sA 12 p0.toNatClampNeg) / 365)) - (sA 8 p0.toNatClampNeg))), (2, .int (sA 11 p0.toNatClampNeg)), (0, .ref (ad 5)), (1, .int p0)]) hx hb dM_shareFor_92 hl (by decide) rfl (fun ls hl => ?_)
              refine lv_iload_n hx hb dM_shareFor_94 rfl (lv_at hl 3 rfl) ?_
              refine lv_iload hx hb dM_shareFor_95 (lv_at hl 1 rfl) ?_
              refine lv_isub hx hb dM_shareFor_97 ?_
              refine lv_iload hx hb dM_shareFor_98 (lv_at hl 0 rfl) ?_
              refine lv_isub hx hb dM_shareFor_100 ?_
              refine lv_istore (lv' := [(6, .int (((sA 11 p0.toNatClampNeg) - (sA 11 p0.toNatClampNeg)) - ((sA 11 p0.toNatClampNeg) - (sA 11 p0.toNatClampNeg)))), (5, .int ((sA 11 p0.toNatClampNeg) - (sA 11 p0.toNatClampNeg))), (4, .int (sA 11 p0.toNatClampNeg)), (3, .int ((2000 + ((sA 12 p0.toNatClampNeg) / 365)) - (sA 8 p0.toNatClampNeg))), (2, .int (sA 11 p0.toNatClampNeg)), (0, .ref (ad 5)), (1, .int p0)]) hx hb dM_shareFor_101 hl (by decide) rfl (fun ls hl => ?_)
              refine lv_iload hx hb dM_shareFor_103 (lv_at hl 2 rfl) ?_
              refine lv_iconst (v := 4) hx hb dM_shareFor_105 (by decide) ?_
              refine lv_imul hx hb dM_shareFor_106 ?_
              refine lv_bipush (v := 100) hx hb dM_shareFor_107 (by decide) ?_
              refine lv_idiv hx hb dM_shareFor_109 (by decide) ?_
              refine lv_iload hx hb dM_shareFor_110 (lv_at hl 1 rfl) ?_
              refine lv_iconst (v := 3) hx hb dM_shareFor_112 (by decide) ?_
              refine lv_imul hx hb dM_shareFor_113 ?_
              refine lv_bipush (v := 100) hx hb dM_shareFor_114 (by decide) ?_
              refine lv_idiv hx hb dM_shareFor_116 (by decide) ?_
              refine lv_iadd hx hb dM_shareFor_117 ?_
              refine lv_iload hx hb dM_shareFor_118 (lv_at hl 0 rfl) ?_
              refine lv_bipush (v := 100) hx hb dM_shareFor_120 (by decide) ?_
              refine lv_idiv hx hb dM_shareFor_122 (by decide) ?_
              refine lv_iadd hx hb dM_shareFor_123 ?_
              refine lv_istore (lv' := [(7, .int (((((sA 11 p0.toNatClampNeg) * 4) / 100) + ((((sA 11 p0.toNatClampNeg) - (sA 11 p0.toNatClampNeg)) * 3) / 100)) + ((((sA 11 p0.toNatClampNeg) - (sA 11 p0.toNatClampNeg)) - ((sA 11 p0.toNatClampNeg) - (sA 11 p0.toNatClampNeg))) / 100))), (6, .int (((sA 11 p0.toNatClampNeg) - (sA 11 p0.toNatClampNeg)) - ((sA 11 p0.toNatClampNeg) - (sA 11 p0.toNatClampNeg)))), (5, .int ((sA 11 p0.toNatClampNeg) - (sA 11 p0.toNatClampNeg))), (4, .int (sA 11 p0.toNatClampNeg)), (3, .int ((2000 + ((sA 12 p0.toNatClampNeg) / 365)) - (sA 8 p0.toNatClampNeg))), (2, .int (sA 11 p0.toNatClampNeg)), (0, .ref (ad 5)), (1, .int p0)]) hx hb dM_shareFor_124 hl (by decide) rfl (fun ls hl => ?_)
              refine lv_iload hx hb dM_shareFor_126 (lv_at hl 0 rfl) ?_
              refine lv_sipush (v := 12500) hx hb dM_shareFor_128 (by decide) ?_
              refine lv_icmp_le (tgt := 140) hx hb dM_shareFor_131 (by decide) (fun c_18 => ?_) (fun c_18 => ?_)
              · refine lv_iload hx hb dM_shareFor_140 (lv_at hl 0 rfl) ?_
                exact W.iret (v := ((((sA 11 p0.toNatClampNeg) * 4) / 100) + ((((sA 11 p0.toNatClampNeg) - (sA 11 p0.toNatClampNeg)) * 3) / 100)) + ((((sA 11 p0.toNatClampNeg) - (sA 11 p0.toNatClampNeg)) - ((sA 11 p0.toNatClampNeg) - (sA 11 p0.toNatClampNeg))) / 100)) hx hb hr (fun t ht hW => ⟨_, rfl, (by rw [fM_shareFor, if_neg c_1, if_neg c_2, if_neg c_3, if_pos c_11, if_neg c_12, if_neg c_16, if_pos c_18] <;> rfl), ht⟩) (fun q h => nomatch h) dM_shareFor_142
              · refine lv_sipush (v := 12500) hx hb dM_shareFor_134 (by decide) ?_
                refine lv_goto (tgt := 142) hx hb dM_shareFor_137 (by decide) ?_
                exact W.iret (v := 12500) hx hb hr (fun t ht hW => ⟨_, rfl, (by rw [fM_shareFor, if_neg c_1, if_neg c_2, if_neg c_3, if_pos c_11, if_neg c_12, if_neg c_16, if_neg c_18] <;> rfl), ht⟩) (fun q h => nomatch h) dM_shareFor_142
        · refine lv_iconst (v := 0) hx hb dM_shareFor_61 (by decide) ?_
          exact W.iret (v := 0) hx hb hr (fun t ht hW => ⟨_, rfl, (by rw [fM_shareFor, if_neg c_1, if_neg c_2, if_neg c_3, if_neg c_11] <;> rfl), ht⟩) (fun q h => nomatch h) dM_shareFor_62
def fM_asksFor (sL : NL) (sA : NA) (p0 : Int32) : Int32 × NL × NA := if (fM_isLot sL sA p0) = 0 then (0, sL, (up2 sA 5 23 1)) else (1, sL, (up2 sA 5 23 0))
theorem hdyM_asksFor : yM_asksFor.cls ≠ "java/lang/invoke/MethodHandle" ∧ yM_asksFor.cls ≠ "java/lang/invoke/VarHandle" ∧ (parseMethodDescriptor yM_asksFor.desc).map (fun d => d.parameters.length) = some 1 := by decide +kernel
theorem dM_asksFor_0 : decode bM_asksFor 0 = .ok (.aload_n 0, 1) := by decide +kernel
theorem dM_asksFor_1 : decode bM_asksFor 1 = .ok (.aload_n 0, 1) := by decide +kernel
theorem dM_asksFor_2 : decode bM_asksFor 2 = .ok (.iload_n 1, 1) := by decide +kernel
theorem dM_asksFor_3 : decode bM_asksFor 3 = .ok (.invokevirtual 84, 3) := by decide +kernel
theorem dM_asksFor_6 : decode bM_asksFor 6 = .ok (.ifCond .eq 7, 3) := by decide +kernel
theorem dM_asksFor_9 : decode bM_asksFor 9 = .ok (.iconst 0, 1) := by decide +kernel
theorem dM_asksFor_10 : decode bM_asksFor 10 = .ok (.goto 4, 3) := by decide +kernel
theorem dM_asksFor_13 : decode bM_asksFor 13 = .ok (.iconst 1, 1) := by decide +kernel
theorem dM_asksFor_14 : decode bM_asksFor 14 = .ok (.putfield 62, 3) := by decide +kernel
theorem dM_asksFor_17 : decode bM_asksFor 17 = .ok (.aload_n 0, 1) := by decide +kernel
theorem dM_asksFor_18 : decode bM_asksFor 18 = .ok (.getfield 62, 3) := by decide +kernel
theorem dM_asksFor_21 : decode bM_asksFor 21 = .ok (.ifCond .ne 7, 3) := by decide +kernel
theorem dM_asksFor_24 : decode bM_asksFor 24 = .ok (.iconst 1, 1) := by decide +kernel
theorem dM_asksFor_25 : decode bM_asksFor 25 = .ok (.goto 4, 3) := by decide +kernel
theorem dM_asksFor_28 : decode bM_asksFor 28 = .ok (.iconst 0, 1) := by decide +kernel
theorem dM_asksFor_29 : decode bM_asksFor 29 = .ok (.ireturn, 1) := by decide +kernel
set_option maxHeartbeats 4000000 in
set_option maxRecDepth 100000 in
theorem cM_asksFor (l : Launch) (D : va_G) (tI tJ tL : ClassId) (A : Nat → Prop) (sg ad : Nat → Nat) (n : Nat) (sL : NL) (sA : NA) (p0 : Int32) : Met l yM_asksFor (Cond.code yM_asksFor bM_asksFor 2 (some FieldType.boolean) :: wNeed) { frames := 2, cells := 0, slots := 0, locals := 43 } (va_Pc [.ref (ad 5), .int p0] (GP D tI tJ tL A sg ad n sL sA)) (va_Qi (fun r (u : NL × NA) => fM_asksFor sL sA p0 = (r, u.1, u.2)) (fun u t => GW D tI tJ tL A ad n u.1 u.2 t.heap) A) 0 0 A := by
  refine en_G (av := [.ref (ad 5), .int p0]) (by decide) (Nat.le_of_ble_eq_true rfl) ?_
  intro p e s m below meth c hx hb hml hown hts hr hlocks hmname hC H locs hG hS ls hl
  replace hl : lv_has ls 2 [(0, .ref (ad 5)), (1, .int p0)] := hl
  refine lv_aload_n hx hb dM_asksFor_0 rfl (lv_at hl 0 rfl) ?_
  refine lv_aload_n hx hb dM_asksFor_1 rfl (lv_at hl 0 rfl) ?_
  refine lv_iload_n hx hb dM_asksFor_2 rfl (lv_at hl 1 rfl) ?_
  refine rcV2 (rest := [.ref (ad 5)]) (As := [.int p0]) hx hb hml hown hts hC hG hS (cM_isLot l D tI tJ tL A sg ad n sL sA p0) (recM hC hG) (gV q_609 q_611 q_p8 q_2 q_612) rfl rfl ⟨rfl, hdyM_isLot⟩ ⟨Nat.le_of_ble_eq_true rfl, Nat.le_of_ble_eq_true rfl⟩ hl.1 rfl (Nat.le_of_ble_eq_true rfl) dM_asksFor_3 ⟨Nat.le_of_ble_eq_true rfl, Nat.le_of_ble_eq_true rfl⟩ ?_
  refine lv_if_eq (tgt := 13) hx hb dM_asksFor_6 (by decide) (fun c_1 => ?_) (fun c_1 => ?_)
  · refine lv_iconst (v := 1) hx hb dM_asksFor_13 (by decide) ?_
    refine rm_puti hx hb hts hown hC hG hS 23 (by decide) q_533 dM_asksFor_14 (fun H locs hG hS => ?_)
    refine lv_aload_n hx hb dM_asksFor_17 rfl (lv_at hl 0 rfl) ?_
    refine rm_get (v := .int 1) hx hb hts hown hC hG 23 (by decide) q_533 (by simp [mfs, up2, upd, up2L, vp_updL]) dM_asksFor_18 ?_
    refine lv_if_ne (tgt := 28) hx hb dM_asksFor_21 (by decide) (fun c_2 => ?_) (fun c_2 => ?_)
    · refine lv_iconst (v := 0) hx hb dM_asksFor_28 (by decide) ?_
      refine W.widen (k := 0) (n := 0) (Nat.le_of_ble_eq_true rfl) (Nat.le_of_ble_eq_true rfl) ?_
      exact W.zret (v := 0) hx hb hr rfl (fun t ht hW => ⟨⟨0, (sL, (up2 sA 5 23 1)), rfl, (by rw [fM_asksFor, if_pos c_1] <;> rfl), gw_at hG ht⟩, hS.F ht⟩) hS.2.2 dM_asksFor_29
    · exact absurd c_2 (by decide)
  · refine lv_iconst (v := 0) hx hb dM_asksFor_9 (by decide) ?_
    refine lv_goto (tgt := 14) hx hb dM_asksFor_10 (by decide) ?_
    refine rm_puti hx hb hts hown hC hG hS 23 (by decide) q_533 dM_asksFor_14 (fun H locs hG hS => ?_)
    refine lv_aload_n hx hb dM_asksFor_17 rfl (lv_at hl 0 rfl) ?_
    refine rm_get (v := .int 0) hx hb hts hown hC hG 23 (by decide) q_533 (by simp [mfs, up2, upd, up2L, vp_updL]) dM_asksFor_18 ?_
    refine lv_if_ne (tgt := 28) hx hb dM_asksFor_21 (by decide) (fun c_3 => ?_) (fun c_3 => ?_)
    · exact absurd c_3 (by decide)
    · refine lv_iconst (v := 1) hx hb dM_asksFor_24 (by decide) ?_
      refine lv_goto (tgt := 29) hx hb dM_asksFor_25 (by decide) ?_
      refine W.widen (k := 0) (n := 0) (Nat.le_of_ble_eq_true rfl) (Nat.le_of_ble_eq_true rfl) ?_
      exact W.zret (v := 1) hx hb hr rfl (fun t ht hW => ⟨⟨1, (sL, (up2 sA 5 23 0)), rfl, (by rw [fM_asksFor, if_neg c_1] <;> rfl), gw_at hG ht⟩, hS.F ht⟩) hS.2.2 dM_asksFor_29
theorem asks_in {sL : NL} {sA : NA} {p : Int32} {nm : Nat} (hnm : nm ≤ 30) (hm : sA 5 0 = nI nm) (h : ¬ (fM_asksFor sL sA p).1 = 0) : vp_in p 30 := by
  refine (vin_lot (sL := sL) hnm hm fun q => h ?_).1
  rw [fM_asksFor, if_pos q]
def fM_lot_k (S : NL × NA) (p0 : Int32) (p1 : Int32) (p2 : Int32) : Int32 × NL × NA := (((S.2 5 0) + 1) - 1, S.1, (up2 S.2 5 0 ((S.2 5 0) + 1)))
def fM_lot (sL : NL) (sA : NA) (p0 : Int32) (p1 : Int32) (p2 : Int32) : Int32 × NL × NA := if (fM_isWithin p1 0 1000000) = 0 then (if (fM_isWithin p0 0 5) = 0 then (0, sL, (up2 sA 5 23 1)) else (0, sL, (up2 sA 5 23 2))) else (if (fM_isWithin p2 (-1) 0) = 0 then (if (fM_isWithin p2 1800 2000) = 0 then (if (fM_isWithin p0 0 5) = 0 then (0, sL, (up2 sA 5 23 1)) else (0, sL, (up2 sA 5 23 2))) else (if (fM_isWithin p0 0 5) = 0 then (0, sL, (up2 sA 5 23 1)) else (if (sA 5 0) = 30 then (0, sL, (up2 sA 5 23 3)) else fM_lot_k (fM_clearBids sL (up2 (up2 (up2 (up2 (up2 (up2 sA 5 23 0) 6 ((sA 5 0).toNatClampNeg) p0) 7 ((sA 5 0).toNatClampNeg) (fM_call p1)) 8 ((sA 5 0).toNatClampNeg) p2) 9 ((sA 5 0).toNatClampNeg) 0) 15 ((sA 5 0).toNatClampNeg) (-1)) (sA 5 0)) p0 p1 p2))) else (if (fM_isWithin p0 0 5) = 0 then (0, sL, (up2 sA 5 23 1)) else (if (sA 5 0) = 30 then (0, sL, (up2 sA 5 23 3)) else fM_lot_k (fM_clearBids sL (up2 (up2 (up2 (up2 (up2 (up2 sA 5 23 0) 6 ((sA 5 0).toNatClampNeg) p0) 7 ((sA 5 0).toNatClampNeg) (fM_call p1)) 8 ((sA 5 0).toNatClampNeg) p2) 9 ((sA 5 0).toNatClampNeg) 0) 15 ((sA 5 0).toNatClampNeg) (-1)) (sA 5 0)) p0 p1 p2)))
theorem hdyM_lot : yM_lot.cls ≠ "java/lang/invoke/MethodHandle" ∧ yM_lot.cls ≠ "java/lang/invoke/VarHandle" ∧ (parseMethodDescriptor yM_lot.desc).map (fun d => d.parameters.length) = some 3 := by decide +kernel
theorem dM_lot_0 : decode bM_lot 0 = .ok (.iload_n 2, 1) := by decide +kernel
theorem dM_lot_1 : decode bM_lot 1 = .ok (.iconst 0, 1) := by decide +kernel
theorem dM_lot_2 : decode bM_lot 2 = .ok (.ldc 76, 2) := by decide +kernel
theorem dM_lot_4 : decode bM_lot 4 = .ok (.invokestatic 68, 3) := by decide +kernel
theorem dM_lot_7 : decode bM_lot 7 = .ok (.ifCond .eq 29, 3) := by decide +kernel
theorem dM_lot_10 : decode bM_lot 10 = .ok (.iload_n 3, 1) := by decide +kernel
theorem dM_lot_11 : decode bM_lot 11 = .ok (.iconst (-1), 1) := by decide +kernel
theorem dM_lot_12 : decode bM_lot 12 = .ok (.iconst 0, 1) := by decide +kernel
theorem dM_lot_13 : decode bM_lot 13 = .ok (.invokestatic 68, 3) := by decide +kernel
theorem dM_lot_16 : decode bM_lot 16 = .ok (.ifCond .ne 16, 3) := by decide +kernel
theorem dM_lot_19 : decode bM_lot 19 = .ok (.iload_n 3, 1) := by decide +kernel
theorem dM_lot_20 : decode bM_lot 20 = .ok (.sipush 1800, 3) := by decide +kernel
theorem dM_lot_23 : decode bM_lot 23 = .ok (.sipush 2000, 3) := by decide +kernel
theorem dM_lot_26 : decode bM_lot 26 = .ok (.invokestatic 68, 3) := by decide +kernel
theorem dM_lot_29 : decode bM_lot 29 = .ok (.ifCond .eq 7, 3) := by decide +kernel
theorem dM_lot_32 : decode bM_lot 32 = .ok (.iconst 1, 1) := by decide +kernel
theorem dM_lot_33 : decode bM_lot 33 = .ok (.goto 4, 3) := by decide +kernel
theorem dM_lot_36 : decode bM_lot 36 = .ok (.iconst 0, 1) := by decide +kernel
theorem dM_lot_37 : decode bM_lot 37 = .ok (.istore 4, 2) := by decide +kernel
theorem dM_lot_39 : decode bM_lot 39 = .ok (.aload_n 0, 1) := by decide +kernel
theorem dM_lot_40 : decode bM_lot 40 = .ok (.iload_n 1, 1) := by decide +kernel
theorem dM_lot_41 : decode bM_lot 41 = .ok (.iconst 0, 1) := by decide +kernel
theorem dM_lot_42 : decode bM_lot 42 = .ok (.iconst 5, 1) := by decide +kernel
theorem dM_lot_43 : decode bM_lot 43 = .ok (.invokestatic 68, 3) := by decide +kernel
theorem dM_lot_46 : decode bM_lot 46 = .ok (.ifCond .ne 7, 3) := by decide +kernel
theorem dM_lot_49 : decode bM_lot 49 = .ok (.iconst 1, 1) := by decide +kernel
theorem dM_lot_50 : decode bM_lot 50 = .ok (.goto 26, 3) := by decide +kernel
theorem dM_lot_53 : decode bM_lot 53 = .ok (.iload 4, 2) := by decide +kernel
theorem dM_lot_55 : decode bM_lot 55 = .ok (.ifCond .ne 7, 3) := by decide +kernel
theorem dM_lot_58 : decode bM_lot 58 = .ok (.iconst 2, 1) := by decide +kernel
theorem dM_lot_59 : decode bM_lot 59 = .ok (.goto 17, 3) := by decide +kernel
theorem dM_lot_62 : decode bM_lot 62 = .ok (.aload_n 0, 1) := by decide +kernel
theorem dM_lot_63 : decode bM_lot 63 = .ok (.getfield 65, 3) := by decide +kernel
theorem dM_lot_66 : decode bM_lot 66 = .ok (.bipush 30, 2) := by decide +kernel
theorem dM_lot_68 : decode bM_lot 68 = .ok (.if_icmp .ne 7, 3) := by decide +kernel
theorem dM_lot_71 : decode bM_lot 71 = .ok (.iconst 3, 1) := by decide +kernel
theorem dM_lot_72 : decode bM_lot 72 = .ok (.goto 4, 3) := by decide +kernel
theorem dM_lot_75 : decode bM_lot 75 = .ok (.iconst 0, 1) := by decide +kernel
theorem dM_lot_76 : decode bM_lot 76 = .ok (.putfield 62, 3) := by decide +kernel
theorem dM_lot_79 : decode bM_lot 79 = .ok (.aload_n 0, 1) := by decide +kernel
theorem dM_lot_80 : decode bM_lot 80 = .ok (.getfield 62, 3) := by decide +kernel
theorem dM_lot_83 : decode bM_lot 83 = .ok (.ifCond .le 5, 3) := by decide +kernel
theorem dM_lot_86 : decode bM_lot 86 = .ok (.iconst 0, 1) := by decide +kernel
theorem dM_lot_87 : decode bM_lot 87 = .ok (.ireturn, 1) := by decide +kernel
theorem dM_lot_88 : decode bM_lot 88 = .ok (.aload_n 0, 1) := by decide +kernel
theorem dM_lot_89 : decode bM_lot 89 = .ok (.getfield 7, 3) := by decide +kernel
theorem dM_lot_92 : decode bM_lot 92 = .ok (.aload_n 0, 1) := by decide +kernel
theorem dM_lot_93 : decode bM_lot 93 = .ok (.getfield 65, 3) := by decide +kernel
theorem dM_lot_96 : decode bM_lot 96 = .ok (.iload_n 1, 1) := by decide +kernel
theorem dM_lot_97 : decode bM_lot 97 = .ok (.iastore, 1) := by decide +kernel
theorem dM_lot_98 : decode bM_lot 98 = .ok (.aload_n 0, 1) := by decide +kernel
theorem dM_lot_99 : decode bM_lot 99 = .ok (.getfield 13, 3) := by decide +kernel
theorem dM_lot_102 : decode bM_lot 102 = .ok (.aload_n 0, 1) := by decide +kernel
theorem dM_lot_103 : decode bM_lot 103 = .ok (.getfield 65, 3) := by decide +kernel
theorem dM_lot_106 : decode bM_lot 106 = .ok (.iload_n 2, 1) := by decide +kernel
theorem dM_lot_107 : decode bM_lot 107 = .ok (.invokestatic 77, 3) := by decide +kernel
theorem dM_lot_110 : decode bM_lot 110 = .ok (.iastore, 1) := by decide +kernel
theorem dM_lot_111 : decode bM_lot 111 = .ok (.aload_n 0, 1) := by decide +kernel
theorem dM_lot_112 : decode bM_lot 112 = .ok (.getfield 16, 3) := by decide +kernel
theorem dM_lot_115 : decode bM_lot 115 = .ok (.aload_n 0, 1) := by decide +kernel
theorem dM_lot_116 : decode bM_lot 116 = .ok (.getfield 65, 3) := by decide +kernel
theorem dM_lot_119 : decode bM_lot 119 = .ok (.iload_n 3, 1) := by decide +kernel
theorem dM_lot_120 : decode bM_lot 120 = .ok (.iastore, 1) := by decide +kernel
theorem dM_lot_121 : decode bM_lot 121 = .ok (.aload_n 0, 1) := by decide +kernel
theorem dM_lot_122 : decode bM_lot 122 = .ok (.getfield 19, 3) := by decide +kernel
theorem dM_lot_125 : decode bM_lot 125 = .ok (.aload_n 0, 1) := by decide +kernel
theorem dM_lot_126 : decode bM_lot 126 = .ok (.getfield 65, 3) := by decide +kernel
theorem dM_lot_129 : decode bM_lot 129 = .ok (.iconst 0, 1) := by decide +kernel
theorem dM_lot_130 : decode bM_lot 130 = .ok (.iastore, 1) := by decide +kernel
theorem dM_lot_131 : decode bM_lot 131 = .ok (.aload_n 0, 1) := by decide +kernel
theorem dM_lot_132 : decode bM_lot 132 = .ok (.getfield 37, 3) := by decide +kernel
theorem dM_lot_135 : decode bM_lot 135 = .ok (.aload_n 0, 1) := by decide +kernel
theorem dM_lot_136 : decode bM_lot 136 = .ok (.getfield 65, 3) := by decide +kernel
theorem dM_lot_139 : decode bM_lot 139 = .ok (.iconst (-1), 1) := by decide +kernel
theorem dM_lot_140 : decode bM_lot 140 = .ok (.iastore, 1) := by decide +kernel
theorem dM_lot_141 : decode bM_lot 141 = .ok (.aload_n 0, 1) := by decide +kernel
theorem dM_lot_142 : decode bM_lot 142 = .ok (.aload_n 0, 1) := by decide +kernel
theorem dM_lot_143 : decode bM_lot 143 = .ok (.getfield 65, 3) := by decide +kernel
theorem dM_lot_146 : decode bM_lot 146 = .ok (.invokevirtual 80, 3) := by decide +kernel
theorem dM_lot_149 : decode bM_lot 149 = .ok (.aload_n 0, 1) := by decide +kernel
theorem dM_lot_150 : decode bM_lot 150 = .ok (.dup, 1) := by decide +kernel
theorem dM_lot_151 : decode bM_lot 151 = .ok (.getfield 65, 3) := by decide +kernel
theorem dM_lot_154 : decode bM_lot 154 = .ok (.iconst 1, 1) := by decide +kernel
theorem dM_lot_155 : decode bM_lot 155 = .ok (.iadd, 1) := by decide +kernel
theorem dM_lot_156 : decode bM_lot 156 = .ok (.putfield 65, 3) := by decide +kernel
theorem dM_lot_159 : decode bM_lot 159 = .ok (.aload_n 0, 1) := by decide +kernel
theorem dM_lot_160 : decode bM_lot 160 = .ok (.getfield 65, 3) := by decide +kernel
theorem dM_lot_163 : decode bM_lot 163 = .ok (.iconst 1, 1) := by decide +kernel
theorem dM_lot_164 : decode bM_lot 164 = .ok (.isub, 1) := by decide +kernel
theorem dM_lot_165 : decode bM_lot 165 = .ok (.ireturn, 1) := by decide +kernel
set_option maxHeartbeats 4000000 in
set_option maxRecDepth 100000 in
theorem cM_lot (l : Launch) (D : va_G) (tI tJ tL : ClassId) (A : Nat → Prop) (sg ad : Nat → Nat) (n : Nat) (sL : NL) (sA : NA) (p0 : Int32) (p1 : Int32) (p2 : Int32) (nm : Nat) (hnm : nm ≤ 30) (hm : sA 5 0 = nI nm) : Met l yM_lot (Cond.code yM_lot bM_lot 5 (some FieldType.int) :: wNeed) { frames := 2, cells := 0, slots := 0, locals := 40 } (va_Pc [.ref (ad 5), .int p0, .int p1, .int p2] (GP D tI tJ tL A sg ad n sL sA)) (va_Qi (fun r (u : NL × NA) => fM_lot sL sA p0 p1 p2 = (r, u.1, u.2)) (fun u t => GW D tI tJ tL A ad n u.1 u.2 t.heap) A) 0 0 A := by
  refine en_G (av := [.ref (ad 5), .int p0, .int p1, .int p2]) (by decide) (Nat.le_of_ble_eq_true rfl) ?_
  intro p e s m below meth c hx hb hml hown hts hr hlocks hmname hC H locs hG hS ls hl
  replace hl : lv_has ls 5 [(0, .ref (ad 5)), (1, .int p0), (2, .int p1), (3, .int p2)] := hl
  refine lv_iload_n hx hb dM_lot_0 rfl (lv_at hl 2 rfl) ?_
  refine lv_iconst (v := 0) hx hb dM_lot_1 (by decide) ?_
  refine lv_ldc (v := 1000000) hx hb hown (hts _ q_591) dM_lot_2 ?_
  refine rcS1 (rest := []) (As := [.int p1, .int 0, .int 1000000]) hx hb hml hown hts (cM_isWithin l p1 0 1000000) (gS q_592 q_593 q_2 q_594) rfl rfl ⟨rfl, hdyM_isWithin⟩ ⟨Nat.le_of_ble_eq_true rfl, Nat.le_of_ble_eq_true rfl⟩ hl.1 rfl (Nat.le_of_ble_eq_true rfl) dM_lot_4 ⟨Nat.le_of_ble_eq_true rfl, Nat.le_of_ble_eq_true rfl⟩ ?_
  refine lv_if_eq (tgt := 36) hx hb dM_lot_7 (by decide) (fun c_1 => ?_) (fun c_1 => ?_)
  · refine lv_iconst (v := 0) hx hb dM_lot_36 (by decide) ?_
    refine lv_istore (lv' := [(4, .int 0), (0, .ref (ad 5)), (1, .int p0), (2, .int p1), (3, .int p2)]) hx hb dM_lot_37 hl (by decide) rfl (fun ls hl => ?_)
    refine lv_aload_n hx hb dM_lot_39 rfl (lv_at hl 1 rfl) ?_
    refine lv_iload_n hx hb dM_lot_40 rfl (lv_at hl 2 rfl) ?_
    refine lv_iconst (v := 0) hx hb dM_lot_41 (by decide) ?_
    refine lv_iconst (v := 5) hx hb dM_lot_42 (by decide) ?_
    refine rcS1 (rest := [.ref (ad 5)]) (As := [.int p0, .int 0, .int 5]) hx hb hml hown hts (cM_isWithin l p0 0 5) (gS q_592 q_593 q_2 q_594) rfl rfl ⟨rfl, hdyM_isWithin⟩ ⟨Nat.le_of_ble_eq_true rfl, Nat.le_of_ble_eq_true rfl⟩ hl.1 rfl (Nat.le_of_ble_eq_true rfl) dM_lot_43 ⟨Nat.le_of_ble_eq_true rfl, Nat.le_of_ble_eq_true rfl⟩ ?_
    refine lv_if_ne (tgt := 53) hx hb dM_lot_46 (by decide) (fun c_2 => ?_) (fun c_2 => ?_)
    · refine lv_iload hx hb dM_lot_53 (lv_at hl 0 rfl) ?_
      refine lv_if_ne (tgt := 62) hx hb dM_lot_55 (by decide) (fun c_3 => ?_) (fun c_3 => ?_)
      · exact absurd c_3 (by decide)
      · refine lv_iconst (v := 2) hx hb dM_lot_58 (by decide) ?_
        refine lv_goto (tgt := 76) hx hb dM_lot_59 (by decide) ?_
        refine rm_puti hx hb hts hown hC hG hS 23 (by decide) q_533 dM_lot_76 (fun H locs hG hS => ?_)
        refine lv_aload_n hx hb dM_lot_79 rfl (lv_at hl 1 rfl) ?_
        refine rm_get (v := .int 2) hx hb hts hown hC hG 23 (by decide) q_533 (by simp [mfs, up2, upd, up2L, vp_updL]) dM_lot_80 ?_
        refine lv_if_le (tgt := 88) hx hb dM_lot_83 (by decide) (fun c_4 => ?_) (fun c_4 => ?_)
        · exact absurd c_4 (by decide)
        · refine lv_iconst (v := 0) hx hb dM_lot_86 (by decide) ?_
          refine W.widen (k := 0) (n := 0) (Nat.le_of_ble_eq_true rfl) (Nat.le_of_ble_eq_true rfl) ?_
          exact W.iret (v := 0) hx hb hr (fun t ht hW => ⟨⟨0, (sL, (up2 sA 5 23 2)), rfl, (by rw [fM_lot, if_pos c_1, if_neg c_2] <;> rfl), gw_at hG ht⟩, hS.F ht⟩) hS.2.2 dM_lot_87
    · refine lv_iconst (v := 1) hx hb dM_lot_49 (by decide) ?_
      refine lv_goto (tgt := 76) hx hb dM_lot_50 (by decide) ?_
      refine rm_puti hx hb hts hown hC hG hS 23 (by decide) q_533 dM_lot_76 (fun H locs hG hS => ?_)
      refine lv_aload_n hx hb dM_lot_79 rfl (lv_at hl 1 rfl) ?_
      refine rm_get (v := .int 1) hx hb hts hown hC hG 23 (by decide) q_533 (by simp [mfs, up2, upd, up2L, vp_updL]) dM_lot_80 ?_
      refine lv_if_le (tgt := 88) hx hb dM_lot_83 (by decide) (fun c_5 => ?_) (fun c_5 => ?_)
      · exact absurd c_5 (by decide)
      · refine lv_iconst (v := 0) hx hb dM_lot_86 (by decide) ?_
        refine W.widen (k := 0) (n := 0) (Nat.le_of_ble_eq_true rfl) (Nat.le_of_ble_eq_true rfl) ?_
        exact W.iret (v := 0) hx hb hr (fun t ht hW => ⟨⟨0, (sL, (up2 sA 5 23 1)), rfl, (by rw [fM_lot, if_pos c_1, if_pos c_2] <;> rfl), gw_at hG ht⟩, hS.F ht⟩) hS.2.2 dM_lot_87
  · refine lv_iload_n hx hb dM_lot_10 rfl (lv_at hl 3 rfl) ?_
    refine lv_iconst (v := (-1)) hx hb dM_lot_11 (by decide) ?_
    refine lv_iconst (v := 0) hx hb dM_lot_12 (by decide) ?_
    refine rcS1 (rest := []) (As := [.int p2, .int (-1), .int 0]) hx hb hml hown hts (cM_isWithin l p2 (-1) 0) (gS q_592 q_593 q_2 q_594) rfl rfl ⟨rfl, hdyM_isWithin⟩ ⟨Nat.le_of_ble_eq_true rfl, Nat.le_of_ble_eq_true rfl⟩ hl.1 rfl (Nat.le_of_ble_eq_true rfl) dM_lot_13 ⟨Nat.le_of_ble_eq_true rfl, Nat.le_of_ble_eq_true rfl⟩ ?_
    refine lv_if_ne (tgt := 32) hx hb dM_lot_16 (by decide) (fun c_6 => ?_) (fun c_6 => ?_)
    · refine lv_iconst (v := 1) hx hb dM_lot_32 (by decide) ?_
      refine lv_goto (tgt := 37) hx hb dM_lot_33 (by decide) ?_
      refine lv_istore (lv' := [(4, .int 1), (0, .ref (ad 5)), (1, .int p0), (2, .int p1), (3, .int p2)]) hx hb dM_lot_37 hl (by decide) rfl (fun ls hl => ?_)
      refine lv_aload_n hx hb dM_lot_39 rfl (lv_at hl 1 rfl) ?_
      refine lv_iload_n hx hb dM_lot_40 rfl (lv_at hl 2 rfl) ?_
      refine lv_iconst (v := 0) hx hb dM_lot_41 (by decide) ?_
      refine lv_iconst (v := 5) hx hb dM_lot_42 (by decide) ?_
      refine rcS1 (rest := [.ref (ad 5)]) (As := [.int p0, .int 0, .int 5]) hx hb hml hown hts (cM_isWithin l p0 0 5) (gS q_592 q_593 q_2 q_594) rfl rfl ⟨rfl, hdyM_isWithin⟩ ⟨Nat.le_of_ble_eq_true rfl, Nat.le_of_ble_eq_true rfl⟩ hl.1 rfl (Nat.le_of_ble_eq_true rfl) dM_lot_43 ⟨Nat.le_of_ble_eq_true rfl, Nat.le_of_ble_eq_true rfl⟩ ?_
      refine lv_if_ne (tgt := 53) hx hb dM_lot_46 (by decide) (fun c_7 => ?_) (fun c_7 => ?_)
      · refine lv_iload hx hb dM_lot_53 (lv_at hl 0 rfl) ?_
        refine lv_if_ne (tgt := 62) hx hb dM_lot_55 (by decide) (fun c_8 => ?_) (fun c_8 => ?_)
        · refine lv_aload_n hx hb dM_lot_62 rfl (lv_at hl 1 rfl) ?_
          refine rm_get (v := .int (sA 5 0)) hx hb hts hown hC hG 0 (by decide) q_510 (rfl) dM_lot_63 ?_
          refine lv_bipush (v := 30) hx hb dM_lot_66 (by decide) ?_
          refine lv_icmp_ne (tgt := 75) hx hb dM_lot_68 (by decide) (fun c_9 => ?_) (fun c_9 => ?_)
          · refine lv_iconst (v := 0) hx hb dM_lot_75 (by decide) ?_
            refine rm_puti hx hb hts hown hC hG hS 23 (by decide) q_533 dM_lot_76 (fun H locs hG hS => ?_)
            refine lv_aload_n hx hb dM_lot_79 rfl (lv_at hl 1 rfl) ?_
            refine rm_get (v := .int 0) hx hb hts hown hC hG 23 (by decide) q_533 (by simp [mfs, up2, upd, up2L, vp_updL]) dM_lot_80 ?_
            refine lv_if_le (tgt := 88) hx hb dM_lot_83 (by decide) (fun c_10 => ?_) (fun c_10 => ?_)
            · refine lv_aload_n hx hb dM_lot_88 rfl (lv_at hl 1 rfl) ?_
              refine rm_get (v := .ref (ad 6)) hx hb hts hown hC hG 1 (by decide) q_511 (rfl) dM_lot_89 ?_
              refine lv_aload_n hx hb dM_lot_92 rfl (lv_at hl 1 rfl) ?_
              refine rm_get (v := .int (sA 5 0)) hx hb hts hown hC hG 0 (by decide) q_510 (by simp [mfs, up2, upd, up2L, vp_updL]) dM_lot_93 ?_
              refine lv_iload_n hx hb dM_lot_96 rfl (lv_at hl 2 rfl) ?_
              refine ra_st hx hb hC hG hS 6 30 (by omega) (fun _ _ => rfl) (vin_cnt hnm hm c_9) dM_lot_97 (fun H locs hG hS => ?_)
              refine lv_aload_n hx hb dM_lot_98 rfl (lv_at hl 1 rfl) ?_
              refine rm_get (v := .ref (ad 7)) hx hb hts hown hC hG 2 (by decide) q_512 (rfl) dM_lot_99 ?_
              refine lv_aload_n hx hb dM_lot_102 rfl (lv_at hl 1 rfl) ?_
              refine rm_get (v := .int (sA 5 0)) hx hb hts hown hC hG 0 (by decide) q_510 (by simp [mfs, up2, upd, up2L, vp_updL]) dM_lot_103 ?_
              refine lv_iload_n hx hb dM_lot_106 rfl (lv_at hl 3 rfl) ?_
              refine rcS1 (rest := [.int (sA 5 0), .ref (ad 7)]) (As := [.int p1]) hx hb hml hown hts (cM_call l p1) (gS q_595 q_596 q_2 q_597) rfl rfl ⟨rfl, hdyM_call⟩ ⟨Nat.le_of_ble_eq_true rfl, Nat.le_of_ble_eq_true rfl⟩ hl.1 rfl (Nat.le_of_ble_eq_true rfl) dM_lot_107 ⟨Nat.le_of_ble_eq_true rfl, Nat.le_of_ble_eq_true rfl⟩ ?_
              refine ra_st hx hb hC hG hS 7 30 (by omega) (fun _ _ => rfl) (vin_cnt hnm hm c_9) dM_lot_110 (fun H locs hG hS => ?_)
              refine lv_aload_n hx hb dM_lot_111 rfl (lv_at hl 1 rfl) ?_
              refine rm_get (v := .ref (ad 8)) hx hb hts hown hC hG 3 (by decide) q_513 (rfl) dM_lot_112 ?_
              refine lv_aload_n hx hb dM_lot_115 rfl (lv_at hl 1 rfl) ?_
              refine rm_get (v := .int (sA 5 0)) hx hb hts hown hC hG 0 (by decide) q_510 (by simp [mfs, up2, upd, up2L, vp_updL]) dM_lot_116 ?_
              refine lv_iload_n hx hb dM_lot_119 rfl (lv_at hl 4 rfl) ?_
              refine ra_st hx hb hC hG hS 8 30 (by omega) (fun _ _ => rfl) (vin_cnt hnm hm c_9) dM_lot_120 (fun H locs hG hS => ?_)
              refine lv_aload_n hx hb dM_lot_121 rfl (lv_at hl 1 rfl) ?_
              refine rm_get (v := .ref (ad 9)) hx hb hts hown hC hG 4 (by decide) q_514 (rfl) dM_lot_122 ?_
              refine lv_aload_n hx hb dM_lot_125 rfl (lv_at hl 1 rfl) ?_
              refine rm_get (v := .int (sA 5 0)) hx hb hts hown hC hG 0 (by decide) q_510 (by simp [mfs, up2, upd, up2L, vp_updL]) dM_lot_126 ?_
              refine lv_iconst (v := 0) hx hb dM_lot_129 (by decide) ?_
              refine ra_st hx hb hC hG hS 9 30 (by omega) (fun _ _ => rfl) (vin_cnt hnm hm c_9) dM_lot_130 (fun H locs hG hS => ?_)
              refine lv_aload_n hx hb dM_lot_131 rfl (lv_at hl 1 rfl) ?_
              refine rm_get (v := .ref (ad 15)) hx hb hts hown hC hG 11 (by decide) q_521 (rfl) dM_lot_132 ?_
              refine lv_aload_n hx hb dM_lot_135 rfl (lv_at hl 1 rfl) ?_
              refine rm_get (v := .int (sA 5 0)) hx hb hts hown hC hG 0 (by decide) q_510 (by simp [mfs, up2, upd, up2L, vp_updL]) dM_lot_136 ?_
              refine lv_iconst (v := (-1)) hx hb dM_lot_139 (by decide) ?_
              refine ra_st hx hb hC hG hS 15 30 (by omega) (fun _ _ => rfl) (vin_cnt hnm hm c_9) dM_lot_140 (fun H locs hG hS => ?_)
              refine lv_aload_n hx hb dM_lot_141 rfl (lv_at hl 1 rfl) ?_
              refine lv_aload_n hx hb dM_lot_142 rfl (lv_at hl 1 rfl) ?_
              refine rm_get (v := .int (sA 5 0)) hx hb hts hown hC hG 0 (by decide) q_510 (by simp [mfs, up2, upd, up2L, vp_updL]) dM_lot_143 ?_
              refine rcV3v (rest := []) (As := [.int (sA 5 0)]) hx hb hml hown hts hC hG hS (cM_clearBids l D tI tJ tL A sg ad n sL (up2 (up2 (up2 (up2 (up2 (up2 sA 5 23 0) 6 ((sA 5 0).toNatClampNeg) p0) 7 ((sA 5 0).toNatClampNeg) (fM_call p1)) 8 ((sA 5 0).toNatClampNeg) p2) 9 ((sA 5 0).toNatClampNeg) 0) 15 ((sA 5 0).toNatClampNeg) (-1)) (sA 5 0) (vin_cnt hnm hm c_9)) (recM hC hG) (gV q_601 q_603 q_p7 q_2 q_604) rfl rfl ⟨rfl, hdyM_clearBids⟩ ⟨Nat.le_of_ble_eq_true rfl, Nat.le_of_ble_eq_true rfl⟩ hl.1 rfl (Nat.le_of_ble_eq_true rfl) dM_lot_146 ⟨Nat.le_of_ble_eq_true rfl, Nat.le_of_ble_eq_true rfl⟩ (fun H locs hG hS => ?_)
              generalize g_11 : fM_clearBids sL (up2 (up2 (up2 (up2 (up2 (up2 sA 5 23 0) 6 ((sA 5 0).toNatClampNeg) p0) 7 ((sA 5 0).toNatClampNeg) (fM_call p1)) 8 ((sA 5 0).toNatClampNeg) p2) 9 ((sA 5 0).toNatClampNeg) 0) 15 ((sA 5 0).toNatClampNeg) (-1)) (sA 5 0) = S at hG ⊢
              refine lv_aload_n hx hb dM_lot_149 rfl (lv_at hl 1 rfl) ?_
              refine lv_dup hx hb dM_lot_150 rfl ?_
              refine rm_get (v := .int (S.2 5 0)) hx hb hts hown hC hG 0 (by decide) q_510 (rfl) dM_lot_151 ?_
              refine lv_iconst (v := 1) hx hb dM_lot_154 (by decide) ?_
              refine lv_iadd hx hb dM_lot_155 ?_
              refine rm_puti hx hb hts hown hC hG hS 0 (by decide) q_510 dM_lot_156 (fun H locs hG hS => ?_)
              refine lv_aload_n hx hb dM_lot_159 rfl (lv_at hl 1 rfl) ?_
              refine rm_get (v := .int ((S.2 5 0) + 1)) hx hb hts hown hC hG 0 (by decide) q_510 (by simp [mfs, up2, upd, up2L, vp_updL]) dM_lot_160 ?_
              refine lv_iconst (v := 1) hx hb dM_lot_163 (by decide) ?_
              refine lv_isub hx hb dM_lot_164 ?_
              refine W.widen (k := 0) (n := 0) (Nat.le_of_ble_eq_true rfl) (Nat.le_of_ble_eq_true rfl) ?_
              exact W.iret (v := ((S.2 5 0) + 1) - 1) hx hb hr (fun t ht hW => ⟨⟨(((S.2 5 0) + 1) - 1), (S.1, (up2 S.2 5 0 ((S.2 5 0) + 1))), rfl, (by rw [fM_lot, if_neg c_1, if_neg c_6, if_neg c_7, if_neg c_9, g_11, fM_lot_k] <;> rfl), gw_at hG ht⟩, hS.F ht⟩) hS.2.2 dM_lot_165
            · exact absurd c_10 (by decide)
          · refine lv_iconst (v := 3) hx hb dM_lot_71 (by decide) ?_
            refine lv_goto (tgt := 76) hx hb dM_lot_72 (by decide) ?_
            refine rm_puti hx hb hts hown hC hG hS 23 (by decide) q_533 dM_lot_76 (fun H locs hG hS => ?_)
            refine lv_aload_n hx hb dM_lot_79 rfl (lv_at hl 1 rfl) ?_
            refine rm_get (v := .int 3) hx hb hts hown hC hG 23 (by decide) q_533 (by simp [mfs, up2, upd, up2L, vp_updL]) dM_lot_80 ?_
            refine lv_if_le (tgt := 88) hx hb dM_lot_83 (by decide) (fun c_12 => ?_) (fun c_12 => ?_)
            · exact absurd c_12 (by decide)
            · refine lv_iconst (v := 0) hx hb dM_lot_86 (by decide) ?_
              refine W.widen (k := 0) (n := 0) (Nat.le_of_ble_eq_true rfl) (Nat.le_of_ble_eq_true rfl) ?_
              exact W.iret (v := 0) hx hb hr (fun t ht hW => ⟨⟨0, (sL, (up2 sA 5 23 3)), rfl, (by rw [fM_lot, if_neg c_1, if_neg c_6, if_neg c_7, if_pos c_9] <;> rfl), gw_at hG ht⟩, hS.F ht⟩) hS.2.2 dM_lot_87
        · exact absurd c_8 (by decide)
      · refine lv_iconst (v := 1) hx hb dM_lot_49 (by decide) ?_
        refine lv_goto (tgt := 76) hx hb dM_lot_50 (by decide) ?_
        refine rm_puti hx hb hts hown hC hG hS 23 (by decide) q_533 dM_lot_76 (fun H locs hG hS => ?_)
        refine lv_aload_n hx hb dM_lot_79 rfl (lv_at hl 1 rfl) ?_
        refine rm_get (v := .int 1) hx hb hts hown hC hG 23 (by decide) q_533 (by simp [mfs, up2, upd, up2L, vp_updL]) dM_lot_80 ?_
        refine lv_if_le (tgt := 88) hx hb dM_lot_83 (by decide) (fun c_13 => ?_) (fun c_13 => ?_)
        · exact absurd c_13 (by decide)
        · refine lv_iconst (v := 0) hx hb dM_lot_86 (by decide) ?_
          refine W.widen (k := 0) (n := 0) (Nat.le_of_ble_eq_true rfl) (Nat.le_of_ble_eq_true rfl) ?_
          exact W.iret (v := 0) hx hb hr (fun t ht hW => ⟨⟨0, (sL, (up2 sA 5 23 1)), rfl, (by rw [fM_lot, if_neg c_1, if_neg c_6, if_pos c_7] <;> rfl), gw_at hG ht⟩, hS.F ht⟩) hS.2.2 dM_lot_87
    · refine lv_iload_n hx hb dM_lot_19 rfl (lv_at hl 3 rfl) ?_
      refine lv_sipush (v := 1800) hx hb dM_lot_20 (by decide) ?_
      refine lv_sipush (v := 2000) hx hb dM_lot_23 (by decide) ?_
      refine rcS1 (rest := []) (As := [.int p2, .int 1800, .int 2000]) hx hb hml hown hts (cM_isWithin l p2 1800 2000) (gS q_592 q_593 q_2 q_594) rfl rfl ⟨rfl, hdyM_isWithin⟩ ⟨Nat.le_of_ble_eq_true rfl, Nat.le_of_ble_eq_true rfl⟩ hl.1 rfl (Nat.le_of_ble_eq_true rfl) dM_lot_26 ⟨Nat.le_of_ble_eq_true rfl, Nat.le_of_ble_eq_true rfl⟩ ?_
      refine lv_if_eq (tgt := 36) hx hb dM_lot_29 (by decide) (fun c_14 => ?_) (fun c_14 => ?_)
      · refine lv_iconst (v := 0) hx hb dM_lot_36 (by decide) ?_
        refine lv_istore (lv' := [(4, .int 0), (0, .ref (ad 5)), (1, .int p0), (2, .int p1), (3, .int p2)]) hx hb dM_lot_37 hl (by decide) rfl (fun ls hl => ?_)
        refine lv_aload_n hx hb dM_lot_39 rfl (lv_at hl 1 rfl) ?_
        refine lv_iload_n hx hb dM_lot_40 rfl (lv_at hl 2 rfl) ?_
        refine lv_iconst (v := 0) hx hb dM_lot_41 (by decide) ?_
        refine lv_iconst (v := 5) hx hb dM_lot_42 (by decide) ?_
        refine rcS1 (rest := [.ref (ad 5)]) (As := [.int p0, .int 0, .int 5]) hx hb hml hown hts (cM_isWithin l p0 0 5) (gS q_592 q_593 q_2 q_594) rfl rfl ⟨rfl, hdyM_isWithin⟩ ⟨Nat.le_of_ble_eq_true rfl, Nat.le_of_ble_eq_true rfl⟩ hl.1 rfl (Nat.le_of_ble_eq_true rfl) dM_lot_43 ⟨Nat.le_of_ble_eq_true rfl, Nat.le_of_ble_eq_true rfl⟩ ?_
        refine lv_if_ne (tgt := 53) hx hb dM_lot_46 (by decide) (fun c_15 => ?_) (fun c_15 => ?_)
        · refine lv_iload hx hb dM_lot_53 (lv_at hl 0 rfl) ?_
          refine lv_if_ne (tgt := 62) hx hb dM_lot_55 (by decide) (fun c_16 => ?_) (fun c_16 => ?_)
          · exact absurd c_16 (by decide)
          · refine lv_iconst (v := 2) hx hb dM_lot_58 (by decide) ?_
            refine lv_goto (tgt := 76) hx hb dM_lot_59 (by decide) ?_
            refine rm_puti hx hb hts hown hC hG hS 23 (by decide) q_533 dM_lot_76 (fun H locs hG hS => ?_)
            refine lv_aload_n hx hb dM_lot_79 rfl (lv_at hl 1 rfl) ?_
            refine rm_get (v := .int 2) hx hb hts hown hC hG 23 (by decide) q_533 (by simp [mfs, up2, upd, up2L, vp_updL]) dM_lot_80 ?_
            refine lv_if_le (tgt := 88) hx hb dM_lot_83 (by decide) (fun c_17 => ?_) (fun c_17 => ?_)
            · exact absurd c_17 (by decide)
            · refine lv_iconst (v := 0) hx hb dM_lot_86 (by decide) ?_
              refine W.widen (k := 0) (n := 0) (Nat.le_of_ble_eq_true rfl) (Nat.le_of_ble_eq_true rfl) ?_
              exact W.iret (v := 0) hx hb hr (fun t ht hW => ⟨⟨0, (sL, (up2 sA 5 23 2)), rfl, (by rw [fM_lot, if_neg c_1, if_pos c_6, if_pos c_14, if_neg c_15] <;> rfl), gw_at hG ht⟩, hS.F ht⟩) hS.2.2 dM_lot_87
        · refine lv_iconst (v := 1) hx hb dM_lot_49 (by decide) ?_
          refine lv_goto (tgt := 76) hx hb dM_lot_50 (by decide) ?_
          refine rm_puti hx hb hts hown hC hG hS 23 (by decide) q_533 dM_lot_76 (fun H locs hG hS => ?_)
          refine lv_aload_n hx hb dM_lot_79 rfl (lv_at hl 1 rfl) ?_
          refine rm_get (v := .int 1) hx hb hts hown hC hG 23 (by decide) q_533 (by simp [mfs, up2, upd, up2L, vp_updL]) dM_lot_80 ?_
          refine lv_if_le (tgt := 88) hx hb dM_lot_83 (by decide) (fun c_18 => ?_) (fun c_18 => ?_)
          · exact absurd c_18 (by decide)
          · refine lv_iconst (v := 0) hx hb dM_lot_86 (by decide) ?_
            refine W.widen (k := 0) (n := 0) (Nat.le_of_ble_eq_true rfl) (Nat.le_of_ble_eq_true rfl) ?_
            exact W.iret (v := 0) hx hb hr (fun t ht hW => ⟨⟨0, (sL, (up2 sA 5 23 1)), rfl, (by rw [fM_lot, if_neg c_1, if_pos c_6, if_pos c_14, if_pos c_15] <;> rfl), gw_at hG ht⟩, hS.F ht⟩) hS.2.2 dM_lot_87
      · refine lv_iconst (v := 1) hx hb dM_lot_32 (by decide) ?_
        refine lv_goto (tgt := 37) hx hb dM_lot_33 (by decide) ?_
        refine lv_istore (lv' := [(4, .int 1), (0, .ref (ad 5)), (1, .int p0), (2, .int p1), (3, .int p2)]) hx hb dM_lot_37 hl (by decide) rfl (fun ls hl => ?_)
        refine lv_aload_n hx hb dM_lot_39 rfl (lv_at hl 1 rfl) ?_
        refine lv_iload_n hx hb dM_lot_40 rfl (lv_at hl 2 rfl) ?_
        refine lv_iconst (v := 0) hx hb dM_lot_41 (by decide) ?_
        refine lv_iconst (v := 5) hx hb dM_lot_42 (by decide) ?_
        refine rcS1 (rest := [.ref (ad 5)]) (As := [.int p0, .int 0, .int 5]) hx hb hml hown hts (cM_isWithin l p0 0 5) (gS q_592 q_593 q_2 q_594) rfl rfl ⟨rfl, hdyM_isWithin⟩ ⟨Nat.le_of_ble_eq_true rfl, Nat.le_of_ble_eq_true rfl⟩ hl.1 rfl (Nat.le_of_ble_eq_true rfl) dM_lot_43 ⟨Nat.le_of_ble_eq_true rfl, Nat.le_of_ble_eq_true rfl⟩ ?_
        refine lv_if_ne (tgt := 53) hx hb dM_lot_46 (by decide) (fun c_19 => ?_) (fun c_19 => ?_)
        · refine lv_iload hx hb dM_lot_53 (lv_at hl 0 rfl) ?_
          refine lv_if_ne (tgt := 62) hx hb dM_lot_55 (by decide) (fun c_20 => ?_) (fun c_20 => ?_)
          · refine lv_aload_n hx hb dM_lot_62 rfl (lv_at hl 1 rfl) ?_
            refine rm_get (v := .int (sA 5 0)) hx hb hts hown hC hG 0 (by decide) q_510 (rfl) dM_lot_63 ?_
            refine lv_bipush (v := 30) hx hb dM_lot_66 (by decide) ?_
            refine lv_icmp_ne (tgt := 75) hx hb dM_lot_68 (by decide) (fun c_21 => ?_) (fun c_21 => ?_)
            · refine lv_iconst (v := 0) hx hb dM_lot_75 (by decide) ?_
              refine rm_puti hx hb hts hown hC hG hS 23 (by decide) q_533 dM_lot_76 (fun H locs hG hS => ?_)
              refine lv_aload_n hx hb dM_lot_79 rfl (lv_at hl 1 rfl) ?_
              refine rm_get (v := .int 0) hx hb hts hown hC hG 23 (by decide) q_533 (by simp [mfs, up2, upd, up2L, vp_updL]) dM_lot_80 ?_
              refine lv_if_le (tgt := 88) hx hb dM_lot_83 (by decide) (fun c_22 => ?_) (fun c_22 => ?_)
              · refine lv_aload_n hx hb dM_lot_88 rfl (lv_at hl 1 rfl) ?_
                refine rm_get (v := .ref (ad 6)) hx hb hts hown hC hG 1 (by decide) q_511 (rfl) dM_lot_89 ?_
                refine lv_aload_n hx hb dM_lot_92 rfl (lv_at hl 1 rfl) ?_
                refine rm_get (v := .int (sA 5 0)) hx hb hts hown hC hG 0 (by decide) q_510 (by simp [mfs, up2, upd, up2L, vp_updL]) dM_lot_93 ?_
                refine lv_iload_n hx hb dM_lot_96 rfl (lv_at hl 2 rfl) ?_
                refine ra_st hx hb hC hG hS 6 30 (by omega) (fun _ _ => rfl) (vin_cnt hnm hm c_21) dM_lot_97 (fun H locs hG hS => ?_)
                refine lv_aload_n hx hb dM_lot_98 rfl (lv_at hl 1 rfl) ?_
                refine rm_get (v := .ref (ad 7)) hx hb hts hown hC hG 2 (by decide) q_512 (rfl) dM_lot_99 ?_
                refine lv_aload_n hx hb dM_lot_102 rfl (lv_at hl 1 rfl) ?_
                refine rm_get (v := .int (sA 5 0)) hx hb hts hown hC hG 0 (by decide) q_510 (by simp [mfs, up2, upd, up2L, vp_updL]) dM_lot_103 ?_
                refine lv_iload_n hx hb dM_lot_106 rfl (lv_at hl 3 rfl) ?_
                refine rcS1 (rest := [.int (sA 5 0), .ref (ad 7)]) (As := [.int p1]) hx hb hml hown hts (cM_call l p1) (gS q_595 q_596 q_2 q_597) rfl rfl ⟨rfl, hdyM_call⟩ ⟨Nat.le_of_ble_eq_true rfl, Nat.le_of_ble_eq_true rfl⟩ hl.1 rfl (Nat.le_of_ble_eq_true rfl) dM_lot_107 ⟨Nat.le_of_ble_eq_true rfl, Nat.le_of_ble_eq_true rfl⟩ ?_
                refine ra_st hx hb hC hG hS 7 30 (by omega) (fun _ _ => rfl) (vin_cnt hnm hm c_21) dM_lot_110 (fun H locs hG hS => ?_)
                refine lv_aload_n hx hb dM_lot_111 rfl (lv_at hl 1 rfl) ?_
                refine rm_get (v := .ref (ad 8)) hx hb hts hown hC hG 3 (by decide) q_513 (rfl) dM_lot_112 ?_
                refine lv_aload_n hx hb dM_lot_115 rfl (lv_at hl 1 rfl) ?_
                refine rm_get (v := .int (sA 5 0)) hx hb hts hown hC hG 0 (by decide) q_510 (by simp [mfs, up2, upd, up2L, vp_updL]) dM_lot_116 ?_
                refine lv_iload_n hx hb dM_lot_119 rfl (lv_at hl 4 rfl) ?_
                refine ra_st hx hb hC hG hS 8 30 (by omega) (fun _ _ => rfl) (vin_cnt hnm hm c_21) dM_lot_120 (fun H locs hG hS => ?_)
                refine lv_aload_n hx hb dM_lot_121 rfl (lv_at hl 1 rfl) ?_
                refine rm_get (v := .ref (ad 9)) hx hb hts hown hC hG 4 (by decide) q_514 (rfl) dM_lot_122 ?_
                refine lv_aload_n hx hb dM_lot_125 rfl (lv_at hl 1 rfl) ?_
                refine rm_get (v := .int (sA 5 0)) hx hb hts hown hC hG 0 (by decide) q_510 (by simp [mfs, up2, upd, up2L, vp_updL]) dM_lot_126 ?_
                refine lv_iconst (v := 0) hx hb dM_lot_129 (by decide) ?_
                refine ra_st hx hb hC hG hS 9 30 (by omega) (fun _ _ => rfl) (vin_cnt hnm hm c_21) dM_lot_130 (fun H locs hG hS => ?_)
                refine lv_aload_n hx hb dM_lot_131 rfl (lv_at hl 1 rfl) ?_
                refine rm_get (v := .ref (ad 15)) hx hb hts hown hC hG 11 (by decide) q_521 (rfl) dM_lot_132 ?_
                refine lv_aload_n hx hb dM_lot_135 rfl (lv_at hl 1 rfl) ?_
                refine rm_get (v := .int (sA 5 0)) hx hb hts hown hC hG 0 (by decide) q_510 (by simp [mfs, up2, upd, up2L, vp_updL]) dM_lot_136 ?_
                refine lv_iconst (v := (-1)) hx hb dM_lot_139 (by decide) ?_
                refine ra_st hx hb hC hG hS 15 30 (by omega) (fun _ _ => rfl) (vin_cnt hnm hm c_21) dM_lot_140 (fun H locs hG hS => ?_)
                refine lv_aload_n hx hb dM_lot_141 rfl (lv_at hl 1 rfl) ?_
                refine lv_aload_n hx hb dM_lot_142 rfl (lv_at hl 1 rfl) ?_
                refine rm_get (v := .int (sA 5 0)) hx hb hts hown hC hG 0 (by decide) q_510 (by simp [mfs, up2, upd, up2L, vp_updL]) dM_lot_143 ?_
                refine rcV3v (rest := []) (As := [.int (sA 5 0)]) hx hb hml hown hts hC hG hS (cM_clearBids l D tI tJ tL A sg ad n sL (up2 (up2 (up2 (up2 (up2 (up2 sA 5 23 0) 6 ((sA 5 0).toNatClampNeg) p0) 7 ((sA 5 0).toNatClampNeg) (fM_call p1)) 8 ((sA 5 0).toNatClampNeg) p2) 9 ((sA 5 0).toNatClampNeg) 0) 15 ((sA 5 0).toNatClampNeg) (-1)) (sA 5 0) (vin_cnt hnm hm c_21)) (recM hC hG) (gV q_601 q_603 q_p7 q_2 q_604) rfl rfl ⟨rfl, hdyM_clearBids⟩ ⟨Nat.le_of_ble_eq_true rfl, Nat.le_of_ble_eq_true rfl⟩ hl.1 rfl (Nat.le_of_ble_eq_true rfl) dM_lot_146 ⟨Nat.le_of_ble_eq_true rfl, Nat.le_of_ble_eq_true rfl⟩ (fun H locs hG hS => ?_)
                generalize g_23 : fM_clearBids sL (up2 (up2 (up2 (up2 (up2 (up2 sA 5 23 0) 6 ((sA 5 0).toNatClampNeg) p0) 7 ((sA 5 0).toNatClampNeg) (fM_call p1)) 8 ((sA 5 0).toNatClampNeg) p2) 9 ((sA 5 0).toNatClampNeg) 0) 15 ((sA 5 0).toNatClampNeg) (-1)) (sA 5 0) = S at hG ⊢
                refine lv_aload_n hx hb dM_lot_149 rfl (lv_at hl 1 rfl) ?_
                refine lv_dup hx hb dM_lot_150 rfl ?_
                refine rm_get (v := .int (S.2 5 0)) hx hb hts hown hC hG 0 (by decide) q_510 (rfl) dM_lot_151 ?_
                refine lv_iconst (v := 1) hx hb dM_lot_154 (by decide) ?_
                refine lv_iadd hx hb dM_lot_155 ?_
                refine rm_puti hx hb hts hown hC hG hS 0 (by decide) q_510 dM_lot_156 (fun H locs hG hS => ?_)
                refine lv_aload_n hx hb dM_lot_159 rfl (lv_at hl 1 rfl) ?_
                refine rm_get (v := .int ((S.2 5 0) + 1)) hx hb hts hown hC hG 0 (by decide) q_510 (by simp [mfs, up2, upd, up2L, vp_updL]) dM_lot_160 ?_
                refine lv_iconst (v := 1) hx hb dM_lot_163 (by decide) ?_
                refine lv_isub hx hb dM_lot_164 ?_
                refine W.widen (k := 0) (n := 0) (Nat.le_of_ble_eq_true rfl) (Nat.le_of_ble_eq_true rfl) ?_
                exact W.iret (v := ((S.2 5 0) + 1) - 1) hx hb hr (fun t ht hW => ⟨⟨(((S.2 5 0) + 1) - 1), (S.1, (up2 S.2 5 0 ((S.2 5 0) + 1))), rfl, (by rw [fM_lot, if_neg c_1, if_pos c_6, if_neg c_14, if_neg c_19, if_neg c_21, g_23, fM_lot_k] <;> rfl), gw_at hG ht⟩, hS.F ht⟩) hS.2.2 dM_lot_165
              · exact absurd c_22 (by decide)
            · refine lv_iconst (v := 3) hx hb dM_lot_71 (by decide) ?_
              refine lv_goto (tgt := 76) hx hb dM_lot_72 (by decide) ?_
              refine rm_puti hx hb hts hown hC hG hS 23 (by decide) q_533 dM_lot_76 (fun H locs hG hS => ?_)
              refine lv_aload_n hx hb dM_lot_79 rfl (lv_at hl 1 rfl) ?_
              refine rm_get (v := .int 3) hx hb hts hown hC hG 23 (by decide) q_533 (by simp [mfs, up2, upd, up2L, vp_updL]) dM_lot_80 ?_
              refine lv_if_le (tgt := 88) hx hb dM_lot_83 (by decide) (fun c_24 => ?_) (fun c_24 => ?_)
              · exact absurd c_24 (by decide)
              · refine lv_iconst (v := 0) hx hb dM_lot_86 (by decide) ?_
                refine W.widen (k := 0) (n := 0) (Nat.le_of_ble_eq_true rfl) (Nat.le_of_ble_eq_true rfl) ?_
                exact W.iret (v := 0) hx hb hr (fun t ht hW => ⟨⟨0, (sL, (up2 sA 5 23 3)), rfl, (by rw [fM_lot, if_neg c_1, if_pos c_6, if_neg c_14, if_neg c_19, if_pos c_21] <;> rfl), gw_at hG ht⟩, hS.F ht⟩) hS.2.2 dM_lot_87
          · exact absurd c_20 (by decide)
        · refine lv_iconst (v := 1) hx hb dM_lot_49 (by decide) ?_
          refine lv_goto (tgt := 76) hx hb dM_lot_50 (by decide) ?_
          refine rm_puti hx hb hts hown hC hG hS 23 (by decide) q_533 dM_lot_76 (fun H locs hG hS => ?_)
          refine lv_aload_n hx hb dM_lot_79 rfl (lv_at hl 1 rfl) ?_
          refine rm_get (v := .int 1) hx hb hts hown hC hG 23 (by decide) q_533 (by simp [mfs, up2, upd, up2L, vp_updL]) dM_lot_80 ?_
          refine lv_if_le (tgt := 88) hx hb dM_lot_83 (by decide) (fun c_25 => ?_) (fun c_25 => ?_)
          · exact absurd c_25 (by decide)
          · refine lv_iconst (v := 0) hx hb dM_lot_86 (by decide) ?_
            refine W.widen (k := 0) (n := 0) (Nat.le_of_ble_eq_true rfl) (Nat.le_of_ble_eq_true rfl) ?_
            exact W.iret (v := 0) hx hb hr (fun t ht hW => ⟨⟨0, (sL, (up2 sA 5 23 1)), rfl, (by rw [fM_lot, if_neg c_1, if_pos c_6, if_neg c_14, if_pos c_19] <;> rfl), gw_at hG ht⟩, hS.F ht⟩) hS.2.2 dM_lot_87
def fM_bid (sL : NL) (sA : NA) (p0 : Int32) (p1 : Int32) (p2 : Int32) : Int32 × NL × NA := if (fM_isLot sL sA p0) = 0 then (0, sL, (up2 sA 5 23 1)) else (if (fM_isBuyer p1) = 0 then (0, sL, (up2 sA 5 23 1)) else (if (fM_isWithin p2 1 1000000) = 0 then (0, sL, (up2 sA 5 23 2)) else (if (sA 9 p0.toNatClampNeg) = 0 then (if (sA 13 (((10 * p0) + p1).toNatClampNeg)) = (-1) then (fM_call p2, sL, (up2 (up2 (up2 (up2 sA 5 23 0) 14 (((10 * p0) + p1).toNatClampNeg) (sA 5 10)) 5 10 ((sA 5 10) + 1)) 13 (((10 * p0) + p1).toNatClampNeg) (fM_call p2))) else (fM_call p2, sL, (up2 (up2 sA 5 23 0) 13 (((10 * p0) + p1).toNatClampNeg) (fM_call p2)))) else (0, sL, (up2 sA 5 23 3)))))
theorem hdyM_bid : yM_bid.cls ≠ "java/lang/invoke/MethodHandle" ∧ yM_bid.cls ≠ "java/lang/invoke/VarHandle" ∧ (parseMethodDescriptor yM_bid.desc).map (fun d => d.parameters.length) = some 3 := by decide +kernel
theorem dM_bid_0 : decode bM_bid 0 = .ok (.aload_n 0, 1) := by decide +kernel
theorem dM_bid_1 : decode bM_bid 1 = .ok (.aload_n 0, 1) := by decide +kernel
theorem dM_bid_2 : decode bM_bid 2 = .ok (.iload_n 1, 1) := by decide +kernel
theorem dM_bid_3 : decode bM_bid 3 = .ok (.invokevirtual 84, 3) := by decide +kernel
theorem dM_bid_6 : decode bM_bid 6 = .ok (.ifCond .eq 10, 3) := by decide +kernel
theorem dM_bid_9 : decode bM_bid 9 = .ok (.iload_n 2, 1) := by decide +kernel
theorem dM_bid_10 : decode bM_bid 10 = .ok (.invokestatic 88, 3) := by decide +kernel
theorem dM_bid_13 : decode bM_bid 13 = .ok (.ifCond .ne 7, 3) := by decide +kernel
theorem dM_bid_16 : decode bM_bid 16 = .ok (.iconst 1, 1) := by decide +kernel
theorem dM_bid_17 : decode bM_bid 17 = .ok (.goto 31, 3) := by decide +kernel
theorem dM_bid_20 : decode bM_bid 20 = .ok (.iload_n 3, 1) := by decide +kernel
theorem dM_bid_21 : decode bM_bid 21 = .ok (.iconst 1, 1) := by decide +kernel
theorem dM_bid_22 : decode bM_bid 22 = .ok (.ldc 76, 2) := by decide +kernel
theorem dM_bid_24 : decode bM_bid 24 = .ok (.invokestatic 68, 3) := by decide +kernel
theorem dM_bid_27 : decode bM_bid 27 = .ok (.ifCond .ne 7, 3) := by decide +kernel
theorem dM_bid_30 : decode bM_bid 30 = .ok (.iconst 2, 1) := by decide +kernel
theorem dM_bid_31 : decode bM_bid 31 = .ok (.goto 17, 3) := by decide +kernel
theorem dM_bid_34 : decode bM_bid 34 = .ok (.aload_n 0, 1) := by decide +kernel
theorem dM_bid_35 : decode bM_bid 35 = .ok (.getfield 19, 3) := by decide +kernel
theorem dM_bid_38 : decode bM_bid 38 = .ok (.iload_n 1, 1) := by decide +kernel
theorem dM_bid_39 : decode bM_bid 39 = .ok (.iaload, 1) := by decide +kernel
theorem dM_bid_40 : decode bM_bid 40 = .ok (.ifCond .eq 7, 3) := by decide +kernel
theorem dM_bid_43 : decode bM_bid 43 = .ok (.iconst 3, 1) := by decide +kernel
theorem dM_bid_44 : decode bM_bid 44 = .ok (.goto 4, 3) := by decide +kernel
theorem dM_bid_47 : decode bM_bid 47 = .ok (.iconst 0, 1) := by decide +kernel
theorem dM_bid_48 : decode bM_bid 48 = .ok (.putfield 62, 3) := by decide +kernel
theorem dM_bid_51 : decode bM_bid 51 = .ok (.aload_n 0, 1) := by decide +kernel
theorem dM_bid_52 : decode bM_bid 52 = .ok (.getfield 62, 3) := by decide +kernel
theorem dM_bid_55 : decode bM_bid 55 = .ok (.ifCond .le 5, 3) := by decide +kernel
theorem dM_bid_58 : decode bM_bid 58 = .ok (.iconst 0, 1) := by decide +kernel
theorem dM_bid_59 : decode bM_bid 59 = .ok (.ireturn, 1) := by decide +kernel
theorem dM_bid_60 : decode bM_bid 60 = .ok (.aload_n 0, 1) := by decide +kernel
theorem dM_bid_61 : decode bM_bid 61 = .ok (.getfield 31, 3) := by decide +kernel
theorem dM_bid_64 : decode bM_bid 64 = .ok (.bipush 10, 2) := by decide +kernel
theorem dM_bid_66 : decode bM_bid 66 = .ok (.iload_n 1, 1) := by decide +kernel
theorem dM_bid_67 : decode bM_bid 67 = .ok (.imul, 1) := by decide +kernel
theorem dM_bid_68 : decode bM_bid 68 = .ok (.iload_n 2, 1) := by decide +kernel
theorem dM_bid_69 : decode bM_bid 69 = .ok (.iadd, 1) := by decide +kernel
theorem dM_bid_70 : decode bM_bid 70 = .ok (.iaload, 1) := by decide +kernel
theorem dM_bid_71 : decode bM_bid 71 = .ok (.iconst (-1), 1) := by decide +kernel
theorem dM_bid_72 : decode bM_bid 72 = .ok (.if_icmp .ne 28, 3) := by decide +kernel
theorem dM_bid_75 : decode bM_bid 75 = .ok (.aload_n 0, 1) := by decide +kernel
theorem dM_bid_76 : decode bM_bid 76 = .ok (.getfield 34, 3) := by decide +kernel
theorem dM_bid_79 : decode bM_bid 79 = .ok (.bipush 10, 2) := by decide +kernel
theorem dM_bid_81 : decode bM_bid 81 = .ok (.iload_n 1, 1) := by decide +kernel
theorem dM_bid_82 : decode bM_bid 82 = .ok (.imul, 1) := by decide +kernel
theorem dM_bid_83 : decode bM_bid 83 = .ok (.iload_n 2, 1) := by decide +kernel
theorem dM_bid_84 : decode bM_bid 84 = .ok (.iadd, 1) := by decide +kernel
theorem dM_bid_85 : decode bM_bid 85 = .ok (.aload_n 0, 1) := by decide +kernel
theorem dM_bid_86 : decode bM_bid 86 = .ok (.getfield 91, 3) := by decide +kernel
theorem dM_bid_89 : decode bM_bid 89 = .ok (.iastore, 1) := by decide +kernel
theorem dM_bid_90 : decode bM_bid 90 = .ok (.aload_n 0, 1) := by decide +kernel
theorem dM_bid_91 : decode bM_bid 91 = .ok (.dup, 1) := by decide +kernel
theorem dM_bid_92 : decode bM_bid 92 = .ok (.getfield 91, 3) := by decide +kernel
theorem dM_bid_95 : decode bM_bid 95 = .ok (.iconst 1, 1) := by decide +kernel
theorem dM_bid_96 : decode bM_bid 96 = .ok (.iadd, 1) := by decide +kernel
theorem dM_bid_97 : decode bM_bid 97 = .ok (.putfield 91, 3) := by decide +kernel
theorem dM_bid_100 : decode bM_bid 100 = .ok (.aload_n 0, 1) := by decide +kernel
theorem dM_bid_101 : decode bM_bid 101 = .ok (.getfield 31, 3) := by decide +kernel
theorem dM_bid_104 : decode bM_bid 104 = .ok (.bipush 10, 2) := by decide +kernel
theorem dM_bid_106 : decode bM_bid 106 = .ok (.iload_n 1, 1) := by decide +kernel
theorem dM_bid_107 : decode bM_bid 107 = .ok (.imul, 1) := by decide +kernel
theorem dM_bid_108 : decode bM_bid 108 = .ok (.iload_n 2, 1) := by decide +kernel
theorem dM_bid_109 : decode bM_bid 109 = .ok (.iadd, 1) := by decide +kernel
theorem dM_bid_110 : decode bM_bid 110 = .ok (.iload_n 3, 1) := by decide +kernel
theorem dM_bid_111 : decode bM_bid 111 = .ok (.invokestatic 77, 3) := by decide +kernel
theorem dM_bid_114 : decode bM_bid 114 = .ok (.iastore, 1) := by decide +kernel
theorem dM_bid_115 : decode bM_bid 115 = .ok (.iload_n 3, 1) := by decide +kernel
theorem dM_bid_116 : decode bM_bid 116 = .ok (.invokestatic 77, 3) := by decide +kernel
theorem dM_bid_119 : decode bM_bid 119 = .ok (.ireturn, 1) := by decide +kernel
set_option maxHeartbeats 4000000 in
set_option maxRecDepth 100000 in
theorem cM_bid (l : Launch) (D : va_G) (tI tJ tL : ClassId) (A : Nat → Prop) (sg ad : Nat → Nat) (n : Nat) (sL : NL) (sA : NA) (p0 : Int32) (p1 : Int32) (p2 : Int32) (nm : Nat) (hnm : nm ≤ 30) (hm : sA 5 0 = nI nm) : Met l yM_bid (Cond.code yM_bid bM_bid 4 (some FieldType.int) :: wNeed) { frames := 2, cells := 0, slots := 0, locals := 43 } (va_Pc [.ref (ad 5), .int p0, .int p1, .int p2] (GP D tI tJ tL A sg ad n sL sA)) (va_Qi (fun r (u : NL × NA) => fM_bid sL sA p0 p1 p2 = (r, u.1, u.2)) (fun u t => GW D tI tJ tL A ad n u.1 u.2 t.heap) A) 0 0 A := by
  refine en_G (av := [.ref (ad 5), .int p0, .int p1, .int p2]) (by decide) (Nat.le_of_ble_eq_true rfl) ?_
  intro p e s m below meth c hx hb hml hown hts hr hlocks hmname hC H locs hG hS ls hl
  replace hl : lv_has ls 4 [(0, .ref (ad 5)), (1, .int p0), (2, .int p1), (3, .int p2)] := hl
  refine lv_aload_n hx hb dM_bid_0 rfl (lv_at hl 0 rfl) ?_
  refine lv_aload_n hx hb dM_bid_1 rfl (lv_at hl 0 rfl) ?_
  refine lv_iload_n hx hb dM_bid_2 rfl (lv_at hl 1 rfl) ?_
  refine rcV2 (rest := [.ref (ad 5)]) (As := [.int p0]) hx hb hml hown hts hC hG hS (cM_isLot l D tI tJ tL A sg ad n sL sA p0) (recM hC hG) (gV q_609 q_611 q_p8 q_2 q_612) rfl rfl ⟨rfl, hdyM_isLot⟩ ⟨Nat.le_of_ble_eq_true rfl, Nat.le_of_ble_eq_true rfl⟩ hl.1 rfl (Nat.le_of_ble_eq_true rfl) dM_bid_3 ⟨Nat.le_of_ble_eq_true rfl, Nat.le_of_ble_eq_true rfl⟩ ?_
  refine lv_if_eq (tgt := 16) hx hb dM_bid_6 (by decide) (fun c_1 => ?_) (fun c_1 => ?_)
  · refine lv_iconst (v := 1) hx hb dM_bid_16 (by decide) ?_
    refine lv_goto (tgt := 48) hx hb dM_bid_17 (by decide) ?_
    refine rm_puti hx hb hts hown hC hG hS 23 (by decide) q_533 dM_bid_48 (fun H locs hG hS => ?_)
    refine lv_aload_n hx hb dM_bid_51 rfl (lv_at hl 0 rfl) ?_
    refine rm_get (v := .int 1) hx hb hts hown hC hG 23 (by decide) q_533 (by simp [mfs, up2, upd, up2L, vp_updL]) dM_bid_52 ?_
    refine lv_if_le (tgt := 60) hx hb dM_bid_55 (by decide) (fun c_2 => ?_) (fun c_2 => ?_)
    · exact absurd c_2 (by decide)
    · refine lv_iconst (v := 0) hx hb dM_bid_58 (by decide) ?_
      refine W.widen (k := 0) (n := 0) (Nat.le_of_ble_eq_true rfl) (Nat.le_of_ble_eq_true rfl) ?_
      exact W.iret (v := 0) hx hb hr (fun t ht hW => ⟨⟨0, (sL, (up2 sA 5 23 1)), rfl, (by rw [fM_bid, if_pos c_1] <;> rfl), gw_at hG ht⟩, hS.F ht⟩) hS.2.2 dM_bid_59
  · refine lv_iload_n hx hb dM_bid_9 rfl (lv_at hl 2 rfl) ?_
    refine rcS1 (rest := [.ref (ad 5)]) (As := [.int p1]) hx hb hml hown hts (cM_isBuyer l p1) (gS q_613 q_614 q_2 q_615) rfl rfl ⟨rfl, hdyM_isBuyer⟩ ⟨Nat.le_of_ble_eq_true rfl, Nat.le_of_ble_eq_true rfl⟩ hl.1 rfl (Nat.le_of_ble_eq_true rfl) dM_bid_10 ⟨Nat.le_of_ble_eq_true rfl, Nat.le_of_ble_eq_true rfl⟩ ?_
    refine lv_if_ne (tgt := 20) hx hb dM_bid_13 (by decide) (fun c_3 => ?_) (fun c_3 => ?_)
    · refine lv_iload_n hx hb dM_bid_20 rfl (lv_at hl 3 rfl) ?_
      refine lv_iconst (v := 1) hx hb dM_bid_21 (by decide) ?_
      refine lv_ldc (v := 1000000) hx hb hown (hts _ q_591) dM_bid_22 ?_
      refine rcS1 (rest := [.ref (ad 5)]) (As := [.int p2, .int 1, .int 1000000]) hx hb hml hown hts (cM_isWithin l p2 1 1000000) (gS q_592 q_593 q_2 q_594) rfl rfl ⟨rfl, hdyM_isWithin⟩ ⟨Nat.le_of_ble_eq_true rfl, Nat.le_of_ble_eq_true rfl⟩ hl.1 rfl (Nat.le_of_ble_eq_true rfl) dM_bid_24 ⟨Nat.le_of_ble_eq_true rfl, Nat.le_of_ble_eq_true rfl⟩ ?_
      refine lv_if_ne (tgt := 34) hx hb dM_bid_27 (by decide) (fun c_4 => ?_) (fun c_4 => ?_)
      · refine lv_aload_n hx hb dM_bid_34 rfl (lv_at hl 0 rfl) ?_
        refine rm_get (v := .ref (ad 9)) hx hb hts hown hC hG 4 (by decide) q_514 (rfl) dM_bid_35 ?_
        refine lv_iload_n hx hb dM_bid_38 rfl (lv_at hl 1 rfl) ?_
        refine ra_ld hx hb hC hG 9 30 (by omega) (fun _ _ => rfl) ((vin_lot hnm hm c_1).1) dM_bid_39 ?_
        refine lv_if_eq (tgt := 47) hx hb dM_bid_40 (by decide) (fun c_5 => ?_) (fun c_5 => ?_)
        · refine lv_iconst (v := 0) hx hb dM_bid_47 (by decide) ?_
          refine rm_puti hx hb hts hown hC hG hS 23 (by decide) q_533 dM_bid_48 (fun H locs hG hS => ?_)
          refine lv_aload_n hx hb dM_bid_51 rfl (lv_at hl 0 rfl) ?_
          refine rm_get (v := .int 0) hx hb hts hown hC hG 23 (by decide) q_533 (by simp [mfs, up2, upd, up2L, vp_updL]) dM_bid_52 ?_
          refine lv_if_le (tgt := 60) hx hb dM_bid_55 (by decide) (fun c_6 => ?_) (fun c_6 => ?_)
          · refine lv_aload_n hx hb dM_bid_60 rfl (lv_at hl 0 rfl) ?_
            refine rm_get (v := .ref (ad 13)) hx hb hts hown hC hG 8 (by decide) q_518 (rfl) dM_bid_61 ?_
            refine lv_bipush (v := 10) hx hb dM_bid_64 (by decide) ?_
            refine lv_iload_n hx hb dM_bid_66 rfl (lv_at hl 1 rfl) ?_
            refine lv_imul hx hb dM_bid_67 ?_
            refine lv_iload_n hx hb dM_bid_68 rfl (lv_at hl 2 rfl) ?_
            refine lv_iadd hx hb dM_bid_69 ?_
            refine ra_ld hx hb hC hG 13 300 (by omega) (fun _ _ => rfl) (vin_bid (vin_lot hnm hm c_1).1 (vin_buyerM c_3)) dM_bid_70 ?_
            refine W.eq (g2 := F0 m 71 ls (.int (sA 13 (((10 * p0) + p1).toNatClampNeg)) :: [])) (by simp [up2, upd]) ?_
            refine lv_iconst (v := (-1)) hx hb dM_bid_71 (by decide) ?_
            refine lv_icmp_ne (tgt := 100) hx hb dM_bid_72 (by decide) (fun c_7 => ?_) (fun c_7 => ?_)
            · refine lv_aload_n hx hb dM_bid_100 rfl (lv_at hl 0 rfl) ?_
              refine rm_get (v := .ref (ad 13)) hx hb hts hown hC hG 8 (by decide) q_518 (rfl) dM_bid_101 ?_
              refine lv_bipush (v := 10) hx hb dM_bid_104 (by decide) ?_
              refine lv_iload_n hx hb dM_bid_106 rfl (lv_at hl 1 rfl) ?_
              refine lv_imul hx hb dM_bid_107 ?_
              refine lv_iload_n hx hb dM_bid_108 rfl (lv_at hl 2 rfl) ?_
              refine lv_iadd hx hb dM_bid_109 ?_
              refine lv_iload_n hx hb dM_bid_110 rfl (lv_at hl 3 rfl) ?_
              refine rcS1 (rest := [.int ((10 * p0) + p1), .ref (ad 13)]) (As := [.int p2]) hx hb hml hown hts (cM_call l p2) (gS q_595 q_596 q_2 q_597) rfl rfl ⟨rfl, hdyM_call⟩ ⟨Nat.le_of_ble_eq_true rfl, Nat.le_of_ble_eq_true rfl⟩ hl.1 rfl (Nat.le_of_ble_eq_true rfl) dM_bid_111 ⟨Nat.le_of_ble_eq_true rfl, Nat.le_of_ble_eq_true rfl⟩ ?_
              refine ra_st hx hb hC hG hS 13 300 (by omega) (fun _ _ => rfl) (vin_bid (vin_lot hnm hm c_1).1 (vin_buyerM c_3)) dM_bid_114 (fun H locs hG hS => ?_)
              refine lv_iload_n hx hb dM_bid_115 rfl (lv_at hl 3 rfl) ?_
              refine rcS1 (rest := []) (As := [.int p2]) hx hb hml hown hts (cM_call l p2) (gS q_595 q_596 q_2 q_597) rfl rfl ⟨rfl, hdyM_call⟩ ⟨Nat.le_of_ble_eq_true rfl, Nat.le_of_ble_eq_true rfl⟩ hl.1 rfl (Nat.le_of_ble_eq_true rfl) dM_bid_116 ⟨Nat.le_of_ble_eq_true rfl, Nat.le_of_ble_eq_true rfl⟩ ?_
              refine W.widen (k := 0) (n := 0) (Nat.le_of_ble_eq_true rfl) (Nat.le_of_ble_eq_true rfl) ?_
              exact W.iret (v := fM_call p2) hx hb hr (fun t ht hW => ⟨⟨(fM_call p2), (sL, (up2 (up2 sA 5 23 0) 13 (((10 * p0) + p1).toNatClampNeg) (fM_call p2))), rfl, (by rw [fM_bid, if_neg c_1, if_neg c_3, if_neg c_4, if_pos c_5, if_neg c_7] <;> rfl), gw_at hG ht⟩, hS.F ht⟩) hS.2.2 dM_bid_119
            · refine lv_aload_n hx hb dM_bid_75 rfl (lv_at hl 0 rfl) ?_
              refine rm_get (v := .ref (ad 14)) hx hb hts hown hC hG 9 (by decide) q_519 (rfl) dM_bid_76 ?_
              refine lv_bipush (v := 10) hx hb dM_bid_79 (by decide) ?_
              refine lv_iload_n hx hb dM_bid_81 rfl (lv_at hl 1 rfl) ?_
              refine lv_imul hx hb dM_bid_82 ?_
              refine lv_iload_n hx hb dM_bid_83 rfl (lv_at hl 2 rfl) ?_
              refine lv_iadd hx hb dM_bid_84 ?_
              refine lv_aload_n hx hb dM_bid_85 rfl (lv_at hl 0 rfl) ?_
              refine rm_get (v := .int (sA 5 10)) hx hb hts hown hC hG 10 (by decide) q_520 (by simp [mfs, up2, upd, up2L, vp_updL]) dM_bid_86 ?_
              refine ra_st hx hb hC hG hS 14 300 (by omega) (fun _ _ => rfl) (vin_bid (vin_lot hnm hm c_1).1 (vin_buyerM c_3)) dM_bid_89 (fun H locs hG hS => ?_)
              refine lv_aload_n hx hb dM_bid_90 rfl (lv_at hl 0 rfl) ?_
              refine lv_dup hx hb dM_bid_91 rfl ?_
              refine rm_get (v := .int (sA 5 10)) hx hb hts hown hC hG 10 (by decide) q_520 (by simp [mfs, up2, upd, up2L, vp_updL]) dM_bid_92 ?_
              refine lv_iconst (v := 1) hx hb dM_bid_95 (by decide) ?_
              refine lv_iadd hx hb dM_bid_96 ?_
              refine rm_puti hx hb hts hown hC hG hS 10 (by decide) q_520 dM_bid_97 (fun H locs hG hS => ?_)
              refine lv_aload_n hx hb dM_bid_100 rfl (lv_at hl 0 rfl) ?_
              refine rm_get (v := .ref (ad 13)) hx hb hts hown hC hG 8 (by decide) q_518 (rfl) dM_bid_101 ?_
              refine lv_bipush (v := 10) hx hb dM_bid_104 (by decide) ?_
              refine lv_iload_n hx hb dM_bid_106 rfl (lv_at hl 1 rfl) ?_
              refine lv_imul hx hb dM_bid_107 ?_
              refine lv_iload_n hx hb dM_bid_108 rfl (lv_at hl 2 rfl) ?_
              refine lv_iadd hx hb dM_bid_109 ?_
              refine lv_iload_n hx hb dM_bid_110 rfl (lv_at hl 3 rfl) ?_
              refine rcS1 (rest := [.int ((10 * p0) + p1), .ref (ad 13)]) (As := [.int p2]) hx hb hml hown hts (cM_call l p2) (gS q_595 q_596 q_2 q_597) rfl rfl ⟨rfl, hdyM_call⟩ ⟨Nat.le_of_ble_eq_true rfl, Nat.le_of_ble_eq_true rfl⟩ hl.1 rfl (Nat.le_of_ble_eq_true rfl) dM_bid_111 ⟨Nat.le_of_ble_eq_true rfl, Nat.le_of_ble_eq_true rfl⟩ ?_
              refine ra_st hx hb hC hG hS 13 300 (by omega) (fun _ _ => rfl) (vin_bid (vin_lot hnm hm c_1).1 (vin_buyerM c_3)) dM_bid_114 (fun H locs hG hS => ?_)
              refine lv_iload_n hx hb dM_bid_115 rfl (lv_at hl 3 rfl) ?_
              refine rcS1 (rest := []) (As := [.int p2]) hx hb hml hown hts (cM_call l p2) (gS q_595 q_596 q_2 q_597) rfl rfl ⟨rfl, hdyM_call⟩ ⟨Nat.le_of_ble_eq_true rfl, Nat.le_of_ble_eq_true rfl⟩ hl.1 rfl (Nat.le_of_ble_eq_true rfl) dM_bid_116 ⟨Nat.le_of_ble_eq_true rfl, Nat.le_of_ble_eq_true rfl⟩ ?_
              refine W.widen (k := 0) (n := 0) (Nat.le_of_ble_eq_true rfl) (Nat.le_of_ble_eq_true rfl) ?_
              exact W.iret (v := fM_call p2) hx hb hr (fun t ht hW => ⟨⟨(fM_call p2), (sL, (up2 (up2 (up2 (up2 sA 5 23 0) 14 (((10 * p0) + p1).toNatClampNeg) (sA 5 10)) 5 10 ((sA 5 10) + 1)) 13 (((10 * p0) + p1).toNatClampNeg) (fM_call p2))), rfl, (by rw [fM_bid, if_neg c_1, if_neg c_3, if_neg c_4, if_pos c_5, if_pos c_7] <;> rfl), gw_at hG ht⟩, hS.F ht⟩) hS.2.2 dM_bid_119
          · exact absurd c_6 (by decide)
        · refine lv_iconst (v := 3) hx hb dM_bid_43 (by decide) ?_
          refine lv_goto (tgt := 48) hx hb dM_bid_44 (by decide) ?_
          refine rm_puti hx hb hts hown hC hG hS 23 (by decide) q_533 dM_bid_48 (fun H locs hG hS => ?_)
          refine lv_aload_n hx hb dM_bid_51 rfl (lv_at hl 0 rfl) ?_
          refine rm_get (v := .int 3) hx hb hts hown hC hG 23 (by decide) q_533 (by simp [mfs, up2, upd, up2L, vp_updL]) dM_bid_52 ?_
          refine lv_if_le (tgt := 60) hx hb dM_bid_55 (by decide) (fun c_8 => ?_) (fun c_8 => ?_)
          · exact absurd c_8 (by decide)
          · refine lv_iconst (v := 0) hx hb dM_bid_58 (by decide) ?_
            refine W.widen (k := 0) (n := 0) (Nat.le_of_ble_eq_true rfl) (Nat.le_of_ble_eq_true rfl) ?_
            exact W.iret (v := 0) hx hb hr (fun t ht hW => ⟨⟨0, (sL, (up2 sA 5 23 3)), rfl, (by rw [fM_bid, if_neg c_1, if_neg c_3, if_neg c_4, if_neg c_5] <;> rfl), gw_at hG ht⟩, hS.F ht⟩) hS.2.2 dM_bid_59
      · refine lv_iconst (v := 2) hx hb dM_bid_30 (by decide) ?_
        refine lv_goto (tgt := 48) hx hb dM_bid_31 (by decide) ?_
        refine rm_puti hx hb hts hown hC hG hS 23 (by decide) q_533 dM_bid_48 (fun H locs hG hS => ?_)
        refine lv_aload_n hx hb dM_bid_51 rfl (lv_at hl 0 rfl) ?_
        refine rm_get (v := .int 2) hx hb hts hown hC hG 23 (by decide) q_533 (by simp [mfs, up2, upd, up2L, vp_updL]) dM_bid_52 ?_
        refine lv_if_le (tgt := 60) hx hb dM_bid_55 (by decide) (fun c_9 => ?_) (fun c_9 => ?_)
        · exact absurd c_9 (by decide)
        · refine lv_iconst (v := 0) hx hb dM_bid_58 (by decide) ?_
          refine W.widen (k := 0) (n := 0) (Nat.le_of_ble_eq_true rfl) (Nat.le_of_ble_eq_true rfl) ?_
          exact W.iret (v := 0) hx hb hr (fun t ht hW => ⟨⟨0, (sL, (up2 sA 5 23 2)), rfl, (by rw [fM_bid, if_neg c_1, if_neg c_3, if_pos c_4] <;> rfl), gw_at hG ht⟩, hS.F ht⟩) hS.2.2 dM_bid_59
    · refine lv_iconst (v := 1) hx hb dM_bid_16 (by decide) ?_
      refine lv_goto (tgt := 48) hx hb dM_bid_17 (by decide) ?_
      refine rm_puti hx hb hts hown hC hG hS 23 (by decide) q_533 dM_bid_48 (fun H locs hG hS => ?_)
      refine lv_aload_n hx hb dM_bid_51 rfl (lv_at hl 0 rfl) ?_
      refine rm_get (v := .int 1) hx hb hts hown hC hG 23 (by decide) q_533 (by simp [mfs, up2, upd, up2L, vp_updL]) dM_bid_52 ?_
      refine lv_if_le (tgt := 60) hx hb dM_bid_55 (by decide) (fun c_10 => ?_) (fun c_10 => ?_)
      · exact absurd c_10 (by decide)
      · refine lv_iconst (v := 0) hx hb dM_bid_58 (by decide) ?_
        refine W.widen (k := 0) (n := 0) (Nat.le_of_ble_eq_true rfl) (Nat.le_of_ble_eq_true rfl) ?_
        exact W.iret (v := 0) hx hb hr (fun t ht hW => ⟨⟨0, (sL, (up2 sA 5 23 1)), rfl, (by rw [fM_bid, if_neg c_1, if_pos c_3] <;> rfl), gw_at hG ht⟩, hS.F ht⟩) hS.2.2 dM_bid_59
def fM_hammer (sL : NL) (sA : NA) (p0 : Int32) : Int32 × NL × NA := if (fM_isLot sL sA p0) = 0 then (0, sL, (up2 sA 5 23 1)) else (if (sA 9 p0.toNatClampNeg) = 0 then (if (fM_highest sL (up2 sA 5 23 0) p0) = (-1) then ((-1), sL, (up2 (up2 sA 5 23 0) 9 p0.toNatClampNeg 1)) else (if (sA 7 p0.toNatClampNeg) ≤ (sA 13 ((fM_highest sL (up2 sA 5 23 0) p0).toNatClampNeg)) then (if (fM_highestBut sL (up2 sA 5 23 0) p0 (fM_highest sL (up2 sA 5 23 0) p0)) = (-1) then (if (sA 7 p0.toNatClampNeg) = 0 then (if (sA 7 p0.toNatClampNeg) ≤ 50 then (if 50 ≤ (sA 13 ((fM_highest sL (up2 sA 5 23 0) p0).toNatClampNeg)) then (50, sL, (up2 (up2 (up2 (up2 (up2 sA 5 23 0) 9 p0.toNatClampNeg 2) 10 p0.toNatClampNeg ((fM_highest sL (up2 sA 5 23 0) p0) - (10 * p0))) 11 p0.toNatClampNeg 50) 12 p0.toNatClampNeg (sA 5 19))) else (sA 13 ((fM_highest sL (up2 sA 5 23 0) p0).toNatClampNeg), sL, (up2 (up2 (up2 (up2 (up2 sA 5 23 0) 9 p0.toNatClampNeg 2) 10 p0.toNatClampNeg ((fM_highest sL (up2 sA 5 23 0) p0) - (10 * p0))) 11 p0.toNatClampNeg (sA 13 ((fM_highest sL (up2 sA 5 23 0) p0).toNatClampNeg))) 12 p0.toNatClampNeg (sA 5 19)))) else (sA 7 p0.toNatClampNeg, sL, (up2 (up2 (up2 (up2 (up2 sA 5 23 0) 9 p0.toNatClampNeg 2) 10 p0.toNatClampNeg ((fM_highest sL (up2 sA 5 23 0) p0) - (10 * p0))) 11 p0.toNatClampNeg (sA 7 p0.toNatClampNeg)) 12 p0.toNatClampNeg (sA 5 19)))) else (if (sA 7 p0.toNatClampNeg) ≤ (sA 7 p0.toNatClampNeg) then (sA 7 p0.toNatClampNeg, sL, (up2 (up2 (up2 (up2 (up2 sA 5 23 0) 9 p0.toNatClampNeg 2) 10 p0.toNatClampNeg ((fM_highest sL (up2 sA 5 23 0) p0) - (10 * p0))) 11 p0.toNatClampNeg (sA 7 p0.toNatClampNeg)) 12 p0.toNatClampNeg (sA 5 19))) else (sA 7 p0.toNatClampNeg, sL, (up2 (up2 (up2 (up2 (up2 sA 5 23 0) 9 p0.toNatClampNeg 2) 10 p0.toNatClampNeg ((fM_highest sL (up2 sA 5 23 0) p0) - (10 * p0))) 11 p0.toNatClampNeg (sA 7 p0.toNatClampNeg)) 12 p0.toNatClampNeg (sA 5 19))))) else (if (sA 7 p0.toNatClampNeg) ≤ ((fM_highestBut sL (up2 sA 5 23 0) p0 (fM_highest sL (up2 sA 5 23 0) p0)) + (fM_step (fM_highestBut sL (up2 sA 5 23 0) p0 (fM_highest sL (up2 sA 5 23 0) p0)))) then (if ((fM_highestBut sL (up2 sA 5 23 0) p0 (fM_highest sL (up2 sA 5 23 0) p0)) + (fM_step (fM_highestBut sL (up2 sA 5 23 0) p0 (fM_highest sL (up2 sA 5 23 0) p0)))) ≤ (sA 13 ((fM_highest sL (up2 sA 5 23 0) p0).toNatClampNeg)) then ((fM_highestBut sL (up2 sA 5 23 0) p0 (fM_highest sL (up2 sA 5 23 0) p0)) + (fM_step (fM_highestBut sL (up2 sA 5 23 0) p0 (fM_highest sL (up2 sA 5 23 0) p0))), sL, (up2 (up2 (up2 (up2 (up2 sA 5 23 0) 9 p0.toNatClampNeg 2) 10 p0.toNatClampNeg ((fM_highest sL (up2 sA 5 23 0) p0) - (10 * p0))) 11 p0.toNatClampNeg ((fM_highestBut sL (up2 sA 5 23 0) p0 (fM_highest sL (up2 sA 5 23 0) p0)) + (fM_step (fM_highestBut sL (up2 sA 5 23 0) p0 (fM_highest sL (up2 sA 5 23 0) p0))))) 12 p0.toNatClampNeg (sA 5 19))) else (sA 13 ((fM_highest sL (up2 sA 5 23 0) p0).toNatClampNeg), sL, (up2 (up2 (up2 (up2 (up2 sA 5 23 0) 9 p0.toNatClampNeg 2) 10 p0.toNatClampNeg ((fM_highest sL (up2 sA 5 23 0) p0) - (10 * p0))) 11 p0.toNatClampNeg (sA 13 ((fM_highest sL (up2 sA 5 23 0) p0).toNatClampNeg))) 12 p0.toNatClampNeg (sA 5 19)))) else (sA 7 p0.toNatClampNeg, sL, (up2 (up2 (up2 (up2 (up2 sA 5 23 0) 9 p0.toNatClampNeg 2) 10 p0.toNatClampNeg ((fM_highest sL (up2 sA 5 23 0) p0) - (10 * p0))) 11 p0.toNatClampNeg (sA 7 p0.toNatClampNeg)) 12 p0.toNatClampNeg (sA 5 19))))) else ((-1), sL, (up2 (up2 sA 5 23 0) 9 p0.toNatClampNeg 1)))) else (0, sL, (up2 sA 5 23 2)))
theorem hdyM_hammer : yM_hammer.cls ≠ "java/lang/invoke/MethodHandle" ∧ yM_hammer.cls ≠ "java/lang/invoke/VarHandle" ∧ (parseMethodDescriptor yM_hammer.desc).map (fun d => d.parameters.length) = some 1 := by decide +kernel
theorem dM_hammer_0 : decode bM_hammer 0 = .ok (.aload_n 0, 1) := by decide +kernel
theorem dM_hammer_1 : decode bM_hammer 1 = .ok (.aload_n 0, 1) := by decide +kernel
theorem dM_hammer_2 : decode bM_hammer 2 = .ok (.iload_n 1, 1) := by decide +kernel
theorem dM_hammer_3 : decode bM_hammer 3 = .ok (.invokevirtual 84, 3) := by decide +kernel
theorem dM_hammer_6 : decode bM_hammer 6 = .ok (.ifCond .ne 7, 3) := by decide +kernel
theorem dM_hammer_9 : decode bM_hammer 9 = .ok (.iconst 1, 1) := by decide +kernel
theorem dM_hammer_10 : decode bM_hammer 10 = .ok (.goto 17, 3) := by decide +kernel
theorem dM_hammer_13 : decode bM_hammer 13 = .ok (.aload_n 0, 1) := by decide +kernel
theorem dM_hammer_14 : decode bM_hammer 14 = .ok (.getfield 19, 3) := by decide +kernel
theorem dM_hammer_17 : decode bM_hammer 17 = .ok (.iload_n 1, 1) := by decide +kernel
theorem dM_hammer_18 : decode bM_hammer 18 = .ok (.iaload, 1) := by decide +kernel
theorem dM_hammer_19 : decode bM_hammer 19 = .ok (.ifCond .eq 7, 3) := by decide +kernel
theorem dM_hammer_22 : decode bM_hammer 22 = .ok (.iconst 2, 1) := by decide +kernel
theorem dM_hammer_23 : decode bM_hammer 23 = .ok (.goto 4, 3) := by decide +kernel
theorem dM_hammer_26 : decode bM_hammer 26 = .ok (.iconst 0, 1) := by decide +kernel
theorem dM_hammer_27 : decode bM_hammer 27 = .ok (.putfield 62, 3) := by decide +kernel
theorem dM_hammer_30 : decode bM_hammer 30 = .ok (.aload_n 0, 1) := by decide +kernel
theorem dM_hammer_31 : decode bM_hammer 31 = .ok (.getfield 62, 3) := by decide +kernel
theorem dM_hammer_34 : decode bM_hammer 34 = .ok (.ifCond .le 5, 3) := by decide +kernel
theorem dM_hammer_37 : decode bM_hammer 37 = .ok (.iconst 0, 1) := by decide +kernel
theorem dM_hammer_38 : decode bM_hammer 38 = .ok (.ireturn, 1) := by decide +kernel
theorem dM_hammer_39 : decode bM_hammer 39 = .ok (.aload_n 0, 1) := by decide +kernel
theorem dM_hammer_40 : decode bM_hammer 40 = .ok (.iload_n 1, 1) := by decide +kernel
theorem dM_hammer_41 : decode bM_hammer 41 = .ok (.invokevirtual 94, 3) := by decide +kernel
theorem dM_hammer_44 : decode bM_hammer 44 = .ok (.istore_n 2, 1) := by decide +kernel
theorem dM_hammer_45 : decode bM_hammer 45 = .ok (.iload_n 2, 1) := by decide +kernel
theorem dM_hammer_46 : decode bM_hammer 46 = .ok (.iconst (-1), 1) := by decide +kernel
theorem dM_hammer_47 : decode bM_hammer 47 = .ok (.if_icmp .eq 18, 3) := by decide +kernel
theorem dM_hammer_50 : decode bM_hammer 50 = .ok (.aload_n 0, 1) := by decide +kernel
theorem dM_hammer_51 : decode bM_hammer 51 = .ok (.getfield 31, 3) := by decide +kernel
theorem dM_hammer_54 : decode bM_hammer 54 = .ok (.iload_n 2, 1) := by decide +kernel
theorem dM_hammer_55 : decode bM_hammer 55 = .ok (.iaload, 1) := by decide +kernel
theorem dM_hammer_56 : decode bM_hammer 56 = .ok (.aload_n 0, 1) := by decide +kernel
theorem dM_hammer_57 : decode bM_hammer 57 = .ok (.getfield 13, 3) := by decide +kernel
theorem dM_hammer_60 : decode bM_hammer 60 = .ok (.iload_n 1, 1) := by decide +kernel
theorem dM_hammer_61 : decode bM_hammer 61 = .ok (.iaload, 1) := by decide +kernel
theorem dM_hammer_62 : decode bM_hammer 62 = .ok (.if_icmp .ge 12, 3) := by decide +kernel
theorem dM_hammer_65 : decode bM_hammer 65 = .ok (.aload_n 0, 1) := by decide +kernel
theorem dM_hammer_66 : decode bM_hammer 66 = .ok (.getfield 19, 3) := by decide +kernel
theorem dM_hammer_69 : decode bM_hammer 69 = .ok (.iload_n 1, 1) := by decide +kernel
theorem dM_hammer_70 : decode bM_hammer 70 = .ok (.iconst 1, 1) := by decide +kernel
theorem dM_hammer_71 : decode bM_hammer 71 = .ok (.iastore, 1) := by decide +kernel
theorem dM_hammer_72 : decode bM_hammer 72 = .ok (.iconst (-1), 1) := by decide +kernel
theorem dM_hammer_73 : decode bM_hammer 73 = .ok (.ireturn, 1) := by decide +kernel
theorem dM_hammer_74 : decode bM_hammer 74 = .ok (.aload_n 0, 1) := by decide +kernel
theorem dM_hammer_75 : decode bM_hammer 75 = .ok (.iload_n 1, 1) := by decide +kernel
theorem dM_hammer_76 : decode bM_hammer 76 = .ok (.iload_n 2, 1) := by decide +kernel
theorem dM_hammer_77 : decode bM_hammer 77 = .ok (.invokevirtual 97, 3) := by decide +kernel
theorem dM_hammer_80 : decode bM_hammer 80 = .ok (.istore_n 3, 1) := by decide +kernel
theorem dM_hammer_81 : decode bM_hammer 81 = .ok (.iload_n 3, 1) := by decide +kernel
theorem dM_hammer_82 : decode bM_hammer 82 = .ok (.iconst (-1), 1) := by decide +kernel
theorem dM_hammer_83 : decode bM_hammer 83 = .ok (.if_icmp .ne 12, 3) := by decide +kernel
theorem dM_hammer_86 : decode bM_hammer 86 = .ok (.aload_n 0, 1) := by decide +kernel
theorem dM_hammer_87 : decode bM_hammer 87 = .ok (.getfield 13, 3) := by decide +kernel
theorem dM_hammer_90 : decode bM_hammer 90 = .ok (.iload_n 1, 1) := by decide +kernel
theorem dM_hammer_91 : decode bM_hammer 91 = .ok (.iaload, 1) := by decide +kernel
theorem dM_hammer_92 : decode bM_hammer 92 = .ok (.goto 9, 3) := by decide +kernel
theorem dM_hammer_95 : decode bM_hammer 95 = .ok (.iload_n 3, 1) := by decide +kernel
theorem dM_hammer_96 : decode bM_hammer 96 = .ok (.iload_n 3, 1) := by decide +kernel
theorem dM_hammer_97 : decode bM_hammer 97 = .ok (.invokestatic 72, 3) := by decide +kernel
theorem dM_hammer_100 : decode bM_hammer 100 = .ok (.iadd, 1) := by decide +kernel
theorem dM_hammer_101 : decode bM_hammer 101 = .ok (.istore 4, 2) := by decide +kernel
theorem dM_hammer_103 : decode bM_hammer 103 = .ok (.iload_n 3, 1) := by decide +kernel
theorem dM_hammer_104 : decode bM_hammer 104 = .ok (.iconst (-1), 1) := by decide +kernel
theorem dM_hammer_105 : decode bM_hammer 105 = .ok (.if_icmp .ne 17, 3) := by decide +kernel
theorem dM_hammer_108 : decode bM_hammer 108 = .ok (.aload_n 0, 1) := by decide +kernel
theorem dM_hammer_109 : decode bM_hammer 109 = .ok (.getfield 13, 3) := by decide +kernel
theorem dM_hammer_112 : decode bM_hammer 112 = .ok (.iload_n 1, 1) := by decide +kernel
theorem dM_hammer_113 : decode bM_hammer 113 = .ok (.iaload, 1) := by decide +kernel
theorem dM_hammer_114 : decode bM_hammer 114 = .ok (.ifCond .ne 8, 3) := by decide +kernel
theorem dM_hammer_117 : decode bM_hammer 117 = .ok (.bipush 50, 2) := by decide +kernel
theorem dM_hammer_119 : decode bM_hammer 119 = .ok (.goto 5, 3) := by decide +kernel
theorem dM_hammer_122 : decode bM_hammer 122 = .ok (.iload 4, 2) := by decide +kernel
theorem dM_hammer_124 : decode bM_hammer 124 = .ok (.istore 4, 2) := by decide +kernel
theorem dM_hammer_126 : decode bM_hammer 126 = .ok (.iload 4, 2) := by decide +kernel
theorem dM_hammer_128 : decode bM_hammer 128 = .ok (.aload_n 0, 1) := by decide +kernel
theorem dM_hammer_129 : decode bM_hammer 129 = .ok (.getfield 13, 3) := by decide +kernel
theorem dM_hammer_132 : decode bM_hammer 132 = .ok (.iload_n 1, 1) := by decide +kernel
theorem dM_hammer_133 : decode bM_hammer 133 = .ok (.iaload, 1) := by decide +kernel
theorem dM_hammer_134 : decode bM_hammer 134 = .ok (.if_icmp .ge 12, 3) := by decide +kernel
theorem dM_hammer_137 : decode bM_hammer 137 = .ok (.aload_n 0, 1) := by decide +kernel
theorem dM_hammer_138 : decode bM_hammer 138 = .ok (.getfield 13, 3) := by decide +kernel
theorem dM_hammer_141 : decode bM_hammer 141 = .ok (.iload_n 1, 1) := by decide +kernel
theorem dM_hammer_142 : decode bM_hammer 142 = .ok (.iaload, 1) := by decide +kernel
theorem dM_hammer_143 : decode bM_hammer 143 = .ok (.goto 5, 3) := by decide +kernel
theorem dM_hammer_146 : decode bM_hammer 146 = .ok (.iload 4, 2) := by decide +kernel
theorem dM_hammer_148 : decode bM_hammer 148 = .ok (.istore 4, 2) := by decide +kernel
theorem dM_hammer_150 : decode bM_hammer 150 = .ok (.iload 4, 2) := by decide +kernel
theorem dM_hammer_152 : decode bM_hammer 152 = .ok (.aload_n 0, 1) := by decide +kernel
theorem dM_hammer_153 : decode bM_hammer 153 = .ok (.getfield 31, 3) := by decide +kernel
theorem dM_hammer_156 : decode bM_hammer 156 = .ok (.iload_n 2, 1) := by decide +kernel
theorem dM_hammer_157 : decode bM_hammer 157 = .ok (.iaload, 1) := by decide +kernel
theorem dM_hammer_158 : decode bM_hammer 158 = .ok (.if_icmp .le 12, 3) := by decide +kernel
theorem dM_hammer_161 : decode bM_hammer 161 = .ok (.aload_n 0, 1) := by decide +kernel
theorem dM_hammer_162 : decode bM_hammer 162 = .ok (.getfield 31, 3) := by decide +kernel
theorem dM_hammer_165 : decode bM_hammer 165 = .ok (.iload_n 2, 1) := by decide +kernel
theorem dM_hammer_166 : decode bM_hammer 166 = .ok (.iaload, 1) := by decide +kernel
theorem dM_hammer_167 : decode bM_hammer 167 = .ok (.goto 5, 3) := by decide +kernel
theorem dM_hammer_170 : decode bM_hammer 170 = .ok (.iload 4, 2) := by decide +kernel
theorem dM_hammer_172 : decode bM_hammer 172 = .ok (.istore 4, 2) := by decide +kernel
theorem dM_hammer_174 : decode bM_hammer 174 = .ok (.aload_n 0, 1) := by decide +kernel
theorem dM_hammer_175 : decode bM_hammer 175 = .ok (.getfield 19, 3) := by decide +kernel
theorem dM_hammer_178 : decode bM_hammer 178 = .ok (.iload_n 1, 1) := by decide +kernel
theorem dM_hammer_179 : decode bM_hammer 179 = .ok (.iconst 2, 1) := by decide +kernel
theorem dM_hammer_180 : decode bM_hammer 180 = .ok (.iastore, 1) := by decide +kernel
theorem dM_hammer_181 : decode bM_hammer 181 = .ok (.aload_n 0, 1) := by decide +kernel
theorem dM_hammer_182 : decode bM_hammer 182 = .ok (.getfield 22, 3) := by decide +kernel
theorem dM_hammer_185 : decode bM_hammer 185 = .ok (.iload_n 1, 1) := by decide +kernel
theorem dM_hammer_186 : decode bM_hammer 186 = .ok (.iload_n 2, 1) := by decide +kernel
theorem dM_hammer_187 : decode bM_hammer 187 = .ok (.bipush 10, 2) := by decide +kernel
theorem dM_hammer_189 : decode bM_hammer 189 = .ok (.iload_n 1, 1) := by decide +kernel
theorem dM_hammer_190 : decode bM_hammer 190 = .ok (.imul, 1) := by decide +kernel
theorem dM_hammer_191 : decode bM_hammer 191 = .ok (.isub, 1) := by decide +kernel
theorem dM_hammer_192 : decode bM_hammer 192 = .ok (.iastore, 1) := by decide +kernel
theorem dM_hammer_193 : decode bM_hammer 193 = .ok (.aload_n 0, 1) := by decide +kernel
theorem dM_hammer_194 : decode bM_hammer 194 = .ok (.getfield 25, 3) := by decide +kernel
theorem dM_hammer_197 : decode bM_hammer 197 = .ok (.iload_n 1, 1) := by decide +kernel
theorem dM_hammer_198 : decode bM_hammer 198 = .ok (.iload 4, 2) := by decide +kernel
theorem dM_hammer_200 : decode bM_hammer 200 = .ok (.iastore, 1) := by decide +kernel
theorem dM_hammer_201 : decode bM_hammer 201 = .ok (.aload_n 0, 1) := by decide +kernel
theorem dM_hammer_202 : decode bM_hammer 202 = .ok (.getfield 28, 3) := by decide +kernel
theorem dM_hammer_205 : decode bM_hammer 205 = .ok (.iload_n 1, 1) := by decide +kernel
theorem dM_hammer_206 : decode bM_hammer 206 = .ok (.aload_n 0, 1) := by decide +kernel
theorem dM_hammer_207 : decode bM_hammer 207 = .ok (.getfield 101, 3) := by decide +kernel
theorem dM_hammer_210 : decode bM_hammer 210 = .ok (.iastore, 1) := by decide +kernel
theorem dM_hammer_211 : decode bM_hammer 211 = .ok (.iload 4, 2) := by decide +kernel
theorem dM_hammer_213 : decode bM_hammer 213 = .ok (.ireturn, 1) := by decide +kernel
set_option maxHeartbeats 4000000 in
set_option maxRecDepth 100000 in
theorem cM_hammer (l : Launch) (D : va_G) (tI tJ tL : ClassId) (A : Nat → Prop) (sg ad : Nat → Nat) (n : Nat) (sL : NL) (sA : NA) (p0 : Int32) (nm : Nat) (hnm : nm ≤ 30) (hm : sA 5 0 = nI nm) : Met l yM_hammer (Cond.code yM_hammer bM_hammer 5 (some FieldType.int) :: wNeed) { frames := 2, cells := 0, slots := 0, locals := 43 } (va_Pc [.ref (ad 5), .int p0] (GP D tI tJ tL A sg ad n sL sA)) (va_Qi (fun r (u : NL × NA) => fM_hammer sL sA p0 = (r, u.1, u.2)) (fun u t => GW D tI tJ tL A ad n u.1 u.2 t.heap) A) 0 0 A := by
  refine en_G (av := [.ref (ad 5), .int p0]) (by decide) (Nat.le_of_ble_eq_true rfl) ?_
  intro p e s m below meth c hx hb hml hown hts hr hlocks hmname hC H locs hG hS ls hl
  replace hl : lv_has ls 5 [(0, .ref (ad 5)), (1, .int p0)] := hl
  refine lv_aload_n hx hb dM_hammer_0 rfl (lv_at hl 0 rfl) ?_
  refine lv_aload_n hx hb dM_hammer_1 rfl (lv_at hl 0 rfl) ?_
  refine lv_iload_n hx hb dM_hammer_2 rfl (lv_at hl 1 rfl) ?_
  refine rcV2 (rest := [.ref (ad 5)]) (As := [.int p0]) hx hb hml hown hts hC hG hS (cM_isLot l D tI tJ tL A sg ad n sL sA p0) (recM hC hG) (gV q_609 q_611 q_p8 q_2 q_612) rfl rfl ⟨rfl, hdyM_isLot⟩ ⟨Nat.le_of_ble_eq_true rfl, Nat.le_of_ble_eq_true rfl⟩ hl.1 rfl (Nat.le_of_ble_eq_true rfl) dM_hammer_3 ⟨Nat.le_of_ble_eq_true rfl, Nat.le_of_ble_eq_true rfl⟩ ?_
  refine lv_if_ne (tgt := 13) hx hb dM_hammer_6 (by decide) (fun c_1 => ?_) (fun c_1 => ?_)
  · refine lv_aload_n hx hb dM_hammer_13 rfl (lv_at hl 0 rfl) ?_
    refine rm_get (v := .ref (ad 9)) hx hb hts hown hC hG 4 (by decide) q_514 (rfl) dM_hammer_14 ?_
    refine lv_iload_n hx hb dM_hammer_17 rfl (lv_at hl 1 rfl) ?_
    refine ra_ld hx hb hC hG 9 30 (by omega) (fun _ _ => rfl) ((vin_lot hnm hm c_1).1) dM_hammer_18 ?_
    refine lv_if_eq (tgt := 26) hx hb dM_hammer_19 (by decide) (fun c_2 => ?_) (fun c_2 => ?_)
    · refine lv_iconst (v := 0) hx hb dM_hammer_26 (by decide) ?_
      refine rm_puti hx hb hts hown hC hG hS 23 (by decide) q_533 dM_hammer_27 (fun H locs hG hS => ?_)
      refine lv_aload_n hx hb dM_hammer_30 rfl (lv_at hl 0 rfl) ?_
      refine rm_get (v := .int 0) hx hb hts hown hC hG 23 (by decide) q_533 (by simp [mfs, up2, upd, up2L, vp_updL]) dM_hammer_31 ?_
      refine lv_if_le (tgt := 39) hx hb dM_hammer_34 (by decide) (fun c_3 => ?_) (fun c_3 => ?_)
      · refine lv_aload_n hx hb dM_hammer_39 rfl (lv_at hl 0 rfl) ?_
        refine lv_iload_n hx hb dM_hammer_40 rfl (lv_at hl 1 rfl) ?_
        refine rcV2 (rest := []) (As := [.int p0]) hx hb hml hown hts hC hG hS (cM_highest l D tI tJ tL A sg ad n sL (up2 sA 5 23 0) p0 ((vin_lot hnm hm c_1).1)) (recM hC hG) (gV q_620 q_622 q_p9 q_2 q_623) rfl rfl ⟨rfl, hdyM_highest⟩ ⟨Nat.le_of_ble_eq_true rfl, Nat.le_of_ble_eq_true rfl⟩ hl.1 rfl (Nat.le_of_ble_eq_true rfl) dM_hammer_41 ⟨Nat.le_of_ble_eq_true rfl, Nat.le_of_ble_eq_true rfl⟩ ?_
        refine lv_istore_n (lv' := [(2, .int (fM_highest sL (up2 sA 5 23 0) p0)), (0, .ref (ad 5)), (1, .int p0)]) hx hb dM_hammer_44 rfl hl (by decide) rfl (fun ls hl => ?_)
        refine lv_iload_n hx hb dM_hammer_45 rfl (lv_at hl 0 rfl) ?_
        refine lv_iconst (v := (-1)) hx hb dM_hammer_46 (by decide) ?_
        refine lv_icmp_eq (tgt := 65) hx hb dM_hammer_47 (by decide) (fun c_4 => ?_) (fun c_4 => ?_)
        · refine lv_aload_n hx hb dM_hammer_65 rfl (lv_at hl 1 rfl) ?_
          refine rm_get (v := .ref (ad 9)) hx hb hts hown hC hG 4 (by decide) q_514 (rfl) dM_hammer_66 ?_
          refine lv_iload_n hx hb dM_hammer_69 rfl (lv_at hl 2 rfl) ?_
          refine lv_iconst (v := 1) hx hb dM_hammer_70 (by decide) ?_
          refine ra_st hx hb hC hG hS 9 30 (by omega) (fun _ _ => rfl) ((vin_lot hnm hm c_1).1) dM_hammer_71 (fun H locs hG hS => ?_)
          refine lv_iconst (v := (-1)) hx hb dM_hammer_72 (by decide) ?_
          refine W.widen (k := 0) (n := 0) (Nat.le_of_ble_eq_true rfl) (Nat.le_of_ble_eq_true rfl) ?_
          exact W.iret (v := (-1)) hx hb hr (fun t ht hW => ⟨⟨(-1), (sL, (up2 (up2 sA 5 23 0) 9 p0.toNatClampNeg 1)), rfl, (by rw [fM_hammer, if_neg c_1, if_pos c_2, if_pos c_4] <;> rfl), gw_at hG ht⟩, hS.F ht⟩) hS.2.2 dM_hammer_73
        · refine lv_aload_n hx hb dM_hammer_50 rfl (lv_at hl 1 rfl) ?_
          refine rm_get (v := .ref (ad 13)) hx hb hts hown hC hG 8 (by decide) q_518 (rfl) dM_hammer_51 ?_
          refine lv_iload_n hx hb dM_hammer_54 rfl (lv_at hl 0 rfl) ?_
          refine ra_ld hx hb hC hG 13 300 (by omega) (fun _ _ => rfl) (highest_in (vin_lot hnm hm c_1).1 c_4) dM_hammer_55 ?_
          refine W.eq (g2 := F0 m 56 ls (.int (sA 13 ((fM_highest sL (up2 sA 5 23 0) p0).toNatClampNeg)) :: [])) (by simp [up2, upd]) ?_
          refine lv_aload_n hx hb dM_hammer_56 rfl (lv_at hl 1 rfl) ?_
          refine rm_get (v := .ref (ad 7)) hx hb hts hown hC hG 2 (by decide) q_512 (rfl) dM_hammer_57 ?_
          refine lv_iload_n hx hb dM_hammer_60 rfl (lv_at hl 2 rfl) ?_
          refine ra_ld hx hb hC hG 7 30 (by omega) (fun _ _ => rfl) ((vin_lot hnm hm c_1).1) dM_hammer_61 ?_
          refine W.eq (g2 := F0 m 62 ls (.int (sA 7 p0.toNatClampNeg) :: .int (sA 13 ((fM_highest sL (up2 sA 5 23 0) p0).toNatClampNeg)) :: [])) (by simp [up2, upd]) ?_
          refine lv_icmp_ge (tgt := 74) hx hb dM_hammer_62 (by decide) (fun c_5 => ?_) (fun c_5 => ?_)
          · refine lv_aload_n hx hb dM_hammer_74 rfl (lv_at hl 1 rfl) ?_
            refine lv_iload_n hx hb dM_hammer_75 rfl (lv_at hl 2 rfl) ?_
            refine lv_iload_n hx hb dM_hammer_76 rfl (lv_at hl 0 rfl) ?_
            refine rcV2 (rest := []) (As := [.int p0, .int (fM_highest sL (up2 sA 5 23 0) p0)]) hx hb hml hown hts hC hG hS (cM_highestBut l D tI tJ tL A sg ad n sL (up2 sA 5 23 0) p0 (fM_highest sL (up2 sA 5 23 0) p0) ((vin_lot hnm hm c_1).1)) (recM hC hG) (gV q_624 q_626 q_p10 q_2 q_627) rfl rfl ⟨rfl, hdyM_highestBut⟩ ⟨Nat.le_of_ble_eq_true rfl, Nat.le_of_ble_eq_true rfl⟩ hl.1 rfl (Nat.le_of_ble_eq_true rfl) dM_hammer_77 ⟨Nat.le_of_ble_eq_true rfl, Nat.le_of_ble_eq_true rfl⟩ ?_
            refine lv_istore_n (lv' := [(3, .int (fM_highestBut sL (up2 sA 5 23 0) p0 (fM_highest sL (up2 sA 5 23 0) p0))), (2, .int (fM_highest sL (up2 sA 5 23 0) p0)), (0, .ref (ad 5)), (1, .int p0)]) hx hb dM_hammer_80 rfl hl (by decide) rfl (fun ls hl => ?_)
            refine lv_iload_n hx hb dM_hammer_81 rfl (lv_at hl 0 rfl) ?_
            refine lv_iconst (v := (-1)) hx hb dM_hammer_82 (by decide) ?_
            refine lv_icmp_ne (tgt := 95) hx hb dM_hammer_83 (by decide) (fun c_6 => ?_) (fun c_6 => ?_)
            · refine lv_iload_n hx hb dM_hammer_95 rfl (lv_at hl 0 rfl) ?_
              refine lv_iload_n hx hb dM_hammer_96 rfl (lv_at hl 0 rfl) ?_
              refine rcS1 (rest := [.int (fM_highestBut sL (up2 sA 5 23 0) p0 (fM_highest sL (up2 sA 5 23 0) p0))]) (As := [.int (fM_highestBut sL (up2 sA 5 23 0) p0 (fM_highest sL (up2 sA 5 23 0) p0))]) hx hb hml hown hts (cM_step l (fM_highestBut sL (up2 sA 5 23 0) p0 (fM_highest sL (up2 sA 5 23 0) p0))) (gS q_598 q_599 q_2 q_600) rfl rfl ⟨rfl, hdyM_step⟩ ⟨Nat.le_of_ble_eq_true rfl, Nat.le_of_ble_eq_true rfl⟩ hl.1 rfl (Nat.le_of_ble_eq_true rfl) dM_hammer_97 ⟨Nat.le_of_ble_eq_true rfl, Nat.le_of_ble_eq_true rfl⟩ ?_
              refine lv_iadd hx hb dM_hammer_100 ?_
              refine lv_istore (lv' := [(4, .int ((fM_highestBut sL (up2 sA 5 23 0) p0 (fM_highest sL (up2 sA 5 23 0) p0)) + (fM_step (fM_highestBut sL (up2 sA 5 23 0) p0 (fM_highest sL (up2 sA 5 23 0) p0))))), (3, .int (fM_highestBut sL (up2 sA 5 23 0) p0 (fM_highest sL (up2 sA 5 23 0) p0))), (2, .int (fM_highest sL (up2 sA 5 23 0) p0)), (0, .ref (ad 5)), (1, .int p0)]) hx hb dM_hammer_101 hl (by decide) rfl (fun ls hl => ?_)
              refine lv_iload_n hx hb dM_hammer_103 rfl (lv_at hl 1 rfl) ?_
              refine lv_iconst (v := (-1)) hx hb dM_hammer_104 (by decide) ?_
              refine lv_icmp_ne (tgt := 122) hx hb dM_hammer_105 (by decide) (fun c_7 => ?_) (fun c_7 => ?_)
              · refine lv_iload hx hb dM_hammer_122 (lv_at hl 0 rfl) ?_
                refine lv_istore (lv' := [(4, .int ((fM_highestBut sL (up2 sA 5 23 0) p0 (fM_highest sL (up2 sA 5 23 0) p0)) + (fM_step (fM_highestBut sL (up2 sA 5 23 0) p0 (fM_highest sL (up2 sA 5 23 0) p0))))), (3, .int (fM_highestBut sL (up2 sA 5 23 0) p0 (fM_highest sL (up2 sA 5 23 0) p0))), (2, .int (fM_highest sL (up2 sA 5 23 0) p0)), (0, .ref (ad 5)), (1, .int p0)]) hx hb dM_hammer_124 hl (by decide) rfl (fun ls hl => ?_)
                refine lv_iload hx hb dM_hammer_126 (lv_at hl 0 rfl) ?_
                refine lv_aload_n hx hb dM_hammer_128 rfl (lv_at hl 3 rfl) ?_
                refine rm_get (v := .ref (ad 7)) hx hb hts hown hC hG 2 (by decide) q_512 (rfl) dM_hammer_129 ?_
                refine lv_iload_n hx hb dM_hammer_132 rfl (lv_at hl 4 rfl) ?_
                refine ra_ld hx hb hC hG 7 30 (by omega) (fun _ _ => rfl) ((vin_lot hnm hm c_1).1) dM_hammer_133 ?_
                refine W.eq (g2 := F0 m 134 ls (.int (sA 7 p0.toNatClampNeg) :: .int ((fM_highestBut sL (up2 sA 5 23 0) p0 (fM_highest sL (up2 sA 5 23 0) p0)) + (fM_step (fM_highestBut sL (up2 sA 5 23 0) p0 (fM_highest sL (up2 sA 5 23 0) p0)))) :: [])) (by simp [up2, upd]) ?_
                refine lv_icmp_ge (tgt := 146) hx hb dM_hammer_134 (by decide) (fun c_8 => ?_) (fun c_8 => ?_)
                · refine lv_iload hx hb dM_hammer_146 (lv_at hl 0 rfl) ?_
                  refine lv_istore (lv' := [(4, .int ((fM_highestBut sL (up2 sA 5 23 0) p0 (fM_highest sL (up2 sA 5 23 0) p0)) + (fM_step (fM_highestBut sL (up2 sA 5 23 0) p0 (fM_highest sL (up2 sA 5 23 0) p0))))), (3, .int (fM_highestBut sL (up2 sA 5 23 0) p0 (fM_highest sL (up2 sA 5 23 0) p0))), (2, .int (fM_highest sL (up2 sA 5 23 0) p0)), (0, .ref (ad 5)), (1, .int p0)]) hx hb dM_hammer_148 hl (by decide) rfl (fun ls hl => ?_)
                  refine lv_iload hx hb dM_hammer_150 (lv_at hl 0 rfl) ?_
                  refine lv_aload_n hx hb dM_hammer_152 rfl (lv_at hl 3 rfl) ?_
                  refine rm_get (v := .ref (ad 13)) hx hb hts hown hC hG 8 (by decide) q_518 (rfl) dM_hammer_153 ?_
                  refine lv_iload_n hx hb dM_hammer_156 rfl (lv_at hl 2 rfl) ?_
                  refine ra_ld hx hb hC hG 13 300 (by omega) (fun _ _ => rfl) (highest_in (vin_lot hnm hm c_1).1 c_4) dM_hammer_157 ?_
                  refine W.eq (g2 := F0 m 158 ls (.int (sA 13 ((fM_highest sL (up2 sA 5 23 0) p0).toNatClampNeg)) :: .int ((fM_highestBut sL (up2 sA 5 23 0) p0 (fM_highest sL (up2 sA 5 23 0) p0)) + (fM_step (fM_highestBut sL (up2 sA 5 23 0) p0 (fM_highest sL (up2 sA 5 23 0) p0)))) :: [])) (by simp [up2, upd]) ?_
                  refine lv_icmp_le (tgt := 170) hx hb dM_hammer_158 (by decide) (fun c_9 => ?_) (fun c_9 => ?_)
                  · refine lv_iload hx hb dM_hammer_170 (lv_at hl 0 rfl) ?_
                    refine lv_istore (lv' := [(4, .int ((fM_highestBut sL (up2 sA 5 23 0) p0 (fM_highest sL (up2 sA 5 23 0) p0)) + (fM_step (fM_highestBut sL (up2 sA 5 23 0) p0 (fM_highest sL (up2 sA 5 23 0) p0))))), (3, .int (fM_highestBut sL (up2 sA 5 23 0) p0 (fM_highest sL (up2 sA 5 23 0) p0))), (2, .int (fM_highest sL (up2 sA 5 23 0) p0)), (0, .ref (ad 5)), (1, .int p0)]) hx hb dM_hammer_172 hl (by decide) rfl (fun ls hl => ?_)
                    refine lv_aload_n hx hb dM_hammer_174 rfl (lv_at hl 3 rfl) ?_
                    refine rm_get (v := .ref (ad 9)) hx hb hts hown hC hG 4 (by decide) q_514 (rfl) dM_hammer_175 ?_
                    refine lv_iload_n hx hb dM_hammer_178 rfl (lv_at hl 4 rfl) ?_
                    refine lv_iconst (v := 2) hx hb dM_hammer_179 (by decide) ?_
                    refine ra_st hx hb hC hG hS 9 30 (by omega) (fun _ _ => rfl) ((vin_lot hnm hm c_1).1) dM_hammer_180 (fun H locs hG hS => ?_)
                    refine lv_aload_n hx hb dM_hammer_181 rfl (lv_at hl 3 rfl) ?_
                    refine rm_get (v := .ref (ad 10)) hx hb hts hown hC hG 5 (by decide) q_515 (rfl) dM_hammer_182 ?_
                    refine lv_iload_n hx hb dM_hammer_185 rfl (lv_at hl 4 rfl) ?_
                    refine lv_iload_n hx hb dM_hammer_186 rfl (lv_at hl 2 rfl) ?_
                    refine lv_bipush (v := 10) hx hb dM_hammer_187 (by decide) ?_
                    refine lv_iload_n hx hb dM_hammer_189 rfl (lv_at hl 4 rfl) ?_
                    refine lv_imul hx hb dM_hammer_190 ?_
                    refine lv_isub hx hb dM_hammer_191 ?_
                    refine ra_st hx hb hC hG hS 10 30 (by omega) (fun _ _ => rfl) ((vin_lot hnm hm c_1).1) dM_hammer_192 (fun H locs hG hS => ?_)
                    refine lv_aload_n hx hb dM_hammer_193 rfl (lv_at hl 3 rfl) ?_
                    refine rm_get (v := .ref (ad 11)) hx hb hts hown hC hG 6 (by decide) q_516 (rfl) dM_hammer_194 ?_
                    refine lv_iload_n hx hb dM_hammer_197 rfl (lv_at hl 4 rfl) ?_
                    refine lv_iload hx hb dM_hammer_198 (lv_at hl 0 rfl) ?_
                    refine ra_st hx hb hC hG hS 11 30 (by omega) (fun _ _ => rfl) ((vin_lot hnm hm c_1).1) dM_hammer_200 (fun H locs hG hS => ?_)
                    refine lv_aload_n hx hb dM_hammer_201 rfl (lv_at hl 3 rfl) ?_
                    refine rm_get (v := .ref (ad 12)) hx hb hts hown hC hG 7 (by decide) q_517 (rfl) dM_hammer_202 ?_
                    refine lv_iload_n hx hb dM_hammer_205 rfl (lv_at hl 4 rfl) ?_
                    refine lv_aload_n hx hb dM_hammer_206 rfl (lv_at hl 3 rfl) ?_
                    refine rm_get (v := .int (sA 5 19)) hx hb hts hown hC hG 19 (by decide) q_529 (by simp [mfs, up2, upd, up2L, vp_updL]) dM_hammer_207 ?_
                    refine ra_st hx hb hC hG hS 12 30 (by omega) (fun _ _ => rfl) ((vin_lot hnm hm c_1).1) dM_hammer_210 (fun H locs hG hS => ?_)
                    refine lv_iload hx hb dM_hammer_211 (lv_at hl 0 rfl) ?_
                    refine W.widen (k := 0) (n := 0) (Nat.le_of_ble_eq_true rfl) (Nat.le_of_ble_eq_true rfl) ?_
                    exact W.iret (v := (fM_highestBut sL (up2 sA 5 23 0) p0 (fM_highest sL (up2 sA 5 23 0) p0)) + (fM_step (fM_highestBut sL (up2 sA 5 23 0) p0 (fM_highest sL (up2 sA 5 23 0) p0)))) hx hb hr (fun t ht hW => ⟨⟨((fM_highestBut sL (up2 sA 5 23 0) p0 (fM_highest sL (up2 sA 5 23 0) p0)) + (fM_step (fM_highestBut sL (up2 sA 5 23 0) p0 (fM_highest sL (up2 sA 5 23 0) p0)))), (sL, (up2 (up2 (up2 (up2 (up2 sA 5 23 0) 9 p0.toNatClampNeg 2) 10 p0.toNatClampNeg ((fM_highest sL (up2 sA 5 23 0) p0) - (10 * p0))) 11 p0.toNatClampNeg ((fM_highestBut sL (up2 sA 5 23 0) p0 (fM_highest sL (up2 sA 5 23 0) p0)) + (fM_step (fM_highestBut sL (up2 sA 5 23 0) p0 (fM_highest sL (up2 sA 5 23 0) p0))))) 12 p0.toNatClampNeg (sA 5 19))), rfl, (by rw [fM_hammer, if_neg c_1, if_pos c_2, if_neg c_4, if_pos c_5, if_neg c_6, if_pos c_8, if_pos c_9] <;> rfl), gw_at hG ht⟩, hS.F ht⟩) hS.2.2 dM_hammer_213
                  · refine lv_aload_n hx hb dM_hammer_161 rfl (lv_at hl 3 rfl) ?_
                    refine rm_get (v := .ref (ad 13)) hx hb hts hown hC hG 8 (by decide) q_518 (rfl) dM_hammer_162 ?_
                    refine lv_iload_n hx hb dM_hammer_165 rfl (lv_at hl 2 rfl) ?_
                    refine ra_ld hx hb hC hG 13 300 (by omega) (fun _ _ => rfl) (highest_in (vin_lot hnm hm c_1).1 c_4) dM_hammer_166 ?_
                    refine W.eq (g2 := F0 m 167 ls (.int (sA 13 ((fM_highest sL (up2 sA 5 23 0) p0).toNatClampNeg)) :: [])) (by simp [up2, upd]) ?_
                    refine lv_goto (tgt := 172) hx hb dM_hammer_167 (by decide) ?_
                    refine lv_istore (lv' := [(4, .int (sA 13 ((fM_highest sL (up2 sA 5 23 0) p0).toNatClampNeg))), (3, .int (fM_highestBut sL (up2 sA 5 23 0) p0 (fM_highest sL (up2 sA 5 23 0) p0))), (2, .int (fM_highest sL (up2 sA 5 23 0) p0)), (0, .ref (ad 5)), (1, .int p0)]) hx hb dM_hammer_172 hl (by decide) rfl (fun ls hl => ?_)
                    refine lv_aload_n hx hb dM_hammer_174 rfl (lv_at hl 3 rfl) ?_
                    refine rm_get (v := .ref (ad 9)) hx hb hts hown hC hG 4 (by decide) q_514 (rfl) dM_hammer_175 ?_
                    refine lv_iload_n hx hb dM_hammer_178 rfl (lv_at hl 4 rfl) ?_
                    refine lv_iconst (v := 2) hx hb dM_hammer_179 (by decide) ?_
                    refine ra_st hx hb hC hG hS 9 30 (by omega) (fun _ _ => rfl) ((vin_lot hnm hm c_1).1) dM_hammer_180 (fun H locs hG hS => ?_)
                    refine lv_aload_n hx hb dM_hammer_181 rfl (lv_at hl 3 rfl) ?_
                    refine rm_get (v := .ref (ad 10)) hx hb hts hown hC hG 5 (by decide) q_515 (rfl) dM_hammer_182 ?_
                    refine lv_iload_n hx hb dM_hammer_185 rfl (lv_at hl 4 rfl) ?_
                    refine lv_iload_n hx hb dM_hammer_186 rfl (lv_at hl 2 rfl) ?_
                    refine lv_bipush (v := 10) hx hb dM_hammer_187 (by decide) ?_
                    refine lv_iload_n hx hb dM_hammer_189 rfl (lv_at hl 4 rfl) ?_
                    refine lv_imul hx hb dM_hammer_190 ?_
                    refine lv_isub hx hb dM_hammer_191 ?_
                    refine ra_st hx hb hC hG hS 10 30 (by omega) (fun _ _ => rfl) ((vin_lot hnm hm c_1).1) dM_hammer_192 (fun H locs hG hS => ?_)
                    refine lv_aload_n hx hb dM_hammer_193 rfl (lv_at hl 3 rfl) ?_
                    refine rm_get (v := .ref (ad 11)) hx hb hts hown hC hG 6 (by decide) q_516 (rfl) dM_hammer_194 ?_
                    refine lv_iload_n hx hb dM_hammer_197 rfl (lv_at hl 4 rfl) ?_
                    refine lv_iload hx hb dM_hammer_198 (lv_at hl 0 rfl) ?_
                    refine ra_st hx hb hC hG hS 11 30 (by omega) (fun _ _ => rfl) ((vin_lot hnm hm c_1).1) dM_hammer_200 (fun H locs hG hS => ?_)
                    refine lv_aload_n hx hb dM_hammer_201 rfl (lv_at hl 3 rfl) ?_
                    refine rm_get (v := .ref (ad 12)) hx hb hts hown hC hG 7 (by decide) q_517 (rfl) dM_hammer_202 ?_
                    refine lv_iload_n hx hb dM_hammer_205 rfl (lv_at hl 4 rfl) ?_
                    refine lv_aload_n hx hb dM_hammer_206 rfl (lv_at hl 3 rfl) ?_
                    refine rm_get (v := .int (sA 5 19)) hx hb hts hown hC hG 19 (by decide) q_529 (by simp [mfs, up2, upd, up2L, vp_updL]) dM_hammer_207 ?_
                    refine ra_st hx hb hC hG hS 12 30 (by omega) (fun _ _ => rfl) ((vin_lot hnm hm c_1).1) dM_hammer_210 (fun H locs hG hS => ?_)
                    refine lv_iload hx hb dM_hammer_211 (lv_at hl 0 rfl) ?_
                    refine W.widen (k := 0) (n := 0) (Nat.le_of_ble_eq_true rfl) (Nat.le_of_ble_eq_true rfl) ?_
                    exact W.iret (v := sA 13 ((fM_highest sL (up2 sA 5 23 0) p0).toNatClampNeg)) hx hb hr (fun t ht hW => ⟨⟨(sA 13 ((fM_highest sL (up2 sA 5 23 0) p0).toNatClampNeg)), (sL, (up2 (up2 (up2 (up2 (up2 sA 5 23 0) 9 p0.toNatClampNeg 2) 10 p0.toNatClampNeg ((fM_highest sL (up2 sA 5 23 0) p0) - (10 * p0))) 11 p0.toNatClampNeg (sA 13 ((fM_highest sL (up2 sA 5 23 0) p0).toNatClampNeg))) 12 p0.toNatClampNeg (sA 5 19))), rfl, (by rw [fM_hammer, if_neg c_1, if_pos c_2, if_neg c_4, if_pos c_5, if_neg c_6, if_pos c_8, if_neg c_9] <;> rfl), gw_at hG ht⟩, hS.F ht⟩) hS.2.2 dM_hammer_213
                · refine lv_aload_n hx hb dM_hammer_137 rfl (lv_at hl 3 rfl) ?_
                  refine rm_get (v := .ref (ad 7)) hx hb hts hown hC hG 2 (by decide) q_512 (rfl) dM_hammer_138 ?_
                  refine lv_iload_n hx hb dM_hammer_141 rfl (lv_at hl 4 rfl) ?_
                  refine ra_ld hx hb hC hG 7 30 (by omega) (fun _ _ => rfl) ((vin_lot hnm hm c_1).1) dM_hammer_142 ?_
                  refine W.eq (g2 := F0 m 143 ls (.int (sA 7 p0.toNatClampNeg) :: [])) (by simp [up2, upd]) ?_
                  refine lv_goto (tgt := 148) hx hb dM_hammer_143 (by decide) ?_
                  refine lv_istore (lv' := [(4, .int (sA 7 p0.toNatClampNeg)), (3, .int (fM_highestBut sL (up2 sA 5 23 0) p0 (fM_highest sL (up2 sA 5 23 0) p0))), (2, .int (fM_highest sL (up2 sA 5 23 0) p0)), (0, .ref (ad 5)), (1, .int p0)]) hx hb dM_hammer_148 hl (by decide) rfl (fun ls hl => ?_)
                  refine lv_iload hx hb dM_hammer_150 (lv_at hl 0 rfl) ?_
                  refine lv_aload_n hx hb dM_hammer_152 rfl (lv_at hl 3 rfl) ?_
                  refine rm_get (v := .ref (ad 13)) hx hb hts hown hC hG 8 (by decide) q_518 (rfl) dM_hammer_153 ?_
                  refine lv_iload_n hx hb dM_hammer_156 rfl (lv_at hl 2 rfl) ?_
                  refine ra_ld hx hb hC hG 13 300 (by omega) (fun _ _ => rfl) (highest_in (vin_lot hnm hm c_1).1 c_4) dM_hammer_157 ?_
                  refine W.eq (g2 := F0 m 158 ls (.int (sA 13 ((fM_highest sL (up2 sA 5 23 0) p0).toNatClampNeg)) :: .int (sA 7 p0.toNatClampNeg) :: [])) (by simp [up2, upd]) ?_
                  refine lv_icmp_le (tgt := 170) hx hb dM_hammer_158 (by decide) (fun c_10 => ?_) (fun c_10 => ?_)
                  · refine lv_iload hx hb dM_hammer_170 (lv_at hl 0 rfl) ?_
                    refine lv_istore (lv' := [(4, .int (sA 7 p0.toNatClampNeg)), (3, .int (fM_highestBut sL (up2 sA 5 23 0) p0 (fM_highest sL (up2 sA 5 23 0) p0))), (2, .int (fM_highest sL (up2 sA 5 23 0) p0)), (0, .ref (ad 5)), (1, .int p0)]) hx hb dM_hammer_172 hl (by decide) rfl (fun ls hl => ?_)
                    refine lv_aload_n hx hb dM_hammer_174 rfl (lv_at hl 3 rfl) ?_
                    refine rm_get (v := .ref (ad 9)) hx hb hts hown hC hG 4 (by decide) q_514 (rfl) dM_hammer_175 ?_
                    refine lv_iload_n hx hb dM_hammer_178 rfl (lv_at hl 4 rfl) ?_
                    refine lv_iconst (v := 2) hx hb dM_hammer_179 (by decide) ?_
                    refine ra_st hx hb hC hG hS 9 30 (by omega) (fun _ _ => rfl) ((vin_lot hnm hm c_1).1) dM_hammer_180 (fun H locs hG hS => ?_)
                    refine lv_aload_n hx hb dM_hammer_181 rfl (lv_at hl 3 rfl) ?_
                    refine rm_get (v := .ref (ad 10)) hx hb hts hown hC hG 5 (by decide) q_515 (rfl) dM_hammer_182 ?_
                    refine lv_iload_n hx hb dM_hammer_185 rfl (lv_at hl 4 rfl) ?_
                    refine lv_iload_n hx hb dM_hammer_186 rfl (lv_at hl 2 rfl) ?_
                    refine lv_bipush (v := 10) hx hb dM_hammer_187 (by decide) ?_
                    refine lv_iload_n hx hb dM_hammer_189 rfl (lv_at hl 4 rfl) ?_
                    refine lv_imul hx hb dM_hammer_190 ?_
                    refine lv_isub hx hb dM_hammer_191 ?_
                    refine ra_st hx hb hC hG hS 10 30 (by omega) (fun _ _ => rfl) ((vin_lot hnm hm c_1).1) dM_hammer_192 (fun H locs hG hS => ?_)
                    refine lv_aload_n hx hb dM_hammer_193 rfl (lv_at hl 3 rfl) ?_
                    refine rm_get (v := .ref (ad 11)) hx hb hts hown hC hG 6 (by decide) q_516 (rfl) dM_hammer_194 ?_
                    refine lv_iload_n hx hb dM_hammer_197 rfl (lv_at hl 4 rfl) ?_
                    refine lv_iload hx hb dM_hammer_198 (lv_at hl 0 rfl) ?_
                    refine ra_st hx hb hC hG hS 11 30 (by omega) (fun _ _ => rfl) ((vin_lot hnm hm c_1).1) dM_hammer_200 (fun H locs hG hS => ?_)
                    refine lv_aload_n hx hb dM_hammer_201 rfl (lv_at hl 3 rfl) ?_
                    refine rm_get (v := .ref (ad 12)) hx hb hts hown hC hG 7 (by decide) q_517 (rfl) dM_hammer_202 ?_
                    refine lv_iload_n hx hb dM_hammer_205 rfl (lv_at hl 4 rfl) ?_
                    refine lv_aload_n hx hb dM_hammer_206 rfl (lv_at hl 3 rfl) ?_
                    refine rm_get (v := .int (sA 5 19)) hx hb hts hown hC hG 19 (by decide) q_529 (by simp [mfs, up2, upd, up2L, vp_updL]) dM_hammer_207 ?_
                    refine ra_st hx hb hC hG hS 12 30 (by omega) (fun _ _ => rfl) ((vin_lot hnm hm c_1).1) dM_hammer_210 (fun H locs hG hS => ?_)
                    refine lv_iload hx hb dM_hammer_211 (lv_at hl 0 rfl) ?_
                    refine W.widen (k := 0) (n := 0) (Nat.le_of_ble_eq_true rfl) (Nat.le_of_ble_eq_true rfl) ?_
                    exact W.iret (v := sA 7 p0.toNatClampNeg) hx hb hr (fun t ht hW => ⟨⟨(sA 7 p0.toNatClampNeg), (sL, (up2 (up2 (up2 (up2 (up2 sA 5 23 0) 9 p0.toNatClampNeg 2) 10 p0.toNatClampNeg ((fM_highest sL (up2 sA 5 23 0) p0) - (10 * p0))) 11 p0.toNatClampNeg (sA 7 p0.toNatClampNeg)) 12 p0.toNatClampNeg (sA 5 19))), rfl, (by rw [fM_hammer, if_neg c_1, if_pos c_2, if_neg c_4, if_pos c_5, if_neg c_6, if_neg c_8] <;> rfl), gw_at hG ht⟩, hS.F ht⟩) hS.2.2 dM_hammer_213
                  · exact (by first | exact absurd c_5 c_10 | exact absurd c_10 c_5)
              · exact (by first | exact absurd c_6 c_7 | exact absurd c_7 c_6)
            · refine lv_aload_n hx hb dM_hammer_86 rfl (lv_at hl 2 rfl) ?_
              refine rm_get (v := .ref (ad 7)) hx hb hts hown hC hG 2 (by decide) q_512 (rfl) dM_hammer_87 ?_
              refine lv_iload_n hx hb dM_hammer_90 rfl (lv_at hl 3 rfl) ?_
              refine ra_ld hx hb hC hG 7 30 (by omega) (fun _ _ => rfl) ((vin_lot hnm hm c_1).1) dM_hammer_91 ?_
              refine W.eq (g2 := F0 m 92 ls (.int (sA 7 p0.toNatClampNeg) :: [])) (by simp [up2, upd]) ?_
              refine lv_goto (tgt := 101) hx hb dM_hammer_92 (by decide) ?_
              refine lv_istore (lv' := [(4, .int (sA 7 p0.toNatClampNeg)), (3, .int (fM_highestBut sL (up2 sA 5 23 0) p0 (fM_highest sL (up2 sA 5 23 0) p0))), (2, .int (fM_highest sL (up2 sA 5 23 0) p0)), (0, .ref (ad 5)), (1, .int p0)]) hx hb dM_hammer_101 hl (by decide) rfl (fun ls hl => ?_)
              refine lv_iload_n hx hb dM_hammer_103 rfl (lv_at hl 1 rfl) ?_
              refine lv_iconst (v := (-1)) hx hb dM_hammer_104 (by decide) ?_
              refine lv_icmp_ne (tgt := 122) hx hb dM_hammer_105 (by decide) (fun c_11 => ?_) (fun c_11 => ?_)
              · exact (by first | exact absurd c_6 c_11 | exact absurd c_11 c_6)
              · refine lv_aload_n hx hb dM_hammer_108 rfl (lv_at hl 3 rfl) ?_
                refine rm_get (v := .ref (ad 7)) hx hb hts hown hC hG 2 (by decide) q_512 (rfl) dM_hammer_109 ?_
                refine lv_iload_n hx hb dM_hammer_112 rfl (lv_at hl 4 rfl) ?_
                refine ra_ld hx hb hC hG 7 30 (by omega) (fun _ _ => rfl) ((vin_lot hnm hm c_1).1) dM_hammer_113 ?_
                refine W.eq (g2 := F0 m 114 ls (.int (sA 7 p0.toNatClampNeg) :: [])) (by simp [up2, upd]) ?_
                refine lv_if_ne (tgt := 122) hx hb dM_hammer_114 (by decide) (fun c_12 => ?_) (fun c_12 => ?_)
                · refine lv_iload hx hb dM_hammer_122 (lv_at hl 0 rfl) ?_
                  refine lv_istore (lv' := [(4, .int (sA 7 p0.toNatClampNeg)), (3, .int (fM_highestBut sL (up2 sA 5 23 0) p0 (fM_highest sL (up2 sA 5 23 0) p0))), (2, .int (fM_highest sL (up2 sA 5 23 0) p0)), (0, .ref (ad 5)), (1, .int p0)]) hx hb dM_hammer_124 hl (by decide) rfl (fun ls hl => ?_)
                  refine lv_iload hx hb dM_hammer_126 (lv_at hl 0 rfl) ?_
                  refine lv_aload_n hx hb dM_hammer_128 rfl (lv_at hl 3 rfl) ?_
                  refine rm_get (v := .ref (ad 7)) hx hb hts hown hC hG 2 (by decide) q_512 (rfl) dM_hammer_129 ?_
                  refine lv_iload_n hx hb dM_hammer_132 rfl (lv_at hl 4 rfl) ?_
                  refine ra_ld hx hb hC hG 7 30 (by omega) (fun _ _ => rfl) ((vin_lot hnm hm c_1).1) dM_hammer_133 ?_
                  refine W.eq (g2 := F0 m 134 ls (.int (sA 7 p0.toNatClampNeg) :: .int (sA 7 p0.toNatClampNeg) :: [])) (by simp [up2, upd]) ?_
                  refine lv_icmp_ge (tgt := 146) hx hb dM_hammer_134 (by decide) (fun c_13 => ?_) (fun c_13 => ?_)
                  · refine lv_iload hx hb dM_hammer_146 (lv_at hl 0 rfl) ?_
                    refine lv_istore (lv' := [(4, .int (sA 7 p0.toNatClampNeg)), (3, .int (fM_highestBut sL (up2 sA 5 23 0) p0 (fM_highest sL (up2 sA 5 23 0) p0))), (2, .int (fM_highest sL (up2 sA 5 23 0) p0)), (0, .ref (ad 5)), (1, .int p0)]) hx hb dM_hammer_148 hl (by decide) rfl (fun ls hl => ?_)
                    refine lv_iload hx hb dM_hammer_150 (lv_at hl 0 rfl) ?_
                    refine lv_aload_n hx hb dM_hammer_152 rfl (lv_at hl 3 rfl) ?_
                    refine rm_get (v := .ref (ad 13)) hx hb hts hown hC hG 8 (by decide) q_518 (rfl) dM_hammer_153 ?_
                    refine lv_iload_n hx hb dM_hammer_156 rfl (lv_at hl 2 rfl) ?_
                    refine ra_ld hx hb hC hG 13 300 (by omega) (fun _ _ => rfl) (highest_in (vin_lot hnm hm c_1).1 c_4) dM_hammer_157 ?_
                    refine W.eq (g2 := F0 m 158 ls (.int (sA 13 ((fM_highest sL (up2 sA 5 23 0) p0).toNatClampNeg)) :: .int (sA 7 p0.toNatClampNeg) :: [])) (by simp [up2, upd]) ?_
                    refine lv_icmp_le (tgt := 170) hx hb dM_hammer_158 (by decide) (fun c_14 => ?_) (fun c_14 => ?_)
                    · refine lv_iload hx hb dM_hammer_170 (lv_at hl 0 rfl) ?_
                      refine lv_istore (lv' := [(4, .int (sA 7 p0.toNatClampNeg)), (3, .int (fM_highestBut sL (up2 sA 5 23 0) p0 (fM_highest sL (up2 sA 5 23 0) p0))), (2, .int (fM_highest sL (up2 sA 5 23 0) p0)), (0, .ref (ad 5)), (1, .int p0)]) hx hb dM_hammer_172 hl (by decide) rfl (fun ls hl => ?_)
                      refine lv_aload_n hx hb dM_hammer_174 rfl (lv_at hl 3 rfl) ?_
                      refine rm_get (v := .ref (ad 9)) hx hb hts hown hC hG 4 (by decide) q_514 (rfl) dM_hammer_175 ?_
                      refine lv_iload_n hx hb dM_hammer_178 rfl (lv_at hl 4 rfl) ?_
                      refine lv_iconst (v := 2) hx hb dM_hammer_179 (by decide) ?_
                      refine ra_st hx hb hC hG hS 9 30 (by omega) (fun _ _ => rfl) ((vin_lot hnm hm c_1).1) dM_hammer_180 (fun H locs hG hS => ?_)
                      refine lv_aload_n hx hb dM_hammer_181 rfl (lv_at hl 3 rfl) ?_
                      refine rm_get (v := .ref (ad 10)) hx hb hts hown hC hG 5 (by decide) q_515 (rfl) dM_hammer_182 ?_
                      refine lv_iload_n hx hb dM_hammer_185 rfl (lv_at hl 4 rfl) ?_
                      refine lv_iload_n hx hb dM_hammer_186 rfl (lv_at hl 2 rfl) ?_
                      refine lv_bipush (v := 10) hx hb dM_hammer_187 (by decide) ?_
                      refine lv_iload_n hx hb dM_hammer_189 rfl (lv_at hl 4 rfl) ?_
                      refine lv_imul hx hb dM_hammer_190 ?_
                      refine lv_isub hx hb dM_hammer_191 ?_
                      refine ra_st hx hb hC hG hS 10 30 (by omega) (fun _ _ => rfl) ((vin_lot hnm hm c_1).1) dM_hammer_192 (fun H locs hG hS => ?_)
                      refine lv_aload_n hx hb dM_hammer_193 rfl (lv_at hl 3 rfl) ?_
                      refine rm_get (v := .ref (ad 11)) hx hb hts hown hC hG 6 (by decide) q_516 (rfl) dM_hammer_194 ?_
                      refine lv_iload_n hx hb dM_hammer_197 rfl (lv_at hl 4 rfl) ?_
                      refine lv_iload hx hb dM_hammer_198 (lv_at hl 0 rfl) ?_
                      refine ra_st hx hb hC hG hS 11 30 (by omega) (fun _ _ => rfl) ((vin_lot hnm hm c_1).1) dM_hammer_200 (fun H locs hG hS => ?_)
                      refine lv_aload_n hx hb dM_hammer_201 rfl (lv_at hl 3 rfl) ?_
                      refine rm_get (v := .ref (ad 12)) hx hb hts hown hC hG 7 (by decide) q_517 (rfl) dM_hammer_202 ?_
                      refine lv_iload_n hx hb dM_hammer_205 rfl (lv_at hl 4 rfl) ?_
                      refine lv_aload_n hx hb dM_hammer_206 rfl (lv_at hl 3 rfl) ?_
                      refine rm_get (v := .int (sA 5 19)) hx hb hts hown hC hG 19 (by decide) q_529 (by simp [mfs, up2, upd, up2L, vp_updL]) dM_hammer_207 ?_
                      refine ra_st hx hb hC hG hS 12 30 (by omega) (fun _ _ => rfl) ((vin_lot hnm hm c_1).1) dM_hammer_210 (fun H locs hG hS => ?_)
                      refine lv_iload hx hb dM_hammer_211 (lv_at hl 0 rfl) ?_
                      refine W.widen (k := 0) (n := 0) (Nat.le_of_ble_eq_true rfl) (Nat.le_of_ble_eq_true rfl) ?_
                      exact W.iret (v := sA 7 p0.toNatClampNeg) hx hb hr (fun t ht hW => ⟨⟨(sA 7 p0.toNatClampNeg), (sL, (up2 (up2 (up2 (up2 (up2 sA 5 23 0) 9 p0.toNatClampNeg 2) 10 p0.toNatClampNeg ((fM_highest sL (up2 sA 5 23 0) p0) - (10 * p0))) 11 p0.toNatClampNeg (sA 7 p0.toNatClampNeg)) 12 p0.toNatClampNeg (sA 5 19))), rfl, (by rw [fM_hammer, if_neg c_1, if_pos c_2, if_neg c_4, if_pos c_5, if_pos c_6, if_neg c_12, if_pos c_13] <;> rfl), gw_at hG ht⟩, hS.F ht⟩) hS.2.2 dM_hammer_213
                    · exact (by first | exact absurd c_5 c_14 | exact absurd c_14 c_5)
                  · refine lv_aload_n hx hb dM_hammer_137 rfl (lv_at hl 3 rfl) ?_
                    refine rm_get (v := .ref (ad 7)) hx hb hts hown hC hG 2 (by decide) q_512 (rfl) dM_hammer_138 ?_
                    refine lv_iload_n hx hb dM_hammer_141 rfl (lv_at hl 4 rfl) ?_
                    refine ra_ld hx hb hC hG 7 30 (by omega) (fun _ _ => rfl) ((vin_lot hnm hm c_1).1) dM_hammer_142 ?_
                    refine W.eq (g2 := F0 m 143 ls (.int (sA 7 p0.toNatClampNeg) :: [])) (by simp [up2, upd]) ?_
                    refine lv_goto (tgt := 148) hx hb dM_hammer_143 (by decide) ?_
                    refine lv_istore (lv' := [(4, .int (sA 7 p0.toNatClampNeg)), (3, .int (fM_highestBut sL (up2 sA 5 23 0) p0 (fM_highest sL (up2 sA 5 23 0) p0))), (2, .int (fM_highest sL (up2 sA 5 23 0) p0)), (0, .ref (ad 5)), (1, .int p0)]) hx hb dM_hammer_148 hl (by decide) rfl (fun ls hl => ?_)
                    refine lv_iload hx hb dM_hammer_150 (lv_at hl 0 rfl) ?_
                    refine lv_aload_n hx hb dM_hammer_152 rfl (lv_at hl 3 rfl) ?_
                    refine rm_get (v := .ref (ad 13)) hx hb hts hown hC hG 8 (by decide) q_518 (rfl) dM_hammer_153 ?_
                    refine lv_iload_n hx hb dM_hammer_156 rfl (lv_at hl 2 rfl) ?_
                    refine ra_ld hx hb hC hG 13 300 (by omega) (fun _ _ => rfl) (highest_in (vin_lot hnm hm c_1).1 c_4) dM_hammer_157 ?_
                    refine W.eq (g2 := F0 m 158 ls (.int (sA 13 ((fM_highest sL (up2 sA 5 23 0) p0).toNatClampNeg)) :: .int (sA 7 p0.toNatClampNeg) :: [])) (by simp [up2, upd]) ?_
                    refine lv_icmp_le (tgt := 170) hx hb dM_hammer_158 (by decide) (fun c_15 => ?_) (fun c_15 => ?_)
                    · refine lv_iload hx hb dM_hammer_170 (lv_at hl 0 rfl) ?_
                      refine lv_istore (lv' := [(4, .int (sA 7 p0.toNatClampNeg)), (3, .int (fM_highestBut sL (up2 sA 5 23 0) p0 (fM_highest sL (up2 sA 5 23 0) p0))), (2, .int (fM_highest sL (up2 sA 5 23 0) p0)), (0, .ref (ad 5)), (1, .int p0)]) hx hb dM_hammer_172 hl (by decide) rfl (fun ls hl => ?_)
                      refine lv_aload_n hx hb dM_hammer_174 rfl (lv_at hl 3 rfl) ?_
                      refine rm_get (v := .ref (ad 9)) hx hb hts hown hC hG 4 (by decide) q_514 (rfl) dM_hammer_175 ?_
                      refine lv_iload_n hx hb dM_hammer_178 rfl (lv_at hl 4 rfl) ?_
                      refine lv_iconst (v := 2) hx hb dM_hammer_179 (by decide) ?_
                      refine ra_st hx hb hC hG hS 9 30 (by omega) (fun _ _ => rfl) ((vin_lot hnm hm c_1).1) dM_hammer_180 (fun H locs hG hS => ?_)
                      refine lv_aload_n hx hb dM_hammer_181 rfl (lv_at hl 3 rfl) ?_
                      refine rm_get (v := .ref (ad 10)) hx hb hts hown hC hG 5 (by decide) q_515 (rfl) dM_hammer_182 ?_
                      refine lv_iload_n hx hb dM_hammer_185 rfl (lv_at hl 4 rfl) ?_
                      refine lv_iload_n hx hb dM_hammer_186 rfl (lv_at hl 2 rfl) ?_
                      refine lv_bipush (v := 10) hx hb dM_hammer_187 (by decide) ?_
                      refine lv_iload_n hx hb dM_hammer_189 rfl (lv_at hl 4 rfl) ?_
                      refine lv_imul hx hb dM_hammer_190 ?_
                      refine lv_isub hx hb dM_hammer_191 ?_
                      refine ra_st hx hb hC hG hS 10 30 (by omega) (fun _ _ => rfl) ((vin_lot hnm hm c_1).1) dM_hammer_192 (fun H locs hG hS => ?_)
                      refine lv_aload_n hx hb dM_hammer_193 rfl (lv_at hl 3 rfl) ?_
                      refine rm_get (v := .ref (ad 11)) hx hb hts hown hC hG 6 (by decide) q_516 (rfl) dM_hammer_194 ?_
                      refine lv_iload_n hx hb dM_hammer_197 rfl (lv_at hl 4 rfl) ?_
                      refine lv_iload hx hb dM_hammer_198 (lv_at hl 0 rfl) ?_
                      refine ra_st hx hb hC hG hS 11 30 (by omega) (fun _ _ => rfl) ((vin_lot hnm hm c_1).1) dM_hammer_200 (fun H locs hG hS => ?_)
                      refine lv_aload_n hx hb dM_hammer_201 rfl (lv_at hl 3 rfl) ?_
                      refine rm_get (v := .ref (ad 12)) hx hb hts hown hC hG 7 (by decide) q_517 (rfl) dM_hammer_202 ?_
                      refine lv_iload_n hx hb dM_hammer_205 rfl (lv_at hl 4 rfl) ?_
                      refine lv_aload_n hx hb dM_hammer_206 rfl (lv_at hl 3 rfl) ?_
                      refine rm_get (v := .int (sA 5 19)) hx hb hts hown hC hG 19 (by decide) q_529 (by simp [mfs, up2, upd, up2L, vp_updL]) dM_hammer_207 ?_
                      refine ra_st hx hb hC hG hS 12 30 (by omega) (fun _ _ => rfl) ((vin_lot hnm hm c_1).1) dM_hammer_210 (fun H locs hG hS => ?_)
                      refine lv_iload hx hb dM_hammer_211 (lv_at hl 0 rfl) ?_
                      refine W.widen (k := 0) (n := 0) (Nat.le_of_ble_eq_true rfl) (Nat.le_of_ble_eq_true rfl) ?_
                      exact W.iret (v := sA 7 p0.toNatClampNeg) hx hb hr (fun t ht hW => ⟨⟨(sA 7 p0.toNatClampNeg), (sL, (up2 (up2 (up2 (up2 (up2 sA 5 23 0) 9 p0.toNatClampNeg 2) 10 p0.toNatClampNeg ((fM_highest sL (up2 sA 5 23 0) p0) - (10 * p0))) 11 p0.toNatClampNeg (sA 7 p0.toNatClampNeg)) 12 p0.toNatClampNeg (sA 5 19))), rfl, (by rw [fM_hammer, if_neg c_1, if_pos c_2, if_neg c_4, if_pos c_5, if_pos c_6, if_neg c_12, if_neg c_13] <;> rfl), gw_at hG ht⟩, hS.F ht⟩) hS.2.2 dM_hammer_213
                    · exact (by first | exact absurd c_5 c_15 | exact absurd c_15 c_5)
                · refine lv_bipush (v := 50) hx hb dM_hammer_117 (by decide) ?_
                  refine lv_goto (tgt := 124) hx hb dM_hammer_119 (by decide) ?_
                  refine lv_istore (lv' := [(4, .int 50), (3, .int (fM_highestBut sL (up2 sA 5 23 0) p0 (fM_highest sL (up2 sA 5 23 0) p0))), (2, .int (fM_highest sL (up2 sA 5 23 0) p0)), (0, .ref (ad 5)), (1, .int p0)]) hx hb dM_hammer_124 hl (by decide) rfl (fun ls hl => ?_)
                  refine lv_iload hx hb dM_hammer_126 (lv_at hl 0 rfl) ?_
                  refine lv_aload_n hx hb dM_hammer_128 rfl (lv_at hl 3 rfl) ?_
                  refine rm_get (v := .ref (ad 7)) hx hb hts hown hC hG 2 (by decide) q_512 (rfl) dM_hammer_129 ?_
                  refine lv_iload_n hx hb dM_hammer_132 rfl (lv_at hl 4 rfl) ?_
                  refine ra_ld hx hb hC hG 7 30 (by omega) (fun _ _ => rfl) ((vin_lot hnm hm c_1).1) dM_hammer_133 ?_
                  refine W.eq (g2 := F0 m 134 ls (.int (sA 7 p0.toNatClampNeg) :: .int 50 :: [])) (by simp [up2, upd]) ?_
                  refine lv_icmp_ge (tgt := 146) hx hb dM_hammer_134 (by decide) (fun c_16 => ?_) (fun c_16 => ?_)
                  · refine lv_iload hx hb dM_hammer_146 (lv_at hl 0 rfl) ?_
                    refine lv_istore (lv' := [(4, .int 50), (3, .int (fM_highestBut sL (up2 sA 5 23 0) p0 (fM_highest sL (up2 sA 5 23 0) p0))), (2, .int (fM_highest sL (up2 sA 5 23 0) p0)), (0, .ref (ad 5)), (1, .int p0)]) hx hb dM_hammer_148 hl (by decide) rfl (fun ls hl => ?_)
                    refine lv_iload hx hb dM_hammer_150 (lv_at hl 0 rfl) ?_
                    refine lv_aload_n hx hb dM_hammer_152 rfl (lv_at hl 3 rfl) ?_
                    refine rm_get (v := .ref (ad 13)) hx hb hts hown hC hG 8 (by decide) q_518 (rfl) dM_hammer_153 ?_
                    refine lv_iload_n hx hb dM_hammer_156 rfl (lv_at hl 2 rfl) ?_
                    refine ra_ld hx hb hC hG 13 300 (by omega) (fun _ _ => rfl) (highest_in (vin_lot hnm hm c_1).1 c_4) dM_hammer_157 ?_
                    refine W.eq (g2 := F0 m 158 ls (.int (sA 13 ((fM_highest sL (up2 sA 5 23 0) p0).toNatClampNeg)) :: .int 50 :: [])) (by simp [up2, upd]) ?_
                    refine lv_icmp_le (tgt := 170) hx hb dM_hammer_158 (by decide) (fun c_17 => ?_) (fun c_17 => ?_)
                    · refine lv_iload hx hb dM_hammer_170 (lv_at hl 0 rfl) ?_
                      refine lv_istore (lv' := [(4, .int 50), (3, .int (fM_highestBut sL (up2 sA 5 23 0) p0 (fM_highest sL (up2 sA 5 23 0) p0))), (2, .int (fM_highest sL (up2 sA 5 23 0) p0)), (0, .ref (ad 5)), (1, .int p0)]) hx hb dM_hammer_172 hl (by decide) rfl (fun ls hl => ?_)
                      refine lv_aload_n hx hb dM_hammer_174 rfl (lv_at hl 3 rfl) ?_
                      refine rm_get (v := .ref (ad 9)) hx hb hts hown hC hG 4 (by decide) q_514 (rfl) dM_hammer_175 ?_
                      refine lv_iload_n hx hb dM_hammer_178 rfl (lv_at hl 4 rfl) ?_
                      refine lv_iconst (v := 2) hx hb dM_hammer_179 (by decide) ?_
                      refine ra_st hx hb hC hG hS 9 30 (by omega) (fun _ _ => rfl) ((vin_lot hnm hm c_1).1) dM_hammer_180 (fun H locs hG hS => ?_)
                      refine lv_aload_n hx hb dM_hammer_181 rfl (lv_at hl 3 rfl) ?_
                      refine rm_get (v := .ref (ad 10)) hx hb hts hown hC hG 5 (by decide) q_515 (rfl) dM_hammer_182 ?_
                      refine lv_iload_n hx hb dM_hammer_185 rfl (lv_at hl 4 rfl) ?_
                      refine lv_iload_n hx hb dM_hammer_186 rfl (lv_at hl 2 rfl) ?_
                      refine lv_bipush (v := 10) hx hb dM_hammer_187 (by decide) ?_
                      refine lv_iload_n hx hb dM_hammer_189 rfl (lv_at hl 4 rfl) ?_
                      refine lv_imul hx hb dM_hammer_190 ?_
                      refine lv_isub hx hb dM_hammer_191 ?_
                      refine ra_st hx hb hC hG hS 10 30 (by omega) (fun _ _ => rfl) ((vin_lot hnm hm c_1).1) dM_hammer_192 (fun H locs hG hS => ?_)
                      refine lv_aload_n hx hb dM_hammer_193 rfl (lv_at hl 3 rfl) ?_
                      refine rm_get (v := .ref (ad 11)) hx hb hts hown hC hG 6 (by decide) q_516 (rfl) dM_hammer_194 ?_
                      refine lv_iload_n hx hb dM_hammer_197 rfl (lv_at hl 4 rfl) ?_
                      refine lv_iload hx hb dM_hammer_198 (lv_at hl 0 rfl) ?_
                      refine ra_st hx hb hC hG hS 11 30 (by omega) (fun _ _ => rfl) ((vin_lot hnm hm c_1).1) dM_hammer_200 (fun H locs hG hS => ?_)
                      refine lv_aload_n hx hb dM_hammer_201 rfl (lv_at hl 3 rfl) ?_
                      refine rm_get (v := .ref (ad 12)) hx hb hts hown hC hG 7 (by decide) q_517 (rfl) dM_hammer_202 ?_
                      refine lv_iload_n hx hb dM_hammer_205 rfl (lv_at hl 4 rfl) ?_
                      refine lv_aload_n hx hb dM_hammer_206 rfl (lv_at hl 3 rfl) ?_
                      refine rm_get (v := .int (sA 5 19)) hx hb hts hown hC hG 19 (by decide) q_529 (by simp [mfs, up2, upd, up2L, vp_updL]) dM_hammer_207 ?_
                      refine ra_st hx hb hC hG hS 12 30 (by omega) (fun _ _ => rfl) ((vin_lot hnm hm c_1).1) dM_hammer_210 (fun H locs hG hS => ?_)
                      refine lv_iload hx hb dM_hammer_211 (lv_at hl 0 rfl) ?_
                      refine W.widen (k := 0) (n := 0) (Nat.le_of_ble_eq_true rfl) (Nat.le_of_ble_eq_true rfl) ?_
                      exact W.iret (v := 50) hx hb hr (fun t ht hW => ⟨⟨50, (sL, (up2 (up2 (up2 (up2 (up2 sA 5 23 0) 9 p0.toNatClampNeg 2) 10 p0.toNatClampNeg ((fM_highest sL (up2 sA 5 23 0) p0) - (10 * p0))) 11 p0.toNatClampNeg 50) 12 p0.toNatClampNeg (sA 5 19))), rfl, (by rw [fM_hammer, if_neg c_1, if_pos c_2, if_neg c_4, if_pos c_5, if_pos c_6, if_pos c_12, if_pos c_16, if_pos c_17] <;> rfl), gw_at hG ht⟩, hS.F ht⟩) hS.2.2 dM_hammer_213
                    · refine lv_aload_n hx hb dM_hammer_161 rfl (lv_at hl 3 rfl) ?_
                      refine rm_get (v := .ref (ad 13)) hx hb hts hown hC hG 8 (by decide) q_518 (rfl) dM_hammer_162 ?_
                      refine lv_iload_n hx hb dM_hammer_165 rfl (lv_at hl 2 rfl) ?_
                      refine ra_ld hx hb hC hG 13 300 (by omega) (fun _ _ => rfl) (highest_in (vin_lot hnm hm c_1).1 c_4) dM_hammer_166 ?_
                      refine W.eq (g2 := F0 m 167 ls (.int (sA 13 ((fM_highest sL (up2 sA 5 23 0) p0).toNatClampNeg)) :: [])) (by simp [up2, upd]) ?_
                      refine lv_goto (tgt := 172) hx hb dM_hammer_167 (by decide) ?_
                      refine lv_istore (lv' := [(4, .int (sA 13 ((fM_highest sL (up2 sA 5 23 0) p0).toNatClampNeg))), (3, .int (fM_highestBut sL (up2 sA 5 23 0) p0 (fM_highest sL (up2 sA 5 23 0) p0))), (2, .int (fM_highest sL (up2 sA 5 23 0) p0)), (0, .ref (ad 5)), (1, .int p0)]) hx hb dM_hammer_172 hl (by decide) rfl (fun ls hl => ?_)
                      refine lv_aload_n hx hb dM_hammer_174 rfl (lv_at hl 3 rfl) ?_
                      refine rm_get (v := .ref (ad 9)) hx hb hts hown hC hG 4 (by decide) q_514 (rfl) dM_hammer_175 ?_
                      refine lv_iload_n hx hb dM_hammer_178 rfl (lv_at hl 4 rfl) ?_
                      refine lv_iconst (v := 2) hx hb dM_hammer_179 (by decide) ?_
                      refine ra_st hx hb hC hG hS 9 30 (by omega) (fun _ _ => rfl) ((vin_lot hnm hm c_1).1) dM_hammer_180 (fun H locs hG hS => ?_)
                      refine lv_aload_n hx hb dM_hammer_181 rfl (lv_at hl 3 rfl) ?_
                      refine rm_get (v := .ref (ad 10)) hx hb hts hown hC hG 5 (by decide) q_515 (rfl) dM_hammer_182 ?_
                      refine lv_iload_n hx hb dM_hammer_185 rfl (lv_at hl 4 rfl) ?_
                      refine lv_iload_n hx hb dM_hammer_186 rfl (lv_at hl 2 rfl) ?_
                      refine lv_bipush (v := 10) hx hb dM_hammer_187 (by decide) ?_
                      refine lv_iload_n hx hb dM_hammer_189 rfl (lv_at hl 4 rfl) ?_
                      refine lv_imul hx hb dM_hammer_190 ?_
                      refine lv_isub hx hb dM_hammer_191 ?_
                      refine ra_st hx hb hC hG hS 10 30 (by omega) (fun _ _ => rfl) ((vin_lot hnm hm c_1).1) dM_hammer_192 (fun H locs hG hS => ?_)
                      refine lv_aload_n hx hb dM_hammer_193 rfl (lv_at hl 3 rfl) ?_
                      refine rm_get (v := .ref (ad 11)) hx hb hts hown hC hG 6 (by decide) q_516 (rfl) dM_hammer_194 ?_
                      refine lv_iload_n hx hb dM_hammer_197 rfl (lv_at hl 4 rfl) ?_
                      refine lv_iload hx hb dM_hammer_198 (lv_at hl 0 rfl) ?_
                      refine ra_st hx hb hC hG hS 11 30 (by omega) (fun _ _ => rfl) ((vin_lot hnm hm c_1).1) dM_hammer_200 (fun H locs hG hS => ?_)
                      refine lv_aload_n hx hb dM_hammer_201 rfl (lv_at hl 3 rfl) ?_
                      refine rm_get (v := .ref (ad 12)) hx hb hts hown hC hG 7 (by decide) q_517 (rfl) dM_hammer_202 ?_
                      refine lv_iload_n hx hb dM_hammer_205 rfl (lv_at hl 4 rfl) ?_
                      refine lv_aload_n hx hb dM_hammer_206 rfl (lv_at hl 3 rfl) ?_
                      refine rm_get (v := .int (sA 5 19)) hx hb hts hown hC hG 19 (by decide) q_529 (by simp [mfs, up2, upd, up2L, vp_updL]) dM_hammer_207 ?_
                      refine ra_st hx hb hC hG hS 12 30 (by omega) (fun _ _ => rfl) ((vin_lot hnm hm c_1).1) dM_hammer_210 (fun H locs hG hS => ?_)
                      refine lv_iload hx hb dM_hammer_211 (lv_at hl 0 rfl) ?_
                      refine W.widen (k := 0) (n := 0) (Nat.le_of_ble_eq_true rfl) (Nat.le_of_ble_eq_true rfl) ?_
                      exact W.iret (v := sA 13 ((fM_highest sL (up2 sA 5 23 0) p0).toNatClampNeg)) hx hb hr (fun t ht hW => ⟨⟨(sA 13 ((fM_highest sL (up2 sA 5 23 0) p0).toNatClampNeg)), (sL, (up2 (up2 (up2 (up2 (up2 sA 5 23 0) 9 p0.toNatClampNeg 2) 10 p0.toNatClampNeg ((fM_highest sL (up2 sA 5 23 0) p0) - (10 * p0))) 11 p0.toNatClampNeg (sA 13 ((fM_highest sL (up2 sA 5 23 0) p0).toNatClampNeg))) 12 p0.toNatClampNeg (sA 5 19))), rfl, (by rw [fM_hammer, if_neg c_1, if_pos c_2, if_neg c_4, if_pos c_5, if_pos c_6, if_pos c_12, if_pos c_16, if_neg c_17] <;> rfl), gw_at hG ht⟩, hS.F ht⟩) hS.2.2 dM_hammer_213
                  · refine lv_aload_n hx hb dM_hammer_137 rfl (lv_at hl 3 rfl) ?_
                    refine rm_get (v := .ref (ad 7)) hx hb hts hown hC hG 2 (by decide) q_512 (rfl) dM_hammer_138 ?_
                    refine lv_iload_n hx hb dM_hammer_141 rfl (lv_at hl 4 rfl) ?_
                    refine ra_ld hx hb hC hG 7 30 (by omega) (fun _ _ => rfl) ((vin_lot hnm hm c_1).1) dM_hammer_142 ?_
                    refine W.eq (g2 := F0 m 143 ls (.int (sA 7 p0.toNatClampNeg) :: [])) (by simp [up2, upd]) ?_
                    refine lv_goto (tgt := 148) hx hb dM_hammer_143 (by decide) ?_
                    refine lv_istore (lv' := [(4, .int (sA 7 p0.toNatClampNeg)), (3, .int (fM_highestBut sL (up2 sA 5 23 0) p0 (fM_highest sL (up2 sA 5 23 0) p0))), (2, .int (fM_highest sL (up2 sA 5 23 0) p0)), (0, .ref (ad 5)), (1, .int p0)]) hx hb dM_hammer_148 hl (by decide) rfl (fun ls hl => ?_)
                    refine lv_iload hx hb dM_hammer_150 (lv_at hl 0 rfl) ?_
                    refine lv_aload_n hx hb dM_hammer_152 rfl (lv_at hl 3 rfl) ?_
                    refine rm_get (v := .ref (ad 13)) hx hb hts hown hC hG 8 (by decide) q_518 (rfl) dM_hammer_153 ?_
                    refine lv_iload_n hx hb dM_hammer_156 rfl (lv_at hl 2 rfl) ?_
                    refine ra_ld hx hb hC hG 13 300 (by omega) (fun _ _ => rfl) (highest_in (vin_lot hnm hm c_1).1 c_4) dM_hammer_157 ?_
                    refine W.eq (g2 := F0 m 158 ls (.int (sA 13 ((fM_highest sL (up2 sA 5 23 0) p0).toNatClampNeg)) :: .int (sA 7 p0.toNatClampNeg) :: [])) (by simp [up2, upd]) ?_
                    refine lv_icmp_le (tgt := 170) hx hb dM_hammer_158 (by decide) (fun c_18 => ?_) (fun c_18 => ?_)
                    · refine lv_iload hx hb dM_hammer_170 (lv_at hl 0 rfl) ?_
                      refine lv_istore (lv' := [(4, .int (sA 7 p0.toNatClampNeg)), (3, .int (fM_highestBut sL (up2 sA 5 23 0) p0 (fM_highest sL (up2 sA 5 23 0) p0))), (2, .int (fM_highest sL (up2 sA 5 23 0) p0)), (0, .ref (ad 5)), (1, .int p0)]) hx hb dM_hammer_172 hl (by decide) rfl (fun ls hl => ?_)
                      refine lv_aload_n hx hb dM_hammer_174 rfl (lv_at hl 3 rfl) ?_
                      refine rm_get (v := .ref (ad 9)) hx hb hts hown hC hG 4 (by decide) q_514 (rfl) dM_hammer_175 ?_
                      refine lv_iload_n hx hb dM_hammer_178 rfl (lv_at hl 4 rfl) ?_
                      refine lv_iconst (v := 2) hx hb dM_hammer_179 (by decide) ?_
                      refine ra_st hx hb hC hG hS 9 30 (by omega) (fun _ _ => rfl) ((vin_lot hnm hm c_1).1) dM_hammer_180 (fun H locs hG hS => ?_)
                      refine lv_aload_n hx hb dM_hammer_181 rfl (lv_at hl 3 rfl) ?_
                      refine rm_get (v := .ref (ad 10)) hx hb hts hown hC hG 5 (by decide) q_515 (rfl) dM_hammer_182 ?_
                      refine lv_iload_n hx hb dM_hammer_185 rfl (lv_at hl 4 rfl) ?_
                      refine lv_iload_n hx hb dM_hammer_186 rfl (lv_at hl 2 rfl) ?_
                      refine lv_bipush (v := 10) hx hb dM_hammer_187 (by decide) ?_
                      refine lv_iload_n hx hb dM_hammer_189 rfl (lv_at hl 4 rfl) ?_
                      refine lv_imul hx hb dM_hammer_190 ?_
                      refine lv_isub hx hb dM_hammer_191 ?_
                      refine ra_st hx hb hC hG hS 10 30 (by omega) (fun _ _ => rfl) ((vin_lot hnm hm c_1).1) dM_hammer_192 (fun H locs hG hS => ?_)
                      refine lv_aload_n hx hb dM_hammer_193 rfl (lv_at hl 3 rfl) ?_
                      refine rm_get (v := .ref (ad 11)) hx hb hts hown hC hG 6 (by decide) q_516 (rfl) dM_hammer_194 ?_
                      refine lv_iload_n hx hb dM_hammer_197 rfl (lv_at hl 4 rfl) ?_
                      refine lv_iload hx hb dM_hammer_198 (lv_at hl 0 rfl) ?_
                      refine ra_st hx hb hC hG hS 11 30 (by omega) (fun _ _ => rfl) ((vin_lot hnm hm c_1).1) dM_hammer_200 (fun H locs hG hS => ?_)
                      refine lv_aload_n hx hb dM_hammer_201 rfl (lv_at hl 3 rfl) ?_
                      refine rm_get (v := .ref (ad 12)) hx hb hts hown hC hG 7 (by decide) q_517 (rfl) dM_hammer_202 ?_
                      refine lv_iload_n hx hb dM_hammer_205 rfl (lv_at hl 4 rfl) ?_
                      refine lv_aload_n hx hb dM_hammer_206 rfl (lv_at hl 3 rfl) ?_
                      refine rm_get (v := .int (sA 5 19)) hx hb hts hown hC hG 19 (by decide) q_529 (by simp [mfs, up2, upd, up2L, vp_updL]) dM_hammer_207 ?_
                      refine ra_st hx hb hC hG hS 12 30 (by omega) (fun _ _ => rfl) ((vin_lot hnm hm c_1).1) dM_hammer_210 (fun H locs hG hS => ?_)
                      refine lv_iload hx hb dM_hammer_211 (lv_at hl 0 rfl) ?_
                      refine W.widen (k := 0) (n := 0) (Nat.le_of_ble_eq_true rfl) (Nat.le_of_ble_eq_true rfl) ?_
                      exact W.iret (v := sA 7 p0.toNatClampNeg) hx hb hr (fun t ht hW => ⟨⟨(sA 7 p0.toNatClampNeg), (sL, (up2 (up2 (up2 (up2 (up2 sA 5 23 0) 9 p0.toNatClampNeg 2) 10 p0.toNatClampNeg ((fM_highest sL (up2 sA 5 23 0) p0) - (10 * p0))) 11 p0.toNatClampNeg (sA 7 p0.toNatClampNeg)) 12 p0.toNatClampNeg (sA 5 19))), rfl, (by rw [fM_hammer, if_neg c_1, if_pos c_2, if_neg c_4, if_pos c_5, if_pos c_6, if_pos c_12, if_neg c_16] <;> rfl), gw_at hG ht⟩, hS.F ht⟩) hS.2.2 dM_hammer_213
                    · exact (by first | exact absurd c_5 c_18 | exact absurd c_18 c_5)
          · refine lv_aload_n hx hb dM_hammer_65 rfl (lv_at hl 1 rfl) ?_
            refine rm_get (v := .ref (ad 9)) hx hb hts hown hC hG 4 (by decide) q_514 (rfl) dM_hammer_66 ?_
            refine lv_iload_n hx hb dM_hammer_69 rfl (lv_at hl 2 rfl) ?_
            refine lv_iconst (v := 1) hx hb dM_hammer_70 (by decide) ?_
            refine ra_st hx hb hC hG hS 9 30 (by omega) (fun _ _ => rfl) ((vin_lot hnm hm c_1).1) dM_hammer_71 (fun H locs hG hS => ?_)
            refine lv_iconst (v := (-1)) hx hb dM_hammer_72 (by decide) ?_
            refine W.widen (k := 0) (n := 0) (Nat.le_of_ble_eq_true rfl) (Nat.le_of_ble_eq_true rfl) ?_
            exact W.iret (v := (-1)) hx hb hr (fun t ht hW => ⟨⟨(-1), (sL, (up2 (up2 sA 5 23 0) 9 p0.toNatClampNeg 1)), rfl, (by rw [fM_hammer, if_neg c_1, if_pos c_2, if_neg c_4, if_neg c_5] <;> rfl), gw_at hG ht⟩, hS.F ht⟩) hS.2.2 dM_hammer_73
      · exact absurd c_3 (by decide)
    · refine lv_iconst (v := 2) hx hb dM_hammer_22 (by decide) ?_
      refine lv_goto (tgt := 27) hx hb dM_hammer_23 (by decide) ?_
      refine rm_puti hx hb hts hown hC hG hS 23 (by decide) q_533 dM_hammer_27 (fun H locs hG hS => ?_)
      refine lv_aload_n hx hb dM_hammer_30 rfl (lv_at hl 0 rfl) ?_
      refine rm_get (v := .int 2) hx hb hts hown hC hG 23 (by decide) q_533 (by simp [mfs, up2, upd, up2L, vp_updL]) dM_hammer_31 ?_
      refine lv_if_le (tgt := 39) hx hb dM_hammer_34 (by decide) (fun c_19 => ?_) (fun c_19 => ?_)
      · exact absurd c_19 (by decide)
      · refine lv_iconst (v := 0) hx hb dM_hammer_37 (by decide) ?_
        refine W.widen (k := 0) (n := 0) (Nat.le_of_ble_eq_true rfl) (Nat.le_of_ble_eq_true rfl) ?_
        exact W.iret (v := 0) hx hb hr (fun t ht hW => ⟨⟨0, (sL, (up2 sA 5 23 2)), rfl, (by rw [fM_hammer, if_neg c_1, if_neg c_2] <;> rfl), gw_at hG ht⟩, hS.F ht⟩) hS.2.2 dM_hammer_38
  · refine lv_iconst (v := 1) hx hb dM_hammer_9 (by decide) ?_
    refine lv_goto (tgt := 27) hx hb dM_hammer_10 (by decide) ?_
    refine rm_puti hx hb hts hown hC hG hS 23 (by decide) q_533 dM_hammer_27 (fun H locs hG hS => ?_)
    refine lv_aload_n hx hb dM_hammer_30 rfl (lv_at hl 0 rfl) ?_
    refine rm_get (v := .int 1) hx hb hts hown hC hG 23 (by decide) q_533 (by simp [mfs, up2, upd, up2L, vp_updL]) dM_hammer_31 ?_
    refine lv_if_le (tgt := 39) hx hb dM_hammer_34 (by decide) (fun c_20 => ?_) (fun c_20 => ?_)
    · exact absurd c_20 (by decide)
    · refine lv_iconst (v := 0) hx hb dM_hammer_37 (by decide) ?_
      refine W.widen (k := 0) (n := 0) (Nat.le_of_ble_eq_true rfl) (Nat.le_of_ble_eq_true rfl) ?_
      exact W.iret (v := 0) hx hb hr (fun t ht hW => ⟨⟨0, (sL, (up2 sA 5 23 1)), rfl, (by rw [fM_hammer, if_pos c_1] <;> rfl), gw_at hG ht⟩, hS.F ht⟩) hS.2.2 dM_hammer_38
def fM_again (sL : NL) (sA : NA) (p0 : Int32) (p1 : Int32) : Int32 × NL × NA := if (fM_isLot sL sA p0) = 0 then (0, sL, (up2 sA 5 23 1)) else (if (fM_isWithin p1 0 1000000) = 0 then (0, sL, (up2 sA 5 23 2)) else (if (sA 9 p0.toNatClampNeg) = 1 then (fM_bidMany sL (up2 sA 5 23 0) p0, (fM_clearBids sL (up2 sA 5 23 0) p0).1, (up2 (up2 ((fM_clearBids sL (up2 sA 5 23 0) p0).2) 7 p0.toNatClampNeg (fM_call p1)) 9 p0.toNatClampNeg 0)) else (0, sL, (up2 sA 5 23 3))))
theorem hdyM_again : yM_again.cls ≠ "java/lang/invoke/MethodHandle" ∧ yM_again.cls ≠ "java/lang/invoke/VarHandle" ∧ (parseMethodDescriptor yM_again.desc).map (fun d => d.parameters.length) = some 2 := by decide +kernel
theorem dM_again_0 : decode bM_again 0 = .ok (.aload_n 0, 1) := by decide +kernel
theorem dM_again_1 : decode bM_again 1 = .ok (.aload_n 0, 1) := by decide +kernel
theorem dM_again_2 : decode bM_again 2 = .ok (.iload_n 1, 1) := by decide +kernel
theorem dM_again_3 : decode bM_again 3 = .ok (.invokevirtual 84, 3) := by decide +kernel
theorem dM_again_6 : decode bM_again 6 = .ok (.ifCond .ne 7, 3) := by decide +kernel
theorem dM_again_9 : decode bM_again 9 = .ok (.iconst 1, 1) := by decide +kernel
theorem dM_again_10 : decode bM_again 10 = .ok (.goto 32, 3) := by decide +kernel
theorem dM_again_13 : decode bM_again 13 = .ok (.iload_n 2, 1) := by decide +kernel
theorem dM_again_14 : decode bM_again 14 = .ok (.iconst 0, 1) := by decide +kernel
theorem dM_again_15 : decode bM_again 15 = .ok (.ldc 76, 2) := by decide +kernel
theorem dM_again_17 : decode bM_again 17 = .ok (.invokestatic 68, 3) := by decide +kernel
theorem dM_again_20 : decode bM_again 20 = .ok (.ifCond .ne 7, 3) := by decide +kernel
theorem dM_again_23 : decode bM_again 23 = .ok (.iconst 2, 1) := by decide +kernel
theorem dM_again_24 : decode bM_again 24 = .ok (.goto 18, 3) := by decide +kernel
theorem dM_again_27 : decode bM_again 27 = .ok (.aload_n 0, 1) := by decide +kernel
theorem dM_again_28 : decode bM_again 28 = .ok (.getfield 19, 3) := by decide +kernel
theorem dM_again_31 : decode bM_again 31 = .ok (.iload_n 1, 1) := by decide +kernel
theorem dM_again_32 : decode bM_again 32 = .ok (.iaload, 1) := by decide +kernel
theorem dM_again_33 : decode bM_again 33 = .ok (.iconst 1, 1) := by decide +kernel
theorem dM_again_34 : decode bM_again 34 = .ok (.if_icmp .eq 7, 3) := by decide +kernel
theorem dM_again_37 : decode bM_again 37 = .ok (.iconst 3, 1) := by decide +kernel
theorem dM_again_38 : decode bM_again 38 = .ok (.goto 4, 3) := by decide +kernel
theorem dM_again_41 : decode bM_again 41 = .ok (.iconst 0, 1) := by decide +kernel
theorem dM_again_42 : decode bM_again 42 = .ok (.putfield 62, 3) := by decide +kernel
theorem dM_again_45 : decode bM_again 45 = .ok (.aload_n 0, 1) := by decide +kernel
theorem dM_again_46 : decode bM_again 46 = .ok (.getfield 62, 3) := by decide +kernel
theorem dM_again_49 : decode bM_again 49 = .ok (.ifCond .le 5, 3) := by decide +kernel
theorem dM_again_52 : decode bM_again 52 = .ok (.iconst 0, 1) := by decide +kernel
theorem dM_again_53 : decode bM_again 53 = .ok (.ireturn, 1) := by decide +kernel
theorem dM_again_54 : decode bM_again 54 = .ok (.aload_n 0, 1) := by decide +kernel
theorem dM_again_55 : decode bM_again 55 = .ok (.iload_n 1, 1) := by decide +kernel
theorem dM_again_56 : decode bM_again 56 = .ok (.invokevirtual 104, 3) := by decide +kernel
theorem dM_again_59 : decode bM_again 59 = .ok (.istore_n 3, 1) := by decide +kernel
theorem dM_again_60 : decode bM_again 60 = .ok (.aload_n 0, 1) := by decide +kernel
theorem dM_again_61 : decode bM_again 61 = .ok (.iload_n 1, 1) := by decide +kernel
theorem dM_again_62 : decode bM_again 62 = .ok (.invokevirtual 80, 3) := by decide +kernel
theorem dM_again_65 : decode bM_again 65 = .ok (.aload_n 0, 1) := by decide +kernel
theorem dM_again_66 : decode bM_again 66 = .ok (.getfield 13, 3) := by decide +kernel
theorem dM_again_69 : decode bM_again 69 = .ok (.iload_n 1, 1) := by decide +kernel
theorem dM_again_70 : decode bM_again 70 = .ok (.iload_n 2, 1) := by decide +kernel
theorem dM_again_71 : decode bM_again 71 = .ok (.invokestatic 77, 3) := by decide +kernel
theorem dM_again_74 : decode bM_again 74 = .ok (.iastore, 1) := by decide +kernel
theorem dM_again_75 : decode bM_again 75 = .ok (.aload_n 0, 1) := by decide +kernel
theorem dM_again_76 : decode bM_again 76 = .ok (.getfield 19, 3) := by decide +kernel
theorem dM_again_79 : decode bM_again 79 = .ok (.iload_n 1, 1) := by decide +kernel
theorem dM_again_80 : decode bM_again 80 = .ok (.iconst 0, 1) := by decide +kernel
theorem dM_again_81 : decode bM_again 81 = .ok (.iastore, 1) := by decide +kernel
theorem dM_again_82 : decode bM_again 82 = .ok (.iload_n 3, 1) := by decide +kernel
theorem dM_again_83 : decode bM_again 83 = .ok (.ireturn, 1) := by decide +kernel
set_option maxHeartbeats 4000000 in
set_option maxRecDepth 100000 in
theorem cM_again (l : Launch) (D : va_G) (tI tJ tL : ClassId) (A : Nat → Prop) (sg ad : Nat → Nat) (n : Nat) (sL : NL) (sA : NA) (p0 : Int32) (p1 : Int32) (nm : Nat) (hnm : nm ≤ 30) (hm : sA 5 0 = nI nm) : Met l yM_again (Cond.code yM_again bM_again 4 (some FieldType.int) :: wNeed) { frames := 2, cells := 0, slots := 0, locals := 43 } (va_Pc [.ref (ad 5), .int p0, .int p1] (GP D tI tJ tL A sg ad n sL sA)) (va_Qi (fun r (u : NL × NA) => fM_again sL sA p0 p1 = (r, u.1, u.2)) (fun u t => GW D tI tJ tL A ad n u.1 u.2 t.heap) A) 0 0 A := by
  refine en_G (av := [.ref (ad 5), .int p0, .int p1]) (by decide) (Nat.le_of_ble_eq_true rfl) ?_
  intro p e s m below meth c hx hb hml hown hts hr hlocks hmname hC H locs hG hS ls hl
  replace hl : lv_has ls 4 [(0, .ref (ad 5)), (1, .int p0), (2, .int p1)] := hl
  refine lv_aload_n hx hb dM_again_0 rfl (lv_at hl 0 rfl) ?_
  refine lv_aload_n hx hb dM_again_1 rfl (lv_at hl 0 rfl) ?_
  refine lv_iload_n hx hb dM_again_2 rfl (lv_at hl 1 rfl) ?_
  refine rcV2 (rest := [.ref (ad 5)]) (As := [.int p0]) hx hb hml hown hts hC hG hS (cM_isLot l D tI tJ tL A sg ad n sL sA p0) (recM hC hG) (gV q_609 q_611 q_p8 q_2 q_612) rfl rfl ⟨rfl, hdyM_isLot⟩ ⟨Nat.le_of_ble_eq_true rfl, Nat.le_of_ble_eq_true rfl⟩ hl.1 rfl (Nat.le_of_ble_eq_true rfl) dM_again_3 ⟨Nat.le_of_ble_eq_true rfl, Nat.le_of_ble_eq_true rfl⟩ ?_
  refine lv_if_ne (tgt := 13) hx hb dM_again_6 (by decide) (fun c_1 => ?_) (fun c_1 => ?_)
  · refine lv_iload_n hx hb dM_again_13 rfl (lv_at hl 2 rfl) ?_
    refine lv_iconst (v := 0) hx hb dM_again_14 (by decide) ?_
    refine lv_ldc (v := 1000000) hx hb hown (hts _ q_591) dM_again_15 ?_
    refine rcS1 (rest := [.ref (ad 5)]) (As := [.int p1, .int 0, .int 1000000]) hx hb hml hown hts (cM_isWithin l p1 0 1000000) (gS q_592 q_593 q_2 q_594) rfl rfl ⟨rfl, hdyM_isWithin⟩ ⟨Nat.le_of_ble_eq_true rfl, Nat.le_of_ble_eq_true rfl⟩ hl.1 rfl (Nat.le_of_ble_eq_true rfl) dM_again_17 ⟨Nat.le_of_ble_eq_true rfl, Nat.le_of_ble_eq_true rfl⟩ ?_
    refine lv_if_ne (tgt := 27) hx hb dM_again_20 (by decide) (fun c_2 => ?_) (fun c_2 => ?_)
    · refine lv_aload_n hx hb dM_again_27 rfl (lv_at hl 0 rfl) ?_
      refine rm_get (v := .ref (ad 9)) hx hb hts hown hC hG 4 (by decide) q_514 (rfl) dM_again_28 ?_
      refine lv_iload_n hx hb dM_again_31 rfl (lv_at hl 1 rfl) ?_
      refine ra_ld hx hb hC hG 9 30 (by omega) (fun _ _ => rfl) ((vin_lot hnm hm c_1).1) dM_again_32 ?_
      refine lv_iconst (v := 1) hx hb dM_again_33 (by decide) ?_
      refine lv_icmp_eq (tgt := 41) hx hb dM_again_34 (by decide) (fun c_3 => ?_) (fun c_3 => ?_)
      · refine lv_iconst (v := 0) hx hb dM_again_41 (by decide) ?_
        refine rm_puti hx hb hts hown hC hG hS 23 (by decide) q_533 dM_again_42 (fun H locs hG hS => ?_)
        refine lv_aload_n hx hb dM_again_45 rfl (lv_at hl 0 rfl) ?_
        refine rm_get (v := .int 0) hx hb hts hown hC hG 23 (by decide) q_533 (by simp [mfs, up2, upd, up2L, vp_updL]) dM_again_46 ?_
        refine lv_if_le (tgt := 54) hx hb dM_again_49 (by decide) (fun c_4 => ?_) (fun c_4 => ?_)
        · refine lv_aload_n hx hb dM_again_54 rfl (lv_at hl 0 rfl) ?_
          refine lv_iload_n hx hb dM_again_55 rfl (lv_at hl 1 rfl) ?_
          refine rcV2 (rest := []) (As := [.int p0]) hx hb hml hown hts hC hG hS (cM_bidMany l D tI tJ tL A sg ad n sL (up2 sA 5 23 0) p0 ((vin_lot hnm hm c_1).1)) (recM hC hG) (gV q_632 q_634 q_p11 q_2 q_635) rfl rfl ⟨rfl, hdyM_bidMany⟩ ⟨Nat.le_of_ble_eq_true rfl, Nat.le_of_ble_eq_true rfl⟩ hl.1 rfl (Nat.le_of_ble_eq_true rfl) dM_again_56 ⟨Nat.le_of_ble_eq_true rfl, Nat.le_of_ble_eq_true rfl⟩ ?_
          refine lv_istore_n (lv' := [(3, .int (fM_bidMany sL (up2 sA 5 23 0) p0)), (0, .ref (ad 5)), (1, .int p0), (2, .int p1)]) hx hb dM_again_59 rfl hl (by decide) rfl (fun ls hl => ?_)
          refine lv_aload_n hx hb dM_again_60 rfl (lv_at hl 1 rfl) ?_
          refine lv_iload_n hx hb dM_again_61 rfl (lv_at hl 2 rfl) ?_
          refine rcV3v (rest := []) (As := [.int p0]) hx hb hml hown hts hC hG hS (cM_clearBids l D tI tJ tL A sg ad n sL (up2 sA 5 23 0) p0 ((vin_lot hnm hm c_1).1)) (recM hC hG) (gV q_601 q_603 q_p7 q_2 q_604) rfl rfl ⟨rfl, hdyM_clearBids⟩ ⟨Nat.le_of_ble_eq_true rfl, Nat.le_of_ble_eq_true rfl⟩ hl.1 rfl (Nat.le_of_ble_eq_true rfl) dM_again_62 ⟨Nat.le_of_ble_eq_true rfl, Nat.le_of_ble_eq_true rfl⟩ (fun H locs hG hS => ?_)
          refine lv_aload_n hx hb dM_again_65 rfl (lv_at hl 1 rfl) ?_
          refine rm_get (v := .ref (ad 7)) hx hb hts hown hC hG 2 (by decide) q_512 (rfl) dM_again_66 ?_
          refine lv_iload_n hx hb dM_again_69 rfl (lv_at hl 2 rfl) ?_
          refine lv_iload_n hx hb dM_again_70 rfl (lv_at hl 3 rfl) ?_
          refine rcS1 (rest := [.int p0, .ref (ad 7)]) (As := [.int p1]) hx hb hml hown hts (cM_call l p1) (gS q_595 q_596 q_2 q_597) rfl rfl ⟨rfl, hdyM_call⟩ ⟨Nat.le_of_ble_eq_true rfl, Nat.le_of_ble_eq_true rfl⟩ hl.1 rfl (Nat.le_of_ble_eq_true rfl) dM_again_71 ⟨Nat.le_of_ble_eq_true rfl, Nat.le_of_ble_eq_true rfl⟩ ?_
          refine ra_st hx hb hC hG hS 7 30 (by omega) (fun _ _ => rfl) ((vin_lot hnm hm c_1).1) dM_again_74 (fun H locs hG hS => ?_)
          refine lv_aload_n hx hb dM_again_75 rfl (lv_at hl 1 rfl) ?_
          refine rm_get (v := .ref (ad 9)) hx hb hts hown hC hG 4 (by decide) q_514 (rfl) dM_again_76 ?_
          refine lv_iload_n hx hb dM_again_79 rfl (lv_at hl 2 rfl) ?_
          refine lv_iconst (v := 0) hx hb dM_again_80 (by decide) ?_
          refine ra_st hx hb hC hG hS 9 30 (by omega) (fun _ _ => rfl) ((vin_lot hnm hm c_1).1) dM_again_81 (fun H locs hG hS => ?_)
          refine lv_iload_n hx hb dM_again_82 rfl (lv_at hl 0 rfl) ?_
          refine W.widen (k := 0) (n := 0) (Nat.le_of_ble_eq_true rfl) (Nat.le_of_ble_eq_true rfl) ?_
          exact W.iret (v := fM_bidMany sL (up2 sA 5 23 0) p0) hx hb hr (fun t ht hW => ⟨⟨(fM_bidMany sL (up2 sA 5 23 0) p0), ((fM_clearBids sL (up2 sA 5 23 0) p0).1, (up2 (up2 ((fM_clearBids sL (up2 sA 5 23 0) p0).2) 7 p0.toNatClampNeg (fM_call p1)) 9 p0.toNatClampNeg 0)), rfl, (by rw [fM_again, if_neg c_1, if_neg c_2, if_pos c_3] <;> rfl), gw_at hG ht⟩, hS.F ht⟩) hS.2.2 dM_again_83
        · exact absurd c_4 (by decide)
      · refine lv_iconst (v := 3) hx hb dM_again_37 (by decide) ?_
        refine lv_goto (tgt := 42) hx hb dM_again_38 (by decide) ?_
        refine rm_puti hx hb hts hown hC hG hS 23 (by decide) q_533 dM_again_42 (fun H locs hG hS => ?_)
        refine lv_aload_n hx hb dM_again_45 rfl (lv_at hl 0 rfl) ?_
        refine rm_get (v := .int 3) hx hb hts hown hC hG 23 (by decide) q_533 (by simp [mfs, up2, upd, up2L, vp_updL]) dM_again_46 ?_
        refine lv_if_le (tgt := 54) hx hb dM_again_49 (by decide) (fun c_5 => ?_) (fun c_5 => ?_)
        · exact absurd c_5 (by decide)
        · refine lv_iconst (v := 0) hx hb dM_again_52 (by decide) ?_
          refine W.widen (k := 0) (n := 0) (Nat.le_of_ble_eq_true rfl) (Nat.le_of_ble_eq_true rfl) ?_
          exact W.iret (v := 0) hx hb hr (fun t ht hW => ⟨⟨0, (sL, (up2 sA 5 23 3)), rfl, (by rw [fM_again, if_neg c_1, if_neg c_2, if_neg c_3] <;> rfl), gw_at hG ht⟩, hS.F ht⟩) hS.2.2 dM_again_53
    · refine lv_iconst (v := 2) hx hb dM_again_23 (by decide) ?_
      refine lv_goto (tgt := 42) hx hb dM_again_24 (by decide) ?_
      refine rm_puti hx hb hts hown hC hG hS 23 (by decide) q_533 dM_again_42 (fun H locs hG hS => ?_)
      refine lv_aload_n hx hb dM_again_45 rfl (lv_at hl 0 rfl) ?_
      refine rm_get (v := .int 2) hx hb hts hown hC hG 23 (by decide) q_533 (by simp [mfs, up2, upd, up2L, vp_updL]) dM_again_46 ?_
      refine lv_if_le (tgt := 54) hx hb dM_again_49 (by decide) (fun c_6 => ?_) (fun c_6 => ?_)
      · exact absurd c_6 (by decide)
      · refine lv_iconst (v := 0) hx hb dM_again_52 (by decide) ?_
        refine W.widen (k := 0) (n := 0) (Nat.le_of_ble_eq_true rfl) (Nat.le_of_ble_eq_true rfl) ?_
        exact W.iret (v := 0) hx hb hr (fun t ht hW => ⟨⟨0, (sL, (up2 sA 5 23 2)), rfl, (by rw [fM_again, if_neg c_1, if_pos c_2] <;> rfl), gw_at hG ht⟩, hS.F ht⟩) hS.2.2 dM_again_53
  · refine lv_iconst (v := 1) hx hb dM_again_9 (by decide) ?_
    refine lv_goto (tgt := 42) hx hb dM_again_10 (by decide) ?_
    refine rm_puti hx hb hts hown hC hG hS 23 (by decide) q_533 dM_again_42 (fun H locs hG hS => ?_)
    refine lv_aload_n hx hb dM_again_45 rfl (lv_at hl 0 rfl) ?_
    refine rm_get (v := .int 1) hx hb hts hown hC hG 23 (by decide) q_533 (by simp [mfs, up2, upd, up2L, vp_updL]) dM_again_46 ?_
    refine lv_if_le (tgt := 54) hx hb dM_again_49 (by decide) (fun c_7 => ?_) (fun c_7 => ?_)
    · exact absurd c_7 (by decide)
    · refine lv_iconst (v := 0) hx hb dM_again_52 (by decide) ?_
      refine W.widen (k := 0) (n := 0) (Nat.le_of_ble_eq_true rfl) (Nat.le_of_ble_eq_true rfl) ?_
      exact W.iret (v := 0) hx hb hr (fun t ht hW => ⟨⟨0, (sL, (up2 sA 5 23 1)), rfl, (by rw [fM_again, if_pos c_1] <;> rfl), gw_at hG ht⟩, hS.F ht⟩) hS.2.2 dM_again_53
def fM_lots (sL : NL) (sA : NA) : Int32 × NL × NA := (sA 5 0, sL, (up2 sA 5 23 0))
theorem hdyM_lots : yM_lots.cls ≠ "java/lang/invoke/MethodHandle" ∧ yM_lots.cls ≠ "java/lang/invoke/VarHandle" ∧ (parseMethodDescriptor yM_lots.desc).map (fun d => d.parameters.length) = some 0 := by decide +kernel
theorem dM_lots_0 : decode bM_lots 0 = .ok (.aload_n 0, 1) := by decide +kernel
theorem dM_lots_1 : decode bM_lots 1 = .ok (.iconst 0, 1) := by decide +kernel
theorem dM_lots_2 : decode bM_lots 2 = .ok (.putfield 62, 3) := by decide +kernel
theorem dM_lots_5 : decode bM_lots 5 = .ok (.aload_n 0, 1) := by decide +kernel
theorem dM_lots_6 : decode bM_lots 6 = .ok (.getfield 65, 3) := by decide +kernel
theorem dM_lots_9 : decode bM_lots 9 = .ok (.ireturn, 1) := by decide +kernel
set_option maxHeartbeats 4000000 in
set_option maxRecDepth 100000 in
theorem cM_lots (l : Launch) (D : va_G) (tI tJ tL : ClassId) (A : Nat → Prop) (sg ad : Nat → Nat) (n : Nat) (sL : NL) (sA : NA) : Met l yM_lots (Cond.code yM_lots bM_lots 1 (some FieldType.int) :: wNeed) { frames := 0, cells := 0, slots := 0, locals := 0 } (va_Pc [.ref (ad 5)] (GP D tI tJ tL A sg ad n sL sA)) (va_Qi (fun r (u : NL × NA) => fM_lots sL sA = (r, u.1, u.2)) (fun u t => GW D tI tJ tL A ad n u.1 u.2 t.heap) A) 0 0 A := by
  refine en_G (av := [.ref (ad 5)]) (by decide) (Nat.le_of_ble_eq_true rfl) ?_
  intro p e s m below meth c hx hb hml hown hts hr hlocks hmname hC H locs hG hS ls hl
  replace hl : lv_has ls 1 [(0, .ref (ad 5))] := hl
  refine lv_aload_n hx hb dM_lots_0 rfl (lv_at hl 0 rfl) ?_
  refine lv_iconst (v := 0) hx hb dM_lots_1 (by decide) ?_
  refine rm_puti hx hb hts hown hC hG hS 23 (by decide) q_533 dM_lots_2 (fun H locs hG hS => ?_)
  refine lv_aload_n hx hb dM_lots_5 rfl (lv_at hl 0 rfl) ?_
  refine rm_get (v := .int (sA 5 0)) hx hb hts hown hC hG 0 (by decide) q_510 (by simp [mfs, up2, upd, up2L, vp_updL]) dM_lots_6 ?_
  refine W.widen (k := 0) (n := 0) (Nat.le_of_ble_eq_true rfl) (Nat.le_of_ble_eq_true rfl) ?_
  exact W.iret (v := sA 5 0) hx hb hr (fun t ht hW => ⟨⟨(sA 5 0), (sL, (up2 sA 5 23 0)), rfl, (by rw [fM_lots] <;> rfl), gw_at hG ht⟩, hS.F ht⟩) hS.2.2 dM_lots_9
def fM_callOf (sL : NL) (sA : NA) (p0 : Int32) : Int32 × NL × NA := if (fM_isWithin p0 0 1000000) = 0 then (0, sL, (up2 sA 5 23 1)) else (fM_call p0, sL, (up2 sA 5 23 0))
theorem hdyM_callOf : yM_callOf.cls ≠ "java/lang/invoke/MethodHandle" ∧ yM_callOf.cls ≠ "java/lang/invoke/VarHandle" ∧ (parseMethodDescriptor yM_callOf.desc).map (fun d => d.parameters.length) = some 1 := by decide +kernel
theorem dM_callOf_0 : decode bM_callOf 0 = .ok (.aload_n 0, 1) := by decide +kernel
theorem dM_callOf_1 : decode bM_callOf 1 = .ok (.iload_n 1, 1) := by decide +kernel
theorem dM_callOf_2 : decode bM_callOf 2 = .ok (.iconst 0, 1) := by decide +kernel
theorem dM_callOf_3 : decode bM_callOf 3 = .ok (.ldc 76, 2) := by decide +kernel
theorem dM_callOf_5 : decode bM_callOf 5 = .ok (.invokestatic 68, 3) := by decide +kernel
theorem dM_callOf_8 : decode bM_callOf 8 = .ok (.ifCond .eq 7, 3) := by decide +kernel
theorem dM_callOf_11 : decode bM_callOf 11 = .ok (.iconst 0, 1) := by decide +kernel
theorem dM_callOf_12 : decode bM_callOf 12 = .ok (.goto 4, 3) := by decide +kernel
theorem dM_callOf_15 : decode bM_callOf 15 = .ok (.iconst 1, 1) := by decide +kernel
theorem dM_callOf_16 : decode bM_callOf 16 = .ok (.putfield 62, 3) := by decide +kernel
theorem dM_callOf_19 : decode bM_callOf 19 = .ok (.aload_n 0, 1) := by decide +kernel
theorem dM_callOf_20 : decode bM_callOf 20 = .ok (.getfield 62, 3) := by decide +kernel
theorem dM_callOf_23 : decode bM_callOf 23 = .ok (.ifCond .ne 10, 3) := by decide +kernel
theorem dM_callOf_26 : decode bM_callOf 26 = .ok (.iload_n 1, 1) := by decide +kernel
theorem dM_callOf_27 : decode bM_callOf 27 = .ok (.invokestatic 77, 3) := by decide +kernel
theorem dM_callOf_30 : decode bM_callOf 30 = .ok (.goto 4, 3) := by decide +kernel
theorem dM_callOf_33 : decode bM_callOf 33 = .ok (.iconst 0, 1) := by decide +kernel
theorem dM_callOf_34 : decode bM_callOf 34 = .ok (.ireturn, 1) := by decide +kernel
set_option maxHeartbeats 4000000 in
set_option maxRecDepth 100000 in
theorem cM_callOf (l : Launch) (D : va_G) (tI tJ tL : ClassId) (A : Nat → Prop) (sg ad : Nat → Nat) (n : Nat) (sL : NL) (sA : NA) (p0 : Int32) : Met l yM_callOf (Cond.code yM_callOf bM_callOf 2 (some FieldType.int) :: wNeed) { frames := 2, cells := 0, slots := 0, locals := 40 } (va_Pc [.ref (ad 5), .int p0] (GP D tI tJ tL A sg ad n sL sA)) (va_Qi (fun r (u : NL × NA) => fM_callOf sL sA p0 = (r, u.1, u.2)) (fun u t => GW D tI tJ tL A ad n u.1 u.2 t.heap) A) 0 0 A := by
  refine en_G (av := [.ref (ad 5), .int p0]) (by decide) (Nat.le_of_ble_eq_true rfl) ?_
  intro p e s m below meth c hx hb hml hown hts hr hlocks hmname hC H locs hG hS ls hl
  replace hl : lv_has ls 2 [(0, .ref (ad 5)), (1, .int p0)] := hl
  refine lv_aload_n hx hb dM_callOf_0 rfl (lv_at hl 0 rfl) ?_
  refine lv_iload_n hx hb dM_callOf_1 rfl (lv_at hl 1 rfl) ?_
  refine lv_iconst (v := 0) hx hb dM_callOf_2 (by decide) ?_
  refine lv_ldc (v := 1000000) hx hb hown (hts _ q_591) dM_callOf_3 ?_
  refine rcS1 (rest := [.ref (ad 5)]) (As := [.int p0, .int 0, .int 1000000]) hx hb hml hown hts (cM_isWithin l p0 0 1000000) (gS q_592 q_593 q_2 q_594) rfl rfl ⟨rfl, hdyM_isWithin⟩ ⟨Nat.le_of_ble_eq_true rfl, Nat.le_of_ble_eq_true rfl⟩ hl.1 rfl (Nat.le_of_ble_eq_true rfl) dM_callOf_5 ⟨Nat.le_of_ble_eq_true rfl, Nat.le_of_ble_eq_true rfl⟩ ?_
  refine lv_if_eq (tgt := 15) hx hb dM_callOf_8 (by decide) (fun c_1 => ?_) (fun c_1 => ?_)
  · refine lv_iconst (v := 1) hx hb dM_callOf_15 (by decide) ?_
    refine rm_puti hx hb hts hown hC hG hS 23 (by decide) q_533 dM_callOf_16 (fun H locs hG hS => ?_)
    refine lv_aload_n hx hb dM_callOf_19 rfl (lv_at hl 0 rfl) ?_
    refine rm_get (v := .int 1) hx hb hts hown hC hG 23 (by decide) q_533 (by simp [mfs, up2, upd, up2L, vp_updL]) dM_callOf_20 ?_
    refine lv_if_ne (tgt := 33) hx hb dM_callOf_23 (by decide) (fun c_2 => ?_) (fun c_2 => ?_)
    · refine lv_iconst (v := 0) hx hb dM_callOf_33 (by decide) ?_
      refine W.widen (k := 0) (n := 0) (Nat.le_of_ble_eq_true rfl) (Nat.le_of_ble_eq_true rfl) ?_
      exact W.iret (v := 0) hx hb hr (fun t ht hW => ⟨⟨0, (sL, (up2 sA 5 23 1)), rfl, (by rw [fM_callOf, if_pos c_1] <;> rfl), gw_at hG ht⟩, hS.F ht⟩) hS.2.2 dM_callOf_34
    · exact absurd c_2 (by decide)
  · refine lv_iconst (v := 0) hx hb dM_callOf_11 (by decide) ?_
    refine lv_goto (tgt := 16) hx hb dM_callOf_12 (by decide) ?_
    refine rm_puti hx hb hts hown hC hG hS 23 (by decide) q_533 dM_callOf_16 (fun H locs hG hS => ?_)
    refine lv_aload_n hx hb dM_callOf_19 rfl (lv_at hl 0 rfl) ?_
    refine rm_get (v := .int 0) hx hb hts hown hC hG 23 (by decide) q_533 (by simp [mfs, up2, upd, up2L, vp_updL]) dM_callOf_20 ?_
    refine lv_if_ne (tgt := 33) hx hb dM_callOf_23 (by decide) (fun c_3 => ?_) (fun c_3 => ?_)
    · exact absurd c_3 (by decide)
    · refine lv_iload_n hx hb dM_callOf_26 rfl (lv_at hl 1 rfl) ?_
      refine rcS1 (rest := []) (As := [.int p0]) hx hb hml hown hts (cM_call l p0) (gS q_595 q_596 q_2 q_597) rfl rfl ⟨rfl, hdyM_call⟩ ⟨Nat.le_of_ble_eq_true rfl, Nat.le_of_ble_eq_true rfl⟩ hl.1 rfl (Nat.le_of_ble_eq_true rfl) dM_callOf_27 ⟨Nat.le_of_ble_eq_true rfl, Nat.le_of_ble_eq_true rfl⟩ ?_
      refine lv_goto (tgt := 34) hx hb dM_callOf_30 (by decide) ?_
      refine W.widen (k := 0) (n := 0) (Nat.le_of_ble_eq_true rfl) (Nat.le_of_ble_eq_true rfl) ?_
      exact W.iret (v := fM_call p0) hx hb hr (fun t ht hW => ⟨⟨(fM_call p0), (sL, (up2 sA 5 23 0)), rfl, (by rw [fM_callOf, if_neg c_1] <;> rfl), gw_at hG ht⟩, hS.F ht⟩) hS.2.2 dM_callOf_34
def fM_pay (sL : NL) (sA : NA) (p0 : Int32) : Int32 × NL × NA := if (fM_isLot sL sA p0) = 0 then (0, sL, (up2 sA 5 23 1)) else (if (sA 9 p0.toNatClampNeg) = 2 then (if (sA 15 p0.toNatClampNeg) = (-1) then ((sA 11 p0.toNatClampNeg) + (fM_feeFor (sA 11 p0.toNatClampNeg)), (up2L (up2L sL 5 20 ((sL 5 20) + (((sA 11 p0.toNatClampNeg) + (fM_feeFor (sA 11 p0.toNatClampNeg)) : Int32).toInt64))) 5 22 ((sL 5 22) + ((fM_feeFor (sA 11 p0.toNatClampNeg) : Int32).toInt64))), (up2 (up2 sA 5 23 0) 9 p0.toNatClampNeg 3)) else (if (sA 16 p0.toNatClampNeg) ≤ (sA 11 p0.toNatClampNeg) then ((sA 11 p0.toNatClampNeg) + (fM_feeFor (sA 11 p0.toNatClampNeg)), (up2L (up2L sL 5 20 ((sL 5 20) + (((sA 11 p0.toNatClampNeg) + (fM_feeFor (sA 11 p0.toNatClampNeg)) : Int32).toInt64))) 5 22 ((sL 5 22) + ((fM_feeFor (sA 11 p0.toNatClampNeg) : Int32).toInt64))), (up2 (up2 (up2 (up2 sA 5 23 0) 9 p0.toNatClampNeg 3) 20 ((sA 15 p0.toNatClampNeg).toNatClampNeg) ((sA 20 ((sA 15 p0.toNatClampNeg).toNatClampNeg)) + 0)) 15 p0.toNatClampNeg (-1))) else ((sA 11 p0.toNatClampNeg) + (fM_feeFor (sA 11 p0.toNatClampNeg)), (up2L (up2L sL 5 20 ((sL 5 20) + (((sA 11 p0.toNatClampNeg) + (fM_feeFor (sA 11 p0.toNatClampNeg)) : Int32).toInt64))) 5 22 ((sL 5 22) + ((fM_feeFor (sA 11 p0.toNatClampNeg) : Int32).toInt64))), (up2 (up2 (up2 (up2 sA 5 23 0) 9 p0.toNatClampNeg 3) 20 ((sA 15 p0.toNatClampNeg).toNatClampNeg) ((sA 20 ((sA 15 p0.toNatClampNeg).toNatClampNeg)) + ((sA 16 p0.toNatClampNeg) - (sA 11 p0.toNatClampNeg)))) 15 p0.toNatClampNeg (-1))))) else (0, sL, (up2 sA 5 23 2)))
theorem hdyM_pay : yM_pay.cls ≠ "java/lang/invoke/MethodHandle" ∧ yM_pay.cls ≠ "java/lang/invoke/VarHandle" ∧ (parseMethodDescriptor yM_pay.desc).map (fun d => d.parameters.length) = some 1 := by decide +kernel
theorem dM_pay_0 : decode bM_pay 0 = .ok (.aload_n 0, 1) := by decide +kernel
theorem dM_pay_1 : decode bM_pay 1 = .ok (.aload_n 0, 1) := by decide +kernel
theorem dM_pay_2 : decode bM_pay 2 = .ok (.iload_n 1, 1) := by decide +kernel
theorem dM_pay_3 : decode bM_pay 3 = .ok (.invokevirtual 84, 3) := by decide +kernel
theorem dM_pay_6 : decode bM_pay 6 = .ok (.ifCond .ne 7, 3) := by decide +kernel
theorem dM_pay_9 : decode bM_pay 9 = .ok (.iconst 1, 1) := by decide +kernel
theorem dM_pay_10 : decode bM_pay 10 = .ok (.goto 18, 3) := by decide +kernel
theorem dM_pay_13 : decode bM_pay 13 = .ok (.aload_n 0, 1) := by decide +kernel
theorem dM_pay_14 : decode bM_pay 14 = .ok (.getfield 19, 3) := by decide +kernel
theorem dM_pay_17 : decode bM_pay 17 = .ok (.iload_n 1, 1) := by decide +kernel
theorem dM_pay_18 : decode bM_pay 18 = .ok (.iaload, 1) := by decide +kernel
theorem dM_pay_19 : decode bM_pay 19 = .ok (.iconst 2, 1) := by decide +kernel
theorem dM_pay_20 : decode bM_pay 20 = .ok (.if_icmp .eq 7, 3) := by decide +kernel
theorem dM_pay_23 : decode bM_pay 23 = .ok (.iconst 2, 1) := by decide +kernel
theorem dM_pay_24 : decode bM_pay 24 = .ok (.goto 4, 3) := by decide +kernel
theorem dM_pay_27 : decode bM_pay 27 = .ok (.iconst 0, 1) := by decide +kernel
theorem dM_pay_28 : decode bM_pay 28 = .ok (.putfield 62, 3) := by decide +kernel
theorem dM_pay_31 : decode bM_pay 31 = .ok (.aload_n 0, 1) := by decide +kernel
theorem dM_pay_32 : decode bM_pay 32 = .ok (.getfield 62, 3) := by decide +kernel
theorem dM_pay_35 : decode bM_pay 35 = .ok (.ifCond .le 5, 3) := by decide +kernel
theorem dM_pay_38 : decode bM_pay 38 = .ok (.iconst 0, 1) := by decide +kernel
theorem dM_pay_39 : decode bM_pay 39 = .ok (.ireturn, 1) := by decide +kernel
theorem dM_pay_40 : decode bM_pay 40 = .ok (.aload_n 0, 1) := by decide +kernel
theorem dM_pay_41 : decode bM_pay 41 = .ok (.getfield 25, 3) := by decide +kernel
theorem dM_pay_44 : decode bM_pay 44 = .ok (.iload_n 1, 1) := by decide +kernel
theorem dM_pay_45 : decode bM_pay 45 = .ok (.iaload, 1) := by decide +kernel
theorem dM_pay_46 : decode bM_pay 46 = .ok (.invokestatic 111, 3) := by decide +kernel
theorem dM_pay_49 : decode bM_pay 49 = .ok (.istore_n 2, 1) := by decide +kernel
theorem dM_pay_50 : decode bM_pay 50 = .ok (.aload_n 0, 1) := by decide +kernel
theorem dM_pay_51 : decode bM_pay 51 = .ok (.dup, 1) := by decide +kernel
theorem dM_pay_52 : decode bM_pay 52 = .ok (.getfield 114, 3) := by decide +kernel
theorem dM_pay_55 : decode bM_pay 55 = .ok (.aload_n 0, 1) := by decide +kernel
theorem dM_pay_56 : decode bM_pay 56 = .ok (.getfield 25, 3) := by decide +kernel
theorem dM_pay_59 : decode bM_pay 59 = .ok (.iload_n 1, 1) := by decide +kernel
theorem dM_pay_60 : decode bM_pay 60 = .ok (.iaload, 1) := by decide +kernel
theorem dM_pay_61 : decode bM_pay 61 = .ok (.iload_n 2, 1) := by decide +kernel
theorem dM_pay_62 : decode bM_pay 62 = .ok (.iadd, 1) := by decide +kernel
theorem dM_pay_63 : decode bM_pay 63 = .ok (.i2l, 1) := by decide +kernel
theorem dM_pay_64 : decode bM_pay 64 = .ok (.ladd, 1) := by decide +kernel
theorem dM_pay_65 : decode bM_pay 65 = .ok (.putfield 114, 3) := by decide +kernel
theorem dM_pay_68 : decode bM_pay 68 = .ok (.aload_n 0, 1) := by decide +kernel
theorem dM_pay_69 : decode bM_pay 69 = .ok (.dup, 1) := by decide +kernel
theorem dM_pay_70 : decode bM_pay 70 = .ok (.getfield 118, 3) := by decide +kernel
theorem dM_pay_73 : decode bM_pay 73 = .ok (.iload_n 2, 1) := by decide +kernel
theorem dM_pay_74 : decode bM_pay 74 = .ok (.i2l, 1) := by decide +kernel
theorem dM_pay_75 : decode bM_pay 75 = .ok (.ladd, 1) := by decide +kernel
theorem dM_pay_76 : decode bM_pay 76 = .ok (.putfield 118, 3) := by decide +kernel
theorem dM_pay_79 : decode bM_pay 79 = .ok (.aload_n 0, 1) := by decide +kernel
theorem dM_pay_80 : decode bM_pay 80 = .ok (.getfield 19, 3) := by decide +kernel
theorem dM_pay_83 : decode bM_pay 83 = .ok (.iload_n 1, 1) := by decide +kernel
theorem dM_pay_84 : decode bM_pay 84 = .ok (.iconst 3, 1) := by decide +kernel
theorem dM_pay_85 : decode bM_pay 85 = .ok (.iastore, 1) := by decide +kernel
theorem dM_pay_86 : decode bM_pay 86 = .ok (.aload_n 0, 1) := by decide +kernel
theorem dM_pay_87 : decode bM_pay 87 = .ok (.getfield 37, 3) := by decide +kernel
theorem dM_pay_90 : decode bM_pay 90 = .ok (.iload_n 1, 1) := by decide +kernel
theorem dM_pay_91 : decode bM_pay 91 = .ok (.iaload, 1) := by decide +kernel
theorem dM_pay_92 : decode bM_pay 92 = .ok (.iconst (-1), 1) := by decide +kernel
theorem dM_pay_93 : decode bM_pay 93 = .ok (.if_icmp .eq 56, 3) := by decide +kernel
theorem dM_pay_96 : decode bM_pay 96 = .ok (.aload_n 0, 1) := by decide +kernel
theorem dM_pay_97 : decode bM_pay 97 = .ok (.getfield 52, 3) := by decide +kernel
theorem dM_pay_100 : decode bM_pay 100 = .ok (.aload_n 0, 1) := by decide +kernel
theorem dM_pay_101 : decode bM_pay 101 = .ok (.getfield 37, 3) := by decide +kernel
theorem dM_pay_104 : decode bM_pay 104 = .ok (.iload_n 1, 1) := by decide +kernel
theorem dM_pay_105 : decode bM_pay 105 = .ok (.iaload, 1) := by decide +kernel
theorem dM_pay_106 : decode bM_pay 106 = .ok (.dup2, 1) := by decide +kernel
theorem dM_pay_107 : decode bM_pay 107 = .ok (.iaload, 1) := by decide +kernel
theorem dM_pay_108 : decode bM_pay 108 = .ok (.aload_n 0, 1) := by decide +kernel
theorem dM_pay_109 : decode bM_pay 109 = .ok (.getfield 40, 3) := by decide +kernel
theorem dM_pay_112 : decode bM_pay 112 = .ok (.iload_n 1, 1) := by decide +kernel
theorem dM_pay_113 : decode bM_pay 113 = .ok (.iaload, 1) := by decide +kernel
theorem dM_pay_114 : decode bM_pay 114 = .ok (.aload_n 0, 1) := by decide +kernel
theorem dM_pay_115 : decode bM_pay 115 = .ok (.getfield 25, 3) := by decide +kernel
theorem dM_pay_118 : decode bM_pay 118 = .ok (.iload_n 1, 1) := by decide +kernel
theorem dM_pay_119 : decode bM_pay 119 = .ok (.iaload, 1) := by decide +kernel
theorem dM_pay_120 : decode bM_pay 120 = .ok (.if_icmp .le 19, 3) := by decide +kernel
theorem dM_pay_123 : decode bM_pay 123 = .ok (.aload_n 0, 1) := by decide +kernel
theorem dM_pay_124 : decode bM_pay 124 = .ok (.getfield 40, 3) := by decide +kernel
theorem dM_pay_127 : decode bM_pay 127 = .ok (.iload_n 1, 1) := by decide +kernel
theorem dM_pay_128 : decode bM_pay 128 = .ok (.iaload, 1) := by decide +kernel
theorem dM_pay_129 : decode bM_pay 129 = .ok (.aload_n 0, 1) := by decide +kernel
theorem dM_pay_130 : decode bM_pay 130 = .ok (.getfield 25, 3) := by decide +kernel
theorem dM_pay_133 : decode bM_pay 133 = .ok (.iload_n 1, 1) := by decide +kernel
theorem dM_pay_134 : decode bM_pay 134 = .ok (.iaload, 1) := by decide +kernel
theorem dM_pay_135 : decode bM_pay 135 = .ok (.isub, 1) := by decide +kernel
theorem dM_pay_136 : decode bM_pay 136 = .ok (.goto 4, 3) := by decide +kernel
theorem dM_pay_139 : decode bM_pay 139 = .ok (.iconst 0, 1) := by decide +kernel
theorem dM_pay_140 : decode bM_pay 140 = .ok (.iadd, 1) := by decide +kernel
theorem dM_pay_141 : decode bM_pay 141 = .ok (.iastore, 1) := by decide +kernel
theorem dM_pay_142 : decode bM_pay 142 = .ok (.aload_n 0, 1) := by decide +kernel
theorem dM_pay_143 : decode bM_pay 143 = .ok (.getfield 37, 3) := by decide +kernel
theorem dM_pay_146 : decode bM_pay 146 = .ok (.iload_n 1, 1) := by decide +kernel
theorem dM_pay_147 : decode bM_pay 147 = .ok (.iconst (-1), 1) := by decide +kernel
theorem dM_pay_148 : decode bM_pay 148 = .ok (.iastore, 1) := by decide +kernel
theorem dM_pay_149 : decode bM_pay 149 = .ok (.aload_n 0, 1) := by decide +kernel
theorem dM_pay_150 : decode bM_pay 150 = .ok (.getfield 25, 3) := by decide +kernel
theorem dM_pay_153 : decode bM_pay 153 = .ok (.iload_n 1, 1) := by decide +kernel
theorem dM_pay_154 : decode bM_pay 154 = .ok (.iaload, 1) := by decide +kernel
theorem dM_pay_155 : decode bM_pay 155 = .ok (.iload_n 2, 1) := by decide +kernel
theorem dM_pay_156 : decode bM_pay 156 = .ok (.iadd, 1) := by decide +kernel
theorem dM_pay_157 : decode bM_pay 157 = .ok (.ireturn, 1) := by decide +kernel
set_option maxHeartbeats 4000000 in
set_option maxRecDepth 100000 in
theorem cM_pay (l : Launch) (D : va_G) (tI tJ tL : ClassId) (A : Nat → Prop) (sg ad : Nat → Nat) (n : Nat) (sL : NL) (sA : NA) (p0 : Int32) (nm : Nat) (hnm : nm ≤ 30) (hm : sA 5 0 = nI nm) (hgm : ∀ a : Nat, a < nm → sA 15 a = (-1) ∨ vp_in (sA 15 a) 10) : Met l yM_pay (Cond.code yM_pay bM_pay 3 (some FieldType.int) :: wNeed) { frames := 2, cells := 0, slots := 0, locals := 43 } (va_Pc [.ref (ad 5), .int p0] (GP D tI tJ tL A sg ad n sL sA)) (va_Qi (fun r (u : NL × NA) => fM_pay sL sA p0 = (r, u.1, u.2)) (fun u t => GW D tI tJ tL A ad n u.1 u.2 t.heap) A) 0 0 A := by
  refine en_G (av := [.ref (ad 5), .int p0]) (by decide) (Nat.le_of_ble_eq_true rfl) ?_
  intro p e s m below meth c hx hb hml hown hts hr hlocks hmname hC H locs hG hS ls hl
  replace hl : lv_has ls 3 [(0, .ref (ad 5)), (1, .int p0)] := hl
  refine lv_aload_n hx hb dM_pay_0 rfl (lv_at hl 0 rfl) ?_
  refine lv_aload_n hx hb dM_pay_1 rfl (lv_at hl 0 rfl) ?_
  refine lv_iload_n hx hb dM_pay_2 rfl (lv_at hl 1 rfl) ?_
  refine rcV2 (rest := [.ref (ad 5)]) (As := [.int p0]) hx hb hml hown hts hC hG hS (cM_isLot l D tI tJ tL A sg ad n sL sA p0) (recM hC hG) (gV q_609 q_611 q_p8 q_2 q_612) rfl rfl ⟨rfl, hdyM_isLot⟩ ⟨Nat.le_of_ble_eq_true rfl, Nat.le_of_ble_eq_true rfl⟩ hl.1 rfl (Nat.le_of_ble_eq_true rfl) dM_pay_3 ⟨Nat.le_of_ble_eq_true rfl, Nat.le_of_ble_eq_true rfl⟩ ?_
  refine lv_if_ne (tgt := 13) hx hb dM_pay_6 (by decide) (fun c_1 => ?_) (fun c_1 => ?_)
  · refine lv_aload_n hx hb dM_pay_13 rfl (lv_at hl 0 rfl) ?_
    refine rm_get (v := .ref (ad 9)) hx hb hts hown hC hG 4 (by decide) q_514 (rfl) dM_pay_14 ?_
    refine lv_iload_n hx hb dM_pay_17 rfl (lv_at hl 1 rfl) ?_
    refine ra_ld hx hb hC hG 9 30 (by omega) (fun _ _ => rfl) ((vin_lot hnm hm c_1).1) dM_pay_18 ?_
    refine lv_iconst (v := 2) hx hb dM_pay_19 (by decide) ?_
    refine lv_icmp_eq (tgt := 27) hx hb dM_pay_20 (by decide) (fun c_2 => ?_) (fun c_2 => ?_)
    · refine lv_iconst (v := 0) hx hb dM_pay_27 (by decide) ?_
      refine rm_puti hx hb hts hown hC hG hS 23 (by decide) q_533 dM_pay_28 (fun H locs hG hS => ?_)
      refine lv_aload_n hx hb dM_pay_31 rfl (lv_at hl 0 rfl) ?_
      refine rm_get (v := .int 0) hx hb hts hown hC hG 23 (by decide) q_533 (by simp [mfs, up2, upd, up2L, vp_updL]) dM_pay_32 ?_
      refine lv_if_le (tgt := 40) hx hb dM_pay_35 (by decide) (fun c_3 => ?_) (fun c_3 => ?_)
      · refine lv_aload_n hx hb dM_pay_40 rfl (lv_at hl 0 rfl) ?_
        refine rm_get (v := .ref (ad 11)) hx hb hts hown hC hG 6 (by decide) q_516 (rfl) dM_pay_41 ?_
        refine lv_iload_n hx hb dM_pay_44 rfl (lv_at hl 1 rfl) ?_
        refine ra_ld hx hb hC hG 11 30 (by omega) (fun _ _ => rfl) ((vin_lot hnm hm c_1).1) dM_pay_45 ?_
        refine W.eq (g2 := F0 m 46 ls (.int (sA 11 p0.toNatClampNeg) :: [])) (by simp [up2, upd]) ?_
        refine rcS1 (rest := []) (As := [.int (sA 11 p0.toNatClampNeg)]) hx hb hml hown hts (cM_feeFor l (sA 11 p0.toNatClampNeg)) (gS q_648 q_649 q_2 q_650) rfl rfl ⟨rfl, hdyM_feeFor⟩ ⟨Nat.le_of_ble_eq_true rfl, Nat.le_of_ble_eq_true rfl⟩ hl.1 rfl (Nat.le_of_ble_eq_true rfl) dM_pay_46 ⟨Nat.le_of_ble_eq_true rfl, Nat.le_of_ble_eq_true rfl⟩ ?_
        refine lv_istore_n (lv' := [(2, .int (fM_feeFor (sA 11 p0.toNatClampNeg))), (0, .ref (ad 5)), (1, .int p0)]) hx hb dM_pay_49 rfl hl (by decide) rfl (fun ls hl => ?_)
        refine lv_aload_n hx hb dM_pay_50 rfl (lv_at hl 1 rfl) ?_
        refine lv_dup hx hb dM_pay_51 rfl ?_
        refine rm_get (v := .long (sL 5 20)) hx hb hts hown hC hG 20 (by decide) q_530 (rfl) dM_pay_52 ?_
        refine lv_aload_n hx hb dM_pay_55 rfl (lv_at hl 1 rfl) ?_
        refine rm_get (v := .ref (ad 11)) hx hb hts hown hC hG 6 (by decide) q_516 (rfl) dM_pay_56 ?_
        refine lv_iload_n hx hb dM_pay_59 rfl (lv_at hl 2 rfl) ?_
        refine ra_ld hx hb hC hG 11 30 (by omega) (fun _ _ => rfl) ((vin_lot hnm hm c_1).1) dM_pay_60 ?_
        refine W.eq (g2 := F0 m 61 ls (.int (sA 11 p0.toNatClampNeg) :: .long (sL 5 20) :: .ref (ad 5) :: [])) (by simp [up2, upd]) ?_
        refine lv_iload_n hx hb dM_pay_61 rfl (lv_at hl 0 rfl) ?_
        refine lv_iadd hx hb dM_pay_62 ?_
        refine lv_i2l (v := ((sA 11 p0.toNatClampNeg) + (fM_feeFor (sA 11 p0.toNatClampNeg)) : Int32).toInt64) hx hb dM_pay_63 rfl ?_
        refine lv_ladd hx hb dM_pay_64 ?_
        refine rm_putl hx hb hts hown hC hG hS 20 (by decide) q_530 dM_pay_65 (fun H locs hG hS => ?_)
        refine lv_aload_n hx hb dM_pay_68 rfl (lv_at hl 1 rfl) ?_
        refine lv_dup hx hb dM_pay_69 rfl ?_
        refine rm_get (v := .long (sL 5 22)) hx hb hts hown hC hG 22 (by decide) q_532 (by simp [mfs, up2, upd, up2L, vp_updL]) dM_pay_70 ?_
        refine lv_iload_n hx hb dM_pay_73 rfl (lv_at hl 0 rfl) ?_
        refine lv_i2l (v := (fM_feeFor (sA 11 p0.toNatClampNeg) : Int32).toInt64) hx hb dM_pay_74 rfl ?_
        refine lv_ladd hx hb dM_pay_75 ?_
        refine rm_putl hx hb hts hown hC hG hS 22 (by decide) q_532 dM_pay_76 (fun H locs hG hS => ?_)
        refine lv_aload_n hx hb dM_pay_79 rfl (lv_at hl 1 rfl) ?_
        refine rm_get (v := .ref (ad 9)) hx hb hts hown hC hG 4 (by decide) q_514 (rfl) dM_pay_80 ?_
        refine lv_iload_n hx hb dM_pay_83 rfl (lv_at hl 2 rfl) ?_
        refine lv_iconst (v := 3) hx hb dM_pay_84 (by decide) ?_
        refine ra_st hx hb hC hG hS 9 30 (by omega) (fun _ _ => rfl) ((vin_lot hnm hm c_1).1) dM_pay_85 (fun H locs hG hS => ?_)
        refine lv_aload_n hx hb dM_pay_86 rfl (lv_at hl 1 rfl) ?_
        refine rm_get (v := .ref (ad 15)) hx hb hts hown hC hG 11 (by decide) q_521 (rfl) dM_pay_87 ?_
        refine lv_iload_n hx hb dM_pay_90 rfl (lv_at hl 2 rfl) ?_
        refine ra_ld hx hb hC hG 15 30 (by omega) (fun _ _ => rfl) ((vin_lot hnm hm c_1).1) dM_pay_91 ?_
        refine W.eq (g2 := F0 m 92 ls (.int (sA 15 p0.toNatClampNeg) :: [])) (by simp [up2, upd]) ?_
        refine lv_iconst (v := (-1)) hx hb dM_pay_92 (by decide) ?_
        refine lv_icmp_eq (tgt := 149) hx hb dM_pay_93 (by decide) (fun c_4 => ?_) (fun c_4 => ?_)
        · refine lv_aload_n hx hb dM_pay_149 rfl (lv_at hl 1 rfl) ?_
          refine rm_get (v := .ref (ad 11)) hx hb hts hown hC hG 6 (by decide) q_516 (rfl) dM_pay_150 ?_
          refine lv_iload_n hx hb dM_pay_153 rfl (lv_at hl 2 rfl) ?_
          refine ra_ld hx hb hC hG 11 30 (by omega) (fun _ _ => rfl) ((vin_lot hnm hm c_1).1) dM_pay_154 ?_
          refine W.eq (g2 := F0 m 155 ls (.int (sA 11 p0.toNatClampNeg) :: [])) (by simp [up2, upd]) ?_
          refine lv_iload_n hx hb dM_pay_155 rfl (lv_at hl 0 rfl) ?_
          refine lv_iadd hx hb dM_pay_156 ?_
          refine W.widen (k := 0) (n := 0) (Nat.le_of_ble_eq_true rfl) (Nat.le_of_ble_eq_true rfl) ?_
          exact W.iret (v := (sA 11 p0.toNatClampNeg) + (fM_feeFor (sA 11 p0.toNatClampNeg))) hx hb hr (fun t ht hW => ⟨⟨((sA 11 p0.toNatClampNeg) + (fM_feeFor (sA 11 p0.toNatClampNeg))), ((up2L (up2L sL 5 20 ((sL 5 20) + (((sA 11 p0.toNatClampNeg) + (fM_feeFor (sA 11 p0.toNatClampNeg)) : Int32).toInt64))) 5 22 ((sL 5 22) + ((fM_feeFor (sA 11 p0.toNatClampNeg) : Int32).toInt64))), (up2 (up2 sA 5 23 0) 9 p0.toNatClampNeg 3)), rfl, (by rw [fM_pay, if_neg c_1, if_pos c_2, if_pos c_4] <;> rfl), gw_at hG ht⟩, hS.F ht⟩) hS.2.2 dM_pay_157
        · refine lv_aload_n hx hb dM_pay_96 rfl (lv_at hl 1 rfl) ?_
          refine rm_get (v := .ref (ad 20)) hx hb hts hown hC hG 16 (by decide) q_526 (rfl) dM_pay_97 ?_
          refine lv_aload_n hx hb dM_pay_100 rfl (lv_at hl 1 rfl) ?_
          refine rm_get (v := .ref (ad 15)) hx hb hts hown hC hG 11 (by decide) q_521 (rfl) dM_pay_101 ?_
          refine lv_iload_n hx hb dM_pay_104 rfl (lv_at hl 2 rfl) ?_
          refine ra_ld hx hb hC hG 15 30 (by omega) (fun _ _ => rfl) ((vin_lot hnm hm c_1).1) dM_pay_105 ?_
          refine W.eq (g2 := F0 m 106 ls (.int (sA 15 p0.toNatClampNeg) :: .ref (ad 20) :: [])) (by simp [up2, upd]) ?_
          refine lv_dup2_11 hx hb dM_pay_106 rfl rfl ?_
          refine ra_ld hx hb hC hG 20 10 (by omega) (fun _ _ => rfl) ((hgm _ (vin_lot hnm hm c_1).2).resolve_left c_4) dM_pay_107 ?_
          refine W.eq (g2 := F0 m 108 ls (.int (sA 20 ((sA 15 p0.toNatClampNeg).toNatClampNeg)) :: .int (sA 15 p0.toNatClampNeg) :: .ref (ad 20) :: [])) (by simp [up2, upd]) ?_
          refine lv_aload_n hx hb dM_pay_108 rfl (lv_at hl 1 rfl) ?_
          refine rm_get (v := .ref (ad 16)) hx hb hts hown hC hG 12 (by decide) q_522 (rfl) dM_pay_109 ?_
          refine lv_iload_n hx hb dM_pay_112 rfl (lv_at hl 2 rfl) ?_
          refine ra_ld hx hb hC hG 16 30 (by omega) (fun _ _ => rfl) ((vin_lot hnm hm c_1).1) dM_pay_113 ?_
          refine W.eq (g2 := F0 m 114 ls (.int (sA 16 p0.toNatClampNeg) :: .int (sA 20 ((sA 15 p0.toNatClampNeg).toNatClampNeg)) :: .int (sA 15 p0.toNatClampNeg) :: .ref (ad 20) :: [])) (by simp [up2, upd]) ?_
          refine lv_aload_n hx hb dM_pay_114 rfl (lv_at hl 1 rfl) ?_
          refine rm_get (v := .ref (ad 11)) hx hb hts hown hC hG 6 (by decide) q_516 (rfl) dM_pay_115 ?_
          refine lv_iload_n hx hb dM_pay_118 rfl (lv_at hl 2 rfl) ?_
          refine ra_ld hx hb hC hG 11 30 (by omega) (fun _ _ => rfl) ((vin_lot hnm hm c_1).1) dM_pay_119 ?_
          refine W.eq (g2 := F0 m 120 ls (.int (sA 11 p0.toNatClampNeg) :: .int (sA 16 p0.toNatClampNeg) :: .int (sA 20 ((sA 15 p0.toNatClampNeg).toNatClampNeg)) :: .int (sA 15 p0.toNatClampNeg) :: .ref (ad 20) :: [])) (by simp [up2, upd]) ?_
          refine lv_icmp_le (tgt := 139) hx hb dM_pay_120 (by decide) (fun c_5 => ?_) (fun c_5 => ?_)
          · refine lv_iconst (v := 0) hx hb dM_pay_139 (by decide) ?_
            refine lv_iadd hx hb dM_pay_140 ?_
            refine ra_st hx hb hC hG hS 20 10 (by omega) (fun _ _ => rfl) ((hgm _ (vin_lot hnm hm c_1).2).resolve_left c_4) dM_pay_141 (fun H locs hG hS => ?_)
            refine lv_aload_n hx hb dM_pay_142 rfl (lv_at hl 1 rfl) ?_
            refine rm_get (v := .ref (ad 15)) hx hb hts hown hC hG 11 (by decide) q_521 (rfl) dM_pay_143 ?_
            refine lv_iload_n hx hb dM_pay_146 rfl (lv_at hl 2 rfl) ?_
            refine lv_iconst (v := (-1)) hx hb dM_pay_147 (by decide) ?_
            refine ra_st hx hb hC hG hS 15 30 (by omega) (fun _ _ => rfl) ((vin_lot hnm hm c_1).1) dM_pay_148 (fun H locs hG hS => ?_)
            refine lv_aload_n hx hb dM_pay_149 rfl (lv_at hl 1 rfl) ?_
            refine rm_get (v := .ref (ad 11)) hx hb hts hown hC hG 6 (by decide) q_516 (rfl) dM_pay_150 ?_
            refine lv_iload_n hx hb dM_pay_153 rfl (lv_at hl 2 rfl) ?_
            refine ra_ld hx hb hC hG 11 30 (by omega) (fun _ _ => rfl) ((vin_lot hnm hm c_1).1) dM_pay_154 ?_
            refine W.eq (g2 := F0 m 155 ls (.int (sA 11 p0.toNatClampNeg) :: [])) (by simp [up2, upd]) ?_
            refine lv_iload_n hx hb dM_pay_155 rfl (lv_at hl 0 rfl) ?_
            refine lv_iadd hx hb dM_pay_156 ?_
            refine W.widen (k := 0) (n := 0) (Nat.le_of_ble_eq_true rfl) (Nat.le_of_ble_eq_true rfl) ?_
            exact W.iret (v := (sA 11 p0.toNatClampNeg) + (fM_feeFor (sA 11 p0.toNatClampNeg))) hx hb hr (fun t ht hW => ⟨⟨((sA 11 p0.toNatClampNeg) + (fM_feeFor (sA 11 p0.toNatClampNeg))), ((up2L (up2L sL 5 20 ((sL 5 20) + (((sA 11 p0.toNatClampNeg) + (fM_feeFor (sA 11 p0.toNatClampNeg)) : Int32).toInt64))) 5 22 ((sL 5 22) + ((fM_feeFor (sA 11 p0.toNatClampNeg) : Int32).toInt64))), (up2 (up2 (up2 (up2 sA 5 23 0) 9 p0.toNatClampNeg 3) 20 ((sA 15 p0.toNatClampNeg).toNatClampNeg) ((sA 20 ((sA 15 p0.toNatClampNeg).toNatClampNeg)) + 0)) 15 p0.toNatClampNeg (-1))), rfl, (by rw [fM_pay, if_neg c_1, if_pos c_2, if_neg c_4, if_pos c_5] <;> rfl), gw_at hG ht⟩, hS.F ht⟩) hS.2.2 dM_pay_157
          · refine lv_aload_n hx hb dM_pay_123 rfl (lv_at hl 1 rfl) ?_
            refine rm_get (v := .ref (ad 16)) hx hb hts hown hC hG 12 (by decide) q_522 (rfl) dM_pay_124 ?_
            refine lv_iload_n hx hb dM_pay_127 rfl (lv_at hl 2 rfl) ?_
            refine ra_ld hx hb hC hG 16 30 (by omega) (fun _ _ => rfl) ((vin_lot hnm hm c_1).1) dM_pay_128 ?_
            refine W.eq (g2 := F0 m 129 ls (.int (sA 16 p0.toNatClampNeg) :: .int (sA 20 ((sA 15 p0.toNatClampNeg).toNatClampNeg)) :: .int (sA 15 p0.toNatClampNeg) :: .ref (ad 20) :: [])) (by simp [up2, upd]) ?_
            refine lv_aload_n hx hb dM_pay_129 rfl (lv_at hl 1 rfl) ?_
            refine rm_get (v := .ref (ad 11)) hx hb hts hown hC hG 6 (by decide) q_516 (rfl) dM_pay_130 ?_
            refine lv_iload_n hx hb dM_pay_133 rfl (lv_at hl 2 rfl) ?_
            refine ra_ld hx hb hC hG 11 30 (by omega) (fun _ _ => rfl) ((vin_lot hnm hm c_1).1) dM_pay_134 ?_
            refine W.eq (g2 := F0 m 135 ls (.int (sA 11 p0.toNatClampNeg) :: .int (sA 16 p0.toNatClampNeg) :: .int (sA 20 ((sA 15 p0.toNatClampNeg).toNatClampNeg)) :: .int (sA 15 p0.toNatClampNeg) :: .ref (ad 20) :: [])) (by simp [up2, upd]) ?_
            refine lv_isub hx hb dM_pay_135 ?_
            refine lv_goto (tgt := 140) hx hb dM_pay_136 (by decide) ?_
            refine lv_iadd hx hb dM_pay_140 ?_
            refine ra_st hx hb hC hG hS 20 10 (by omega) (fun _ _ => rfl) ((hgm _ (vin_lot hnm hm c_1).2).resolve_left c_4) dM_pay_141 (fun H locs hG hS => ?_)
            refine lv_aload_n hx hb dM_pay_142 rfl (lv_at hl 1 rfl) ?_
            refine rm_get (v := .ref (ad 15)) hx hb hts hown hC hG 11 (by decide) q_521 (rfl) dM_pay_143 ?_
            refine lv_iload_n hx hb dM_pay_146 rfl (lv_at hl 2 rfl) ?_
            refine lv_iconst (v := (-1)) hx hb dM_pay_147 (by decide) ?_
            refine ra_st hx hb hC hG hS 15 30 (by omega) (fun _ _ => rfl) ((vin_lot hnm hm c_1).1) dM_pay_148 (fun H locs hG hS => ?_)
            refine lv_aload_n hx hb dM_pay_149 rfl (lv_at hl 1 rfl) ?_
            refine rm_get (v := .ref (ad 11)) hx hb hts hown hC hG 6 (by decide) q_516 (rfl) dM_pay_150 ?_
            refine lv_iload_n hx hb dM_pay_153 rfl (lv_at hl 2 rfl) ?_
            refine ra_ld hx hb hC hG 11 30 (by omega) (fun _ _ => rfl) ((vin_lot hnm hm c_1).1) dM_pay_154 ?_
            refine W.eq (g2 := F0 m 155 ls (.int (sA 11 p0.toNatClampNeg) :: [])) (by simp [up2, upd]) ?_
            refine lv_iload_n hx hb dM_pay_155 rfl (lv_at hl 0 rfl) ?_
            refine lv_iadd hx hb dM_pay_156 ?_
            refine W.widen (k := 0) (n := 0) (Nat.le_of_ble_eq_true rfl) (Nat.le_of_ble_eq_true rfl) ?_
            exact W.iret (v := (sA 11 p0.toNatClampNeg) + (fM_feeFor (sA 11 p0.toNatClampNeg))) hx hb hr (fun t ht hW => ⟨⟨((sA 11 p0.toNatClampNeg) + (fM_feeFor (sA 11 p0.toNatClampNeg))), ((up2L (up2L sL 5 20 ((sL 5 20) + (((sA 11 p0.toNatClampNeg) + (fM_feeFor (sA 11 p0.toNatClampNeg)) : Int32).toInt64))) 5 22 ((sL 5 22) + ((fM_feeFor (sA 11 p0.toNatClampNeg) : Int32).toInt64))), (up2 (up2 (up2 (up2 sA 5 23 0) 9 p0.toNatClampNeg 3) 20 ((sA 15 p0.toNatClampNeg).toNatClampNeg) ((sA 20 ((sA 15 p0.toNatClampNeg).toNatClampNeg)) + ((sA 16 p0.toNatClampNeg) - (sA 11 p0.toNatClampNeg)))) 15 p0.toNatClampNeg (-1))), rfl, (by rw [fM_pay, if_neg c_1, if_pos c_2, if_neg c_4, if_neg c_5] <;> rfl), gw_at hG ht⟩, hS.F ht⟩) hS.2.2 dM_pay_157
      · exact absurd c_3 (by decide)
    · refine lv_iconst (v := 2) hx hb dM_pay_23 (by decide) ?_
      refine lv_goto (tgt := 28) hx hb dM_pay_24 (by decide) ?_
      refine rm_puti hx hb hts hown hC hG hS 23 (by decide) q_533 dM_pay_28 (fun H locs hG hS => ?_)
      refine lv_aload_n hx hb dM_pay_31 rfl (lv_at hl 0 rfl) ?_
      refine rm_get (v := .int 2) hx hb hts hown hC hG 23 (by decide) q_533 (by simp [mfs, up2, upd, up2L, vp_updL]) dM_pay_32 ?_
      refine lv_if_le (tgt := 40) hx hb dM_pay_35 (by decide) (fun c_6 => ?_) (fun c_6 => ?_)
      · exact absurd c_6 (by decide)
      · refine lv_iconst (v := 0) hx hb dM_pay_38 (by decide) ?_
        refine W.widen (k := 0) (n := 0) (Nat.le_of_ble_eq_true rfl) (Nat.le_of_ble_eq_true rfl) ?_
        exact W.iret (v := 0) hx hb hr (fun t ht hW => ⟨⟨0, (sL, (up2 sA 5 23 2)), rfl, (by rw [fM_pay, if_neg c_1, if_neg c_2] <;> rfl), gw_at hG ht⟩, hS.F ht⟩) hS.2.2 dM_pay_39
  · refine lv_iconst (v := 1) hx hb dM_pay_9 (by decide) ?_
    refine lv_goto (tgt := 28) hx hb dM_pay_10 (by decide) ?_
    refine rm_puti hx hb hts hown hC hG hS 23 (by decide) q_533 dM_pay_28 (fun H locs hG hS => ?_)
    refine lv_aload_n hx hb dM_pay_31 rfl (lv_at hl 0 rfl) ?_
    refine rm_get (v := .int 1) hx hb hts hown hC hG 23 (by decide) q_533 (by simp [mfs, up2, upd, up2L, vp_updL]) dM_pay_32 ?_
    refine lv_if_le (tgt := 40) hx hb dM_pay_35 (by decide) (fun c_7 => ?_) (fun c_7 => ?_)
    · exact absurd c_7 (by decide)
    · refine lv_iconst (v := 0) hx hb dM_pay_38 (by decide) ?_
      refine W.widen (k := 0) (n := 0) (Nat.le_of_ble_eq_true rfl) (Nat.le_of_ble_eq_true rfl) ?_
      exact W.iret (v := 0) hx hb hr (fun t ht hW => ⟨⟨0, (sL, (up2 sA 5 23 1)), rfl, (by rw [fM_pay, if_pos c_1] <;> rfl), gw_at hG ht⟩, hS.F ht⟩) hS.2.2 dM_pay_39
def fM_defaults (sL : NL) (sA : NA) (p0 : Int32) : Int32 × NL × NA := if (fM_isLot sL sA p0) = 0 then (0, sL, (up2 sA 5 23 1)) else (if (sA 9 p0.toNatClampNeg) = 2 then (if (sA 15 p0.toNatClampNeg) = (-1) then ((fM_clearBids sL (up2 (up2 (up2 sA 5 23 0) 15 p0.toNatClampNeg (sA 10 p0.toNatClampNeg)) 16 p0.toNatClampNeg (sA 11 p0.toNatClampNeg)) p0).2 10 p0.toNatClampNeg, (fM_clearBids sL (up2 (up2 (up2 sA 5 23 0) 15 p0.toNatClampNeg (sA 10 p0.toNatClampNeg)) 16 p0.toNatClampNeg (sA 11 p0.toNatClampNeg)) p0).1, (up2 ((fM_clearBids sL (up2 (up2 (up2 sA 5 23 0) 15 p0.toNatClampNeg (sA 10 p0.toNatClampNeg)) 16 p0.toNatClampNeg (sA 11 p0.toNatClampNeg)) p0).2) 9 p0.toNatClampNeg 0)) else ((fM_clearBids sL (up2 sA 5 23 0) p0).2 10 p0.toNatClampNeg, (fM_clearBids sL (up2 sA 5 23 0) p0).1, (up2 ((fM_clearBids sL (up2 sA 5 23 0) p0).2) 9 p0.toNatClampNeg 0))) else (0, sL, (up2 sA 5 23 2)))
theorem hdyM_defaults : yM_defaults.cls ≠ "java/lang/invoke/MethodHandle" ∧ yM_defaults.cls ≠ "java/lang/invoke/VarHandle" ∧ (parseMethodDescriptor yM_defaults.desc).map (fun d => d.parameters.length) = some 1 := by decide +kernel
theorem dM_defaults_0 : decode bM_defaults 0 = .ok (.aload_n 0, 1) := by decide +kernel
theorem dM_defaults_1 : decode bM_defaults 1 = .ok (.aload_n 0, 1) := by decide +kernel
theorem dM_defaults_2 : decode bM_defaults 2 = .ok (.iload_n 1, 1) := by decide +kernel
theorem dM_defaults_3 : decode bM_defaults 3 = .ok (.invokevirtual 84, 3) := by decide +kernel
theorem dM_defaults_6 : decode bM_defaults 6 = .ok (.ifCond .ne 7, 3) := by decide +kernel
theorem dM_defaults_9 : decode bM_defaults 9 = .ok (.iconst 1, 1) := by decide +kernel
theorem dM_defaults_10 : decode bM_defaults 10 = .ok (.goto 18, 3) := by decide +kernel
theorem dM_defaults_13 : decode bM_defaults 13 = .ok (.aload_n 0, 1) := by decide +kernel
theorem dM_defaults_14 : decode bM_defaults 14 = .ok (.getfield 19, 3) := by decide +kernel
theorem dM_defaults_17 : decode bM_defaults 17 = .ok (.iload_n 1, 1) := by decide +kernel
theorem dM_defaults_18 : decode bM_defaults 18 = .ok (.iaload, 1) := by decide +kernel
theorem dM_defaults_19 : decode bM_defaults 19 = .ok (.iconst 2, 1) := by decide +kernel
theorem dM_defaults_20 : decode bM_defaults 20 = .ok (.if_icmp .eq 7, 3) := by decide +kernel
theorem dM_defaults_23 : decode bM_defaults 23 = .ok (.iconst 2, 1) := by decide +kernel
theorem dM_defaults_24 : decode bM_defaults 24 = .ok (.goto 4, 3) := by decide +kernel
theorem dM_defaults_27 : decode bM_defaults 27 = .ok (.iconst 0, 1) := by decide +kernel
theorem dM_defaults_28 : decode bM_defaults 28 = .ok (.putfield 62, 3) := by decide +kernel
theorem dM_defaults_31 : decode bM_defaults 31 = .ok (.aload_n 0, 1) := by decide +kernel
theorem dM_defaults_32 : decode bM_defaults 32 = .ok (.getfield 62, 3) := by decide +kernel
theorem dM_defaults_35 : decode bM_defaults 35 = .ok (.ifCond .le 5, 3) := by decide +kernel
theorem dM_defaults_38 : decode bM_defaults 38 = .ok (.iconst 0, 1) := by decide +kernel
theorem dM_defaults_39 : decode bM_defaults 39 = .ok (.ireturn, 1) := by decide +kernel
theorem dM_defaults_40 : decode bM_defaults 40 = .ok (.aload_n 0, 1) := by decide +kernel
theorem dM_defaults_41 : decode bM_defaults 41 = .ok (.getfield 37, 3) := by decide +kernel
theorem dM_defaults_44 : decode bM_defaults 44 = .ok (.iload_n 1, 1) := by decide +kernel
theorem dM_defaults_45 : decode bM_defaults 45 = .ok (.iaload, 1) := by decide +kernel
theorem dM_defaults_46 : decode bM_defaults 46 = .ok (.iconst (-1), 1) := by decide +kernel
theorem dM_defaults_47 : decode bM_defaults 47 = .ok (.if_icmp .ne 27, 3) := by decide +kernel
theorem dM_defaults_50 : decode bM_defaults 50 = .ok (.aload_n 0, 1) := by decide +kernel
theorem dM_defaults_51 : decode bM_defaults 51 = .ok (.getfield 37, 3) := by decide +kernel
theorem dM_defaults_54 : decode bM_defaults 54 = .ok (.iload_n 1, 1) := by decide +kernel
theorem dM_defaults_55 : decode bM_defaults 55 = .ok (.aload_n 0, 1) := by decide +kernel
theorem dM_defaults_56 : decode bM_defaults 56 = .ok (.getfield 22, 3) := by decide +kernel
theorem dM_defaults_59 : decode bM_defaults 59 = .ok (.iload_n 1, 1) := by decide +kernel
theorem dM_defaults_60 : decode bM_defaults 60 = .ok (.iaload, 1) := by decide +kernel
theorem dM_defaults_61 : decode bM_defaults 61 = .ok (.iastore, 1) := by decide +kernel
theorem dM_defaults_62 : decode bM_defaults 62 = .ok (.aload_n 0, 1) := by decide +kernel
theorem dM_defaults_63 : decode bM_defaults 63 = .ok (.getfield 40, 3) := by decide +kernel
theorem dM_defaults_66 : decode bM_defaults 66 = .ok (.iload_n 1, 1) := by decide +kernel
theorem dM_defaults_67 : decode bM_defaults 67 = .ok (.aload_n 0, 1) := by decide +kernel
theorem dM_defaults_68 : decode bM_defaults 68 = .ok (.getfield 25, 3) := by decide +kernel
theorem dM_defaults_71 : decode bM_defaults 71 = .ok (.iload_n 1, 1) := by decide +kernel
theorem dM_defaults_72 : decode bM_defaults 72 = .ok (.iaload, 1) := by decide +kernel
theorem dM_defaults_73 : decode bM_defaults 73 = .ok (.iastore, 1) := by decide +kernel
theorem dM_defaults_74 : decode bM_defaults 74 = .ok (.aload_n 0, 1) := by decide +kernel
theorem dM_defaults_75 : decode bM_defaults 75 = .ok (.iload_n 1, 1) := by decide +kernel
theorem dM_defaults_76 : decode bM_defaults 76 = .ok (.invokevirtual 80, 3) := by decide +kernel
theorem dM_defaults_79 : decode bM_defaults 79 = .ok (.aload_n 0, 1) := by decide +kernel
theorem dM_defaults_80 : decode bM_defaults 80 = .ok (.getfield 19, 3) := by decide +kernel
theorem dM_defaults_83 : decode bM_defaults 83 = .ok (.iload_n 1, 1) := by decide +kernel
theorem dM_defaults_84 : decode bM_defaults 84 = .ok (.iconst 0, 1) := by decide +kernel
theorem dM_defaults_85 : decode bM_defaults 85 = .ok (.iastore, 1) := by decide +kernel
theorem dM_defaults_86 : decode bM_defaults 86 = .ok (.aload_n 0, 1) := by decide +kernel
theorem dM_defaults_87 : decode bM_defaults 87 = .ok (.getfield 22, 3) := by decide +kernel
theorem dM_defaults_90 : decode bM_defaults 90 = .ok (.iload_n 1, 1) := by decide +kernel
theorem dM_defaults_91 : decode bM_defaults 91 = .ok (.iaload, 1) := by decide +kernel
theorem dM_defaults_92 : decode bM_defaults 92 = .ok (.ireturn, 1) := by decide +kernel
set_option maxHeartbeats 4000000 in
set_option maxRecDepth 100000 in
theorem cM_defaults (l : Launch) (D : va_G) (tI tJ tL : ClassId) (A : Nat → Prop) (sg ad : Nat → Nat) (n : Nat) (sL : NL) (sA : NA) (p0 : Int32) (nm : Nat) (hnm : nm ≤ 30) (hm : sA 5 0 = nI nm) : Met l yM_defaults (Cond.code yM_defaults bM_defaults 2 (some FieldType.int) :: wNeed) { frames := 2, cells := 0, slots := 0, locals := 43 } (va_Pc [.ref (ad 5), .int p0] (GP D tI tJ tL A sg ad n sL sA)) (va_Qi (fun r (u : NL × NA) => fM_defaults sL sA p0 = (r, u.1, u.2)) (fun u t => GW D tI tJ tL A ad n u.1 u.2 t.heap) A) 0 0 A := by
  refine en_G (av := [.ref (ad 5), .int p0]) (by decide) (Nat.le_of_ble_eq_true rfl) ?_
  intro p e s m below meth c hx hb hml hown hts hr hlocks hmname hC H locs hG hS ls hl
  replace hl : lv_has ls 2 [(0, .ref (ad 5)), (1, .int p0)] := hl
  refine lv_aload_n hx hb dM_defaults_0 rfl (lv_at hl 0 rfl) ?_
  refine lv_aload_n hx hb dM_defaults_1 rfl (lv_at hl 0 rfl) ?_
  refine lv_iload_n hx hb dM_defaults_2 rfl (lv_at hl 1 rfl) ?_
  refine rcV2 (rest := [.ref (ad 5)]) (As := [.int p0]) hx hb hml hown hts hC hG hS (cM_isLot l D tI tJ tL A sg ad n sL sA p0) (recM hC hG) (gV q_609 q_611 q_p8 q_2 q_612) rfl rfl ⟨rfl, hdyM_isLot⟩ ⟨Nat.le_of_ble_eq_true rfl, Nat.le_of_ble_eq_true rfl⟩ hl.1 rfl (Nat.le_of_ble_eq_true rfl) dM_defaults_3 ⟨Nat.le_of_ble_eq_true rfl, Nat.le_of_ble_eq_true rfl⟩ ?_
  refine lv_if_ne (tgt := 13) hx hb dM_defaults_6 (by decide) (fun c_1 => ?_) (fun c_1 => ?_)
  · refine lv_aload_n hx hb dM_defaults_13 rfl (lv_at hl 0 rfl) ?_
    refine rm_get (v := .ref (ad 9)) hx hb hts hown hC hG 4 (by decide) q_514 (rfl) dM_defaults_14 ?_
    refine lv_iload_n hx hb dM_defaults_17 rfl (lv_at hl 1 rfl) ?_
    refine ra_ld hx hb hC hG 9 30 (by omega) (fun _ _ => rfl) ((vin_lot hnm hm c_1).1) dM_defaults_18 ?_
    refine lv_iconst (v := 2) hx hb dM_defaults_19 (by decide) ?_
    refine lv_icmp_eq (tgt := 27) hx hb dM_defaults_20 (by decide) (fun c_2 => ?_) (fun c_2 => ?_)
    · refine lv_iconst (v := 0) hx hb dM_defaults_27 (by decide) ?_
      refine rm_puti hx hb hts hown hC hG hS 23 (by decide) q_533 dM_defaults_28 (fun H locs hG hS => ?_)
      refine lv_aload_n hx hb dM_defaults_31 rfl (lv_at hl 0 rfl) ?_
      refine rm_get (v := .int 0) hx hb hts hown hC hG 23 (by decide) q_533 (by simp [mfs, up2, upd, up2L, vp_updL]) dM_defaults_32 ?_
      refine lv_if_le (tgt := 40) hx hb dM_defaults_35 (by decide) (fun c_3 => ?_) (fun c_3 => ?_)
      · refine lv_aload_n hx hb dM_defaults_40 rfl (lv_at hl 0 rfl) ?_
        refine rm_get (v := .ref (ad 15)) hx hb hts hown hC hG 11 (by decide) q_521 (rfl) dM_defaults_41 ?_
        refine lv_iload_n hx hb dM_defaults_44 rfl (lv_at hl 1 rfl) ?_
        refine ra_ld hx hb hC hG 15 30 (by omega) (fun _ _ => rfl) ((vin_lot hnm hm c_1).1) dM_defaults_45 ?_
        refine W.eq (g2 := F0 m 46 ls (.int (sA 15 p0.toNatClampNeg) :: [])) (by simp [up2, upd]) ?_
        refine lv_iconst (v := (-1)) hx hb dM_defaults_46 (by decide) ?_
        refine lv_icmp_ne (tgt := 74) hx hb dM_defaults_47 (by decide) (fun c_4 => ?_) (fun c_4 => ?_)
        · refine lv_aload_n hx hb dM_defaults_74 rfl (lv_at hl 0 rfl) ?_
          refine lv_iload_n hx hb dM_defaults_75 rfl (lv_at hl 1 rfl) ?_
          refine rcV3v (rest := []) (As := [.int p0]) hx hb hml hown hts hC hG hS (cM_clearBids l D tI tJ tL A sg ad n sL (up2 sA 5 23 0) p0 ((vin_lot hnm hm c_1).1)) (recM hC hG) (gV q_601 q_603 q_p7 q_2 q_604) rfl rfl ⟨rfl, hdyM_clearBids⟩ ⟨Nat.le_of_ble_eq_true rfl, Nat.le_of_ble_eq_true rfl⟩ hl.1 rfl (Nat.le_of_ble_eq_true rfl) dM_defaults_76 ⟨Nat.le_of_ble_eq_true rfl, Nat.le_of_ble_eq_true rfl⟩ (fun H locs hG hS => ?_)
          refine lv_aload_n hx hb dM_defaults_79 rfl (lv_at hl 0 rfl) ?_
          refine rm_get (v := .ref (ad 9)) hx hb hts hown hC hG 4 (by decide) q_514 (rfl) dM_defaults_80 ?_
          refine lv_iload_n hx hb dM_defaults_83 rfl (lv_at hl 1 rfl) ?_
          refine lv_iconst (v := 0) hx hb dM_defaults_84 (by decide) ?_
          refine ra_st hx hb hC hG hS 9 30 (by omega) (fun _ _ => rfl) ((vin_lot hnm hm c_1).1) dM_defaults_85 (fun H locs hG hS => ?_)
          refine lv_aload_n hx hb dM_defaults_86 rfl (lv_at hl 0 rfl) ?_
          refine rm_get (v := .ref (ad 10)) hx hb hts hown hC hG 5 (by decide) q_515 (rfl) dM_defaults_87 ?_
          refine lv_iload_n hx hb dM_defaults_90 rfl (lv_at hl 1 rfl) ?_
          refine ra_ld hx hb hC hG 10 30 (by omega) (fun _ _ => rfl) ((vin_lot hnm hm c_1).1) dM_defaults_91 ?_
          refine W.eq (g2 := F0 m 92 ls (.int ((fM_clearBids sL (up2 sA 5 23 0) p0).2 10 p0.toNatClampNeg) :: [])) (by simp [up2, upd]) ?_
          refine W.widen (k := 0) (n := 0) (Nat.le_of_ble_eq_true rfl) (Nat.le_of_ble_eq_true rfl) ?_
          exact W.iret (v := (fM_clearBids sL (up2 sA 5 23 0) p0).2 10 p0.toNatClampNeg) hx hb hr (fun t ht hW => ⟨⟨((fM_clearBids sL (up2 sA 5 23 0) p0).2 10 p0.toNatClampNeg), ((fM_clearBids sL (up2 sA 5 23 0) p0).1, (up2 ((fM_clearBids sL (up2 sA 5 23 0) p0).2) 9 p0.toNatClampNeg 0)), rfl, (by rw [fM_defaults, if_neg c_1, if_pos c_2, if_neg c_4] <;> rfl), gw_at hG ht⟩, hS.F ht⟩) hS.2.2 dM_defaults_92
        · refine lv_aload_n hx hb dM_defaults_50 rfl (lv_at hl 0 rfl) ?_
          refine rm_get (v := .ref (ad 15)) hx hb hts hown hC hG 11 (by decide) q_521 (rfl) dM_defaults_51 ?_
          refine lv_iload_n hx hb dM_defaults_54 rfl (lv_at hl 1 rfl) ?_
          refine lv_aload_n hx hb dM_defaults_55 rfl (lv_at hl 0 rfl) ?_
          refine rm_get (v := .ref (ad 10)) hx hb hts hown hC hG 5 (by decide) q_515 (rfl) dM_defaults_56 ?_
          refine lv_iload_n hx hb dM_defaults_59 rfl (lv_at hl 1 rfl) ?_
          refine ra_ld hx hb hC hG 10 30 (by omega) (fun _ _ => rfl) ((vin_lot hnm hm c_1).1) dM_defaults_60 ?_
          refine W.eq (g2 := F0 m 61 ls (.int (sA 10 p0.toNatClampNeg) :: .int p0 :: .ref (ad 15) :: [])) (by simp [up2, upd]) ?_
          refine ra_st hx hb hC hG hS 15 30 (by omega) (fun _ _ => rfl) ((vin_lot hnm hm c_1).1) dM_defaults_61 (fun H locs hG hS => ?_)
          refine lv_aload_n hx hb dM_defaults_62 rfl (lv_at hl 0 rfl) ?_
          refine rm_get (v := .ref (ad 16)) hx hb hts hown hC hG 12 (by decide) q_522 (rfl) dM_defaults_63 ?_
          refine lv_iload_n hx hb dM_defaults_66 rfl (lv_at hl 1 rfl) ?_
          refine lv_aload_n hx hb dM_defaults_67 rfl (lv_at hl 0 rfl) ?_
          refine rm_get (v := .ref (ad 11)) hx hb hts hown hC hG 6 (by decide) q_516 (rfl) dM_defaults_68 ?_
          refine lv_iload_n hx hb dM_defaults_71 rfl (lv_at hl 1 rfl) ?_
          refine ra_ld hx hb hC hG 11 30 (by omega) (fun _ _ => rfl) ((vin_lot hnm hm c_1).1) dM_defaults_72 ?_
          refine W.eq (g2 := F0 m 73 ls (.int (sA 11 p0.toNatClampNeg) :: .int p0 :: .ref (ad 16) :: [])) (by simp [up2, upd]) ?_
          refine ra_st hx hb hC hG hS 16 30 (by omega) (fun _ _ => rfl) ((vin_lot hnm hm c_1).1) dM_defaults_73 (fun H locs hG hS => ?_)
          refine lv_aload_n hx hb dM_defaults_74 rfl (lv_at hl 0 rfl) ?_
          refine lv_iload_n hx hb dM_defaults_75 rfl (lv_at hl 1 rfl) ?_
          refine rcV3v (rest := []) (As := [.int p0]) hx hb hml hown hts hC hG hS (cM_clearBids l D tI tJ tL A sg ad n sL (up2 (up2 (up2 sA 5 23 0) 15 p0.toNatClampNeg (sA 10 p0.toNatClampNeg)) 16 p0.toNatClampNeg (sA 11 p0.toNatClampNeg)) p0 ((vin_lot hnm hm c_1).1)) (recM hC hG) (gV q_601 q_603 q_p7 q_2 q_604) rfl rfl ⟨rfl, hdyM_clearBids⟩ ⟨Nat.le_of_ble_eq_true rfl, Nat.le_of_ble_eq_true rfl⟩ hl.1 rfl (Nat.le_of_ble_eq_true rfl) dM_defaults_76 ⟨Nat.le_of_ble_eq_true rfl, Nat.le_of_ble_eq_true rfl⟩ (fun H locs hG hS => ?_)
          refine lv_aload_n hx hb dM_defaults_79 rfl (lv_at hl 0 rfl) ?_
          refine rm_get (v := .ref (ad 9)) hx hb hts hown hC hG 4 (by decide) q_514 (rfl) dM_defaults_80 ?_
          refine lv_iload_n hx hb dM_defaults_83 rfl (lv_at hl 1 rfl) ?_
          refine lv_iconst (v := 0) hx hb dM_defaults_84 (by decide) ?_
          refine ra_st hx hb hC hG hS 9 30 (by omega) (fun _ _ => rfl) ((vin_lot hnm hm c_1).1) dM_defaults_85 (fun H locs hG hS => ?_)
          refine lv_aload_n hx hb dM_defaults_86 rfl (lv_at hl 0 rfl) ?_
          refine rm_get (v := .ref (ad 10)) hx hb hts hown hC hG 5 (by decide) q_515 (rfl) dM_defaults_87 ?_
          refine lv_iload_n hx hb dM_defaults_90 rfl (lv_at hl 1 rfl) ?_
          refine ra_ld hx hb hC hG 10 30 (by omega) (fun _ _ => rfl) ((vin_lot hnm hm c_1).1) dM_defaults_91 ?_
          refine W.eq (g2 := F0 m 92 ls (.int ((fM_clearBids sL (up2 (up2 (up2 sA 5 23 0) 15 p0.toNatClampNeg (sA 10 p0.toNatClampNeg)) 16 p0.toNatClampNeg (sA 11 p0.toNatClampNeg)) p0).2 10 p0.toNatClampNeg) :: [])) (by simp [up2, upd]) ?_
          refine W.widen (k := 0) (n := 0) (Nat.le_of_ble_eq_true rfl) (Nat.le_of_ble_eq_true rfl) ?_
          exact W.iret (v := (fM_clearBids sL (up2 (up2 (up2 sA 5 23 0) 15 p0.toNatClampNeg (sA 10 p0.toNatClampNeg)) 16 p0.toNatClampNeg (sA 11 p0.toNatClampNeg)) p0).2 10 p0.toNatClampNeg) hx hb hr (fun t ht hW => ⟨⟨((fM_clearBids sL (up2 (up2 (up2 sA 5 23 0) 15 p0.toNatClampNeg (sA 10 p0.toNatClampNeg)) 16 p0.toNatClampNeg (sA 11 p0.toNatClampNeg)) p0).2 10 p0.toNatClampNeg), ((fM_clearBids sL (up2 (up2 (up2 sA 5 23 0) 15 p0.toNatClampNeg (sA 10 p0.toNatClampNeg)) 16 p0.toNatClampNeg (sA 11 p0.toNatClampNeg)) p0).1, (up2 ((fM_clearBids sL (up2 (up2 (up2 sA 5 23 0) 15 p0.toNatClampNeg (sA 10 p0.toNatClampNeg)) 16 p0.toNatClampNeg (sA 11 p0.toNatClampNeg)) p0).2) 9 p0.toNatClampNeg 0)), rfl, (by rw [fM_defaults, if_neg c_1, if_pos c_2, if_pos c_4] <;> rfl), gw_at hG ht⟩, hS.F ht⟩) hS.2.2 dM_defaults_92
      · exact absurd c_3 (by decide)
    · refine lv_iconst (v := 2) hx hb dM_defaults_23 (by decide) ?_
      refine lv_goto (tgt := 28) hx hb dM_defaults_24 (by decide) ?_
      refine rm_puti hx hb hts hown hC hG hS 23 (by decide) q_533 dM_defaults_28 (fun H locs hG hS => ?_)
      refine lv_aload_n hx hb dM_defaults_31 rfl (lv_at hl 0 rfl) ?_
      refine rm_get (v := .int 2) hx hb hts hown hC hG 23 (by decide) q_533 (by simp [mfs, up2, upd, up2L, vp_updL]) dM_defaults_32 ?_
      refine lv_if_le (tgt := 40) hx hb dM_defaults_35 (by decide) (fun c_5 => ?_) (fun c_5 => ?_)
      · exact absurd c_5 (by decide)
      · refine lv_iconst (v := 0) hx hb dM_defaults_38 (by decide) ?_
        refine W.widen (k := 0) (n := 0) (Nat.le_of_ble_eq_true rfl) (Nat.le_of_ble_eq_true rfl) ?_
        exact W.iret (v := 0) hx hb hr (fun t ht hW => ⟨⟨0, (sL, (up2 sA 5 23 2)), rfl, (by rw [fM_defaults, if_neg c_1, if_neg c_2] <;> rfl), gw_at hG ht⟩, hS.F ht⟩) hS.2.2 dM_defaults_39
  · refine lv_iconst (v := 1) hx hb dM_defaults_9 (by decide) ?_
    refine lv_goto (tgt := 28) hx hb dM_defaults_10 (by decide) ?_
    refine rm_puti hx hb hts hown hC hG hS 23 (by decide) q_533 dM_defaults_28 (fun H locs hG hS => ?_)
    refine lv_aload_n hx hb dM_defaults_31 rfl (lv_at hl 0 rfl) ?_
    refine rm_get (v := .int 1) hx hb hts hown hC hG 23 (by decide) q_533 (by simp [mfs, up2, upd, up2L, vp_updL]) dM_defaults_32 ?_
    refine lv_if_le (tgt := 40) hx hb dM_defaults_35 (by decide) (fun c_6 => ?_) (fun c_6 => ?_)
    · exact absurd c_6 (by decide)
    · refine lv_iconst (v := 0) hx hb dM_defaults_38 (by decide) ?_
      refine W.widen (k := 0) (n := 0) (Nat.le_of_ble_eq_true rfl) (Nat.le_of_ble_eq_true rfl) ?_
      exact W.iret (v := 0) hx hb hr (fun t ht hW => ⟨⟨0, (sL, (up2 sA 5 23 1)), rfl, (by rw [fM_defaults, if_pos c_1] <;> rfl), gw_at hG ht⟩, hS.F ht⟩) hS.2.2 dM_defaults_39
def fM_payGaps (sL : NL) (sA : NA) (p0 : Int32) : Int32 × NL × NA := if (fM_isBuyer p0) = 0 then (0, sL, (up2 sA 5 23 1)) else (if (sA 20 p0.toNatClampNeg) = 0 then (0, sL, (up2 sA 5 23 2)) else (sA 20 p0.toNatClampNeg, (up2L (up2L sL 5 20 ((sL 5 20) + ((sA 20 p0.toNatClampNeg : Int32).toInt64))) 5 22 ((sL 5 22) + ((sA 20 p0.toNatClampNeg : Int32).toInt64))), (up2 (up2 sA 5 23 0) 20 p0.toNatClampNeg 0)))
theorem hdyM_payGaps : yM_payGaps.cls ≠ "java/lang/invoke/MethodHandle" ∧ yM_payGaps.cls ≠ "java/lang/invoke/VarHandle" ∧ (parseMethodDescriptor yM_payGaps.desc).map (fun d => d.parameters.length) = some 1 := by decide +kernel
theorem dM_payGaps_0 : decode bM_payGaps 0 = .ok (.aload_n 0, 1) := by decide +kernel
theorem dM_payGaps_1 : decode bM_payGaps 1 = .ok (.iload_n 1, 1) := by decide +kernel
theorem dM_payGaps_2 : decode bM_payGaps 2 = .ok (.invokestatic 88, 3) := by decide +kernel
theorem dM_payGaps_5 : decode bM_payGaps 5 = .ok (.ifCond .ne 7, 3) := by decide +kernel
theorem dM_payGaps_8 : decode bM_payGaps 8 = .ok (.iconst 1, 1) := by decide +kernel
theorem dM_payGaps_9 : decode bM_payGaps 9 = .ok (.goto 17, 3) := by decide +kernel
theorem dM_payGaps_12 : decode bM_payGaps 12 = .ok (.aload_n 0, 1) := by decide +kernel
theorem dM_payGaps_13 : decode bM_payGaps 13 = .ok (.getfield 52, 3) := by decide +kernel
theorem dM_payGaps_16 : decode bM_payGaps 16 = .ok (.iload_n 1, 1) := by decide +kernel
theorem dM_payGaps_17 : decode bM_payGaps 17 = .ok (.iaload, 1) := by decide +kernel
theorem dM_payGaps_18 : decode bM_payGaps 18 = .ok (.ifCond .ne 7, 3) := by decide +kernel
theorem dM_payGaps_21 : decode bM_payGaps 21 = .ok (.iconst 2, 1) := by decide +kernel
theorem dM_payGaps_22 : decode bM_payGaps 22 = .ok (.goto 4, 3) := by decide +kernel
theorem dM_payGaps_25 : decode bM_payGaps 25 = .ok (.iconst 0, 1) := by decide +kernel
theorem dM_payGaps_26 : decode bM_payGaps 26 = .ok (.putfield 62, 3) := by decide +kernel
theorem dM_payGaps_29 : decode bM_payGaps 29 = .ok (.aload_n 0, 1) := by decide +kernel
theorem dM_payGaps_30 : decode bM_payGaps 30 = .ok (.getfield 62, 3) := by decide +kernel
theorem dM_payGaps_33 : decode bM_payGaps 33 = .ok (.ifCond .le 5, 3) := by decide +kernel
theorem dM_payGaps_36 : decode bM_payGaps 36 = .ok (.iconst 0, 1) := by decide +kernel
theorem dM_payGaps_37 : decode bM_payGaps 37 = .ok (.ireturn, 1) := by decide +kernel
theorem dM_payGaps_38 : decode bM_payGaps 38 = .ok (.aload_n 0, 1) := by decide +kernel
theorem dM_payGaps_39 : decode bM_payGaps 39 = .ok (.getfield 52, 3) := by decide +kernel
theorem dM_payGaps_42 : decode bM_payGaps 42 = .ok (.iload_n 1, 1) := by decide +kernel
theorem dM_payGaps_43 : decode bM_payGaps 43 = .ok (.iaload, 1) := by decide +kernel
theorem dM_payGaps_44 : decode bM_payGaps 44 = .ok (.istore_n 2, 1) := by decide +kernel
theorem dM_payGaps_45 : decode bM_payGaps 45 = .ok (.aload_n 0, 1) := by decide +kernel
theorem dM_payGaps_46 : decode bM_payGaps 46 = .ok (.getfield 52, 3) := by decide +kernel
theorem dM_payGaps_49 : decode bM_payGaps 49 = .ok (.iload_n 1, 1) := by decide +kernel
theorem dM_payGaps_50 : decode bM_payGaps 50 = .ok (.iconst 0, 1) := by decide +kernel
theorem dM_payGaps_51 : decode bM_payGaps 51 = .ok (.iastore, 1) := by decide +kernel
theorem dM_payGaps_52 : decode bM_payGaps 52 = .ok (.aload_n 0, 1) := by decide +kernel
theorem dM_payGaps_53 : decode bM_payGaps 53 = .ok (.dup, 1) := by decide +kernel
theorem dM_payGaps_54 : decode bM_payGaps 54 = .ok (.getfield 114, 3) := by decide +kernel
theorem dM_payGaps_57 : decode bM_payGaps 57 = .ok (.iload_n 2, 1) := by decide +kernel
theorem dM_payGaps_58 : decode bM_payGaps 58 = .ok (.i2l, 1) := by decide +kernel
theorem dM_payGaps_59 : decode bM_payGaps 59 = .ok (.ladd, 1) := by decide +kernel
theorem dM_payGaps_60 : decode bM_payGaps 60 = .ok (.putfield 114, 3) := by decide +kernel
theorem dM_payGaps_63 : decode bM_payGaps 63 = .ok (.aload_n 0, 1) := by decide +kernel
theorem dM_payGaps_64 : decode bM_payGaps 64 = .ok (.dup, 1) := by decide +kernel
theorem dM_payGaps_65 : decode bM_payGaps 65 = .ok (.getfield 118, 3) := by decide +kernel
theorem dM_payGaps_68 : decode bM_payGaps 68 = .ok (.iload_n 2, 1) := by decide +kernel
theorem dM_payGaps_69 : decode bM_payGaps 69 = .ok (.i2l, 1) := by decide +kernel
theorem dM_payGaps_70 : decode bM_payGaps 70 = .ok (.ladd, 1) := by decide +kernel
theorem dM_payGaps_71 : decode bM_payGaps 71 = .ok (.putfield 118, 3) := by decide +kernel
theorem dM_payGaps_74 : decode bM_payGaps 74 = .ok (.iload_n 2, 1) := by decide +kernel
theorem dM_payGaps_75 : decode bM_payGaps 75 = .ok (.ireturn, 1) := by decide +kernel
set_option maxHeartbeats 4000000 in
set_option maxRecDepth 100000 in
theorem cM_payGaps (l : Launch) (D : va_G) (tI tJ tL : ClassId) (A : Nat → Prop) (sg ad : Nat → Nat) (n : Nat) (sL : NL) (sA : NA) (p0 : Int32) : Met l yM_payGaps (Cond.code yM_payGaps bM_payGaps 3 (some FieldType.int) :: wNeed) { frames := 2, cells := 0, slots := 0, locals := 42 } (va_Pc [.ref (ad 5), .int p0] (GP D tI tJ tL A sg ad n sL sA)) (va_Qi (fun r (u : NL × NA) => fM_payGaps sL sA p0 = (r, u.1, u.2)) (fun u t => GW D tI tJ tL A ad n u.1 u.2 t.heap) A) 0 0 A := by
  refine en_G (av := [.ref (ad 5), .int p0]) (by decide) (Nat.le_of_ble_eq_true rfl) ?_
  intro p e s m below meth c hx hb hml hown hts hr hlocks hmname hC H locs hG hS ls hl
  replace hl : lv_has ls 3 [(0, .ref (ad 5)), (1, .int p0)] := hl
  refine lv_aload_n hx hb dM_payGaps_0 rfl (lv_at hl 0 rfl) ?_
  refine lv_iload_n hx hb dM_payGaps_1 rfl (lv_at hl 1 rfl) ?_
  refine rcS1 (rest := [.ref (ad 5)]) (As := [.int p0]) hx hb hml hown hts (cM_isBuyer l p0) (gS q_613 q_614 q_2 q_615) rfl rfl ⟨rfl, hdyM_isBuyer⟩ ⟨Nat.le_of_ble_eq_true rfl, Nat.le_of_ble_eq_true rfl⟩ hl.1 rfl (Nat.le_of_ble_eq_true rfl) dM_payGaps_2 ⟨Nat.le_of_ble_eq_true rfl, Nat.le_of_ble_eq_true rfl⟩ ?_
  refine lv_if_ne (tgt := 12) hx hb dM_payGaps_5 (by decide) (fun c_1 => ?_) (fun c_1 => ?_)
  · refine lv_aload_n hx hb dM_payGaps_12 rfl (lv_at hl 0 rfl) ?_
    refine rm_get (v := .ref (ad 20)) hx hb hts hown hC hG 16 (by decide) q_526 (rfl) dM_payGaps_13 ?_
    refine lv_iload_n hx hb dM_payGaps_16 rfl (lv_at hl 1 rfl) ?_
    refine ra_ld hx hb hC hG 20 10 (by omega) (fun _ _ => rfl) ((vin_buyerM c_1)) dM_payGaps_17 ?_
    refine lv_if_ne (tgt := 25) hx hb dM_payGaps_18 (by decide) (fun c_2 => ?_) (fun c_2 => ?_)
    · refine lv_iconst (v := 0) hx hb dM_payGaps_25 (by decide) ?_
      refine rm_puti hx hb hts hown hC hG hS 23 (by decide) q_533 dM_payGaps_26 (fun H locs hG hS => ?_)
      refine lv_aload_n hx hb dM_payGaps_29 rfl (lv_at hl 0 rfl) ?_
      refine rm_get (v := .int 0) hx hb hts hown hC hG 23 (by decide) q_533 (by simp [mfs, up2, upd, up2L, vp_updL]) dM_payGaps_30 ?_
      refine lv_if_le (tgt := 38) hx hb dM_payGaps_33 (by decide) (fun c_3 => ?_) (fun c_3 => ?_)
      · refine lv_aload_n hx hb dM_payGaps_38 rfl (lv_at hl 0 rfl) ?_
        refine rm_get (v := .ref (ad 20)) hx hb hts hown hC hG 16 (by decide) q_526 (rfl) dM_payGaps_39 ?_
        refine lv_iload_n hx hb dM_payGaps_42 rfl (lv_at hl 1 rfl) ?_
        refine ra_ld hx hb hC hG 20 10 (by omega) (fun _ _ => rfl) ((vin_buyerM c_1)) dM_payGaps_43 ?_
        refine W.eq (g2 := F0 m 44 ls (.int (sA 20 p0.toNatClampNeg) :: [])) (by simp [up2, upd]) ?_
        refine lv_istore_n (lv' := [(2, .int (sA 20 p0.toNatClampNeg)), (0, .ref (ad 5)), (1, .int p0)]) hx hb dM_payGaps_44 rfl hl (by decide) rfl (fun ls hl => ?_)
        refine lv_aload_n hx hb dM_payGaps_45 rfl (lv_at hl 1 rfl) ?_
        refine rm_get (v := .ref (ad 20)) hx hb hts hown hC hG 16 (by decide) q_526 (rfl) dM_payGaps_46 ?_
        refine lv_iload_n hx hb dM_payGaps_49 rfl (lv_at hl 2 rfl) ?_
        refine lv_iconst (v := 0) hx hb dM_payGaps_50 (by decide) ?_
        refine ra_st hx hb hC hG hS 20 10 (by omega) (fun _ _ => rfl) ((vin_buyerM c_1)) dM_payGaps_51 (fun H locs hG hS => ?_)
        refine lv_aload_n hx hb dM_payGaps_52 rfl (lv_at hl 1 rfl) ?_
        refine lv_dup hx hb dM_payGaps_53 rfl ?_
        refine rm_get (v := .long (sL 5 20)) hx hb hts hown hC hG 20 (by decide) q_530 (rfl) dM_payGaps_54 ?_
        refine lv_iload_n hx hb dM_payGaps_57 rfl (lv_at hl 0 rfl) ?_
        refine lv_i2l (v := (sA 20 p0.toNatClampNeg : Int32).toInt64) hx hb dM_payGaps_58 rfl ?_
        refine lv_ladd hx hb dM_payGaps_59 ?_
        refine rm_putl hx hb hts hown hC hG hS 20 (by decide) q_530 dM_payGaps_60 (fun H locs hG hS => ?_)
        refine lv_aload_n hx hb dM_payGaps_63 rfl (lv_at hl 1 rfl) ?_
        refine lv_dup hx hb dM_payGaps_64 rfl ?_
        refine rm_get (v := .long (sL 5 22)) hx hb hts hown hC hG 22 (by decide) q_532 (by simp [mfs, up2, upd, up2L, vp_updL]) dM_payGaps_65 ?_
        refine lv_iload_n hx hb dM_payGaps_68 rfl (lv_at hl 0 rfl) ?_
        refine lv_i2l (v := (sA 20 p0.toNatClampNeg : Int32).toInt64) hx hb dM_payGaps_69 rfl ?_
        refine lv_ladd hx hb dM_payGaps_70 ?_
        refine rm_putl hx hb hts hown hC hG hS 22 (by decide) q_532 dM_payGaps_71 (fun H locs hG hS => ?_)
        refine lv_iload_n hx hb dM_payGaps_74 rfl (lv_at hl 0 rfl) ?_
        refine W.widen (k := 0) (n := 0) (Nat.le_of_ble_eq_true rfl) (Nat.le_of_ble_eq_true rfl) ?_
        exact W.iret (v := sA 20 p0.toNatClampNeg) hx hb hr (fun t ht hW => ⟨⟨(sA 20 p0.toNatClampNeg), ((up2L (up2L sL 5 20 ((sL 5 20) + ((sA 20 p0.toNatClampNeg : Int32).toInt64))) 5 22 ((sL 5 22) + ((sA 20 p0.toNatClampNeg : Int32).toInt64))), (up2 (up2 sA 5 23 0) 20 p0.toNatClampNeg 0)), rfl, (by rw [fM_payGaps, if_neg c_1, if_neg c_2] <;> rfl), gw_at hG ht⟩, hS.F ht⟩) hS.2.2 dM_payGaps_75
      · exact absurd c_3 (by decide)
    · refine lv_iconst (v := 2) hx hb dM_payGaps_21 (by decide) ?_
      refine lv_goto (tgt := 26) hx hb dM_payGaps_22 (by decide) ?_
      refine rm_puti hx hb hts hown hC hG hS 23 (by decide) q_533 dM_payGaps_26 (fun H locs hG hS => ?_)
      refine lv_aload_n hx hb dM_payGaps_29 rfl (lv_at hl 0 rfl) ?_
      refine rm_get (v := .int 2) hx hb hts hown hC hG 23 (by decide) q_533 (by simp [mfs, up2, upd, up2L, vp_updL]) dM_payGaps_30 ?_
      refine lv_if_le (tgt := 38) hx hb dM_payGaps_33 (by decide) (fun c_4 => ?_) (fun c_4 => ?_)
      · exact absurd c_4 (by decide)
      · refine lv_iconst (v := 0) hx hb dM_payGaps_36 (by decide) ?_
        refine W.widen (k := 0) (n := 0) (Nat.le_of_ble_eq_true rfl) (Nat.le_of_ble_eq_true rfl) ?_
        exact W.iret (v := 0) hx hb hr (fun t ht hW => ⟨⟨0, (sL, (up2 sA 5 23 2)), rfl, (by rw [fM_payGaps, if_neg c_1, if_pos c_2] <;> rfl), gw_at hG ht⟩, hS.F ht⟩) hS.2.2 dM_payGaps_37
  · refine lv_iconst (v := 1) hx hb dM_payGaps_8 (by decide) ?_
    refine lv_goto (tgt := 26) hx hb dM_payGaps_9 (by decide) ?_
    refine rm_puti hx hb hts hown hC hG hS 23 (by decide) q_533 dM_payGaps_26 (fun H locs hG hS => ?_)
    refine lv_aload_n hx hb dM_payGaps_29 rfl (lv_at hl 0 rfl) ?_
    refine rm_get (v := .int 1) hx hb hts hown hC hG 23 (by decide) q_533 (by simp [mfs, up2, upd, up2L, vp_updL]) dM_payGaps_30 ?_
    refine lv_if_le (tgt := 38) hx hb dM_payGaps_33 (by decide) (fun c_5 => ?_) (fun c_5 => ?_)
    · exact absurd c_5 (by decide)
    · refine lv_iconst (v := 0) hx hb dM_payGaps_36 (by decide) ?_
      refine W.widen (k := 0) (n := 0) (Nat.le_of_ble_eq_true rfl) (Nat.le_of_ble_eq_true rfl) ?_
      exact W.iret (v := 0) hx hb hr (fun t ht hW => ⟨⟨0, (sL, (up2 sA 5 23 1)), rfl, (by rw [fM_payGaps, if_pos c_1] <;> rfl), gw_at hG ht⟩, hS.F ht⟩) hS.2.2 dM_payGaps_37
def fM_advance (sL : NL) (sA : NA) (p0 : Int32) (p1 : Int32) : Int32 × NL × NA := if (fM_isLot sL sA p0) = 0 then (0, sL, (up2 sA 5 23 1)) else (if (fM_isWithin p1 1 ((sA 7 p0.toNatClampNeg) / 2)) = 0 then (0, sL, (up2 sA 5 23 2)) else (if 3 ≤ (sA 9 p0.toNatClampNeg) then (0, sL, (up2 sA 5 23 3)) else (if (sA 17 p0.toNatClampNeg) ≤ 0 then ((sA 7 p0.toNatClampNeg) / 2, (up2L sL 5 21 ((sL 5 21) + ((p1 : Int32).toInt64))), (up2 (up2 (up2 sA 5 23 0) 17 p0.toNatClampNeg p1) 18 p0.toNatClampNeg (sA 5 19))) else (0, sL, (up2 sA 5 23 3)))))
theorem hdyM_advance : yM_advance.cls ≠ "java/lang/invoke/MethodHandle" ∧ yM_advance.cls ≠ "java/lang/invoke/VarHandle" ∧ (parseMethodDescriptor yM_advance.desc).map (fun d => d.parameters.length) = some 2 := by decide +kernel
theorem dM_advance_0 : decode bM_advance 0 = .ok (.aload_n 0, 1) := by decide +kernel
theorem dM_advance_1 : decode bM_advance 1 = .ok (.aload_n 0, 1) := by decide +kernel
theorem dM_advance_2 : decode bM_advance 2 = .ok (.iload_n 1, 1) := by decide +kernel
theorem dM_advance_3 : decode bM_advance 3 = .ok (.invokevirtual 84, 3) := by decide +kernel
theorem dM_advance_6 : decode bM_advance 6 = .ok (.ifCond .ne 7, 3) := by decide +kernel
theorem dM_advance_9 : decode bM_advance 9 = .ok (.iconst 1, 1) := by decide +kernel
theorem dM_advance_10 : decode bM_advance 10 = .ok (.goto 47, 3) := by decide +kernel
theorem dM_advance_13 : decode bM_advance 13 = .ok (.iload_n 2, 1) := by decide +kernel
theorem dM_advance_14 : decode bM_advance 14 = .ok (.iconst 1, 1) := by decide +kernel
theorem dM_advance_15 : decode bM_advance 15 = .ok (.aload_n 0, 1) := by decide +kernel
theorem dM_advance_16 : decode bM_advance 16 = .ok (.getfield 13, 3) := by decide +kernel
theorem dM_advance_19 : decode bM_advance 19 = .ok (.iload_n 1, 1) := by decide +kernel
theorem dM_advance_20 : decode bM_advance 20 = .ok (.iaload, 1) := by decide +kernel
theorem dM_advance_21 : decode bM_advance 21 = .ok (.iconst 2, 1) := by decide +kernel
theorem dM_advance_22 : decode bM_advance 22 = .ok (.idiv, 1) := by decide +kernel
theorem dM_advance_23 : decode bM_advance 23 = .ok (.invokestatic 68, 3) := by decide +kernel
theorem dM_advance_26 : decode bM_advance 26 = .ok (.ifCond .ne 7, 3) := by decide +kernel
theorem dM_advance_29 : decode bM_advance 29 = .ok (.iconst 2, 1) := by decide +kernel
theorem dM_advance_30 : decode bM_advance 30 = .ok (.goto 27, 3) := by decide +kernel
theorem dM_advance_33 : decode bM_advance 33 = .ok (.aload_n 0, 1) := by decide +kernel
theorem dM_advance_34 : decode bM_advance 34 = .ok (.getfield 19, 3) := by decide +kernel
theorem dM_advance_37 : decode bM_advance 37 = .ok (.iload_n 1, 1) := by decide +kernel
theorem dM_advance_38 : decode bM_advance 38 = .ok (.iaload, 1) := by decide +kernel
theorem dM_advance_39 : decode bM_advance 39 = .ok (.iconst 3, 1) := by decide +kernel
theorem dM_advance_40 : decode bM_advance 40 = .ok (.if_icmp .ge 12, 3) := by decide +kernel
theorem dM_advance_43 : decode bM_advance 43 = .ok (.aload_n 0, 1) := by decide +kernel
theorem dM_advance_44 : decode bM_advance 44 = .ok (.getfield 43, 3) := by decide +kernel
theorem dM_advance_47 : decode bM_advance 47 = .ok (.iload_n 1, 1) := by decide +kernel
theorem dM_advance_48 : decode bM_advance 48 = .ok (.iaload, 1) := by decide +kernel
theorem dM_advance_49 : decode bM_advance 49 = .ok (.ifCond .le 7, 3) := by decide +kernel
theorem dM_advance_52 : decode bM_advance 52 = .ok (.iconst 3, 1) := by decide +kernel
theorem dM_advance_53 : decode bM_advance 53 = .ok (.goto 4, 3) := by decide +kernel
theorem dM_advance_56 : decode bM_advance 56 = .ok (.iconst 0, 1) := by decide +kernel
theorem dM_advance_57 : decode bM_advance 57 = .ok (.putfield 62, 3) := by decide +kernel
theorem dM_advance_60 : decode bM_advance 60 = .ok (.aload_n 0, 1) := by decide +kernel
theorem dM_advance_61 : decode bM_advance 61 = .ok (.getfield 62, 3) := by decide +kernel
theorem dM_advance_64 : decode bM_advance 64 = .ok (.ifCond .le 5, 3) := by decide +kernel
theorem dM_advance_67 : decode bM_advance 67 = .ok (.iconst 0, 1) := by decide +kernel
theorem dM_advance_68 : decode bM_advance 68 = .ok (.ireturn, 1) := by decide +kernel
theorem dM_advance_69 : decode bM_advance 69 = .ok (.aload_n 0, 1) := by decide +kernel
theorem dM_advance_70 : decode bM_advance 70 = .ok (.getfield 43, 3) := by decide +kernel
theorem dM_advance_73 : decode bM_advance 73 = .ok (.iload_n 1, 1) := by decide +kernel
theorem dM_advance_74 : decode bM_advance 74 = .ok (.iload_n 2, 1) := by decide +kernel
theorem dM_advance_75 : decode bM_advance 75 = .ok (.iastore, 1) := by decide +kernel
theorem dM_advance_76 : decode bM_advance 76 = .ok (.aload_n 0, 1) := by decide +kernel
theorem dM_advance_77 : decode bM_advance 77 = .ok (.getfield 46, 3) := by decide +kernel
theorem dM_advance_80 : decode bM_advance 80 = .ok (.iload_n 1, 1) := by decide +kernel
theorem dM_advance_81 : decode bM_advance 81 = .ok (.aload_n 0, 1) := by decide +kernel
theorem dM_advance_82 : decode bM_advance 82 = .ok (.getfield 101, 3) := by decide +kernel
theorem dM_advance_85 : decode bM_advance 85 = .ok (.iastore, 1) := by decide +kernel
theorem dM_advance_86 : decode bM_advance 86 = .ok (.aload_n 0, 1) := by decide +kernel
theorem dM_advance_87 : decode bM_advance 87 = .ok (.dup, 1) := by decide +kernel
theorem dM_advance_88 : decode bM_advance 88 = .ok (.getfield 121, 3) := by decide +kernel
theorem dM_advance_91 : decode bM_advance 91 = .ok (.iload_n 2, 1) := by decide +kernel
theorem dM_advance_92 : decode bM_advance 92 = .ok (.i2l, 1) := by decide +kernel
theorem dM_advance_93 : decode bM_advance 93 = .ok (.ladd, 1) := by decide +kernel
theorem dM_advance_94 : decode bM_advance 94 = .ok (.putfield 121, 3) := by decide +kernel
theorem dM_advance_97 : decode bM_advance 97 = .ok (.aload_n 0, 1) := by decide +kernel
theorem dM_advance_98 : decode bM_advance 98 = .ok (.getfield 13, 3) := by decide +kernel
theorem dM_advance_101 : decode bM_advance 101 = .ok (.iload_n 1, 1) := by decide +kernel
theorem dM_advance_102 : decode bM_advance 102 = .ok (.iaload, 1) := by decide +kernel
theorem dM_advance_103 : decode bM_advance 103 = .ok (.iconst 2, 1) := by decide +kernel
theorem dM_advance_104 : decode bM_advance 104 = .ok (.idiv, 1) := by decide +kernel
theorem dM_advance_105 : decode bM_advance 105 = .ok (.ireturn, 1) := by decide +kernel
set_option maxHeartbeats 4000000 in
set_option maxRecDepth 100000 in
theorem cM_advance (l : Launch) (D : va_G) (tI tJ tL : ClassId) (A : Nat → Prop) (sg ad : Nat → Nat) (n : Nat) (sL : NL) (sA : NA) (p0 : Int32) (p1 : Int32) (nm : Nat) (hnm : nm ≤ 30) (hm : sA 5 0 = nI nm) : Met l yM_advance (Cond.code yM_advance bM_advance 3 (some FieldType.int) :: wNeed) { frames := 2, cells := 0, slots := 0, locals := 43 } (va_Pc [.ref (ad 5), .int p0, .int p1] (GP D tI tJ tL A sg ad n sL sA)) (va_Qi (fun r (u : NL × NA) => fM_advance sL sA p0 p1 = (r, u.1, u.2)) (fun u t => GW D tI tJ tL A ad n u.1 u.2 t.heap) A) 0 0 A := by
  refine en_G (av := [.ref (ad 5), .int p0, .int p1]) (by decide) (Nat.le_of_ble_eq_true rfl) ?_
  intro p e s m below meth c hx hb hml hown hts hr hlocks hmname hC H locs hG hS ls hl
  replace hl : lv_has ls 3 [(0, .ref (ad 5)), (1, .int p0), (2, .int p1)] := hl
  refine lv_aload_n hx hb dM_advance_0 rfl (lv_at hl 0 rfl) ?_
  refine lv_aload_n hx hb dM_advance_1 rfl (lv_at hl 0 rfl) ?_
  refine lv_iload_n hx hb dM_advance_2 rfl (lv_at hl 1 rfl) ?_
  refine rcV2 (rest := [.ref (ad 5)]) (As := [.int p0]) hx hb hml hown hts hC hG hS (cM_isLot l D tI tJ tL A sg ad n sL sA p0) (recM hC hG) (gV q_609 q_611 q_p8 q_2 q_612) rfl rfl ⟨rfl, hdyM_isLot⟩ ⟨Nat.le_of_ble_eq_true rfl, Nat.le_of_ble_eq_true rfl⟩ hl.1 rfl (Nat.le_of_ble_eq_true rfl) dM_advance_3 ⟨Nat.le_of_ble_eq_true rfl, Nat.le_of_ble_eq_true rfl⟩ ?_
  refine lv_if_ne (tgt := 13) hx hb dM_advance_6 (by decide) (fun c_1 => ?_) (fun c_1 => ?_)
  · refine lv_iload_n hx hb dM_advance_13 rfl (lv_at hl 2 rfl) ?_
    refine lv_iconst (v := 1) hx hb dM_advance_14 (by decide) ?_
    refine lv_aload_n hx hb dM_advance_15 rfl (lv_at hl 0 rfl) ?_
    refine rm_get (v := .ref (ad 7)) hx hb hts hown hC hG 2 (by decide) q_512 (rfl) dM_advance_16 ?_
    refine lv_iload_n hx hb dM_advance_19 rfl (lv_at hl 1 rfl) ?_
    refine ra_ld hx hb hC hG 7 30 (by omega) (fun _ _ => rfl) ((vin_lot hnm hm c_1).1) dM_advance_20 ?_
    refine lv_iconst (v := 2) hx hb dM_advance_21 (by decide) ?_
    refine lv_idiv hx hb dM_advance_22 (by decide) ?_
    refine rcS1 (rest := [.ref (ad 5)]) (As := [.int p1, .int 1, .int ((sA 7 p0.toNatClampNeg) / 2)]) hx hb hml hown hts (cM_isWithin l p1 1 ((sA 7 p0.toNatClampNeg) / 2)) (gS q_592 q_593 q_2 q_594) rfl rfl ⟨rfl, hdyM_isWithin⟩ ⟨Nat.le_of_ble_eq_true rfl, Nat.le_of_ble_eq_true rfl⟩ hl.1 rfl (Nat.le_of_ble_eq_true rfl) dM_advance_23 ⟨Nat.le_of_ble_eq_true rfl, Nat.le_of_ble_eq_true rfl⟩ ?_
    refine lv_if_ne (tgt := 33) hx hb dM_advance_26 (by decide) (fun c_2 => ?_) (fun c_2 => ?_)
    · refine lv_aload_n hx hb dM_advance_33 rfl (lv_at hl 0 rfl) ?_
      refine rm_get (v := .ref (ad 9)) hx hb hts hown hC hG 4 (by decide) q_514 (rfl) dM_advance_34 ?_
      refine lv_iload_n hx hb dM_advance_37 rfl (lv_at hl 1 rfl) ?_
      refine ra_ld hx hb hC hG 9 30 (by omega) (fun _ _ => rfl) ((vin_lot hnm hm c_1).1) dM_advance_38 ?_
      refine lv_iconst (v := 3) hx hb dM_advance_39 (by decide) ?_
      refine lv_icmp_ge (tgt := 52) hx hb dM_advance_40 (by decide) (fun c_3 => ?_) (fun c_3 => ?_)
      · refine lv_iconst (v := 3) hx hb dM_advance_52 (by decide) ?_
        refine lv_goto (tgt := 57) hx hb dM_advance_53 (by decide) ?_
        refine rm_puti hx hb hts hown hC hG hS 23 (by decide) q_533 dM_advance_57 (fun H locs hG hS => ?_)
        refine lv_aload_n hx hb dM_advance_60 rfl (lv_at hl 0 rfl) ?_
        refine rm_get (v := .int 3) hx hb hts hown hC hG 23 (by decide) q_533 (by simp [mfs, up2, upd, up2L, vp_updL]) dM_advance_61 ?_
        refine lv_if_le (tgt := 69) hx hb dM_advance_64 (by decide) (fun c_4 => ?_) (fun c_4 => ?_)
        · exact absurd c_4 (by decide)
        · refine lv_iconst (v := 0) hx hb dM_advance_67 (by decide) ?_
          refine W.widen (k := 0) (n := 0) (Nat.le_of_ble_eq_true rfl) (Nat.le_of_ble_eq_true rfl) ?_
          exact W.iret (v := 0) hx hb hr (fun t ht hW => ⟨⟨0, (sL, (up2 sA 5 23 3)), rfl, (by rw [fM_advance, if_neg c_1, if_neg c_2, if_pos c_3] <;> rfl), gw_at hG ht⟩, hS.F ht⟩) hS.2.2 dM_advance_68
      · refine lv_aload_n hx hb dM_advance_43 rfl (lv_at hl 0 rfl) ?_
        refine rm_get (v := .ref (ad 17)) hx hb hts hown hC hG 13 (by decide) q_523 (rfl) dM_advance_44 ?_
        refine lv_iload_n hx hb dM_advance_47 rfl (lv_at hl 1 rfl) ?_
        refine ra_ld hx hb hC hG 17 30 (by omega) (fun _ _ => rfl) ((vin_lot hnm hm c_1).1) dM_advance_48 ?_
        refine lv_if_le (tgt := 56) hx hb dM_advance_49 (by decide) (fun c_5 => ?_) (fun c_5 => ?_)
        · refine lv_iconst (v := 0) hx hb dM_advance_56 (by decide) ?_
          refine rm_puti hx hb hts hown hC hG hS 23 (by decide) q_533 dM_advance_57 (fun H locs hG hS => ?_)
          refine lv_aload_n hx hb dM_advance_60 rfl (lv_at hl 0 rfl) ?_
          refine rm_get (v := .int 0) hx hb hts hown hC hG 23 (by decide) q_533 (by simp [mfs, up2, upd, up2L, vp_updL]) dM_advance_61 ?_
          refine lv_if_le (tgt := 69) hx hb dM_advance_64 (by decide) (fun c_6 => ?_) (fun c_6 => ?_)
          · refine lv_aload_n hx hb dM_advance_69 rfl (lv_at hl 0 rfl) ?_
            refine rm_get (v := .ref (ad 17)) hx hb hts hown hC hG 13 (by decide) q_523 (rfl) dM_advance_70 ?_
            refine lv_iload_n hx hb dM_advance_73 rfl (lv_at hl 1 rfl) ?_
            refine lv_iload_n hx hb dM_advance_74 rfl (lv_at hl 2 rfl) ?_
            refine ra_st hx hb hC hG hS 17 30 (by omega) (fun _ _ => rfl) ((vin_lot hnm hm c_1).1) dM_advance_75 (fun H locs hG hS => ?_)
            refine lv_aload_n hx hb dM_advance_76 rfl (lv_at hl 0 rfl) ?_
            refine rm_get (v := .ref (ad 18)) hx hb hts hown hC hG 14 (by decide) q_524 (rfl) dM_advance_77 ?_
            refine lv_iload_n hx hb dM_advance_80 rfl (lv_at hl 1 rfl) ?_
            refine lv_aload_n hx hb dM_advance_81 rfl (lv_at hl 0 rfl) ?_
            refine rm_get (v := .int (sA 5 19)) hx hb hts hown hC hG 19 (by decide) q_529 (by simp [mfs, up2, upd, up2L, vp_updL]) dM_advance_82 ?_
            refine ra_st hx hb hC hG hS 18 30 (by omega) (fun _ _ => rfl) ((vin_lot hnm hm c_1).1) dM_advance_85 (fun H locs hG hS => ?_)
            refine lv_aload_n hx hb dM_advance_86 rfl (lv_at hl 0 rfl) ?_
            refine lv_dup hx hb dM_advance_87 rfl ?_
            refine rm_get (v := .long (sL 5 21)) hx hb hts hown hC hG 21 (by decide) q_531 (rfl) dM_advance_88 ?_
            refine lv_iload_n hx hb dM_advance_91 rfl (lv_at hl 2 rfl) ?_
            refine lv_i2l (v := (p1 : Int32).toInt64) hx hb dM_advance_92 rfl ?_
            refine lv_ladd hx hb dM_advance_93 ?_
            refine rm_putl hx hb hts hown hC hG hS 21 (by decide) q_531 dM_advance_94 (fun H locs hG hS => ?_)
            refine lv_aload_n hx hb dM_advance_97 rfl (lv_at hl 0 rfl) ?_
            refine rm_get (v := .ref (ad 7)) hx hb hts hown hC hG 2 (by decide) q_512 (rfl) dM_advance_98 ?_
            refine lv_iload_n hx hb dM_advance_101 rfl (lv_at hl 1 rfl) ?_
            refine ra_ld hx hb hC hG 7 30 (by omega) (fun _ _ => rfl) ((vin_lot hnm hm c_1).1) dM_advance_102 ?_
            refine W.eq (g2 := F0 m 103 ls (.int (sA 7 p0.toNatClampNeg) :: [])) (by simp [up2, upd]) ?_
            refine lv_iconst (v := 2) hx hb dM_advance_103 (by decide) ?_
            refine lv_idiv hx hb dM_advance_104 (by decide) ?_
            refine W.widen (k := 0) (n := 0) (Nat.le_of_ble_eq_true rfl) (Nat.le_of_ble_eq_true rfl) ?_
            exact W.iret (v := (sA 7 p0.toNatClampNeg) / 2) hx hb hr (fun t ht hW => ⟨⟨((sA 7 p0.toNatClampNeg) / 2), ((up2L sL 5 21 ((sL 5 21) + ((p1 : Int32).toInt64))), (up2 (up2 (up2 sA 5 23 0) 17 p0.toNatClampNeg p1) 18 p0.toNatClampNeg (sA 5 19))), rfl, (by rw [fM_advance, if_neg c_1, if_neg c_2, if_neg c_3, if_pos c_5] <;> rfl), gw_at hG ht⟩, hS.F ht⟩) hS.2.2 dM_advance_105
          · exact absurd c_6 (by decide)
        · refine lv_iconst (v := 3) hx hb dM_advance_52 (by decide) ?_
          refine lv_goto (tgt := 57) hx hb dM_advance_53 (by decide) ?_
          refine rm_puti hx hb hts hown hC hG hS 23 (by decide) q_533 dM_advance_57 (fun H locs hG hS => ?_)
          refine lv_aload_n hx hb dM_advance_60 rfl (lv_at hl 0 rfl) ?_
          refine rm_get (v := .int 3) hx hb hts hown hC hG 23 (by decide) q_533 (by simp [mfs, up2, upd, up2L, vp_updL]) dM_advance_61 ?_
          refine lv_if_le (tgt := 69) hx hb dM_advance_64 (by decide) (fun c_7 => ?_) (fun c_7 => ?_)
          · exact absurd c_7 (by decide)
          · refine lv_iconst (v := 0) hx hb dM_advance_67 (by decide) ?_
            refine W.widen (k := 0) (n := 0) (Nat.le_of_ble_eq_true rfl) (Nat.le_of_ble_eq_true rfl) ?_
            exact W.iret (v := 0) hx hb hr (fun t ht hW => ⟨⟨0, (sL, (up2 sA 5 23 3)), rfl, (by rw [fM_advance, if_neg c_1, if_neg c_2, if_neg c_3, if_neg c_5] <;> rfl), gw_at hG ht⟩, hS.F ht⟩) hS.2.2 dM_advance_68
    · refine lv_iconst (v := 2) hx hb dM_advance_29 (by decide) ?_
      refine lv_goto (tgt := 57) hx hb dM_advance_30 (by decide) ?_
      refine rm_puti hx hb hts hown hC hG hS 23 (by decide) q_533 dM_advance_57 (fun H locs hG hS => ?_)
      refine lv_aload_n hx hb dM_advance_60 rfl (lv_at hl 0 rfl) ?_
      refine rm_get (v := .int 2) hx hb hts hown hC hG 23 (by decide) q_533 (by simp [mfs, up2, upd, up2L, vp_updL]) dM_advance_61 ?_
      refine lv_if_le (tgt := 69) hx hb dM_advance_64 (by decide) (fun c_8 => ?_) (fun c_8 => ?_)
      · exact absurd c_8 (by decide)
      · refine lv_iconst (v := 0) hx hb dM_advance_67 (by decide) ?_
        refine W.widen (k := 0) (n := 0) (Nat.le_of_ble_eq_true rfl) (Nat.le_of_ble_eq_true rfl) ?_
        exact W.iret (v := 0) hx hb hr (fun t ht hW => ⟨⟨0, (sL, (up2 sA 5 23 2)), rfl, (by rw [fM_advance, if_neg c_1, if_pos c_2] <;> rfl), gw_at hG ht⟩, hS.F ht⟩) hS.2.2 dM_advance_68
  · refine lv_iconst (v := 1) hx hb dM_advance_9 (by decide) ?_
    refine lv_goto (tgt := 57) hx hb dM_advance_10 (by decide) ?_
    refine rm_puti hx hb hts hown hC hG hS 23 (by decide) q_533 dM_advance_57 (fun H locs hG hS => ?_)
    refine lv_aload_n hx hb dM_advance_60 rfl (lv_at hl 0 rfl) ?_
    refine rm_get (v := .int 1) hx hb hts hown hC hG 23 (by decide) q_533 (by simp [mfs, up2, upd, up2L, vp_updL]) dM_advance_61 ?_
    refine lv_if_le (tgt := 69) hx hb dM_advance_64 (by decide) (fun c_9 => ?_) (fun c_9 => ?_)
    · exact absurd c_9 (by decide)
    · refine lv_iconst (v := 0) hx hb dM_advance_67 (by decide) ?_
      refine W.widen (k := 0) (n := 0) (Nat.le_of_ble_eq_true rfl) (Nat.le_of_ble_eq_true rfl) ?_
      exact W.iret (v := 0) hx hb hr (fun t ht hW => ⟨⟨0, (sL, (up2 sA 5 23 1)), rfl, (by rw [fM_advance, if_pos c_1] <;> rfl), gw_at hG ht⟩, hS.F ht⟩) hS.2.2 dM_advance_68
def fM_settle (sL : NL) (sA : NA) (p0 : Int32) : Int32 × NL × NA := if (fM_isLot sL sA p0) = 0 then (0, sL, (up2 sA 5 23 1)) else (if (sA 9 p0.toNatClampNeg) = 3 then (((((sA 11 p0.toNatClampNeg) - (((sA 11 p0.toNatClampNeg) * (sA 21 ((sA 6 p0.toNatClampNeg).toNatClampNeg))) / 100)) - (fM_shareFor sL (up2 sA 5 23 0) p0)) - (sA 17 p0.toNatClampNeg)) - (fM_interestFor sL (up2 sA 5 23 0) p0), (up2L (up2L sL 5 21 ((sL 5 21) + (((((((sA 11 p0.toNatClampNeg) - (((sA 11 p0.toNatClampNeg) * (sA 21 ((sA 6 p0.toNatClampNeg).toNatClampNeg))) / 100)) - (fM_shareFor sL (up2 sA 5 23 0) p0)) - (sA 17 p0.toNatClampNeg)) - (fM_interestFor sL (up2 sA 5 23 0) p0)) + (fM_shareFor sL (up2 (up2 sA 5 23 0) 19 p0.toNatClampNeg (fM_interestFor sL (up2 sA 5 23 0) p0)) p0) : Int32).toInt64))) 5 22 ((sL 5 22) + (((((sA 11 p0.toNatClampNeg) * (sA 21 ((sA 6 p0.toNatClampNeg).toNatClampNeg))) / 100) + (fM_interestFor sL (up2 sA 5 23 0) p0) : Int32).toInt64))), (up2 (up2 (up2 sA 5 23 0) 19 p0.toNatClampNeg (fM_interestFor sL (up2 sA 5 23 0) p0)) 9 p0.toNatClampNeg 4)) else (0, sL, (up2 sA 5 23 2)))
theorem hdyM_settle : yM_settle.cls ≠ "java/lang/invoke/MethodHandle" ∧ yM_settle.cls ≠ "java/lang/invoke/VarHandle" ∧ (parseMethodDescriptor yM_settle.desc).map (fun d => d.parameters.length) = some 1 := by decide +kernel
theorem dM_settle_0 : decode bM_settle 0 = .ok (.aload_n 0, 1) := by decide +kernel
theorem dM_settle_1 : decode bM_settle 1 = .ok (.aload_n 0, 1) := by decide +kernel
theorem dM_settle_2 : decode bM_settle 2 = .ok (.iload_n 1, 1) := by decide +kernel
theorem dM_settle_3 : decode bM_settle 3 = .ok (.invokevirtual 84, 3) := by decide +kernel
theorem dM_settle_6 : decode bM_settle 6 = .ok (.ifCond .ne 7, 3) := by decide +kernel
theorem dM_settle_9 : decode bM_settle 9 = .ok (.iconst 1, 1) := by decide +kernel
theorem dM_settle_10 : decode bM_settle 10 = .ok (.goto 18, 3) := by decide +kernel
theorem dM_settle_13 : decode bM_settle 13 = .ok (.aload_n 0, 1) := by decide +kernel
theorem dM_settle_14 : decode bM_settle 14 = .ok (.getfield 19, 3) := by decide +kernel
theorem dM_settle_17 : decode bM_settle 17 = .ok (.iload_n 1, 1) := by decide +kernel
theorem dM_settle_18 : decode bM_settle 18 = .ok (.iaload, 1) := by decide +kernel
theorem dM_settle_19 : decode bM_settle 19 = .ok (.iconst 3, 1) := by decide +kernel
theorem dM_settle_20 : decode bM_settle 20 = .ok (.if_icmp .eq 7, 3) := by decide +kernel
theorem dM_settle_23 : decode bM_settle 23 = .ok (.iconst 2, 1) := by decide +kernel
theorem dM_settle_24 : decode bM_settle 24 = .ok (.goto 4, 3) := by decide +kernel
theorem dM_settle_27 : decode bM_settle 27 = .ok (.iconst 0, 1) := by decide +kernel
theorem dM_settle_28 : decode bM_settle 28 = .ok (.putfield 62, 3) := by decide +kernel
theorem dM_settle_31 : decode bM_settle 31 = .ok (.aload_n 0, 1) := by decide +kernel
theorem dM_settle_32 : decode bM_settle 32 = .ok (.getfield 62, 3) := by decide +kernel
theorem dM_settle_35 : decode bM_settle 35 = .ok (.ifCond .le 5, 3) := by decide +kernel
theorem dM_settle_38 : decode bM_settle 38 = .ok (.iconst 0, 1) := by decide +kernel
theorem dM_settle_39 : decode bM_settle 39 = .ok (.ireturn, 1) := by decide +kernel
theorem dM_settle_40 : decode bM_settle 40 = .ok (.aload_n 0, 1) := by decide +kernel
theorem dM_settle_41 : decode bM_settle 41 = .ok (.getfield 25, 3) := by decide +kernel
theorem dM_settle_44 : decode bM_settle 44 = .ok (.iload_n 1, 1) := by decide +kernel
theorem dM_settle_45 : decode bM_settle 45 = .ok (.iaload, 1) := by decide +kernel
theorem dM_settle_46 : decode bM_settle 46 = .ok (.aload_n 0, 1) := by decide +kernel
theorem dM_settle_47 : decode bM_settle 47 = .ok (.getfield 55, 3) := by decide +kernel
theorem dM_settle_50 : decode bM_settle 50 = .ok (.aload_n 0, 1) := by decide +kernel
theorem dM_settle_51 : decode bM_settle 51 = .ok (.getfield 7, 3) := by decide +kernel
theorem dM_settle_54 : decode bM_settle 54 = .ok (.iload_n 1, 1) := by decide +kernel
theorem dM_settle_55 : decode bM_settle 55 = .ok (.iaload, 1) := by decide +kernel
theorem dM_settle_56 : decode bM_settle 56 = .ok (.iaload, 1) := by decide +kernel
theorem dM_settle_57 : decode bM_settle 57 = .ok (.imul, 1) := by decide +kernel
theorem dM_settle_58 : decode bM_settle 58 = .ok (.bipush 100, 2) := by decide +kernel
theorem dM_settle_60 : decode bM_settle 60 = .ok (.idiv, 1) := by decide +kernel
theorem dM_settle_61 : decode bM_settle 61 = .ok (.istore_n 2, 1) := by decide +kernel
theorem dM_settle_62 : decode bM_settle 62 = .ok (.aload_n 0, 1) := by decide +kernel
theorem dM_settle_63 : decode bM_settle 63 = .ok (.iload_n 1, 1) := by decide +kernel
theorem dM_settle_64 : decode bM_settle 64 = .ok (.invokevirtual 126, 3) := by decide +kernel
theorem dM_settle_67 : decode bM_settle 67 = .ok (.istore_n 3, 1) := by decide +kernel
theorem dM_settle_68 : decode bM_settle 68 = .ok (.aload_n 0, 1) := by decide +kernel
theorem dM_settle_69 : decode bM_settle 69 = .ok (.getfield 25, 3) := by decide +kernel
theorem dM_settle_72 : decode bM_settle 72 = .ok (.iload_n 1, 1) := by decide +kernel
theorem dM_settle_73 : decode bM_settle 73 = .ok (.iaload, 1) := by decide +kernel
theorem dM_settle_74 : decode bM_settle 74 = .ok (.iload_n 2, 1) := by decide +kernel
theorem dM_settle_75 : decode bM_settle 75 = .ok (.isub, 1) := by decide +kernel
theorem dM_settle_76 : decode bM_settle 76 = .ok (.aload_n 0, 1) := by decide +kernel
theorem dM_settle_77 : decode bM_settle 77 = .ok (.iload_n 1, 1) := by decide +kernel
theorem dM_settle_78 : decode bM_settle 78 = .ok (.invokevirtual 129, 3) := by decide +kernel
theorem dM_settle_81 : decode bM_settle 81 = .ok (.isub, 1) := by decide +kernel
theorem dM_settle_82 : decode bM_settle 82 = .ok (.aload_n 0, 1) := by decide +kernel
theorem dM_settle_83 : decode bM_settle 83 = .ok (.getfield 43, 3) := by decide +kernel
theorem dM_settle_86 : decode bM_settle 86 = .ok (.iload_n 1, 1) := by decide +kernel
theorem dM_settle_87 : decode bM_settle 87 = .ok (.iaload, 1) := by decide +kernel
theorem dM_settle_88 : decode bM_settle 88 = .ok (.isub, 1) := by decide +kernel
theorem dM_settle_89 : decode bM_settle 89 = .ok (.iload_n 3, 1) := by decide +kernel
theorem dM_settle_90 : decode bM_settle 90 = .ok (.isub, 1) := by decide +kernel
theorem dM_settle_91 : decode bM_settle 91 = .ok (.istore 4, 2) := by decide +kernel
theorem dM_settle_93 : decode bM_settle 93 = .ok (.aload_n 0, 1) := by decide +kernel
theorem dM_settle_94 : decode bM_settle 94 = .ok (.getfield 49, 3) := by decide +kernel
theorem dM_settle_97 : decode bM_settle 97 = .ok (.iload_n 1, 1) := by decide +kernel
theorem dM_settle_98 : decode bM_settle 98 = .ok (.iload_n 3, 1) := by decide +kernel
theorem dM_settle_99 : decode bM_settle 99 = .ok (.iastore, 1) := by decide +kernel
theorem dM_settle_100 : decode bM_settle 100 = .ok (.aload_n 0, 1) := by decide +kernel
theorem dM_settle_101 : decode bM_settle 101 = .ok (.dup, 1) := by decide +kernel
theorem dM_settle_102 : decode bM_settle 102 = .ok (.getfield 121, 3) := by decide +kernel
theorem dM_settle_105 : decode bM_settle 105 = .ok (.iload 4, 2) := by decide +kernel
theorem dM_settle_107 : decode bM_settle 107 = .ok (.aload_n 0, 1) := by decide +kernel
theorem dM_settle_108 : decode bM_settle 108 = .ok (.iload_n 1, 1) := by decide +kernel
theorem dM_settle_109 : decode bM_settle 109 = .ok (.invokevirtual 129, 3) := by decide +kernel
theorem dM_settle_112 : decode bM_settle 112 = .ok (.iadd, 1) := by decide +kernel
theorem dM_settle_113 : decode bM_settle 113 = .ok (.i2l, 1) := by decide +kernel
theorem dM_settle_114 : decode bM_settle 114 = .ok (.ladd, 1) := by decide +kernel
theorem dM_settle_115 : decode bM_settle 115 = .ok (.putfield 121, 3) := by decide +kernel
theorem dM_settle_118 : decode bM_settle 118 = .ok (.aload_n 0, 1) := by decide +kernel
theorem dM_settle_119 : decode bM_settle 119 = .ok (.dup, 1) := by decide +kernel
theorem dM_settle_120 : decode bM_settle 120 = .ok (.getfield 118, 3) := by decide +kernel
theorem dM_settle_123 : decode bM_settle 123 = .ok (.iload_n 2, 1) := by decide +kernel
theorem dM_settle_124 : decode bM_settle 124 = .ok (.iload_n 3, 1) := by decide +kernel
theorem dM_settle_125 : decode bM_settle 125 = .ok (.iadd, 1) := by decide +kernel
theorem dM_settle_126 : decode bM_settle 126 = .ok (.i2l, 1) := by decide +kernel
theorem dM_settle_127 : decode bM_settle 127 = .ok (.ladd, 1) := by decide +kernel
theorem dM_settle_128 : decode bM_settle 128 = .ok (.putfield 118, 3) := by decide +kernel
theorem dM_settle_131 : decode bM_settle 131 = .ok (.aload_n 0, 1) := by decide +kernel
theorem dM_settle_132 : decode bM_settle 132 = .ok (.getfield 19, 3) := by decide +kernel
theorem dM_settle_135 : decode bM_settle 135 = .ok (.iload_n 1, 1) := by decide +kernel
theorem dM_settle_136 : decode bM_settle 136 = .ok (.iconst 4, 1) := by decide +kernel
theorem dM_settle_137 : decode bM_settle 137 = .ok (.iastore, 1) := by decide +kernel
theorem dM_settle_138 : decode bM_settle 138 = .ok (.iload 4, 2) := by decide +kernel
theorem dM_settle_140 : decode bM_settle 140 = .ok (.ireturn, 1) := by decide +kernel
set_option maxHeartbeats 4000000 in
set_option maxRecDepth 100000 in
theorem cM_settle (l : Launch) (D : va_G) (tI tJ tL : ClassId) (A : Nat → Prop) (sg ad : Nat → Nat) (n : Nat) (sL : NL) (sA : NA) (p0 : Int32) (nm : Nat) (hnm : nm ≤ 30) (hm : sA 5 0 = nI nm) (hsel : ∀ a : Nat, a < nm → vp_in (sA 6 a) 6) : Met l yM_settle (Cond.code yM_settle bM_settle 5 (some FieldType.int) :: wNeed) { frames := 2, cells := 0, slots := 0, locals := 43 } (va_Pc [.ref (ad 5), .int p0] (GP D tI tJ tL A sg ad n sL sA)) (va_Qi (fun r (u : NL × NA) => fM_settle sL sA p0 = (r, u.1, u.2)) (fun u t => GW D tI tJ tL A ad n u.1 u.2 t.heap) A) 0 0 A := by
  refine en_G (av := [.ref (ad 5), .int p0]) (by decide) (Nat.le_of_ble_eq_true rfl) ?_
  intro p e s m below meth c hx hb hml hown hts hr hlocks hmname hC H locs hG hS ls hl
  replace hl : lv_has ls 5 [(0, .ref (ad 5)), (1, .int p0)] := hl
  refine lv_aload_n hx hb dM_settle_0 rfl (lv_at hl 0 rfl) ?_
  refine lv_aload_n hx hb dM_settle_1 rfl (lv_at hl 0 rfl) ?_
  refine lv_iload_n hx hb dM_settle_2 rfl (lv_at hl 1 rfl) ?_
  refine rcV2 (rest := [.ref (ad 5)]) (As := [.int p0]) hx hb hml hown hts hC hG hS (cM_isLot l D tI tJ tL A sg ad n sL sA p0) (recM hC hG) (gV q_609 q_611 q_p8 q_2 q_612) rfl rfl ⟨rfl, hdyM_isLot⟩ ⟨Nat.le_of_ble_eq_true rfl, Nat.le_of_ble_eq_true rfl⟩ hl.1 rfl (Nat.le_of_ble_eq_true rfl) dM_settle_3 ⟨Nat.le_of_ble_eq_true rfl, Nat.le_of_ble_eq_true rfl⟩ ?_
  refine lv_if_ne (tgt := 13) hx hb dM_settle_6 (by decide) (fun c_1 => ?_) (fun c_1 => ?_)
  · refine lv_aload_n hx hb dM_settle_13 rfl (lv_at hl 0 rfl) ?_
    refine rm_get (v := .ref (ad 9)) hx hb hts hown hC hG 4 (by decide) q_514 (rfl) dM_settle_14 ?_
    refine lv_iload_n hx hb dM_settle_17 rfl (lv_at hl 1 rfl) ?_
    refine ra_ld hx hb hC hG 9 30 (by omega) (fun _ _ => rfl) ((vin_lot hnm hm c_1).1) dM_settle_18 ?_
    refine lv_iconst (v := 3) hx hb dM_settle_19 (by decide) ?_
    refine lv_icmp_eq (tgt := 27) hx hb dM_settle_20 (by decide) (fun c_2 => ?_) (fun c_2 => ?_)
    · refine lv_iconst (v := 0) hx hb dM_settle_27 (by decide) ?_
      refine rm_puti hx hb hts hown hC hG hS 23 (by decide) q_533 dM_settle_28 (fun H locs hG hS => ?_)
      refine lv_aload_n hx hb dM_settle_31 rfl (lv_at hl 0 rfl) ?_
      refine rm_get (v := .int 0) hx hb hts hown hC hG 23 (by decide) q_533 (by simp [mfs, up2, upd, up2L, vp_updL]) dM_settle_32 ?_
      refine lv_if_le (tgt := 40) hx hb dM_settle_35 (by decide) (fun c_3 => ?_) (fun c_3 => ?_)
      · refine lv_aload_n hx hb dM_settle_40 rfl (lv_at hl 0 rfl) ?_
        refine rm_get (v := .ref (ad 11)) hx hb hts hown hC hG 6 (by decide) q_516 (rfl) dM_settle_41 ?_
        refine lv_iload_n hx hb dM_settle_44 rfl (lv_at hl 1 rfl) ?_
        refine ra_ld hx hb hC hG 11 30 (by omega) (fun _ _ => rfl) ((vin_lot hnm hm c_1).1) dM_settle_45 ?_
        refine W.eq (g2 := F0 m 46 ls (.int (sA 11 p0.toNatClampNeg) :: [])) (by simp [up2, upd]) ?_
        refine lv_aload_n hx hb dM_settle_46 rfl (lv_at hl 0 rfl) ?_
        refine rm_get (v := .ref (ad 21)) hx hb hts hown hC hG 17 (by decide) q_527 (rfl) dM_settle_47 ?_
        refine lv_aload_n hx hb dM_settle_50 rfl (lv_at hl 0 rfl) ?_
        refine rm_get (v := .ref (ad 6)) hx hb hts hown hC hG 1 (by decide) q_511 (rfl) dM_settle_51 ?_
        refine lv_iload_n hx hb dM_settle_54 rfl (lv_at hl 1 rfl) ?_
        refine ra_ld hx hb hC hG 6 30 (by omega) (fun _ _ => rfl) ((vin_lot hnm hm c_1).1) dM_settle_55 ?_
        refine W.eq (g2 := F0 m 56 ls (.int (sA 6 p0.toNatClampNeg) :: .ref (ad 21) :: .int (sA 11 p0.toNatClampNeg) :: [])) (by simp [up2, upd]) ?_
        refine ra_ld hx hb hC hG 21 6 (by omega) (fun _ _ => rfl) (hsel _ (vin_lot hnm hm c_1).2) dM_settle_56 ?_
        refine W.eq (g2 := F0 m 57 ls (.int (sA 21 ((sA 6 p0.toNatClampNeg).toNatClampNeg)) :: .int (sA 11 p0.toNatClampNeg) :: [])) (by simp [up2, upd]) ?_
        refine lv_imul hx hb dM_settle_57 ?_
        refine lv_bipush (v := 100) hx hb dM_settle_58 (by decide) ?_
        refine lv_idiv hx hb dM_settle_60 (by decide) ?_
        refine lv_istore_n (lv' := [(2, .int (((sA 11 p0.toNatClampNeg) * (sA 21 ((sA 6 p0.toNatClampNeg).toNatClampNeg))) / 100)), (0, .ref (ad 5)), (1, .int p0)]) hx hb dM_settle_61 rfl hl (by decide) rfl (fun ls hl => ?_)
        refine lv_aload_n hx hb dM_settle_62 rfl (lv_at hl 1 rfl) ?_
        refine lv_iload_n hx hb dM_settle_63 rfl (lv_at hl 2 rfl) ?_
        refine rcV2 (rest := []) (As := [.int p0]) hx hb hml hown hts hC hG hS (cM_interestFor l D tI tJ tL A sg ad n sL (up2 sA 5 23 0) p0 ((vin_lot hnm hm c_1).1)) (recM hC hG) (gV q_669 q_671 q_p12 q_2 q_672) rfl rfl ⟨rfl, hdyM_interestFor⟩ ⟨Nat.le_of_ble_eq_true rfl, Nat.le_of_ble_eq_true rfl⟩ hl.1 rfl (Nat.le_of_ble_eq_true rfl) dM_settle_64 ⟨Nat.le_of_ble_eq_true rfl, Nat.le_of_ble_eq_true rfl⟩ ?_
        refine lv_istore_n (lv' := [(3, .int (fM_interestFor sL (up2 sA 5 23 0) p0)), (2, .int (((sA 11 p0.toNatClampNeg) * (sA 21 ((sA 6 p0.toNatClampNeg).toNatClampNeg))) / 100)), (0, .ref (ad 5)), (1, .int p0)]) hx hb dM_settle_67 rfl hl (by decide) rfl (fun ls hl => ?_)
        refine lv_aload_n hx hb dM_settle_68 rfl (lv_at hl 2 rfl) ?_
        refine rm_get (v := .ref (ad 11)) hx hb hts hown hC hG 6 (by decide) q_516 (rfl) dM_settle_69 ?_
        refine lv_iload_n hx hb dM_settle_72 rfl (lv_at hl 3 rfl) ?_
        refine ra_ld hx hb hC hG 11 30 (by omega) (fun _ _ => rfl) ((vin_lot hnm hm c_1).1) dM_settle_73 ?_
        refine W.eq (g2 := F0 m 74 ls (.int (sA 11 p0.toNatClampNeg) :: [])) (by simp [up2, upd]) ?_
        refine lv_iload_n hx hb dM_settle_74 rfl (lv_at hl 1 rfl) ?_
        refine lv_isub hx hb dM_settle_75 ?_
        refine lv_aload_n hx hb dM_settle_76 rfl (lv_at hl 2 rfl) ?_
        refine lv_iload_n hx hb dM_settle_77 rfl (lv_at hl 3 rfl) ?_
        refine rcV2 (rest := [.int ((sA 11 p0.toNatClampNeg) - (((sA 11 p0.toNatClampNeg) * (sA 21 ((sA 6 p0.toNatClampNeg).toNatClampNeg))) / 100))]) (As := [.int p0]) hx hb hml hown hts hC hG hS (cM_shareFor l D tI tJ tL A sg ad n sL (up2 sA 5 23 0) p0 ((vin_lot hnm hm c_1).1)) (recM hC hG) (gV q_674 q_676 q_p13 q_2 q_677) rfl rfl ⟨rfl, hdyM_shareFor⟩ ⟨Nat.le_of_ble_eq_true rfl, Nat.le_of_ble_eq_true rfl⟩ hl.1 rfl (Nat.le_of_ble_eq_true rfl) dM_settle_78 ⟨Nat.le_of_ble_eq_true rfl, Nat.le_of_ble_eq_true rfl⟩ ?_
        refine lv_isub hx hb dM_settle_81 ?_
        refine lv_aload_n hx hb dM_settle_82 rfl (lv_at hl 2 rfl) ?_
        refine rm_get (v := .ref (ad 17)) hx hb hts hown hC hG 13 (by decide) q_523 (rfl) dM_settle_83 ?_
        refine lv_iload_n hx hb dM_settle_86 rfl (lv_at hl 3 rfl) ?_
        refine ra_ld hx hb hC hG 17 30 (by omega) (fun _ _ => rfl) ((vin_lot hnm hm c_1).1) dM_settle_87 ?_
        refine W.eq (g2 := F0 m 88 ls (.int (sA 17 p0.toNatClampNeg) :: .int (((sA 11 p0.toNatClampNeg) - (((sA 11 p0.toNatClampNeg) * (sA 21 ((sA 6 p0.toNatClampNeg).toNatClampNeg))) / 100)) - (fM_shareFor sL (up2 sA 5 23 0) p0)) :: [])) (by simp [up2, upd]) ?_
        refine lv_isub hx hb dM_settle_88 ?_
        refine lv_iload_n hx hb dM_settle_89 rfl (lv_at hl 0 rfl) ?_
        refine lv_isub hx hb dM_settle_90 ?_
        refine lv_istore (lv' := [(4, .int (((((sA 11 p0.toNatClampNeg) - (((sA 11 p0.toNatClampNeg) * (sA 21 ((sA 6 p0.toNatClampNeg).toNatClampNeg))) / 100)) - (fM_shareFor sL (up2 sA 5 23 0) p0)) - (sA 17 p0.toNatClampNeg)) - (fM_interestFor sL (up2 sA 5 23 0) p0))), (3, .int (fM_interestFor sL (up2 sA 5 23 0) p0)), (2, .int (((sA 11 p0.toNatClampNeg) * (sA 21 ((sA 6 p0.toNatClampNeg).toNatClampNeg))) / 100)), (0, .ref (ad 5)), (1, .int p0)]) hx hb dM_settle_91 hl (by decide) rfl (fun ls hl => ?_)
        refine lv_aload_n hx hb dM_settle_93 rfl (lv_at hl 3 rfl) ?_
        refine rm_get (v := .ref (ad 19)) hx hb hts hown hC hG 15 (by decide) q_525 (rfl) dM_settle_94 ?_
        refine lv_iload_n hx hb dM_settle_97 rfl (lv_at hl 4 rfl) ?_
        refine lv_iload_n hx hb dM_settle_98 rfl (lv_at hl 1 rfl) ?_
        refine ra_st hx hb hC hG hS 19 30 (by omega) (fun _ _ => rfl) ((vin_lot hnm hm c_1).1) dM_settle_99 (fun H locs hG hS => ?_)
        refine lv_aload_n hx hb dM_settle_100 rfl (lv_at hl 3 rfl) ?_
        refine lv_dup hx hb dM_settle_101 rfl ?_
        refine rm_get (v := .long (sL 5 21)) hx hb hts hown hC hG 21 (by decide) q_531 (rfl) dM_settle_102 ?_
        refine lv_iload hx hb dM_settle_105 (lv_at hl 0 rfl) ?_
        refine lv_aload_n hx hb dM_settle_107 rfl (lv_at hl 3 rfl) ?_
        refine lv_iload_n hx hb dM_settle_108 rfl (lv_at hl 4 rfl) ?_
        refine rcV2 (rest := [.int (((((sA 11 p0.toNatClampNeg) - (((sA 11 p0.toNatClampNeg) * (sA 21 ((sA 6 p0.toNatClampNeg).toNatClampNeg))) / 100)) - (fM_shareFor sL (up2 sA 5 23 0) p0)) - (sA 17 p0.toNatClampNeg)) - (fM_interestFor sL (up2 sA 5 23 0) p0)), .long (sL 5 21), .ref (ad 5)]) (As := [.int p0]) hx hb hml hown hts hC hG hS (cM_shareFor l D tI tJ tL A sg ad n sL (up2 (up2 sA 5 23 0) 19 p0.toNatClampNeg (fM_interestFor sL (up2 sA 5 23 0) p0)) p0 ((vin_lot hnm hm c_1).1)) (recM hC hG) (gV q_674 q_676 q_p13 q_2 q_677) rfl rfl ⟨rfl, hdyM_shareFor⟩ ⟨Nat.le_of_ble_eq_true rfl, Nat.le_of_ble_eq_true rfl⟩ hl.1 rfl (Nat.le_of_ble_eq_true rfl) dM_settle_109 ⟨Nat.le_of_ble_eq_true rfl, Nat.le_of_ble_eq_true rfl⟩ ?_
        refine lv_iadd hx hb dM_settle_112 ?_
        refine lv_i2l (v := ((((((sA 11 p0.toNatClampNeg) - (((sA 11 p0.toNatClampNeg) * (sA 21 ((sA 6 p0.toNatClampNeg).toNatClampNeg))) / 100)) - (fM_shareFor sL (up2 sA 5 23 0) p0)) - (sA 17 p0.toNatClampNeg)) - (fM_interestFor sL (up2 sA 5 23 0) p0)) + (fM_shareFor sL (up2 (up2 sA 5 23 0) 19 p0.toNatClampNeg (fM_interestFor sL (up2 sA 5 23 0) p0)) p0) : Int32).toInt64) hx hb dM_settle_113 rfl ?_
        refine lv_ladd hx hb dM_settle_114 ?_
        refine rm_putl hx hb hts hown hC hG hS 21 (by decide) q_531 dM_settle_115 (fun H locs hG hS => ?_)
        refine lv_aload_n hx hb dM_settle_118 rfl (lv_at hl 3 rfl) ?_
        refine lv_dup hx hb dM_settle_119 rfl ?_
        refine rm_get (v := .long (sL 5 22)) hx hb hts hown hC hG 22 (by decide) q_532 (by simp [mfs, up2, upd, up2L, vp_updL]) dM_settle_120 ?_
        refine lv_iload_n hx hb dM_settle_123 rfl (lv_at hl 2 rfl) ?_
        refine lv_iload_n hx hb dM_settle_124 rfl (lv_at hl 1 rfl) ?_
        refine lv_iadd hx hb dM_settle_125 ?_
        refine lv_i2l (v := ((((sA 11 p0.toNatClampNeg) * (sA 21 ((sA 6 p0.toNatClampNeg).toNatClampNeg))) / 100) + (fM_interestFor sL (up2 sA 5 23 0) p0) : Int32).toInt64) hx hb dM_settle_126 rfl ?_
        refine lv_ladd hx hb dM_settle_127 ?_
        refine rm_putl hx hb hts hown hC hG hS 22 (by decide) q_532 dM_settle_128 (fun H locs hG hS => ?_)
        refine lv_aload_n hx hb dM_settle_131 rfl (lv_at hl 3 rfl) ?_
        refine rm_get (v := .ref (ad 9)) hx hb hts hown hC hG 4 (by decide) q_514 (rfl) dM_settle_132 ?_
        refine lv_iload_n hx hb dM_settle_135 rfl (lv_at hl 4 rfl) ?_
        refine lv_iconst (v := 4) hx hb dM_settle_136 (by decide) ?_
        refine ra_st hx hb hC hG hS 9 30 (by omega) (fun _ _ => rfl) ((vin_lot hnm hm c_1).1) dM_settle_137 (fun H locs hG hS => ?_)
        refine lv_iload hx hb dM_settle_138 (lv_at hl 0 rfl) ?_
        refine W.widen (k := 0) (n := 0) (Nat.le_of_ble_eq_true rfl) (Nat.le_of_ble_eq_true rfl) ?_
        exact W.iret (v := ((((sA 11 p0.toNatClampNeg) - (((sA 11 p0.toNatClampNeg) * (sA 21 ((sA 6 p0.toNatClampNeg).toNatClampNeg))) / 100)) - (fM_shareFor sL (up2 sA 5 23 0) p0)) - (sA 17 p0.toNatClampNeg)) - (fM_interestFor sL (up2 sA 5 23 0) p0)) hx hb hr (fun t ht hW => ⟨⟨(((((sA 11 p0.toNatClampNeg) - (((sA 11 p0.toNatClampNeg) * (sA 21 ((sA 6 p0.toNatClampNeg).toNatClampNeg))) / 100)) - (fM_shareFor sL (up2 sA 5 23 0) p0)) - (sA 17 p0.toNatClampNeg)) - (fM_interestFor sL (up2 sA 5 23 0) p0)), ((up2L (up2L sL 5 21 ((sL 5 21) + (((((((sA 11 p0.toNatClampNeg) - (((sA 11 p0.toNatClampNeg) * (sA 21 ((sA 6 p0.toNatClampNeg).toNatClampNeg))) / 100)) - (fM_shareFor sL (up2 sA 5 23 0) p0)) - (sA 17 p0.toNatClampNeg)) - (fM_interestFor sL (up2 sA 5 23 0) p0)) + (fM_shareFor sL (up2 (up2 sA 5 23 0) 19 p0.toNatClampNeg (fM_interestFor sL (up2 sA 5 23 0) p0)) p0) : Int32).toInt64))) 5 22 ((sL 5 22) + (((((sA 11 p0.toNatClampNeg) * (sA 21 ((sA 6 p0.toNatClampNeg).toNatClampNeg))) / 100) + (fM_interestFor sL (up2 sA 5 23 0) p0) : Int32).toInt64))), (up2 (up2 (up2 sA 5 23 0) 19 p0.toNatClampNeg (fM_interestFor sL (up2 sA 5 23 0) p0)) 9 p0.toNatClampNeg 4)), rfl, (by rw [fM_settle, if_neg c_1, if_pos c_2] <;> rfl), gw_at hG ht⟩, hS.F ht⟩) hS.2.2 dM_settle_140
      · exact absurd c_3 (by decide)
    · refine lv_iconst (v := 2) hx hb dM_settle_23 (by decide) ?_
      refine lv_goto (tgt := 28) hx hb dM_settle_24 (by decide) ?_
      refine rm_puti hx hb hts hown hC hG hS 23 (by decide) q_533 dM_settle_28 (fun H locs hG hS => ?_)
      refine lv_aload_n hx hb dM_settle_31 rfl (lv_at hl 0 rfl) ?_
      refine rm_get (v := .int 2) hx hb hts hown hC hG 23 (by decide) q_533 (by simp [mfs, up2, upd, up2L, vp_updL]) dM_settle_32 ?_
      refine lv_if_le (tgt := 40) hx hb dM_settle_35 (by decide) (fun c_4 => ?_) (fun c_4 => ?_)
      · exact absurd c_4 (by decide)
      · refine lv_iconst (v := 0) hx hb dM_settle_38 (by decide) ?_
        refine W.widen (k := 0) (n := 0) (Nat.le_of_ble_eq_true rfl) (Nat.le_of_ble_eq_true rfl) ?_
        exact W.iret (v := 0) hx hb hr (fun t ht hW => ⟨⟨0, (sL, (up2 sA 5 23 2)), rfl, (by rw [fM_settle, if_neg c_1, if_neg c_2] <;> rfl), gw_at hG ht⟩, hS.F ht⟩) hS.2.2 dM_settle_39
  · refine lv_iconst (v := 1) hx hb dM_settle_9 (by decide) ?_
    refine lv_goto (tgt := 28) hx hb dM_settle_10 (by decide) ?_
    refine rm_puti hx hb hts hown hC hG hS 23 (by decide) q_533 dM_settle_28 (fun H locs hG hS => ?_)
    refine lv_aload_n hx hb dM_settle_31 rfl (lv_at hl 0 rfl) ?_
    refine rm_get (v := .int 1) hx hb hts hown hC hG 23 (by decide) q_533 (by simp [mfs, up2, upd, up2L, vp_updL]) dM_settle_32 ?_
    refine lv_if_le (tgt := 40) hx hb dM_settle_35 (by decide) (fun c_5 => ?_) (fun c_5 => ?_)
    · exact absurd c_5 (by decide)
    · refine lv_iconst (v := 0) hx hb dM_settle_38 (by decide) ?_
      refine W.widen (k := 0) (n := 0) (Nat.le_of_ble_eq_true rfl) (Nat.le_of_ble_eq_true rfl) ?_
      exact W.iret (v := 0) hx hb hr (fun t ht hW => ⟨⟨0, (sL, (up2 sA 5 23 1)), rfl, (by rw [fM_settle, if_pos c_1] <;> rfl), gw_at hG ht⟩, hS.F ht⟩) hS.2.2 dM_settle_39
def fM_commission (sL : NL) (sA : NA) (p0 : Int32) (p1 : Int32) : Int32 × NL × NA := if (fM_isWithin p0 0 5) = 0 then (0, sL, (up2 sA 5 23 1)) else (if (fM_isWithin p1 0 50) = 0 then (0, sL, (up2 sA 5 23 2)) else (sA 21 p0.toNatClampNeg, sL, (up2 (up2 sA 5 23 0) 21 p0.toNatClampNeg p1)))
theorem hdyM_commission : yM_commission.cls ≠ "java/lang/invoke/MethodHandle" ∧ yM_commission.cls ≠ "java/lang/invoke/VarHandle" ∧ (parseMethodDescriptor yM_commission.desc).map (fun d => d.parameters.length) = some 2 := by decide +kernel
theorem dM_commission_0 : decode bM_commission 0 = .ok (.aload_n 0, 1) := by decide +kernel
theorem dM_commission_1 : decode bM_commission 1 = .ok (.iload_n 1, 1) := by decide +kernel
theorem dM_commission_2 : decode bM_commission 2 = .ok (.iconst 0, 1) := by decide +kernel
theorem dM_commission_3 : decode bM_commission 3 = .ok (.iconst 5, 1) := by decide +kernel
theorem dM_commission_4 : decode bM_commission 4 = .ok (.invokestatic 68, 3) := by decide +kernel
theorem dM_commission_7 : decode bM_commission 7 = .ok (.ifCond .ne 7, 3) := by decide +kernel
theorem dM_commission_10 : decode bM_commission 10 = .ok (.iconst 1, 1) := by decide +kernel
theorem dM_commission_11 : decode bM_commission 11 = .ok (.goto 18, 3) := by decide +kernel
theorem dM_commission_14 : decode bM_commission 14 = .ok (.iload_n 2, 1) := by decide +kernel
theorem dM_commission_15 : decode bM_commission 15 = .ok (.iconst 0, 1) := by decide +kernel
theorem dM_commission_16 : decode bM_commission 16 = .ok (.bipush 50, 2) := by decide +kernel
theorem dM_commission_18 : decode bM_commission 18 = .ok (.invokestatic 68, 3) := by decide +kernel
theorem dM_commission_21 : decode bM_commission 21 = .ok (.ifCond .ne 7, 3) := by decide +kernel
theorem dM_commission_24 : decode bM_commission 24 = .ok (.iconst 2, 1) := by decide +kernel
theorem dM_commission_25 : decode bM_commission 25 = .ok (.goto 4, 3) := by decide +kernel
theorem dM_commission_28 : decode bM_commission 28 = .ok (.iconst 0, 1) := by decide +kernel
theorem dM_commission_29 : decode bM_commission 29 = .ok (.putfield 62, 3) := by decide +kernel
theorem dM_commission_32 : decode bM_commission 32 = .ok (.aload_n 0, 1) := by decide +kernel
theorem dM_commission_33 : decode bM_commission 33 = .ok (.getfield 62, 3) := by decide +kernel
theorem dM_commission_36 : decode bM_commission 36 = .ok (.ifCond .le 5, 3) := by decide +kernel
theorem dM_commission_39 : decode bM_commission 39 = .ok (.iconst 0, 1) := by decide +kernel
theorem dM_commission_40 : decode bM_commission 40 = .ok (.ireturn, 1) := by decide +kernel
theorem dM_commission_41 : decode bM_commission 41 = .ok (.aload_n 0, 1) := by decide +kernel
theorem dM_commission_42 : decode bM_commission 42 = .ok (.getfield 55, 3) := by decide +kernel
theorem dM_commission_45 : decode bM_commission 45 = .ok (.iload_n 1, 1) := by decide +kernel
theorem dM_commission_46 : decode bM_commission 46 = .ok (.iaload, 1) := by decide +kernel
theorem dM_commission_47 : decode bM_commission 47 = .ok (.istore_n 3, 1) := by decide +kernel
theorem dM_commission_48 : decode bM_commission 48 = .ok (.aload_n 0, 1) := by decide +kernel
theorem dM_commission_49 : decode bM_commission 49 = .ok (.getfield 55, 3) := by decide +kernel
theorem dM_commission_52 : decode bM_commission 52 = .ok (.iload_n 1, 1) := by decide +kernel
theorem dM_commission_53 : decode bM_commission 53 = .ok (.iload_n 2, 1) := by decide +kernel
theorem dM_commission_54 : decode bM_commission 54 = .ok (.iastore, 1) := by decide +kernel
theorem dM_commission_55 : decode bM_commission 55 = .ok (.iload_n 3, 1) := by decide +kernel
theorem dM_commission_56 : decode bM_commission 56 = .ok (.ireturn, 1) := by decide +kernel
set_option maxHeartbeats 4000000 in
set_option maxRecDepth 100000 in
theorem cM_commission (l : Launch) (D : va_G) (tI tJ tL : ClassId) (A : Nat → Prop) (sg ad : Nat → Nat) (n : Nat) (sL : NL) (sA : NA) (p0 : Int32) (p1 : Int32) : Met l yM_commission (Cond.code yM_commission bM_commission 4 (some FieldType.int) :: wNeed) { frames := 1, cells := 0, slots := 0, locals := 22 } (va_Pc [.ref (ad 5), .int p0, .int p1] (GP D tI tJ tL A sg ad n sL sA)) (va_Qi (fun r (u : NL × NA) => fM_commission sL sA p0 p1 = (r, u.1, u.2)) (fun u t => GW D tI tJ tL A ad n u.1 u.2 t.heap) A) 0 0 A := by
  refine en_G (av := [.ref (ad 5), .int p0, .int p1]) (by decide) (Nat.le_of_ble_eq_true rfl) ?_
  intro p e s m below meth c hx hb hml hown hts hr hlocks hmname hC H locs hG hS ls hl
  replace hl : lv_has ls 4 [(0, .ref (ad 5)), (1, .int p0), (2, .int p1)] := hl
  refine lv_aload_n hx hb dM_commission_0 rfl (lv_at hl 0 rfl) ?_
  refine lv_iload_n hx hb dM_commission_1 rfl (lv_at hl 1 rfl) ?_
  refine lv_iconst (v := 0) hx hb dM_commission_2 (by decide) ?_
  refine lv_iconst (v := 5) hx hb dM_commission_3 (by decide) ?_
  refine rcS1 (rest := [.ref (ad 5)]) (As := [.int p0, .int 0, .int 5]) hx hb hml hown hts (cM_isWithin l p0 0 5) (gS q_592 q_593 q_2 q_594) rfl rfl ⟨rfl, hdyM_isWithin⟩ ⟨Nat.le_of_ble_eq_true rfl, Nat.le_of_ble_eq_true rfl⟩ hl.1 rfl (Nat.le_of_ble_eq_true rfl) dM_commission_4 ⟨Nat.le_of_ble_eq_true rfl, Nat.le_of_ble_eq_true rfl⟩ ?_
  refine lv_if_ne (tgt := 14) hx hb dM_commission_7 (by decide) (fun c_1 => ?_) (fun c_1 => ?_)
  · refine lv_iload_n hx hb dM_commission_14 rfl (lv_at hl 2 rfl) ?_
    refine lv_iconst (v := 0) hx hb dM_commission_15 (by decide) ?_
    refine lv_bipush (v := 50) hx hb dM_commission_16 (by decide) ?_
    refine rcS1 (rest := [.ref (ad 5)]) (As := [.int p1, .int 0, .int 50]) hx hb hml hown hts (cM_isWithin l p1 0 50) (gS q_592 q_593 q_2 q_594) rfl rfl ⟨rfl, hdyM_isWithin⟩ ⟨Nat.le_of_ble_eq_true rfl, Nat.le_of_ble_eq_true rfl⟩ hl.1 rfl (Nat.le_of_ble_eq_true rfl) dM_commission_18 ⟨Nat.le_of_ble_eq_true rfl, Nat.le_of_ble_eq_true rfl⟩ ?_
    refine lv_if_ne (tgt := 28) hx hb dM_commission_21 (by decide) (fun c_2 => ?_) (fun c_2 => ?_)
    · refine lv_iconst (v := 0) hx hb dM_commission_28 (by decide) ?_
      refine rm_puti hx hb hts hown hC hG hS 23 (by decide) q_533 dM_commission_29 (fun H locs hG hS => ?_)
      refine lv_aload_n hx hb dM_commission_32 rfl (lv_at hl 0 rfl) ?_
      refine rm_get (v := .int 0) hx hb hts hown hC hG 23 (by decide) q_533 (by simp [mfs, up2, upd, up2L, vp_updL]) dM_commission_33 ?_
      refine lv_if_le (tgt := 41) hx hb dM_commission_36 (by decide) (fun c_3 => ?_) (fun c_3 => ?_)
      · refine lv_aload_n hx hb dM_commission_41 rfl (lv_at hl 0 rfl) ?_
        refine rm_get (v := .ref (ad 21)) hx hb hts hown hC hG 17 (by decide) q_527 (rfl) dM_commission_42 ?_
        refine lv_iload_n hx hb dM_commission_45 rfl (lv_at hl 1 rfl) ?_
        refine ra_ld hx hb hC hG 21 6 (by omega) (fun _ _ => rfl) (vin_w5 c_1) dM_commission_46 ?_
        refine W.eq (g2 := F0 m 47 ls (.int (sA 21 p0.toNatClampNeg) :: [])) (by simp [up2, upd]) ?_
        refine lv_istore_n (lv' := [(3, .int (sA 21 p0.toNatClampNeg)), (0, .ref (ad 5)), (1, .int p0), (2, .int p1)]) hx hb dM_commission_47 rfl hl (by decide) rfl (fun ls hl => ?_)
        refine lv_aload_n hx hb dM_commission_48 rfl (lv_at hl 1 rfl) ?_
        refine rm_get (v := .ref (ad 21)) hx hb hts hown hC hG 17 (by decide) q_527 (rfl) dM_commission_49 ?_
        refine lv_iload_n hx hb dM_commission_52 rfl (lv_at hl 2 rfl) ?_
        refine lv_iload_n hx hb dM_commission_53 rfl (lv_at hl 3 rfl) ?_
        refine ra_st hx hb hC hG hS 21 6 (by omega) (fun _ _ => rfl) (vin_w5 c_1) dM_commission_54 (fun H locs hG hS => ?_)
        refine lv_iload_n hx hb dM_commission_55 rfl (lv_at hl 0 rfl) ?_
        refine W.widen (k := 0) (n := 0) (Nat.le_of_ble_eq_true rfl) (Nat.le_of_ble_eq_true rfl) ?_
        exact W.iret (v := sA 21 p0.toNatClampNeg) hx hb hr (fun t ht hW => ⟨⟨(sA 21 p0.toNatClampNeg), (sL, (up2 (up2 sA 5 23 0) 21 p0.toNatClampNeg p1)), rfl, (by rw [fM_commission, if_neg c_1, if_neg c_2] <;> rfl), gw_at hG ht⟩, hS.F ht⟩) hS.2.2 dM_commission_56
      · exact absurd c_3 (by decide)
    · refine lv_iconst (v := 2) hx hb dM_commission_24 (by decide) ?_
      refine lv_goto (tgt := 29) hx hb dM_commission_25 (by decide) ?_
      refine rm_puti hx hb hts hown hC hG hS 23 (by decide) q_533 dM_commission_29 (fun H locs hG hS => ?_)
      refine lv_aload_n hx hb dM_commission_32 rfl (lv_at hl 0 rfl) ?_
      refine rm_get (v := .int 2) hx hb hts hown hC hG 23 (by decide) q_533 (by simp [mfs, up2, upd, up2L, vp_updL]) dM_commission_33 ?_
      refine lv_if_le (tgt := 41) hx hb dM_commission_36 (by decide) (fun c_4 => ?_) (fun c_4 => ?_)
      · exact absurd c_4 (by decide)
      · refine lv_iconst (v := 0) hx hb dM_commission_39 (by decide) ?_
        refine W.widen (k := 0) (n := 0) (Nat.le_of_ble_eq_true rfl) (Nat.le_of_ble_eq_true rfl) ?_
        exact W.iret (v := 0) hx hb hr (fun t ht hW => ⟨⟨0, (sL, (up2 sA 5 23 2)), rfl, (by rw [fM_commission, if_neg c_1, if_pos c_2] <;> rfl), gw_at hG ht⟩, hS.F ht⟩) hS.2.2 dM_commission_40
  · refine lv_iconst (v := 1) hx hb dM_commission_10 (by decide) ?_
    refine lv_goto (tgt := 29) hx hb dM_commission_11 (by decide) ?_
    refine rm_puti hx hb hts hown hC hG hS 23 (by decide) q_533 dM_commission_29 (fun H locs hG hS => ?_)
    refine lv_aload_n hx hb dM_commission_32 rfl (lv_at hl 0 rfl) ?_
    refine rm_get (v := .int 1) hx hb hts hown hC hG 23 (by decide) q_533 (by simp [mfs, up2, upd, up2L, vp_updL]) dM_commission_33 ?_
    refine lv_if_le (tgt := 41) hx hb dM_commission_36 (by decide) (fun c_5 => ?_) (fun c_5 => ?_)
    · exact absurd c_5 (by decide)
    · refine lv_iconst (v := 0) hx hb dM_commission_39 (by decide) ?_
      refine W.widen (k := 0) (n := 0) (Nat.le_of_ble_eq_true rfl) (Nat.le_of_ble_eq_true rfl) ?_
      exact W.iret (v := 0) hx hb hr (fun t ht hW => ⟨⟨0, (sL, (up2 sA 5 23 1)), rfl, (by rw [fM_commission, if_pos c_1] <;> rfl), gw_at hG ht⟩, hS.F ht⟩) hS.2.2 dM_commission_40
def fM_rate (sL : NL) (sA : NA) (p0 : Int32) : Int32 × NL × NA := if (fM_isWithin p0 0 100) = 0 then (0, sL, (up2 sA 5 23 1)) else (sA 5 18, sL, (up2 (up2 sA 5 23 0) 5 18 p0))
theorem hdyM_rate : yM_rate.cls ≠ "java/lang/invoke/MethodHandle" ∧ yM_rate.cls ≠ "java/lang/invoke/VarHandle" ∧ (parseMethodDescriptor yM_rate.desc).map (fun d => d.parameters.length) = some 1 := by decide +kernel
theorem dM_rate_0 : decode bM_rate 0 = .ok (.aload_n 0, 1) := by decide +kernel
theorem dM_rate_1 : decode bM_rate 1 = .ok (.iload_n 1, 1) := by decide +kernel
theorem dM_rate_2 : decode bM_rate 2 = .ok (.iconst 0, 1) := by decide +kernel
theorem dM_rate_3 : decode bM_rate 3 = .ok (.bipush 100, 2) := by decide +kernel
theorem dM_rate_5 : decode bM_rate 5 = .ok (.invokestatic 68, 3) := by decide +kernel
theorem dM_rate_8 : decode bM_rate 8 = .ok (.ifCond .eq 7, 3) := by decide +kernel
theorem dM_rate_11 : decode bM_rate 11 = .ok (.iconst 0, 1) := by decide +kernel
theorem dM_rate_12 : decode bM_rate 12 = .ok (.goto 4, 3) := by decide +kernel
theorem dM_rate_15 : decode bM_rate 15 = .ok (.iconst 1, 1) := by decide +kernel
theorem dM_rate_16 : decode bM_rate 16 = .ok (.putfield 62, 3) := by decide +kernel
theorem dM_rate_19 : decode bM_rate 19 = .ok (.aload_n 0, 1) := by decide +kernel
theorem dM_rate_20 : decode bM_rate 20 = .ok (.getfield 62, 3) := by decide +kernel
theorem dM_rate_23 : decode bM_rate 23 = .ok (.ifCond .le 5, 3) := by decide +kernel
theorem dM_rate_26 : decode bM_rate 26 = .ok (.iconst 0, 1) := by decide +kernel
theorem dM_rate_27 : decode bM_rate 27 = .ok (.ireturn, 1) := by decide +kernel
theorem dM_rate_28 : decode bM_rate 28 = .ok (.aload_n 0, 1) := by decide +kernel
theorem dM_rate_29 : decode bM_rate 29 = .ok (.getfield 58, 3) := by decide +kernel
theorem dM_rate_32 : decode bM_rate 32 = .ok (.istore_n 2, 1) := by decide +kernel
theorem dM_rate_33 : decode bM_rate 33 = .ok (.aload_n 0, 1) := by decide +kernel
theorem dM_rate_34 : decode bM_rate 34 = .ok (.iload_n 1, 1) := by decide +kernel
theorem dM_rate_35 : decode bM_rate 35 = .ok (.putfield 58, 3) := by decide +kernel
theorem dM_rate_38 : decode bM_rate 38 = .ok (.iload_n 2, 1) := by decide +kernel
theorem dM_rate_39 : decode bM_rate 39 = .ok (.ireturn, 1) := by decide +kernel
set_option maxHeartbeats 4000000 in
set_option maxRecDepth 100000 in
theorem cM_rate (l : Launch) (D : va_G) (tI tJ tL : ClassId) (A : Nat → Prop) (sg ad : Nat → Nat) (n : Nat) (sL : NL) (sA : NA) (p0 : Int32) : Met l yM_rate (Cond.code yM_rate bM_rate 3 (some FieldType.int) :: wNeed) { frames := 1, cells := 0, slots := 0, locals := 22 } (va_Pc [.ref (ad 5), .int p0] (GP D tI tJ tL A sg ad n sL sA)) (va_Qi (fun r (u : NL × NA) => fM_rate sL sA p0 = (r, u.1, u.2)) (fun u t => GW D tI tJ tL A ad n u.1 u.2 t.heap) A) 0 0 A := by
  refine en_G (av := [.ref (ad 5), .int p0]) (by decide) (Nat.le_of_ble_eq_true rfl) ?_
  intro p e s m below meth c hx hb hml hown hts hr hlocks hmname hC H locs hG hS ls hl
  replace hl : lv_has ls 3 [(0, .ref (ad 5)), (1, .int p0)] := hl
  refine lv_aload_n hx hb dM_rate_0 rfl (lv_at hl 0 rfl) ?_
  refine lv_iload_n hx hb dM_rate_1 rfl (lv_at hl 1 rfl) ?_
  refine lv_iconst (v := 0) hx hb dM_rate_2 (by decide) ?_
  refine lv_bipush (v := 100) hx hb dM_rate_3 (by decide) ?_
  refine rcS1 (rest := [.ref (ad 5)]) (As := [.int p0, .int 0, .int 100]) hx hb hml hown hts (cM_isWithin l p0 0 100) (gS q_592 q_593 q_2 q_594) rfl rfl ⟨rfl, hdyM_isWithin⟩ ⟨Nat.le_of_ble_eq_true rfl, Nat.le_of_ble_eq_true rfl⟩ hl.1 rfl (Nat.le_of_ble_eq_true rfl) dM_rate_5 ⟨Nat.le_of_ble_eq_true rfl, Nat.le_of_ble_eq_true rfl⟩ ?_
  refine lv_if_eq (tgt := 15) hx hb dM_rate_8 (by decide) (fun c_1 => ?_) (fun c_1 => ?_)
  · refine lv_iconst (v := 1) hx hb dM_rate_15 (by decide) ?_
    refine rm_puti hx hb hts hown hC hG hS 23 (by decide) q_533 dM_rate_16 (fun H locs hG hS => ?_)
    refine lv_aload_n hx hb dM_rate_19 rfl (lv_at hl 0 rfl) ?_
    refine rm_get (v := .int 1) hx hb hts hown hC hG 23 (by decide) q_533 (by simp [mfs, up2, upd, up2L, vp_updL]) dM_rate_20 ?_
    refine lv_if_le (tgt := 28) hx hb dM_rate_23 (by decide) (fun c_2 => ?_) (fun c_2 => ?_)
    · exact absurd c_2 (by decide)
    · refine lv_iconst (v := 0) hx hb dM_rate_26 (by decide) ?_
      refine W.widen (k := 0) (n := 0) (Nat.le_of_ble_eq_true rfl) (Nat.le_of_ble_eq_true rfl) ?_
      exact W.iret (v := 0) hx hb hr (fun t ht hW => ⟨⟨0, (sL, (up2 sA 5 23 1)), rfl, (by rw [fM_rate, if_pos c_1] <;> rfl), gw_at hG ht⟩, hS.F ht⟩) hS.2.2 dM_rate_27
  · refine lv_iconst (v := 0) hx hb dM_rate_11 (by decide) ?_
    refine lv_goto (tgt := 16) hx hb dM_rate_12 (by decide) ?_
    refine rm_puti hx hb hts hown hC hG hS 23 (by decide) q_533 dM_rate_16 (fun H locs hG hS => ?_)
    refine lv_aload_n hx hb dM_rate_19 rfl (lv_at hl 0 rfl) ?_
    refine rm_get (v := .int 0) hx hb hts hown hC hG 23 (by decide) q_533 (by simp [mfs, up2, upd, up2L, vp_updL]) dM_rate_20 ?_
    refine lv_if_le (tgt := 28) hx hb dM_rate_23 (by decide) (fun c_3 => ?_) (fun c_3 => ?_)
    · refine lv_aload_n hx hb dM_rate_28 rfl (lv_at hl 0 rfl) ?_
      refine rm_get (v := .int (sA 5 18)) hx hb hts hown hC hG 18 (by decide) q_528 (by simp [mfs, up2, upd, up2L, vp_updL]) dM_rate_29 ?_
      refine lv_istore_n (lv' := [(2, .int (sA 5 18)), (0, .ref (ad 5)), (1, .int p0)]) hx hb dM_rate_32 rfl hl (by decide) rfl (fun ls hl => ?_)
      refine lv_aload_n hx hb dM_rate_33 rfl (lv_at hl 1 rfl) ?_
      refine lv_iload_n hx hb dM_rate_34 rfl (lv_at hl 2 rfl) ?_
      refine rm_puti hx hb hts hown hC hG hS 18 (by decide) q_528 dM_rate_35 (fun H locs hG hS => ?_)
      refine lv_iload_n hx hb dM_rate_38 rfl (lv_at hl 0 rfl) ?_
      refine W.widen (k := 0) (n := 0) (Nat.le_of_ble_eq_true rfl) (Nat.le_of_ble_eq_true rfl) ?_
      exact W.iret (v := sA 5 18) hx hb hr (fun t ht hW => ⟨⟨(sA 5 18), (sL, (up2 (up2 sA 5 23 0) 5 18 p0)), rfl, (by rw [fM_rate, if_neg c_1] <;> rfl), gw_at hG ht⟩, hS.F ht⟩) hS.2.2 dM_rate_39
    · exact absurd c_3 (by decide)
def fM_days (sL : NL) (sA : NA) (p0 : Int32) : Int32 × NL × NA := if (fM_isWithin p0 1 200) = 0 then (0, sL, (up2 (up2 sA 5 23 1) 5 19 ((sA 5 19) + 0))) else (if ((sA 5 19) + p0) ≤ 7300 then ((sA 5 19) + p0, sL, (up2 (up2 sA 5 23 0) 5 19 ((sA 5 19) + p0))) else (0, sL, (up2 (up2 sA 5 23 2) 5 19 ((sA 5 19) + 0))))
theorem hdyM_days : yM_days.cls ≠ "java/lang/invoke/MethodHandle" ∧ yM_days.cls ≠ "java/lang/invoke/VarHandle" ∧ (parseMethodDescriptor yM_days.desc).map (fun d => d.parameters.length) = some 1 := by decide +kernel
theorem dM_days_0 : decode bM_days 0 = .ok (.aload_n 0, 1) := by decide +kernel
theorem dM_days_1 : decode bM_days 1 = .ok (.iload_n 1, 1) := by decide +kernel
theorem dM_days_2 : decode bM_days 2 = .ok (.iconst 1, 1) := by decide +kernel
theorem dM_days_3 : decode bM_days 3 = .ok (.sipush 200, 3) := by decide +kernel
theorem dM_days_6 : decode bM_days 6 = .ok (.invokestatic 68, 3) := by decide +kernel
theorem dM_days_9 : decode bM_days 9 = .ok (.ifCond .ne 7, 3) := by decide +kernel
theorem dM_days_12 : decode bM_days 12 = .ok (.iconst 1, 1) := by decide +kernel
theorem dM_days_13 : decode bM_days 13 = .ok (.goto 20, 3) := by decide +kernel
theorem dM_days_16 : decode bM_days 16 = .ok (.aload_n 0, 1) := by decide +kernel
theorem dM_days_17 : decode bM_days 17 = .ok (.getfield 101, 3) := by decide +kernel
theorem dM_days_20 : decode bM_days 20 = .ok (.iload_n 1, 1) := by decide +kernel
theorem dM_days_21 : decode bM_days 21 = .ok (.iadd, 1) := by decide +kernel
theorem dM_days_22 : decode bM_days 22 = .ok (.sipush 7300, 3) := by decide +kernel
theorem dM_days_25 : decode bM_days 25 = .ok (.if_icmp .le 7, 3) := by decide +kernel
theorem dM_days_28 : decode bM_days 28 = .ok (.iconst 2, 1) := by decide +kernel
theorem dM_days_29 : decode bM_days 29 = .ok (.goto 4, 3) := by decide +kernel
theorem dM_days_32 : decode bM_days 32 = .ok (.iconst 0, 1) := by decide +kernel
theorem dM_days_33 : decode bM_days 33 = .ok (.putfield 62, 3) := by decide +kernel
theorem dM_days_36 : decode bM_days 36 = .ok (.aload_n 0, 1) := by decide +kernel
theorem dM_days_37 : decode bM_days 37 = .ok (.dup, 1) := by decide +kernel
theorem dM_days_38 : decode bM_days 38 = .ok (.getfield 101, 3) := by decide +kernel
theorem dM_days_41 : decode bM_days 41 = .ok (.aload_n 0, 1) := by decide +kernel
theorem dM_days_42 : decode bM_days 42 = .ok (.getfield 62, 3) := by decide +kernel
theorem dM_days_45 : decode bM_days 45 = .ok (.ifCond .ne 7, 3) := by decide +kernel
theorem dM_days_48 : decode bM_days 48 = .ok (.iload_n 1, 1) := by decide +kernel
theorem dM_days_49 : decode bM_days 49 = .ok (.goto 4, 3) := by decide +kernel
theorem dM_days_52 : decode bM_days 52 = .ok (.iconst 0, 1) := by decide +kernel
theorem dM_days_53 : decode bM_days 53 = .ok (.iadd, 1) := by decide +kernel
theorem dM_days_54 : decode bM_days 54 = .ok (.putfield 101, 3) := by decide +kernel
theorem dM_days_57 : decode bM_days 57 = .ok (.aload_n 0, 1) := by decide +kernel
theorem dM_days_58 : decode bM_days 58 = .ok (.getfield 62, 3) := by decide +kernel
theorem dM_days_61 : decode bM_days 61 = .ok (.ifCond .ne 10, 3) := by decide +kernel
theorem dM_days_64 : decode bM_days 64 = .ok (.aload_n 0, 1) := by decide +kernel
theorem dM_days_65 : decode bM_days 65 = .ok (.getfield 101, 3) := by decide +kernel
theorem dM_days_68 : decode bM_days 68 = .ok (.goto 4, 3) := by decide +kernel
theorem dM_days_71 : decode bM_days 71 = .ok (.iconst 0, 1) := by decide +kernel
theorem dM_days_72 : decode bM_days 72 = .ok (.ireturn, 1) := by decide +kernel
set_option maxHeartbeats 4000000 in
set_option maxRecDepth 100000 in
theorem cM_days (l : Launch) (D : va_G) (tI tJ tL : ClassId) (A : Nat → Prop) (sg ad : Nat → Nat) (n : Nat) (sL : NL) (sA : NA) (p0 : Int32) : Met l yM_days (Cond.code yM_days bM_days 2 (some FieldType.int) :: wNeed) { frames := 1, cells := 0, slots := 0, locals := 22 } (va_Pc [.ref (ad 5), .int p0] (GP D tI tJ tL A sg ad n sL sA)) (va_Qi (fun r (u : NL × NA) => fM_days sL sA p0 = (r, u.1, u.2)) (fun u t => GW D tI tJ tL A ad n u.1 u.2 t.heap) A) 0 0 A := by
  refine en_G (av := [.ref (ad 5), .int p0]) (by decide) (Nat.le_of_ble_eq_true rfl) ?_
  intro p e s m below meth c hx hb hml hown hts hr hlocks hmname hC H locs hG hS ls hl
  replace hl : lv_has ls 2 [(0, .ref (ad 5)), (1, .int p0)] := hl
  refine lv_aload_n hx hb dM_days_0 rfl (lv_at hl 0 rfl) ?_
  refine lv_iload_n hx hb dM_days_1 rfl (lv_at hl 1 rfl) ?_
  refine lv_iconst (v := 1) hx hb dM_days_2 (by decide) ?_
  refine lv_sipush (v := 200) hx hb dM_days_3 (by decide) ?_
  refine rcS1 (rest := [.ref (ad 5)]) (As := [.int p0, .int 1, .int 200]) hx hb hml hown hts (cM_isWithin l p0 1 200) (gS q_592 q_593 q_2 q_594) rfl rfl ⟨rfl, hdyM_isWithin⟩ ⟨Nat.le_of_ble_eq_true rfl, Nat.le_of_ble_eq_true rfl⟩ hl.1 rfl (Nat.le_of_ble_eq_true rfl) dM_days_6 ⟨Nat.le_of_ble_eq_true rfl, Nat.le_of_ble_eq_true rfl⟩ ?_
  refine lv_if_ne (tgt := 16) hx hb dM_days_9 (by decide) (fun c_1 => ?_) (fun c_1 => ?_)
  · refine lv_aload_n hx hb dM_days_16 rfl (lv_at hl 0 rfl) ?_
    refine rm_get (v := .int (sA 5 19)) hx hb hts hown hC hG 19 (by decide) q_529 (rfl) dM_days_17 ?_
    refine lv_iload_n hx hb dM_days_20 rfl (lv_at hl 1 rfl) ?_
    refine lv_iadd hx hb dM_days_21 ?_
    refine lv_sipush (v := 7300) hx hb dM_days_22 (by decide) ?_
    refine lv_icmp_le (tgt := 32) hx hb dM_days_25 (by decide) (fun c_2 => ?_) (fun c_2 => ?_)
    · refine lv_iconst (v := 0) hx hb dM_days_32 (by decide) ?_
      refine rm_puti hx hb hts hown hC hG hS 23 (by decide) q_533 dM_days_33 (fun H locs hG hS => ?_)
      refine lv_aload_n hx hb dM_days_36 rfl (lv_at hl 0 rfl) ?_
      refine lv_dup hx hb dM_days_37 rfl ?_
      refine rm_get (v := .int (sA 5 19)) hx hb hts hown hC hG 19 (by decide) q_529 (by simp [mfs, up2, upd, up2L, vp_updL]) dM_days_38 ?_
      refine lv_aload_n hx hb dM_days_41 rfl (lv_at hl 0 rfl) ?_
      refine rm_get (v := .int 0) hx hb hts hown hC hG 23 (by decide) q_533 (by simp [mfs, up2, upd, up2L, vp_updL]) dM_days_42 ?_
      refine lv_if_ne (tgt := 52) hx hb dM_days_45 (by decide) (fun c_3 => ?_) (fun c_3 => ?_)
      · exact absurd c_3 (by decide)
      · refine lv_iload_n hx hb dM_days_48 rfl (lv_at hl 1 rfl) ?_
        refine lv_goto (tgt := 53) hx hb dM_days_49 (by decide) ?_
        refine lv_iadd hx hb dM_days_53 ?_
        refine rm_puti hx hb hts hown hC hG hS 19 (by decide) q_529 dM_days_54 (fun H locs hG hS => ?_)
        refine lv_aload_n hx hb dM_days_57 rfl (lv_at hl 0 rfl) ?_
        refine rm_get (v := .int 0) hx hb hts hown hC hG 23 (by decide) q_533 (by simp [mfs, up2, upd, up2L, vp_updL]) dM_days_58 ?_
        refine lv_if_ne (tgt := 71) hx hb dM_days_61 (by decide) (fun c_4 => ?_) (fun c_4 => ?_)
        · exact absurd c_4 (by decide)
        · refine lv_aload_n hx hb dM_days_64 rfl (lv_at hl 0 rfl) ?_
          refine rm_get (v := .int ((sA 5 19) + p0)) hx hb hts hown hC hG 19 (by decide) q_529 (by simp [mfs, up2, upd, up2L, vp_updL]) dM_days_65 ?_
          refine lv_goto (tgt := 72) hx hb dM_days_68 (by decide) ?_
          refine W.widen (k := 0) (n := 0) (Nat.le_of_ble_eq_true rfl) (Nat.le_of_ble_eq_true rfl) ?_
          exact W.iret (v := (sA 5 19) + p0) hx hb hr (fun t ht hW => ⟨⟨((sA 5 19) + p0), (sL, (up2 (up2 sA 5 23 0) 5 19 ((sA 5 19) + p0))), rfl, (by rw [fM_days, if_neg c_1, if_pos c_2] <;> rfl), gw_at hG ht⟩, hS.F ht⟩) hS.2.2 dM_days_72
    · refine lv_iconst (v := 2) hx hb dM_days_28 (by decide) ?_
      refine lv_goto (tgt := 33) hx hb dM_days_29 (by decide) ?_
      refine rm_puti hx hb hts hown hC hG hS 23 (by decide) q_533 dM_days_33 (fun H locs hG hS => ?_)
      refine lv_aload_n hx hb dM_days_36 rfl (lv_at hl 0 rfl) ?_
      refine lv_dup hx hb dM_days_37 rfl ?_
      refine rm_get (v := .int (sA 5 19)) hx hb hts hown hC hG 19 (by decide) q_529 (by simp [mfs, up2, upd, up2L, vp_updL]) dM_days_38 ?_
      refine lv_aload_n hx hb dM_days_41 rfl (lv_at hl 0 rfl) ?_
      refine rm_get (v := .int 2) hx hb hts hown hC hG 23 (by decide) q_533 (by simp [mfs, up2, upd, up2L, vp_updL]) dM_days_42 ?_
      refine lv_if_ne (tgt := 52) hx hb dM_days_45 (by decide) (fun c_5 => ?_) (fun c_5 => ?_)
      · refine lv_iconst (v := 0) hx hb dM_days_52 (by decide) ?_
        refine lv_iadd hx hb dM_days_53 ?_
        refine rm_puti hx hb hts hown hC hG hS 19 (by decide) q_529 dM_days_54 (fun H locs hG hS => ?_)
        refine lv_aload_n hx hb dM_days_57 rfl (lv_at hl 0 rfl) ?_
        refine rm_get (v := .int 2) hx hb hts hown hC hG 23 (by decide) q_533 (by simp [mfs, up2, upd, up2L, vp_updL]) dM_days_58 ?_
        refine lv_if_ne (tgt := 71) hx hb dM_days_61 (by decide) (fun c_6 => ?_) (fun c_6 => ?_)
        · refine lv_iconst (v := 0) hx hb dM_days_71 (by decide) ?_
          refine W.widen (k := 0) (n := 0) (Nat.le_of_ble_eq_true rfl) (Nat.le_of_ble_eq_true rfl) ?_
          exact W.iret (v := 0) hx hb hr (fun t ht hW => ⟨⟨0, (sL, (up2 (up2 sA 5 23 2) 5 19 ((sA 5 19) + 0))), rfl, (by rw [fM_days, if_neg c_1, if_neg c_2] <;> rfl), gw_at hG ht⟩, hS.F ht⟩) hS.2.2 dM_days_72
        · exact absurd c_6 (by decide)
      · exact absurd c_5 (by decide)
  · refine lv_iconst (v := 1) hx hb dM_days_12 (by decide) ?_
    refine lv_goto (tgt := 33) hx hb dM_days_13 (by decide) ?_
    refine rm_puti hx hb hts hown hC hG hS 23 (by decide) q_533 dM_days_33 (fun H locs hG hS => ?_)
    refine lv_aload_n hx hb dM_days_36 rfl (lv_at hl 0 rfl) ?_
    refine lv_dup hx hb dM_days_37 rfl ?_
    refine rm_get (v := .int (sA 5 19)) hx hb hts hown hC hG 19 (by decide) q_529 (by simp [mfs, up2, upd, up2L, vp_updL]) dM_days_38 ?_
    refine lv_aload_n hx hb dM_days_41 rfl (lv_at hl 0 rfl) ?_
    refine rm_get (v := .int 1) hx hb hts hown hC hG 23 (by decide) q_533 (by simp [mfs, up2, upd, up2L, vp_updL]) dM_days_42 ?_
    refine lv_if_ne (tgt := 52) hx hb dM_days_45 (by decide) (fun c_7 => ?_) (fun c_7 => ?_)
    · refine lv_iconst (v := 0) hx hb dM_days_52 (by decide) ?_
      refine lv_iadd hx hb dM_days_53 ?_
      refine rm_puti hx hb hts hown hC hG hS 19 (by decide) q_529 dM_days_54 (fun H locs hG hS => ?_)
      refine lv_aload_n hx hb dM_days_57 rfl (lv_at hl 0 rfl) ?_
      refine rm_get (v := .int 1) hx hb hts hown hC hG 23 (by decide) q_533 (by simp [mfs, up2, upd, up2L, vp_updL]) dM_days_58 ?_
      refine lv_if_ne (tgt := 71) hx hb dM_days_61 (by decide) (fun c_8 => ?_) (fun c_8 => ?_)
      · refine lv_iconst (v := 0) hx hb dM_days_71 (by decide) ?_
        refine W.widen (k := 0) (n := 0) (Nat.le_of_ble_eq_true rfl) (Nat.le_of_ble_eq_true rfl) ?_
        exact W.iret (v := 0) hx hb hr (fun t ht hW => ⟨⟨0, (sL, (up2 (up2 sA 5 23 1) 5 19 ((sA 5 19) + 0))), rfl, (by rw [fM_days, if_pos c_1] <;> rfl), gw_at hG ht⟩, hS.F ht⟩) hS.2.2 dM_days_72
      · exact absurd c_8 (by decide)
    · exact absurd c_7 (by decide)
def fM_state (sL : NL) (sA : NA) (p0 : Int32) : Int32 × NL × NA := if ((fM_asksFor sL sA p0).1) = 0 then (0, (fM_asksFor sL sA p0).2.1, (fM_asksFor sL sA p0).2.2) else ((fM_asksFor sL sA p0).2.2 9 p0.toNatClampNeg, (fM_asksFor sL sA p0).2.1, (fM_asksFor sL sA p0).2.2)
theorem hdyM_state : yM_state.cls ≠ "java/lang/invoke/MethodHandle" ∧ yM_state.cls ≠ "java/lang/invoke/VarHandle" ∧ (parseMethodDescriptor yM_state.desc).map (fun d => d.parameters.length) = some 1 := by decide +kernel
theorem dM_state_0 : decode bM_state 0 = .ok (.aload_n 0, 1) := by decide +kernel
theorem dM_state_1 : decode bM_state 1 = .ok (.iload_n 1, 1) := by decide +kernel
theorem dM_state_2 : decode bM_state 2 = .ok (.invokevirtual 132, 3) := by decide +kernel
theorem dM_state_5 : decode bM_state 5 = .ok (.ifCond .eq 12, 3) := by decide +kernel
theorem dM_state_8 : decode bM_state 8 = .ok (.aload_n 0, 1) := by decide +kernel
theorem dM_state_9 : decode bM_state 9 = .ok (.getfield 19, 3) := by decide +kernel
theorem dM_state_12 : decode bM_state 12 = .ok (.iload_n 1, 1) := by decide +kernel
theorem dM_state_13 : decode bM_state 13 = .ok (.iaload, 1) := by decide +kernel
theorem dM_state_14 : decode bM_state 14 = .ok (.goto 4, 3) := by decide +kernel
theorem dM_state_17 : decode bM_state 17 = .ok (.iconst 0, 1) := by decide +kernel
theorem dM_state_18 : decode bM_state 18 = .ok (.ireturn, 1) := by decide +kernel
set_option maxHeartbeats 4000000 in
set_option maxRecDepth 100000 in
theorem cM_state (l : Launch) (D : va_G) (tI tJ tL : ClassId) (A : Nat → Prop) (sg ad : Nat → Nat) (n : Nat) (sL : NL) (sA : NA) (p0 : Int32) (nm : Nat) (hnm : nm ≤ 30) (hm : sA 5 0 = nI nm) : Met l yM_state (Cond.code yM_state bM_state 2 (some FieldType.int) :: wNeed) { frames := 3, cells := 0, slots := 0, locals := 64 } (va_Pc [.ref (ad 5), .int p0] (GP D tI tJ tL A sg ad n sL sA)) (va_Qi (fun r (u : NL × NA) => fM_state sL sA p0 = (r, u.1, u.2)) (fun u t => GW D tI tJ tL A ad n u.1 u.2 t.heap) A) 0 0 A := by
  refine en_G (av := [.ref (ad 5), .int p0]) (by decide) (Nat.le_of_ble_eq_true rfl) ?_
  intro p e s m below meth c hx hb hml hown hts hr hlocks hmname hC H locs hG hS ls hl
  replace hl : lv_has ls 2 [(0, .ref (ad 5)), (1, .int p0)] := hl
  refine lv_aload_n hx hb dM_state_0 rfl (lv_at hl 0 rfl) ?_
  refine lv_iload_n hx hb dM_state_1 rfl (lv_at hl 1 rfl) ?_
  refine rcV3 (rest := []) (As := [.int p0]) hx hb hml hown hts hC hG hS (cM_asksFor l D tI tJ tL A sg ad n sL sA p0) (recM hC hG) (gV q_696 q_698 q_p14 q_2 q_699) rfl rfl ⟨rfl, hdyM_asksFor⟩ ⟨Nat.le_of_ble_eq_true rfl, Nat.le_of_ble_eq_true rfl⟩ hl.1 rfl (Nat.le_of_ble_eq_true rfl) dM_state_2 ⟨Nat.le_of_ble_eq_true rfl, Nat.le_of_ble_eq_true rfl⟩ (fun H locs hG hS => ?_)
  refine lv_if_eq (tgt := 17) hx hb dM_state_5 (by decide) (fun c_1 => ?_) (fun c_1 => ?_)
  · refine lv_iconst (v := 0) hx hb dM_state_17 (by decide) ?_
    refine W.widen (k := 0) (n := 0) (Nat.le_of_ble_eq_true rfl) (Nat.le_of_ble_eq_true rfl) ?_
    exact W.iret (v := 0) hx hb hr (fun t ht hW => ⟨⟨0, ((fM_asksFor sL sA p0).2.1, (fM_asksFor sL sA p0).2.2), rfl, (by rw [fM_state, if_pos c_1] <;> rfl), gw_at hG ht⟩, hS.F ht⟩) hS.2.2 dM_state_18
  · refine lv_aload_n hx hb dM_state_8 rfl (lv_at hl 0 rfl) ?_
    refine rm_get (v := .ref (ad 9)) hx hb hts hown hC hG 4 (by decide) q_514 (rfl) dM_state_9 ?_
    refine lv_iload_n hx hb dM_state_12 rfl (lv_at hl 1 rfl) ?_
    refine ra_ld hx hb hC hG 9 30 (by omega) (fun _ _ => rfl) ((asks_in hnm hm c_1)) dM_state_13 ?_
    refine lv_goto (tgt := 18) hx hb dM_state_14 (by decide) ?_
    refine W.widen (k := 0) (n := 0) (Nat.le_of_ble_eq_true rfl) (Nat.le_of_ble_eq_true rfl) ?_
    exact W.iret (v := (fM_asksFor sL sA p0).2.2 9 p0.toNatClampNeg) hx hb hr (fun t ht hW => ⟨⟨((fM_asksFor sL sA p0).2.2 9 p0.toNatClampNeg), ((fM_asksFor sL sA p0).2.1, (fM_asksFor sL sA p0).2.2), rfl, (by rw [fM_state, if_neg c_1] <;> rfl), gw_at hG ht⟩, hS.F ht⟩) hS.2.2 dM_state_18
def fM_buyerOf (sL : NL) (sA : NA) (p0 : Int32) : Int32 × NL × NA := if ((fM_asksFor sL sA p0).1) = 0 then (0, (fM_asksFor sL sA p0).2.1, (fM_asksFor sL sA p0).2.2) else (if ((fM_asksFor sL sA p0).2.2 9 p0.toNatClampNeg) < 2 then ((-1), (fM_asksFor sL sA p0).2.1, (fM_asksFor sL sA p0).2.2) else ((fM_asksFor sL sA p0).2.2 10 p0.toNatClampNeg, (fM_asksFor sL sA p0).2.1, (fM_asksFor sL sA p0).2.2))
theorem hdyM_buyerOf : yM_buyerOf.cls ≠ "java/lang/invoke/MethodHandle" ∧ yM_buyerOf.cls ≠ "java/lang/invoke/VarHandle" ∧ (parseMethodDescriptor yM_buyerOf.desc).map (fun d => d.parameters.length) = some 1 := by decide +kernel
theorem dM_buyerOf_0 : decode bM_buyerOf 0 = .ok (.aload_n 0, 1) := by decide +kernel
theorem dM_buyerOf_1 : decode bM_buyerOf 1 = .ok (.iload_n 1, 1) := by decide +kernel
theorem dM_buyerOf_2 : decode bM_buyerOf 2 = .ok (.invokevirtual 132, 3) := by decide +kernel
theorem dM_buyerOf_5 : decode bM_buyerOf 5 = .ok (.ifCond .ne 7, 3) := by decide +kernel
theorem dM_buyerOf_8 : decode bM_buyerOf 8 = .ok (.iconst 0, 1) := by decide +kernel
theorem dM_buyerOf_9 : decode bM_buyerOf 9 = .ok (.goto 23, 3) := by decide +kernel
theorem dM_buyerOf_12 : decode bM_buyerOf 12 = .ok (.aload_n 0, 1) := by decide +kernel
theorem dM_buyerOf_13 : decode bM_buyerOf 13 = .ok (.getfield 19, 3) := by decide +kernel
theorem dM_buyerOf_16 : decode bM_buyerOf 16 = .ok (.iload_n 1, 1) := by decide +kernel
theorem dM_buyerOf_17 : decode bM_buyerOf 17 = .ok (.iaload, 1) := by decide +kernel
theorem dM_buyerOf_18 : decode bM_buyerOf 18 = .ok (.iconst 2, 1) := by decide +kernel
theorem dM_buyerOf_19 : decode bM_buyerOf 19 = .ok (.if_icmp .lt 12, 3) := by decide +kernel
theorem dM_buyerOf_22 : decode bM_buyerOf 22 = .ok (.aload_n 0, 1) := by decide +kernel
theorem dM_buyerOf_23 : decode bM_buyerOf 23 = .ok (.getfield 22, 3) := by decide +kernel
theorem dM_buyerOf_26 : decode bM_buyerOf 26 = .ok (.iload_n 1, 1) := by decide +kernel
theorem dM_buyerOf_27 : decode bM_buyerOf 27 = .ok (.iaload, 1) := by decide +kernel
theorem dM_buyerOf_28 : decode bM_buyerOf 28 = .ok (.goto 4, 3) := by decide +kernel
theorem dM_buyerOf_31 : decode bM_buyerOf 31 = .ok (.iconst (-1), 1) := by decide +kernel
theorem dM_buyerOf_32 : decode bM_buyerOf 32 = .ok (.ireturn, 1) := by decide +kernel
set_option maxHeartbeats 4000000 in
set_option maxRecDepth 100000 in
theorem cM_buyerOf (l : Launch) (D : va_G) (tI tJ tL : ClassId) (A : Nat → Prop) (sg ad : Nat → Nat) (n : Nat) (sL : NL) (sA : NA) (p0 : Int32) (nm : Nat) (hnm : nm ≤ 30) (hm : sA 5 0 = nI nm) : Met l yM_buyerOf (Cond.code yM_buyerOf bM_buyerOf 2 (some FieldType.int) :: wNeed) { frames := 3, cells := 0, slots := 0, locals := 64 } (va_Pc [.ref (ad 5), .int p0] (GP D tI tJ tL A sg ad n sL sA)) (va_Qi (fun r (u : NL × NA) => fM_buyerOf sL sA p0 = (r, u.1, u.2)) (fun u t => GW D tI tJ tL A ad n u.1 u.2 t.heap) A) 0 0 A := by
  refine en_G (av := [.ref (ad 5), .int p0]) (by decide) (Nat.le_of_ble_eq_true rfl) ?_
  intro p e s m below meth c hx hb hml hown hts hr hlocks hmname hC H locs hG hS ls hl
  replace hl : lv_has ls 2 [(0, .ref (ad 5)), (1, .int p0)] := hl
  refine lv_aload_n hx hb dM_buyerOf_0 rfl (lv_at hl 0 rfl) ?_
  refine lv_iload_n hx hb dM_buyerOf_1 rfl (lv_at hl 1 rfl) ?_
  refine rcV3 (rest := []) (As := [.int p0]) hx hb hml hown hts hC hG hS (cM_asksFor l D tI tJ tL A sg ad n sL sA p0) (recM hC hG) (gV q_696 q_698 q_p14 q_2 q_699) rfl rfl ⟨rfl, hdyM_asksFor⟩ ⟨Nat.le_of_ble_eq_true rfl, Nat.le_of_ble_eq_true rfl⟩ hl.1 rfl (Nat.le_of_ble_eq_true rfl) dM_buyerOf_2 ⟨Nat.le_of_ble_eq_true rfl, Nat.le_of_ble_eq_true rfl⟩ (fun H locs hG hS => ?_)
  refine lv_if_ne (tgt := 12) hx hb dM_buyerOf_5 (by decide) (fun c_1 => ?_) (fun c_1 => ?_)
  · refine lv_aload_n hx hb dM_buyerOf_12 rfl (lv_at hl 0 rfl) ?_
    refine rm_get (v := .ref (ad 9)) hx hb hts hown hC hG 4 (by decide) q_514 (rfl) dM_buyerOf_13 ?_
    refine lv_iload_n hx hb dM_buyerOf_16 rfl (lv_at hl 1 rfl) ?_
    refine ra_ld hx hb hC hG 9 30 (by omega) (fun _ _ => rfl) ((asks_in hnm hm c_1)) dM_buyerOf_17 ?_
    refine lv_iconst (v := 2) hx hb dM_buyerOf_18 (by decide) ?_
    refine lv_icmp_lt (tgt := 31) hx hb dM_buyerOf_19 (by decide) (fun c_2 => ?_) (fun c_2 => ?_)
    · refine lv_iconst (v := (-1)) hx hb dM_buyerOf_31 (by decide) ?_
      refine W.widen (k := 0) (n := 0) (Nat.le_of_ble_eq_true rfl) (Nat.le_of_ble_eq_true rfl) ?_
      exact W.iret (v := (-1)) hx hb hr (fun t ht hW => ⟨⟨(-1), ((fM_asksFor sL sA p0).2.1, (fM_asksFor sL sA p0).2.2), rfl, (by rw [fM_buyerOf, if_neg c_1, if_pos c_2] <;> rfl), gw_at hG ht⟩, hS.F ht⟩) hS.2.2 dM_buyerOf_32
    · refine lv_aload_n hx hb dM_buyerOf_22 rfl (lv_at hl 0 rfl) ?_
      refine rm_get (v := .ref (ad 10)) hx hb hts hown hC hG 5 (by decide) q_515 (rfl) dM_buyerOf_23 ?_
      refine lv_iload_n hx hb dM_buyerOf_26 rfl (lv_at hl 1 rfl) ?_
      refine ra_ld hx hb hC hG 10 30 (by omega) (fun _ _ => rfl) ((asks_in hnm hm c_1)) dM_buyerOf_27 ?_
      refine lv_goto (tgt := 32) hx hb dM_buyerOf_28 (by decide) ?_
      refine W.widen (k := 0) (n := 0) (Nat.le_of_ble_eq_true rfl) (Nat.le_of_ble_eq_true rfl) ?_
      exact W.iret (v := (fM_asksFor sL sA p0).2.2 10 p0.toNatClampNeg) hx hb hr (fun t ht hW => ⟨⟨((fM_asksFor sL sA p0).2.2 10 p0.toNatClampNeg), ((fM_asksFor sL sA p0).2.1, (fM_asksFor sL sA p0).2.2), rfl, (by rw [fM_buyerOf, if_neg c_1, if_neg c_2] <;> rfl), gw_at hG ht⟩, hS.F ht⟩) hS.2.2 dM_buyerOf_32
  · refine lv_iconst (v := 0) hx hb dM_buyerOf_8 (by decide) ?_
    refine lv_goto (tgt := 32) hx hb dM_buyerOf_9 (by decide) ?_
    refine W.widen (k := 0) (n := 0) (Nat.le_of_ble_eq_true rfl) (Nat.le_of_ble_eq_true rfl) ?_
    exact W.iret (v := 0) hx hb hr (fun t ht hW => ⟨⟨0, ((fM_asksFor sL sA p0).2.1, (fM_asksFor sL sA p0).2.2), rfl, (by rw [fM_buyerOf, if_pos c_1] <;> rfl), gw_at hG ht⟩, hS.F ht⟩) hS.2.2 dM_buyerOf_32
def fM_price (sL : NL) (sA : NA) (p0 : Int32) : Int32 × NL × NA := if ((fM_asksFor sL sA p0).1) = 0 then (0, (fM_asksFor sL sA p0).2.1, (fM_asksFor sL sA p0).2.2) else (if ((fM_asksFor sL sA p0).2.2 9 p0.toNatClampNeg) < 2 then ((-1), (fM_asksFor sL sA p0).2.1, (fM_asksFor sL sA p0).2.2) else ((fM_asksFor sL sA p0).2.2 11 p0.toNatClampNeg, (fM_asksFor sL sA p0).2.1, (fM_asksFor sL sA p0).2.2))
theorem hdyM_price : yM_price.cls ≠ "java/lang/invoke/MethodHandle" ∧ yM_price.cls ≠ "java/lang/invoke/VarHandle" ∧ (parseMethodDescriptor yM_price.desc).map (fun d => d.parameters.length) = some 1 := by decide +kernel
theorem dM_price_0 : decode bM_price 0 = .ok (.aload_n 0, 1) := by decide +kernel
theorem dM_price_1 : decode bM_price 1 = .ok (.iload_n 1, 1) := by decide +kernel
theorem dM_price_2 : decode bM_price 2 = .ok (.invokevirtual 132, 3) := by decide +kernel
theorem dM_price_5 : decode bM_price 5 = .ok (.ifCond .ne 7, 3) := by decide +kernel
theorem dM_price_8 : decode bM_price 8 = .ok (.iconst 0, 1) := by decide +kernel
theorem dM_price_9 : decode bM_price 9 = .ok (.goto 23, 3) := by decide +kernel
theorem dM_price_12 : decode bM_price 12 = .ok (.aload_n 0, 1) := by decide +kernel
theorem dM_price_13 : decode bM_price 13 = .ok (.getfield 19, 3) := by decide +kernel
theorem dM_price_16 : decode bM_price 16 = .ok (.iload_n 1, 1) := by decide +kernel
theorem dM_price_17 : decode bM_price 17 = .ok (.iaload, 1) := by decide +kernel
theorem dM_price_18 : decode bM_price 18 = .ok (.iconst 2, 1) := by decide +kernel
theorem dM_price_19 : decode bM_price 19 = .ok (.if_icmp .lt 12, 3) := by decide +kernel
theorem dM_price_22 : decode bM_price 22 = .ok (.aload_n 0, 1) := by decide +kernel
theorem dM_price_23 : decode bM_price 23 = .ok (.getfield 25, 3) := by decide +kernel
theorem dM_price_26 : decode bM_price 26 = .ok (.iload_n 1, 1) := by decide +kernel
theorem dM_price_27 : decode bM_price 27 = .ok (.iaload, 1) := by decide +kernel
theorem dM_price_28 : decode bM_price 28 = .ok (.goto 4, 3) := by decide +kernel
theorem dM_price_31 : decode bM_price 31 = .ok (.iconst (-1), 1) := by decide +kernel
theorem dM_price_32 : decode bM_price 32 = .ok (.ireturn, 1) := by decide +kernel
set_option maxHeartbeats 4000000 in
set_option maxRecDepth 100000 in
theorem cM_price (l : Launch) (D : va_G) (tI tJ tL : ClassId) (A : Nat → Prop) (sg ad : Nat → Nat) (n : Nat) (sL : NL) (sA : NA) (p0 : Int32) (nm : Nat) (hnm : nm ≤ 30) (hm : sA 5 0 = nI nm) : Met l yM_price (Cond.code yM_price bM_price 2 (some FieldType.int) :: wNeed) { frames := 3, cells := 0, slots := 0, locals := 64 } (va_Pc [.ref (ad 5), .int p0] (GP D tI tJ tL A sg ad n sL sA)) (va_Qi (fun r (u : NL × NA) => fM_price sL sA p0 = (r, u.1, u.2)) (fun u t => GW D tI tJ tL A ad n u.1 u.2 t.heap) A) 0 0 A := by
  refine en_G (av := [.ref (ad 5), .int p0]) (by decide) (Nat.le_of_ble_eq_true rfl) ?_
  intro p e s m below meth c hx hb hml hown hts hr hlocks hmname hC H locs hG hS ls hl
  replace hl : lv_has ls 2 [(0, .ref (ad 5)), (1, .int p0)] := hl
  refine lv_aload_n hx hb dM_price_0 rfl (lv_at hl 0 rfl) ?_
  refine lv_iload_n hx hb dM_price_1 rfl (lv_at hl 1 rfl) ?_
  refine rcV3 (rest := []) (As := [.int p0]) hx hb hml hown hts hC hG hS (cM_asksFor l D tI tJ tL A sg ad n sL sA p0) (recM hC hG) (gV q_696 q_698 q_p14 q_2 q_699) rfl rfl ⟨rfl, hdyM_asksFor⟩ ⟨Nat.le_of_ble_eq_true rfl, Nat.le_of_ble_eq_true rfl⟩ hl.1 rfl (Nat.le_of_ble_eq_true rfl) dM_price_2 ⟨Nat.le_of_ble_eq_true rfl, Nat.le_of_ble_eq_true rfl⟩ (fun H locs hG hS => ?_)
  refine lv_if_ne (tgt := 12) hx hb dM_price_5 (by decide) (fun c_1 => ?_) (fun c_1 => ?_)
  · refine lv_aload_n hx hb dM_price_12 rfl (lv_at hl 0 rfl) ?_
    refine rm_get (v := .ref (ad 9)) hx hb hts hown hC hG 4 (by decide) q_514 (rfl) dM_price_13 ?_
    refine lv_iload_n hx hb dM_price_16 rfl (lv_at hl 1 rfl) ?_
    refine ra_ld hx hb hC hG 9 30 (by omega) (fun _ _ => rfl) ((asks_in hnm hm c_1)) dM_price_17 ?_
    refine lv_iconst (v := 2) hx hb dM_price_18 (by decide) ?_
    refine lv_icmp_lt (tgt := 31) hx hb dM_price_19 (by decide) (fun c_2 => ?_) (fun c_2 => ?_)
    · refine lv_iconst (v := (-1)) hx hb dM_price_31 (by decide) ?_
      refine W.widen (k := 0) (n := 0) (Nat.le_of_ble_eq_true rfl) (Nat.le_of_ble_eq_true rfl) ?_
      exact W.iret (v := (-1)) hx hb hr (fun t ht hW => ⟨⟨(-1), ((fM_asksFor sL sA p0).2.1, (fM_asksFor sL sA p0).2.2), rfl, (by rw [fM_price, if_neg c_1, if_pos c_2] <;> rfl), gw_at hG ht⟩, hS.F ht⟩) hS.2.2 dM_price_32
    · refine lv_aload_n hx hb dM_price_22 rfl (lv_at hl 0 rfl) ?_
      refine rm_get (v := .ref (ad 11)) hx hb hts hown hC hG 6 (by decide) q_516 (rfl) dM_price_23 ?_
      refine lv_iload_n hx hb dM_price_26 rfl (lv_at hl 1 rfl) ?_
      refine ra_ld hx hb hC hG 11 30 (by omega) (fun _ _ => rfl) ((asks_in hnm hm c_1)) dM_price_27 ?_
      refine lv_goto (tgt := 32) hx hb dM_price_28 (by decide) ?_
      refine W.widen (k := 0) (n := 0) (Nat.le_of_ble_eq_true rfl) (Nat.le_of_ble_eq_true rfl) ?_
      exact W.iret (v := (fM_asksFor sL sA p0).2.2 11 p0.toNatClampNeg) hx hb hr (fun t ht hW => ⟨⟨((fM_asksFor sL sA p0).2.2 11 p0.toNatClampNeg), ((fM_asksFor sL sA p0).2.1, (fM_asksFor sL sA p0).2.2), rfl, (by rw [fM_price, if_neg c_1, if_neg c_2] <;> rfl), gw_at hG ht⟩, hS.F ht⟩) hS.2.2 dM_price_32
  · refine lv_iconst (v := 0) hx hb dM_price_8 (by decide) ?_
    refine lv_goto (tgt := 32) hx hb dM_price_9 (by decide) ?_
    refine W.widen (k := 0) (n := 0) (Nat.le_of_ble_eq_true rfl) (Nat.le_of_ble_eq_true rfl) ?_
    exact W.iret (v := 0) hx hb hr (fun t ht hW => ⟨⟨0, ((fM_asksFor sL sA p0).2.1, (fM_asksFor sL sA p0).2.2), rfl, (by rw [fM_price, if_pos c_1] <;> rfl), gw_at hG ht⟩, hS.F ht⟩) hS.2.2 dM_price_32
def fM_bids (sL : NL) (sA : NA) (p0 : Int32) : Int32 × NL × NA := if ((fM_asksFor sL sA p0).1) = 0 then (0, (fM_asksFor sL sA p0).2.1, (fM_asksFor sL sA p0).2.2) else (fM_bidMany ((fM_asksFor sL sA p0).2.1) ((fM_asksFor sL sA p0).2.2) p0, (fM_asksFor sL sA p0).2.1, (fM_asksFor sL sA p0).2.2)
theorem hdyM_bids : yM_bids.cls ≠ "java/lang/invoke/MethodHandle" ∧ yM_bids.cls ≠ "java/lang/invoke/VarHandle" ∧ (parseMethodDescriptor yM_bids.desc).map (fun d => d.parameters.length) = some 1 := by decide +kernel
theorem dM_bids_0 : decode bM_bids 0 = .ok (.aload_n 0, 1) := by decide +kernel
theorem dM_bids_1 : decode bM_bids 1 = .ok (.iload_n 1, 1) := by decide +kernel
theorem dM_bids_2 : decode bM_bids 2 = .ok (.invokevirtual 132, 3) := by decide +kernel
theorem dM_bids_5 : decode bM_bids 5 = .ok (.ifCond .eq 11, 3) := by decide +kernel
theorem dM_bids_8 : decode bM_bids 8 = .ok (.aload_n 0, 1) := by decide +kernel
theorem dM_bids_9 : decode bM_bids 9 = .ok (.iload_n 1, 1) := by decide +kernel
theorem dM_bids_10 : decode bM_bids 10 = .ok (.invokevirtual 104, 3) := by decide +kernel
theorem dM_bids_13 : decode bM_bids 13 = .ok (.goto 4, 3) := by decide +kernel
theorem dM_bids_16 : decode bM_bids 16 = .ok (.iconst 0, 1) := by decide +kernel
theorem dM_bids_17 : decode bM_bids 17 = .ok (.ireturn, 1) := by decide +kernel
set_option maxHeartbeats 4000000 in
set_option maxRecDepth 100000 in
theorem cM_bids (l : Launch) (D : va_G) (tI tJ tL : ClassId) (A : Nat → Prop) (sg ad : Nat → Nat) (n : Nat) (sL : NL) (sA : NA) (p0 : Int32) (nm : Nat) (hnm : nm ≤ 30) (hm : sA 5 0 = nI nm) : Met l yM_bids (Cond.code yM_bids bM_bids 2 (some FieldType.int) :: wNeed) { frames := 3, cells := 0, slots := 0, locals := 64 } (va_Pc [.ref (ad 5), .int p0] (GP D tI tJ tL A sg ad n sL sA)) (va_Qi (fun r (u : NL × NA) => fM_bids sL sA p0 = (r, u.1, u.2)) (fun u t => GW D tI tJ tL A ad n u.1 u.2 t.heap) A) 0 0 A := by
  refine en_G (av := [.ref (ad 5), .int p0]) (by decide) (Nat.le_of_ble_eq_true rfl) ?_
  intro p e s m below meth c hx hb hml hown hts hr hlocks hmname hC H locs hG hS ls hl
  replace hl : lv_has ls 2 [(0, .ref (ad 5)), (1, .int p0)] := hl
  refine lv_aload_n hx hb dM_bids_0 rfl (lv_at hl 0 rfl) ?_
  refine lv_iload_n hx hb dM_bids_1 rfl (lv_at hl 1 rfl) ?_
  refine rcV3 (rest := []) (As := [.int p0]) hx hb hml hown hts hC hG hS (cM_asksFor l D tI tJ tL A sg ad n sL sA p0) (recM hC hG) (gV q_696 q_698 q_p14 q_2 q_699) rfl rfl ⟨rfl, hdyM_asksFor⟩ ⟨Nat.le_of_ble_eq_true rfl, Nat.le_of_ble_eq_true rfl⟩ hl.1 rfl (Nat.le_of_ble_eq_true rfl) dM_bids_2 ⟨Nat.le_of_ble_eq_true rfl, Nat.le_of_ble_eq_true rfl⟩ (fun H locs hG hS => ?_)
  refine lv_if_eq (tgt := 16) hx hb dM_bids_5 (by decide) (fun c_1 => ?_) (fun c_1 => ?_)
  · refine lv_iconst (v := 0) hx hb dM_bids_16 (by decide) ?_
    refine W.widen (k := 0) (n := 0) (Nat.le_of_ble_eq_true rfl) (Nat.le_of_ble_eq_true rfl) ?_
    exact W.iret (v := 0) hx hb hr (fun t ht hW => ⟨⟨0, ((fM_asksFor sL sA p0).2.1, (fM_asksFor sL sA p0).2.2), rfl, (by rw [fM_bids, if_pos c_1] <;> rfl), gw_at hG ht⟩, hS.F ht⟩) hS.2.2 dM_bids_17
  · refine lv_aload_n hx hb dM_bids_8 rfl (lv_at hl 0 rfl) ?_
    refine lv_iload_n hx hb dM_bids_9 rfl (lv_at hl 1 rfl) ?_
    refine rcV2 (rest := []) (As := [.int p0]) hx hb hml hown hts hC hG hS (cM_bidMany l D tI tJ tL A sg ad n ((fM_asksFor sL sA p0).2.1) ((fM_asksFor sL sA p0).2.2) p0 (asks_in hnm hm c_1)) (recM hC hG) (gV q_632 q_634 q_p11 q_2 q_635) rfl rfl ⟨rfl, hdyM_bidMany⟩ ⟨Nat.le_of_ble_eq_true rfl, Nat.le_of_ble_eq_true rfl⟩ hl.1 rfl (Nat.le_of_ble_eq_true rfl) dM_bids_10 ⟨Nat.le_of_ble_eq_true rfl, Nat.le_of_ble_eq_true rfl⟩ ?_
    refine lv_goto (tgt := 17) hx hb dM_bids_13 (by decide) ?_
    refine W.widen (k := 0) (n := 0) (Nat.le_of_ble_eq_true rfl) (Nat.le_of_ble_eq_true rfl) ?_
    exact W.iret (v := fM_bidMany ((fM_asksFor sL sA p0).2.1) ((fM_asksFor sL sA p0).2.2) p0) hx hb hr (fun t ht hW => ⟨⟨(fM_bidMany ((fM_asksFor sL sA p0).2.1) ((fM_asksFor sL sA p0).2.2) p0), ((fM_asksFor sL sA p0).2.1, (fM_asksFor sL sA p0).2.2), rfl, (by rw [fM_bids, if_neg c_1] <;> rfl), gw_at hG ht⟩, hS.F ht⟩) hS.2.2 dM_bids_17
def fM_fee (sL : NL) (sA : NA) (p0 : Int32) : Int32 × NL × NA := if (fM_isWithin p0 0 1000000) = 0 then (0, sL, (up2 sA 5 23 1)) else (fM_feeFor p0, sL, (up2 sA 5 23 0))
theorem hdyM_fee : yM_fee.cls ≠ "java/lang/invoke/MethodHandle" ∧ yM_fee.cls ≠ "java/lang/invoke/VarHandle" ∧ (parseMethodDescriptor yM_fee.desc).map (fun d => d.parameters.length) = some 1 := by decide +kernel
theorem dM_fee_0 : decode bM_fee 0 = .ok (.aload_n 0, 1) := by decide +kernel
theorem dM_fee_1 : decode bM_fee 1 = .ok (.iload_n 1, 1) := by decide +kernel
theorem dM_fee_2 : decode bM_fee 2 = .ok (.iconst 0, 1) := by decide +kernel
theorem dM_fee_3 : decode bM_fee 3 = .ok (.ldc 76, 2) := by decide +kernel
theorem dM_fee_5 : decode bM_fee 5 = .ok (.invokestatic 68, 3) := by decide +kernel
theorem dM_fee_8 : decode bM_fee 8 = .ok (.ifCond .eq 7, 3) := by decide +kernel
theorem dM_fee_11 : decode bM_fee 11 = .ok (.iconst 0, 1) := by decide +kernel
theorem dM_fee_12 : decode bM_fee 12 = .ok (.goto 4, 3) := by decide +kernel
theorem dM_fee_15 : decode bM_fee 15 = .ok (.iconst 1, 1) := by decide +kernel
theorem dM_fee_16 : decode bM_fee 16 = .ok (.putfield 62, 3) := by decide +kernel
theorem dM_fee_19 : decode bM_fee 19 = .ok (.aload_n 0, 1) := by decide +kernel
theorem dM_fee_20 : decode bM_fee 20 = .ok (.getfield 62, 3) := by decide +kernel
theorem dM_fee_23 : decode bM_fee 23 = .ok (.ifCond .ne 10, 3) := by decide +kernel
theorem dM_fee_26 : decode bM_fee 26 = .ok (.iload_n 1, 1) := by decide +kernel
theorem dM_fee_27 : decode bM_fee 27 = .ok (.invokestatic 111, 3) := by decide +kernel
theorem dM_fee_30 : decode bM_fee 30 = .ok (.goto 4, 3) := by decide +kernel
theorem dM_fee_33 : decode bM_fee 33 = .ok (.iconst 0, 1) := by decide +kernel
theorem dM_fee_34 : decode bM_fee 34 = .ok (.ireturn, 1) := by decide +kernel
set_option maxHeartbeats 4000000 in
set_option maxRecDepth 100000 in
theorem cM_fee (l : Launch) (D : va_G) (tI tJ tL : ClassId) (A : Nat → Prop) (sg ad : Nat → Nat) (n : Nat) (sL : NL) (sA : NA) (p0 : Int32) : Met l yM_fee (Cond.code yM_fee bM_fee 2 (some FieldType.int) :: wNeed) { frames := 1, cells := 0, slots := 0, locals := 23 } (va_Pc [.ref (ad 5), .int p0] (GP D tI tJ tL A sg ad n sL sA)) (va_Qi (fun r (u : NL × NA) => fM_fee sL sA p0 = (r, u.1, u.2)) (fun u t => GW D tI tJ tL A ad n u.1 u.2 t.heap) A) 0 0 A := by
  refine en_G (av := [.ref (ad 5), .int p0]) (by decide) (Nat.le_of_ble_eq_true rfl) ?_
  intro p e s m below meth c hx hb hml hown hts hr hlocks hmname hC H locs hG hS ls hl
  replace hl : lv_has ls 2 [(0, .ref (ad 5)), (1, .int p0)] := hl
  refine lv_aload_n hx hb dM_fee_0 rfl (lv_at hl 0 rfl) ?_
  refine lv_iload_n hx hb dM_fee_1 rfl (lv_at hl 1 rfl) ?_
  refine lv_iconst (v := 0) hx hb dM_fee_2 (by decide) ?_
  refine lv_ldc (v := 1000000) hx hb hown (hts _ q_591) dM_fee_3 ?_
  refine rcS1 (rest := [.ref (ad 5)]) (As := [.int p0, .int 0, .int 1000000]) hx hb hml hown hts (cM_isWithin l p0 0 1000000) (gS q_592 q_593 q_2 q_594) rfl rfl ⟨rfl, hdyM_isWithin⟩ ⟨Nat.le_of_ble_eq_true rfl, Nat.le_of_ble_eq_true rfl⟩ hl.1 rfl (Nat.le_of_ble_eq_true rfl) dM_fee_5 ⟨Nat.le_of_ble_eq_true rfl, Nat.le_of_ble_eq_true rfl⟩ ?_
  refine lv_if_eq (tgt := 15) hx hb dM_fee_8 (by decide) (fun c_1 => ?_) (fun c_1 => ?_)
  · refine lv_iconst (v := 1) hx hb dM_fee_15 (by decide) ?_
    refine rm_puti hx hb hts hown hC hG hS 23 (by decide) q_533 dM_fee_16 (fun H locs hG hS => ?_)
    refine lv_aload_n hx hb dM_fee_19 rfl (lv_at hl 0 rfl) ?_
    refine rm_get (v := .int 1) hx hb hts hown hC hG 23 (by decide) q_533 (by simp [mfs, up2, upd, up2L, vp_updL]) dM_fee_20 ?_
    refine lv_if_ne (tgt := 33) hx hb dM_fee_23 (by decide) (fun c_2 => ?_) (fun c_2 => ?_)
    · refine lv_iconst (v := 0) hx hb dM_fee_33 (by decide) ?_
      refine W.widen (k := 0) (n := 0) (Nat.le_of_ble_eq_true rfl) (Nat.le_of_ble_eq_true rfl) ?_
      exact W.iret (v := 0) hx hb hr (fun t ht hW => ⟨⟨0, (sL, (up2 sA 5 23 1)), rfl, (by rw [fM_fee, if_pos c_1] <;> rfl), gw_at hG ht⟩, hS.F ht⟩) hS.2.2 dM_fee_34
    · exact absurd c_2 (by decide)
  · refine lv_iconst (v := 0) hx hb dM_fee_11 (by decide) ?_
    refine lv_goto (tgt := 16) hx hb dM_fee_12 (by decide) ?_
    refine rm_puti hx hb hts hown hC hG hS 23 (by decide) q_533 dM_fee_16 (fun H locs hG hS => ?_)
    refine lv_aload_n hx hb dM_fee_19 rfl (lv_at hl 0 rfl) ?_
    refine rm_get (v := .int 0) hx hb hts hown hC hG 23 (by decide) q_533 (by simp [mfs, up2, upd, up2L, vp_updL]) dM_fee_20 ?_
    refine lv_if_ne (tgt := 33) hx hb dM_fee_23 (by decide) (fun c_3 => ?_) (fun c_3 => ?_)
    · exact absurd c_3 (by decide)
    · refine lv_iload_n hx hb dM_fee_26 rfl (lv_at hl 1 rfl) ?_
      refine rcS1 (rest := []) (As := [.int p0]) hx hb hml hown hts (cM_feeFor l p0) (gS q_648 q_649 q_2 q_650) rfl rfl ⟨rfl, hdyM_feeFor⟩ ⟨Nat.le_of_ble_eq_true rfl, Nat.le_of_ble_eq_true rfl⟩ hl.1 rfl (Nat.le_of_ble_eq_true rfl) dM_fee_27 ⟨Nat.le_of_ble_eq_true rfl, Nat.le_of_ble_eq_true rfl⟩ ?_
      refine lv_goto (tgt := 34) hx hb dM_fee_30 (by decide) ?_
      refine W.widen (k := 0) (n := 0) (Nat.le_of_ble_eq_true rfl) (Nat.le_of_ble_eq_true rfl) ?_
      exact W.iret (v := fM_feeFor p0) hx hb hr (fun t ht hW => ⟨⟨(fM_feeFor p0), (sL, (up2 sA 5 23 0)), rfl, (by rw [fM_fee, if_neg c_1] <;> rfl), gw_at hG ht⟩, hS.F ht⟩) hS.2.2 dM_fee_34
def fM_share (sL : NL) (sA : NA) (p0 : Int32) : Int32 × NL × NA := if ((fM_asksFor sL sA p0).1) = 0 then (0, (fM_asksFor sL sA p0).2.1, (fM_asksFor sL sA p0).2.2) else (if ((fM_asksFor sL sA p0).2.2 9 p0.toNatClampNeg) < 2 then (0, (fM_asksFor sL sA p0).2.1, (fM_asksFor sL sA p0).2.2) else (fM_shareFor ((fM_asksFor sL sA p0).2.1) ((fM_asksFor sL sA p0).2.2) p0, (fM_asksFor sL sA p0).2.1, (fM_asksFor sL sA p0).2.2))
theorem hdyM_share : yM_share.cls ≠ "java/lang/invoke/MethodHandle" ∧ yM_share.cls ≠ "java/lang/invoke/VarHandle" ∧ (parseMethodDescriptor yM_share.desc).map (fun d => d.parameters.length) = some 1 := by decide +kernel
theorem dM_share_0 : decode bM_share 0 = .ok (.aload_n 0, 1) := by decide +kernel
theorem dM_share_1 : decode bM_share 1 = .ok (.iload_n 1, 1) := by decide +kernel
theorem dM_share_2 : decode bM_share 2 = .ok (.invokevirtual 132, 3) := by decide +kernel
theorem dM_share_5 : decode bM_share 5 = .ok (.ifCond .eq 21, 3) := by decide +kernel
theorem dM_share_8 : decode bM_share 8 = .ok (.aload_n 0, 1) := by decide +kernel
theorem dM_share_9 : decode bM_share 9 = .ok (.getfield 19, 3) := by decide +kernel
theorem dM_share_12 : decode bM_share 12 = .ok (.iload_n 1, 1) := by decide +kernel
theorem dM_share_13 : decode bM_share 13 = .ok (.iaload, 1) := by decide +kernel
theorem dM_share_14 : decode bM_share 14 = .ok (.iconst 2, 1) := by decide +kernel
theorem dM_share_15 : decode bM_share 15 = .ok (.if_icmp .lt 11, 3) := by decide +kernel
theorem dM_share_18 : decode bM_share 18 = .ok (.aload_n 0, 1) := by decide +kernel
theorem dM_share_19 : decode bM_share 19 = .ok (.iload_n 1, 1) := by decide +kernel
theorem dM_share_20 : decode bM_share 20 = .ok (.invokevirtual 129, 3) := by decide +kernel
theorem dM_share_23 : decode bM_share 23 = .ok (.goto 4, 3) := by decide +kernel
theorem dM_share_26 : decode bM_share 26 = .ok (.iconst 0, 1) := by decide +kernel
theorem dM_share_27 : decode bM_share 27 = .ok (.ireturn, 1) := by decide +kernel
set_option maxHeartbeats 4000000 in
set_option maxRecDepth 100000 in
theorem cM_share (l : Launch) (D : va_G) (tI tJ tL : ClassId) (A : Nat → Prop) (sg ad : Nat → Nat) (n : Nat) (sL : NL) (sA : NA) (p0 : Int32) (nm : Nat) (hnm : nm ≤ 30) (hm : sA 5 0 = nI nm) : Met l yM_share (Cond.code yM_share bM_share 2 (some FieldType.int) :: wNeed) { frames := 3, cells := 0, slots := 0, locals := 64 } (va_Pc [.ref (ad 5), .int p0] (GP D tI tJ tL A sg ad n sL sA)) (va_Qi (fun r (u : NL × NA) => fM_share sL sA p0 = (r, u.1, u.2)) (fun u t => GW D tI tJ tL A ad n u.1 u.2 t.heap) A) 0 0 A := by
  refine en_G (av := [.ref (ad 5), .int p0]) (by decide) (Nat.le_of_ble_eq_true rfl) ?_
  intro p e s m below meth c hx hb hml hown hts hr hlocks hmname hC H locs hG hS ls hl
  replace hl : lv_has ls 2 [(0, .ref (ad 5)), (1, .int p0)] := hl
  refine lv_aload_n hx hb dM_share_0 rfl (lv_at hl 0 rfl) ?_
  refine lv_iload_n hx hb dM_share_1 rfl (lv_at hl 1 rfl) ?_
  refine rcV3 (rest := []) (As := [.int p0]) hx hb hml hown hts hC hG hS (cM_asksFor l D tI tJ tL A sg ad n sL sA p0) (recM hC hG) (gV q_696 q_698 q_p14 q_2 q_699) rfl rfl ⟨rfl, hdyM_asksFor⟩ ⟨Nat.le_of_ble_eq_true rfl, Nat.le_of_ble_eq_true rfl⟩ hl.1 rfl (Nat.le_of_ble_eq_true rfl) dM_share_2 ⟨Nat.le_of_ble_eq_true rfl, Nat.le_of_ble_eq_true rfl⟩ (fun H locs hG hS => ?_)
  refine lv_if_eq (tgt := 26) hx hb dM_share_5 (by decide) (fun c_1 => ?_) (fun c_1 => ?_)
  · refine lv_iconst (v := 0) hx hb dM_share_26 (by decide) ?_
    refine W.widen (k := 0) (n := 0) (Nat.le_of_ble_eq_true rfl) (Nat.le_of_ble_eq_true rfl) ?_
    exact W.iret (v := 0) hx hb hr (fun t ht hW => ⟨⟨0, ((fM_asksFor sL sA p0).2.1, (fM_asksFor sL sA p0).2.2), rfl, (by rw [fM_share, if_pos c_1] <;> rfl), gw_at hG ht⟩, hS.F ht⟩) hS.2.2 dM_share_27
  · refine lv_aload_n hx hb dM_share_8 rfl (lv_at hl 0 rfl) ?_
    refine rm_get (v := .ref (ad 9)) hx hb hts hown hC hG 4 (by decide) q_514 (rfl) dM_share_9 ?_
    refine lv_iload_n hx hb dM_share_12 rfl (lv_at hl 1 rfl) ?_
    refine ra_ld hx hb hC hG 9 30 (by omega) (fun _ _ => rfl) ((asks_in hnm hm c_1)) dM_share_13 ?_
    refine lv_iconst (v := 2) hx hb dM_share_14 (by decide) ?_
    refine lv_icmp_lt (tgt := 26) hx hb dM_share_15 (by decide) (fun c_2 => ?_) (fun c_2 => ?_)
    · refine lv_iconst (v := 0) hx hb dM_share_26 (by decide) ?_
      refine W.widen (k := 0) (n := 0) (Nat.le_of_ble_eq_true rfl) (Nat.le_of_ble_eq_true rfl) ?_
      exact W.iret (v := 0) hx hb hr (fun t ht hW => ⟨⟨0, ((fM_asksFor sL sA p0).2.1, (fM_asksFor sL sA p0).2.2), rfl, (by rw [fM_share, if_neg c_1, if_pos c_2] <;> rfl), gw_at hG ht⟩, hS.F ht⟩) hS.2.2 dM_share_27
    · refine lv_aload_n hx hb dM_share_18 rfl (lv_at hl 0 rfl) ?_
      refine lv_iload_n hx hb dM_share_19 rfl (lv_at hl 1 rfl) ?_
      refine rcV2 (rest := []) (As := [.int p0]) hx hb hml hown hts hC hG hS (cM_shareFor l D tI tJ tL A sg ad n ((fM_asksFor sL sA p0).2.1) ((fM_asksFor sL sA p0).2.2) p0 (asks_in hnm hm c_1)) (recM hC hG) (gV q_674 q_676 q_p13 q_2 q_677) rfl rfl ⟨rfl, hdyM_shareFor⟩ ⟨Nat.le_of_ble_eq_true rfl, Nat.le_of_ble_eq_true rfl⟩ hl.1 rfl (Nat.le_of_ble_eq_true rfl) dM_share_20 ⟨Nat.le_of_ble_eq_true rfl, Nat.le_of_ble_eq_true rfl⟩ ?_
      refine lv_goto (tgt := 27) hx hb dM_share_23 (by decide) ?_
      refine W.widen (k := 0) (n := 0) (Nat.le_of_ble_eq_true rfl) (Nat.le_of_ble_eq_true rfl) ?_
      exact W.iret (v := fM_shareFor ((fM_asksFor sL sA p0).2.1) ((fM_asksFor sL sA p0).2.2) p0) hx hb hr (fun t ht hW => ⟨⟨(fM_shareFor ((fM_asksFor sL sA p0).2.1) ((fM_asksFor sL sA p0).2.2) p0), ((fM_asksFor sL sA p0).2.1, (fM_asksFor sL sA p0).2.2), rfl, (by rw [fM_share, if_neg c_1, if_neg c_2] <;> rfl), gw_at hG ht⟩, hS.F ht⟩) hS.2.2 dM_share_27
def fM_interest (sL : NL) (sA : NA) (p0 : Int32) : Int32 × NL × NA := if ((fM_asksFor sL sA p0).1) = 0 then (0, (fM_asksFor sL sA p0).2.1, (fM_asksFor sL sA p0).2.2) else (fM_interestFor ((fM_asksFor sL sA p0).2.1) ((fM_asksFor sL sA p0).2.2) p0, (fM_asksFor sL sA p0).2.1, (fM_asksFor sL sA p0).2.2)
theorem hdyM_interest : yM_interest.cls ≠ "java/lang/invoke/MethodHandle" ∧ yM_interest.cls ≠ "java/lang/invoke/VarHandle" ∧ (parseMethodDescriptor yM_interest.desc).map (fun d => d.parameters.length) = some 1 := by decide +kernel
theorem dM_interest_0 : decode bM_interest 0 = .ok (.aload_n 0, 1) := by decide +kernel
theorem dM_interest_1 : decode bM_interest 1 = .ok (.iload_n 1, 1) := by decide +kernel
theorem dM_interest_2 : decode bM_interest 2 = .ok (.invokevirtual 132, 3) := by decide +kernel
theorem dM_interest_5 : decode bM_interest 5 = .ok (.ifCond .eq 11, 3) := by decide +kernel
theorem dM_interest_8 : decode bM_interest 8 = .ok (.aload_n 0, 1) := by decide +kernel
theorem dM_interest_9 : decode bM_interest 9 = .ok (.iload_n 1, 1) := by decide +kernel
theorem dM_interest_10 : decode bM_interest 10 = .ok (.invokevirtual 126, 3) := by decide +kernel
theorem dM_interest_13 : decode bM_interest 13 = .ok (.goto 4, 3) := by decide +kernel
theorem dM_interest_16 : decode bM_interest 16 = .ok (.iconst 0, 1) := by decide +kernel
theorem dM_interest_17 : decode bM_interest 17 = .ok (.ireturn, 1) := by decide +kernel
set_option maxHeartbeats 4000000 in
set_option maxRecDepth 100000 in
theorem cM_interest (l : Launch) (D : va_G) (tI tJ tL : ClassId) (A : Nat → Prop) (sg ad : Nat → Nat) (n : Nat) (sL : NL) (sA : NA) (p0 : Int32) (nm : Nat) (hnm : nm ≤ 30) (hm : sA 5 0 = nI nm) : Met l yM_interest (Cond.code yM_interest bM_interest 2 (some FieldType.int) :: wNeed) { frames := 3, cells := 0, slots := 0, locals := 64 } (va_Pc [.ref (ad 5), .int p0] (GP D tI tJ tL A sg ad n sL sA)) (va_Qi (fun r (u : NL × NA) => fM_interest sL sA p0 = (r, u.1, u.2)) (fun u t => GW D tI tJ tL A ad n u.1 u.2 t.heap) A) 0 0 A := by
  refine en_G (av := [.ref (ad 5), .int p0]) (by decide) (Nat.le_of_ble_eq_true rfl) ?_
  intro p e s m below meth c hx hb hml hown hts hr hlocks hmname hC H locs hG hS ls hl
  replace hl : lv_has ls 2 [(0, .ref (ad 5)), (1, .int p0)] := hl
  refine lv_aload_n hx hb dM_interest_0 rfl (lv_at hl 0 rfl) ?_
  refine lv_iload_n hx hb dM_interest_1 rfl (lv_at hl 1 rfl) ?_
  refine rcV3 (rest := []) (As := [.int p0]) hx hb hml hown hts hC hG hS (cM_asksFor l D tI tJ tL A sg ad n sL sA p0) (recM hC hG) (gV q_696 q_698 q_p14 q_2 q_699) rfl rfl ⟨rfl, hdyM_asksFor⟩ ⟨Nat.le_of_ble_eq_true rfl, Nat.le_of_ble_eq_true rfl⟩ hl.1 rfl (Nat.le_of_ble_eq_true rfl) dM_interest_2 ⟨Nat.le_of_ble_eq_true rfl, Nat.le_of_ble_eq_true rfl⟩ (fun H locs hG hS => ?_)
  refine lv_if_eq (tgt := 16) hx hb dM_interest_5 (by decide) (fun c_1 => ?_) (fun c_1 => ?_)
  · refine lv_iconst (v := 0) hx hb dM_interest_16 (by decide) ?_
    refine W.widen (k := 0) (n := 0) (Nat.le_of_ble_eq_true rfl) (Nat.le_of_ble_eq_true rfl) ?_
    exact W.iret (v := 0) hx hb hr (fun t ht hW => ⟨⟨0, ((fM_asksFor sL sA p0).2.1, (fM_asksFor sL sA p0).2.2), rfl, (by rw [fM_interest, if_pos c_1] <;> rfl), gw_at hG ht⟩, hS.F ht⟩) hS.2.2 dM_interest_17
  · refine lv_aload_n hx hb dM_interest_8 rfl (lv_at hl 0 rfl) ?_
    refine lv_iload_n hx hb dM_interest_9 rfl (lv_at hl 1 rfl) ?_
    refine rcV2 (rest := []) (As := [.int p0]) hx hb hml hown hts hC hG hS (cM_interestFor l D tI tJ tL A sg ad n ((fM_asksFor sL sA p0).2.1) ((fM_asksFor sL sA p0).2.2) p0 (asks_in hnm hm c_1)) (recM hC hG) (gV q_669 q_671 q_p12 q_2 q_672) rfl rfl ⟨rfl, hdyM_interestFor⟩ ⟨Nat.le_of_ble_eq_true rfl, Nat.le_of_ble_eq_true rfl⟩ hl.1 rfl (Nat.le_of_ble_eq_true rfl) dM_interest_10 ⟨Nat.le_of_ble_eq_true rfl, Nat.le_of_ble_eq_true rfl⟩ ?_
    refine lv_goto (tgt := 17) hx hb dM_interest_13 (by decide) ?_
    refine W.widen (k := 0) (n := 0) (Nat.le_of_ble_eq_true rfl) (Nat.le_of_ble_eq_true rfl) ?_
    exact W.iret (v := fM_interestFor ((fM_asksFor sL sA p0).2.1) ((fM_asksFor sL sA p0).2.2) p0) hx hb hr (fun t ht hW => ⟨⟨(fM_interestFor ((fM_asksFor sL sA p0).2.1) ((fM_asksFor sL sA p0).2.2) p0), ((fM_asksFor sL sA p0).2.1, (fM_asksFor sL sA p0).2.2), rfl, (by rw [fM_interest, if_neg c_1] <;> rfl), gw_at hG ht⟩, hS.F ht⟩) hS.2.2 dM_interest_17
def fM_owes (sL : NL) (sA : NA) (p0 : Int32) : Int32 × NL × NA := if (fM_isBuyer p0) = 0 then (0, sL, (up2 sA 5 23 1)) else (sA 20 p0.toNatClampNeg, sL, (up2 sA 5 23 0))
theorem hdyM_owes : yM_owes.cls ≠ "java/lang/invoke/MethodHandle" ∧ yM_owes.cls ≠ "java/lang/invoke/VarHandle" ∧ (parseMethodDescriptor yM_owes.desc).map (fun d => d.parameters.length) = some 1 := by decide +kernel
theorem dM_owes_0 : decode bM_owes 0 = .ok (.aload_n 0, 1) := by decide +kernel
theorem dM_owes_1 : decode bM_owes 1 = .ok (.iload_n 1, 1) := by decide +kernel
theorem dM_owes_2 : decode bM_owes 2 = .ok (.invokestatic 88, 3) := by decide +kernel
theorem dM_owes_5 : decode bM_owes 5 = .ok (.ifCond .eq 7, 3) := by decide +kernel
theorem dM_owes_8 : decode bM_owes 8 = .ok (.iconst 0, 1) := by decide +kernel
theorem dM_owes_9 : decode bM_owes 9 = .ok (.goto 4, 3) := by decide +kernel
theorem dM_owes_12 : decode bM_owes 12 = .ok (.iconst 1, 1) := by decide +kernel
theorem dM_owes_13 : decode bM_owes 13 = .ok (.putfield 62, 3) := by decide +kernel
theorem dM_owes_16 : decode bM_owes 16 = .ok (.aload_n 0, 1) := by decide +kernel
theorem dM_owes_17 : decode bM_owes 17 = .ok (.getfield 62, 3) := by decide +kernel
theorem dM_owes_20 : decode bM_owes 20 = .ok (.ifCond .ne 12, 3) := by decide +kernel
theorem dM_owes_23 : decode bM_owes 23 = .ok (.aload_n 0, 1) := by decide +kernel
theorem dM_owes_24 : decode bM_owes 24 = .ok (.getfield 52, 3) := by decide +kernel
theorem dM_owes_27 : decode bM_owes 27 = .ok (.iload_n 1, 1) := by decide +kernel
theorem dM_owes_28 : decode bM_owes 28 = .ok (.iaload, 1) := by decide +kernel
theorem dM_owes_29 : decode bM_owes 29 = .ok (.goto 4, 3) := by decide +kernel
theorem dM_owes_32 : decode bM_owes 32 = .ok (.iconst 0, 1) := by decide +kernel
theorem dM_owes_33 : decode bM_owes 33 = .ok (.ireturn, 1) := by decide +kernel
set_option maxHeartbeats 4000000 in
set_option maxRecDepth 100000 in
theorem cM_owes (l : Launch) (D : va_G) (tI tJ tL : ClassId) (A : Nat → Prop) (sg ad : Nat → Nat) (n : Nat) (sL : NL) (sA : NA) (p0 : Int32) : Met l yM_owes (Cond.code yM_owes bM_owes 2 (some FieldType.int) :: wNeed) { frames := 2, cells := 0, slots := 0, locals := 42 } (va_Pc [.ref (ad 5), .int p0] (GP D tI tJ tL A sg ad n sL sA)) (va_Qi (fun r (u : NL × NA) => fM_owes sL sA p0 = (r, u.1, u.2)) (fun u t => GW D tI tJ tL A ad n u.1 u.2 t.heap) A) 0 0 A := by
  refine en_G (av := [.ref (ad 5), .int p0]) (by decide) (Nat.le_of_ble_eq_true rfl) ?_
  intro p e s m below meth c hx hb hml hown hts hr hlocks hmname hC H locs hG hS ls hl
  replace hl : lv_has ls 2 [(0, .ref (ad 5)), (1, .int p0)] := hl
  refine lv_aload_n hx hb dM_owes_0 rfl (lv_at hl 0 rfl) ?_
  refine lv_iload_n hx hb dM_owes_1 rfl (lv_at hl 1 rfl) ?_
  refine rcS1 (rest := [.ref (ad 5)]) (As := [.int p0]) hx hb hml hown hts (cM_isBuyer l p0) (gS q_613 q_614 q_2 q_615) rfl rfl ⟨rfl, hdyM_isBuyer⟩ ⟨Nat.le_of_ble_eq_true rfl, Nat.le_of_ble_eq_true rfl⟩ hl.1 rfl (Nat.le_of_ble_eq_true rfl) dM_owes_2 ⟨Nat.le_of_ble_eq_true rfl, Nat.le_of_ble_eq_true rfl⟩ ?_
  refine lv_if_eq (tgt := 12) hx hb dM_owes_5 (by decide) (fun c_1 => ?_) (fun c_1 => ?_)
  · refine lv_iconst (v := 1) hx hb dM_owes_12 (by decide) ?_
    refine rm_puti hx hb hts hown hC hG hS 23 (by decide) q_533 dM_owes_13 (fun H locs hG hS => ?_)
    refine lv_aload_n hx hb dM_owes_16 rfl (lv_at hl 0 rfl) ?_
    refine rm_get (v := .int 1) hx hb hts hown hC hG 23 (by decide) q_533 (by simp [mfs, up2, upd, up2L, vp_updL]) dM_owes_17 ?_
    refine lv_if_ne (tgt := 32) hx hb dM_owes_20 (by decide) (fun c_2 => ?_) (fun c_2 => ?_)
    · refine lv_iconst (v := 0) hx hb dM_owes_32 (by decide) ?_
      refine W.widen (k := 0) (n := 0) (Nat.le_of_ble_eq_true rfl) (Nat.le_of_ble_eq_true rfl) ?_
      exact W.iret (v := 0) hx hb hr (fun t ht hW => ⟨⟨0, (sL, (up2 sA 5 23 1)), rfl, (by rw [fM_owes, if_pos c_1] <;> rfl), gw_at hG ht⟩, hS.F ht⟩) hS.2.2 dM_owes_33
    · exact absurd c_2 (by decide)
  · refine lv_iconst (v := 0) hx hb dM_owes_8 (by decide) ?_
    refine lv_goto (tgt := 13) hx hb dM_owes_9 (by decide) ?_
    refine rm_puti hx hb hts hown hC hG hS 23 (by decide) q_533 dM_owes_13 (fun H locs hG hS => ?_)
    refine lv_aload_n hx hb dM_owes_16 rfl (lv_at hl 0 rfl) ?_
    refine rm_get (v := .int 0) hx hb hts hown hC hG 23 (by decide) q_533 (by simp [mfs, up2, upd, up2L, vp_updL]) dM_owes_17 ?_
    refine lv_if_ne (tgt := 32) hx hb dM_owes_20 (by decide) (fun c_3 => ?_) (fun c_3 => ?_)
    · exact absurd c_3 (by decide)
    · refine lv_aload_n hx hb dM_owes_23 rfl (lv_at hl 0 rfl) ?_
      refine rm_get (v := .ref (ad 20)) hx hb hts hown hC hG 16 (by decide) q_526 (rfl) dM_owes_24 ?_
      refine lv_iload_n hx hb dM_owes_27 rfl (lv_at hl 1 rfl) ?_
      refine ra_ld hx hb hC hG 20 10 (by omega) (fun _ _ => rfl) ((vin_buyerM c_1)) dM_owes_28 ?_
      refine W.eq (g2 := F0 m 29 ls (.int (sA 20 p0.toNatClampNeg) :: [])) (by simp [up2, upd]) ?_
      refine lv_goto (tgt := 33) hx hb dM_owes_29 (by decide) ?_
      refine W.widen (k := 0) (n := 0) (Nat.le_of_ble_eq_true rfl) (Nat.le_of_ble_eq_true rfl) ?_
      exact W.iret (v := sA 20 p0.toNatClampNeg) hx hb hr (fun t ht hW => ⟨⟨(sA 20 p0.toNatClampNeg), (sL, (up2 sA 5 23 0)), rfl, (by rw [fM_owes, if_neg c_1] <;> rfl), gw_at hG ht⟩, hS.F ht⟩) hS.2.2 dM_owes_33
def fM_in (sL : NL) (sA : NA) : Int64 × NL × NA := (sL 5 20, sL, (up2 sA 5 23 0))
theorem hdyM_in : yM_in.cls ≠ "java/lang/invoke/MethodHandle" ∧ yM_in.cls ≠ "java/lang/invoke/VarHandle" ∧ (parseMethodDescriptor yM_in.desc).map (fun d => d.parameters.length) = some 0 := by decide +kernel
theorem dM_in_0 : decode bM_in 0 = .ok (.aload_n 0, 1) := by decide +kernel
theorem dM_in_1 : decode bM_in 1 = .ok (.iconst 0, 1) := by decide +kernel
theorem dM_in_2 : decode bM_in 2 = .ok (.putfield 62, 3) := by decide +kernel
theorem dM_in_5 : decode bM_in 5 = .ok (.aload_n 0, 1) := by decide +kernel
theorem dM_in_6 : decode bM_in 6 = .ok (.getfield 114, 3) := by decide +kernel
theorem dM_in_9 : decode bM_in 9 = .ok (.lreturn, 1) := by decide +kernel
set_option maxHeartbeats 4000000 in
set_option maxRecDepth 100000 in
theorem cM_in (l : Launch) (D : va_G) (tI tJ tL : ClassId) (A : Nat → Prop) (sg ad : Nat → Nat) (n : Nat) (sL : NL) (sA : NA) : Met l yM_in (Cond.code yM_in bM_in 1 (some FieldType.long) :: wNeed) { frames := 0, cells := 0, slots := 0, locals := 0 } (va_Pc [.ref (ad 5)] (GP D tI tJ tL A sg ad n sL sA)) (va_Ql (fun r (u : NL × NA) => fM_in sL sA = (r, u.1, u.2)) (fun u t => GW D tI tJ tL A ad n u.1 u.2 t.heap) A) 0 0 A := by
  refine en_G (av := [.ref (ad 5)]) (by decide) (Nat.le_of_ble_eq_true rfl) ?_
  intro p e s m below meth c hx hb hml hown hts hr hlocks hmname hC H locs hG hS ls hl
  replace hl : lv_has ls 1 [(0, .ref (ad 5))] := hl
  refine lv_aload_n hx hb dM_in_0 rfl (lv_at hl 0 rfl) ?_
  refine lv_iconst (v := 0) hx hb dM_in_1 (by decide) ?_
  refine rm_puti hx hb hts hown hC hG hS 23 (by decide) q_533 dM_in_2 (fun H locs hG hS => ?_)
  refine lv_aload_n hx hb dM_in_5 rfl (lv_at hl 0 rfl) ?_
  refine rm_get (v := .long (sL 5 20)) hx hb hts hown hC hG 20 (by decide) q_530 (rfl) dM_in_6 ?_
  refine W.widen (k := 0) (n := 0) (Nat.le_of_ble_eq_true rfl) (Nat.le_of_ble_eq_true rfl) ?_
  exact W.lret (v := sL 5 20) hx hb hr (fun t ht hW => ⟨⟨(sL 5 20), (sL, (up2 sA 5 23 0)), rfl, (by rw [fM_in] <;> rfl), gw_at hG ht⟩, hS.F ht⟩) hS.2.2 dM_in_9
def fM_out (sL : NL) (sA : NA) : Int64 × NL × NA := (sL 5 21, sL, (up2 sA 5 23 0))
theorem hdyM_out : yM_out.cls ≠ "java/lang/invoke/MethodHandle" ∧ yM_out.cls ≠ "java/lang/invoke/VarHandle" ∧ (parseMethodDescriptor yM_out.desc).map (fun d => d.parameters.length) = some 0 := by decide +kernel
theorem dM_out_0 : decode bM_out 0 = .ok (.aload_n 0, 1) := by decide +kernel
theorem dM_out_1 : decode bM_out 1 = .ok (.iconst 0, 1) := by decide +kernel
theorem dM_out_2 : decode bM_out 2 = .ok (.putfield 62, 3) := by decide +kernel
theorem dM_out_5 : decode bM_out 5 = .ok (.aload_n 0, 1) := by decide +kernel
theorem dM_out_6 : decode bM_out 6 = .ok (.getfield 121, 3) := by decide +kernel
theorem dM_out_9 : decode bM_out 9 = .ok (.lreturn, 1) := by decide +kernel
set_option maxHeartbeats 4000000 in
set_option maxRecDepth 100000 in
theorem cM_out (l : Launch) (D : va_G) (tI tJ tL : ClassId) (A : Nat → Prop) (sg ad : Nat → Nat) (n : Nat) (sL : NL) (sA : NA) : Met l yM_out (Cond.code yM_out bM_out 1 (some FieldType.long) :: wNeed) { frames := 0, cells := 0, slots := 0, locals := 0 } (va_Pc [.ref (ad 5)] (GP D tI tJ tL A sg ad n sL sA)) (va_Ql (fun r (u : NL × NA) => fM_out sL sA = (r, u.1, u.2)) (fun u t => GW D tI tJ tL A ad n u.1 u.2 t.heap) A) 0 0 A := by
  refine en_G (av := [.ref (ad 5)]) (by decide) (Nat.le_of_ble_eq_true rfl) ?_
  intro p e s m below meth c hx hb hml hown hts hr hlocks hmname hC H locs hG hS ls hl
  replace hl : lv_has ls 1 [(0, .ref (ad 5))] := hl
  refine lv_aload_n hx hb dM_out_0 rfl (lv_at hl 0 rfl) ?_
  refine lv_iconst (v := 0) hx hb dM_out_1 (by decide) ?_
  refine rm_puti hx hb hts hown hC hG hS 23 (by decide) q_533 dM_out_2 (fun H locs hG hS => ?_)
  refine lv_aload_n hx hb dM_out_5 rfl (lv_at hl 0 rfl) ?_
  refine rm_get (v := .long (sL 5 21)) hx hb hts hown hC hG 21 (by decide) q_531 (rfl) dM_out_6 ?_
  refine W.widen (k := 0) (n := 0) (Nat.le_of_ble_eq_true rfl) (Nat.le_of_ble_eq_true rfl) ?_
  exact W.lret (v := sL 5 21) hx hb hr (fun t ht hW => ⟨⟨(sL 5 21), (sL, (up2 sA 5 23 0)), rfl, (by rw [fM_out] <;> rfl), gw_at hG ht⟩, hS.F ht⟩) hS.2.2 dM_out_9
def fM_kept (sL : NL) (sA : NA) : Int64 × NL × NA := (sL 5 22, sL, (up2 sA 5 23 0))
theorem hdyM_kept : yM_kept.cls ≠ "java/lang/invoke/MethodHandle" ∧ yM_kept.cls ≠ "java/lang/invoke/VarHandle" ∧ (parseMethodDescriptor yM_kept.desc).map (fun d => d.parameters.length) = some 0 := by decide +kernel
theorem dM_kept_0 : decode bM_kept 0 = .ok (.aload_n 0, 1) := by decide +kernel
theorem dM_kept_1 : decode bM_kept 1 = .ok (.iconst 0, 1) := by decide +kernel
theorem dM_kept_2 : decode bM_kept 2 = .ok (.putfield 62, 3) := by decide +kernel
theorem dM_kept_5 : decode bM_kept 5 = .ok (.aload_n 0, 1) := by decide +kernel
theorem dM_kept_6 : decode bM_kept 6 = .ok (.getfield 118, 3) := by decide +kernel
theorem dM_kept_9 : decode bM_kept 9 = .ok (.lreturn, 1) := by decide +kernel
set_option maxHeartbeats 4000000 in
set_option maxRecDepth 100000 in
theorem cM_kept (l : Launch) (D : va_G) (tI tJ tL : ClassId) (A : Nat → Prop) (sg ad : Nat → Nat) (n : Nat) (sL : NL) (sA : NA) : Met l yM_kept (Cond.code yM_kept bM_kept 1 (some FieldType.long) :: wNeed) { frames := 0, cells := 0, slots := 0, locals := 0 } (va_Pc [.ref (ad 5)] (GP D tI tJ tL A sg ad n sL sA)) (va_Ql (fun r (u : NL × NA) => fM_kept sL sA = (r, u.1, u.2)) (fun u t => GW D tI tJ tL A ad n u.1 u.2 t.heap) A) 0 0 A := by
  refine en_G (av := [.ref (ad 5)]) (by decide) (Nat.le_of_ble_eq_true rfl) ?_
  intro p e s m below meth c hx hb hml hown hts hr hlocks hmname hC H locs hG hS ls hl
  replace hl : lv_has ls 1 [(0, .ref (ad 5))] := hl
  refine lv_aload_n hx hb dM_kept_0 rfl (lv_at hl 0 rfl) ?_
  refine lv_iconst (v := 0) hx hb dM_kept_1 (by decide) ?_
  refine rm_puti hx hb hts hown hC hG hS 23 (by decide) q_533 dM_kept_2 (fun H locs hG hS => ?_)
  refine lv_aload_n hx hb dM_kept_5 rfl (lv_at hl 0 rfl) ?_
  refine rm_get (v := .long (sL 5 22)) hx hb hts hown hC hG 22 (by decide) q_532 (rfl) dM_kept_6 ?_
  refine W.widen (k := 0) (n := 0) (Nat.le_of_ble_eq_true rfl) (Nat.le_of_ble_eq_true rfl) ?_
  exact W.lret (v := sL 5 22) hx hb hr (fun t ht hW => ⟨⟨(sL 5 22), (sL, (up2 sA 5 23 0)), rfl, (by rw [fM_kept] <;> rfl), gw_at hG ht⟩, hS.F ht⟩) hS.2.2 dM_kept_9
def fM_held (sL : NL) (sA : NA) : Int64 × NL × NA := (((sL 5 20) - (sL 5 21)) - (sL 5 22), sL, (up2 sA 5 23 0))
theorem hdyM_held : yM_held.cls ≠ "java/lang/invoke/MethodHandle" ∧ yM_held.cls ≠ "java/lang/invoke/VarHandle" ∧ (parseMethodDescriptor yM_held.desc).map (fun d => d.parameters.length) = some 0 := by decide +kernel
theorem dM_held_0 : decode bM_held 0 = .ok (.aload_n 0, 1) := by decide +kernel
theorem dM_held_1 : decode bM_held 1 = .ok (.iconst 0, 1) := by decide +kernel
theorem dM_held_2 : decode bM_held 2 = .ok (.putfield 62, 3) := by decide +kernel
theorem dM_held_5 : decode bM_held 5 = .ok (.aload_n 0, 1) := by decide +kernel
theorem dM_held_6 : decode bM_held 6 = .ok (.getfield 114, 3) := by decide +kernel
theorem dM_held_9 : decode bM_held 9 = .ok (.aload_n 0, 1) := by decide +kernel
theorem dM_held_10 : decode bM_held 10 = .ok (.getfield 121, 3) := by decide +kernel
theorem dM_held_13 : decode bM_held 13 = .ok (.lsub, 1) := by decide +kernel
theorem dM_held_14 : decode bM_held 14 = .ok (.aload_n 0, 1) := by decide +kernel
theorem dM_held_15 : decode bM_held 15 = .ok (.getfield 118, 3) := by decide +kernel
theorem dM_held_18 : decode bM_held 18 = .ok (.lsub, 1) := by decide +kernel
theorem dM_held_19 : decode bM_held 19 = .ok (.lreturn, 1) := by decide +kernel
set_option maxHeartbeats 4000000 in
set_option maxRecDepth 100000 in
theorem cM_held (l : Launch) (D : va_G) (tI tJ tL : ClassId) (A : Nat → Prop) (sg ad : Nat → Nat) (n : Nat) (sL : NL) (sA : NA) : Met l yM_held (Cond.code yM_held bM_held 1 (some FieldType.long) :: wNeed) { frames := 0, cells := 0, slots := 0, locals := 0 } (va_Pc [.ref (ad 5)] (GP D tI tJ tL A sg ad n sL sA)) (va_Ql (fun r (u : NL × NA) => fM_held sL sA = (r, u.1, u.2)) (fun u t => GW D tI tJ tL A ad n u.1 u.2 t.heap) A) 0 0 A := by
  refine en_G (av := [.ref (ad 5)]) (by decide) (Nat.le_of_ble_eq_true rfl) ?_
  intro p e s m below meth c hx hb hml hown hts hr hlocks hmname hC H locs hG hS ls hl
  replace hl : lv_has ls 1 [(0, .ref (ad 5))] := hl
  refine lv_aload_n hx hb dM_held_0 rfl (lv_at hl 0 rfl) ?_
  refine lv_iconst (v := 0) hx hb dM_held_1 (by decide) ?_
  refine rm_puti hx hb hts hown hC hG hS 23 (by decide) q_533 dM_held_2 (fun H locs hG hS => ?_)
  refine lv_aload_n hx hb dM_held_5 rfl (lv_at hl 0 rfl) ?_
  refine rm_get (v := .long (sL 5 20)) hx hb hts hown hC hG 20 (by decide) q_530 (rfl) dM_held_6 ?_
  refine lv_aload_n hx hb dM_held_9 rfl (lv_at hl 0 rfl) ?_
  refine rm_get (v := .long (sL 5 21)) hx hb hts hown hC hG 21 (by decide) q_531 (rfl) dM_held_10 ?_
  refine lv_lsub hx hb dM_held_13 ?_
  refine lv_aload_n hx hb dM_held_14 rfl (lv_at hl 0 rfl) ?_
  refine rm_get (v := .long (sL 5 22)) hx hb hts hown hC hG 22 (by decide) q_532 (rfl) dM_held_15 ?_
  refine lv_lsub hx hb dM_held_18 ?_
  refine W.widen (k := 0) (n := 0) (Nat.le_of_ble_eq_true rfl) (Nat.le_of_ble_eq_true rfl) ?_
  exact W.lret (v := ((sL 5 20) - (sL 5 21)) - (sL 5 22)) hx hb hr (fun t ht hW => ⟨⟨(((sL 5 20) - (sL 5 21)) - (sL 5 22)), (sL, (up2 sA 5 23 0)), rfl, (by rw [fM_held] <;> rfl), gw_at hG ht⟩, hS.F ht⟩) hS.2.2 dM_held_19
