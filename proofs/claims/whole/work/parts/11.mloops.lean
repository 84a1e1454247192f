theorem vin_nat {x : Int32} {N : Nat} (h : vp_in x N) : x.toNatClampNeg < N := Nat.not_le.mp fun q => h (Or.inr q)
theorem vin_eq {x : Int32} {N : Nat} (h : vp_in x N) : x = nI x.toNatClampNeg := nI_self fun q => h (Or.inl q)
theorem mul10 {p : Int32} (h : vp_in p 30) : 10 * p = nI (10 * p.toNatClampNeg + 0) := by
  have e : (10 : Int32) = nI 10 := rfl
  rw [vin_eq h, e, pk_mul, Nat.add_zero, nI_clamp (by have := vin_nat h; omega)]
theorem grd10 {p : Int32} {j : Nat} (h : vp_in p 30) (hj : j ≤ 10) (hg : ¬ (10 * p) + 10 ≤ nI (10 * p.toNatClampNeg + j)) : j < 10 := by
  have e : (10 : Int32) = nI 10 := rfl
  have hn := vin_nat h
  rw [mul10 h, e, nI_add, nI_leI (by omega) (by omega)] at hg
  omega
theorem isW_ne {a b c : Int32} (h : ¬ fM_isWithin a b c = 0) : b ≤ a ∧ a ≤ c := by
  unfold fM_isWithin at h
  by_cases h1 : a < b
  · rw [if_pos h1] at h; exact absurd rfl h
  · rw [if_neg h1] at h
    by_cases h2 : c < a
    · rw [if_pos h2] at h; exact absurd rfl h
    · exact ⟨by rw [Int32.not_lt] at h1; exact h1, by rw [Int32.not_lt] at h2; exact h2⟩
theorem vin_le {x M : Int32} {N : Nat} (hM : M.toInt + 1 = (N : Int)) (h0 : 0 ≤ x) (h1 : x ≤ M) : vp_in x N := by
  rw [vp_in_iff]
  rw [Int32.le_iff_toInt_le] at h0 h1
  have e0 : (0 : Int32).toInt = 0 := by decide
  omega
theorem vin_buyerM {p : Int32} (h : ¬ fM_isBuyer p = 0) : vp_in p 10 := by
  rw [fM_isBuyer] at h
  exact vin_le (M := 9) (by decide) (isW_ne h).1 (isW_ne h).2
theorem vin_w5 {p : Int32} (h : ¬ fM_isWithin p 0 5 = 0) : vp_in p 6 := vin_le (M := 5) (by decide) (isW_ne h).1 (isW_ne h).2
theorem vin_bid {p q : Int32} (hp : vp_in p 30) (hq : vp_in q 10) : vp_in ((10 * p) + q) 300 := by
  have h1 := vin_nat hp
  have h2 := vin_nat hq
  rw [mul10 hp, vin_eq hq, nI_add]
  exact vp_in_nI (by omega) (by omega)
theorem vin_cnt {a : Int32} {nm : Nat} (hnm : nm ≤ 30) (hm : a = nI nm) (h : ¬ a = 30) : vp_in a 30 := by
  rw [hm] at h ⊢
  refine vp_in_nI ?_ (by omega)
  rcases Nat.lt_or_ge nm 30 with q | q
  · exact q
  · exact absurd (by rw [show nm = 30 by omega]; rfl) h
theorem nm1 {nm : Nat} (hnm : nm ≤ 30) : (nI nm - 1).toInt = (nm : Int) - 1 := by
  have e : (1 : Int32) = nI 1 := rfl
  rw [e, pk_sub_toInt (by omega) (by omega)]
  rfl
def fM_thrown (sL : NL) (sA : NA) : Int32 := sA 5 23
theorem hdyM_thrown : yM_thrown.cls ≠ "java/lang/invoke/MethodHandle" ∧ yM_thrown.cls ≠ "java/lang/invoke/VarHandle" ∧ (parseMethodDescriptor yM_thrown.desc).map (fun d => d.parameters.length) = some 0 := by decide +kernel
theorem dM_thrown_0 : decode bM_thrown 0 = .ok (.aload_n 0, 1) := by decide +kernel
theorem dM_thrown_1 : decode bM_thrown 1 = .ok (.getfield 62, 3) := by decide +kernel
theorem dM_thrown_4 : decode bM_thrown 4 = .ok (.ireturn, 1) := by decide +kernel
set_option maxHeartbeats 4000000 in
set_option maxRecDepth 100000 in
theorem cM_thrown (l : Launch) (D : va_G) (tI tJ tL : ClassId) (A : Nat → Prop) (sg ad : Nat → Nat) (n : Nat) (sL : NL) (sA : NA) : Met l yM_thrown (Cond.code yM_thrown bM_thrown 1 (some FieldType.int) :: wNeed) { frames := 0, cells := 0, slots := 0, locals := 0 } (va_Pc [.ref (ad 5)] (GP D tI tJ tL A sg ad n sL sA)) (vp_Si fun r => r = fM_thrown sL sA) 0 0 (fun _ => False) := by
  refine en_M (av := [.ref (ad 5)]) (by decide) (Nat.le_of_ble_eq_true rfl) ?_
  intro p e s m below meth c hx hb hml hown hts hr hlocks hmname hP ls hl
  obtain ⟨hG, hC⟩ := hP
  have hS : va_S A s.heap s.heap [] := va_S.rf
  replace hl : lv_has ls 1 [(0, .ref (ad 5))] := hl
  refine lv_aload_n hx hb dM_thrown_0 rfl (lv_at hl 0 rfl) ?_
  refine rm_get (v := .int (sA 5 23)) hx hb hts hown hC hG 23 (by decide) q_533 (rfl) dM_thrown_1 ?_
  exact W.iret (v := sA 5 23) hx hb hr (fun t ht hW => ⟨_, rfl, (by rw [fM_thrown] <;> rfl), ht⟩) (fun q h => nomatch h) dM_thrown_4
def fM_isLot (sL : NL) (sA : NA) (p0 : Int32) : Int32 := fM_isWithin p0 0 ((sA 5 0) - 1)
theorem hdyM_isLot : yM_isLot.cls ≠ "java/lang/invoke/MethodHandle" ∧ yM_isLot.cls ≠ "java/lang/invoke/VarHandle" ∧ (parseMethodDescriptor yM_isLot.desc).map (fun d => d.parameters.length) = some 1 := by decide +kernel
theorem dM_isLot_0 : decode bM_isLot 0 = .ok (.iload_n 1, 1) := by decide +kernel
theorem dM_isLot_1 : decode bM_isLot 1 = .ok (.iconst 0, 1) := by decide +kernel
theorem dM_isLot_2 : decode bM_isLot 2 = .ok (.aload_n 0, 1) := by decide +kernel
theorem dM_isLot_3 : decode bM_isLot 3 = .ok (.getfield 65, 3) := by decide +kernel
theorem dM_isLot_6 : decode bM_isLot 6 = .ok (.iconst 1, 1) := by decide +kernel
theorem dM_isLot_7 : decode bM_isLot 7 = .ok (.isub, 1) := by decide +kernel
theorem dM_isLot_8 : decode bM_isLot 8 = .ok (.invokestatic 68, 3) := by decide +kernel
theorem dM_isLot_11 : decode bM_isLot 11 = .ok (.ireturn, 1) := by decide +kernel
set_option maxHeartbeats 4000000 in
set_option maxRecDepth 100000 in
theorem cM_isLot (l : Launch) (D : va_G) (tI tJ tL : ClassId) (A : Nat → Prop) (sg ad : Nat → Nat) (n : Nat) (sL : NL) (sA : NA) (p0 : Int32) : Met l yM_isLot (Cond.code yM_isLot bM_isLot 2 (some FieldType.boolean) :: wNeed) { frames := 1, cells := 0, slots := 0, locals := 22 } (va_Pc [.ref (ad 5), .int p0] (GP D tI tJ tL A sg ad n sL sA)) (vp_Si fun r => r = fM_isLot sL sA p0) 0 0 (fun _ => False) := by
  refine en_M (av := [.ref (ad 5), .int p0]) (by decide) (Nat.le_of_ble_eq_true rfl) ?_
  intro p e s m below meth c hx hb hml hown hts hr hlocks hmname hP ls hl
  obtain ⟨hG, hC⟩ := hP
  have hS : va_S A s.heap s.heap [] := va_S.rf
  replace hl : lv_has ls 2 [(0, .ref (ad 5)), (1, .int p0)] := hl
  refine lv_iload_n hx hb dM_isLot_0 rfl (lv_at hl 1 rfl) ?_
  refine lv_iconst (v := 0) hx hb dM_isLot_1 (by decide) ?_
  refine lv_aload_n hx hb dM_isLot_2 rfl (lv_at hl 0 rfl) ?_
  refine rm_get (v := .int (sA 5 0)) hx hb hts hown hC hG 0 (by decide) q_510 (rfl) dM_isLot_3 ?_
  refine lv_iconst (v := 1) hx hb dM_isLot_6 (by decide) ?_
  refine lv_isub hx hb dM_isLot_7 ?_
  refine rcS1 (rest := []) (As := [.int p0, .int 0, .int ((sA 5 0) - 1)]) hx hb hml hown hts (cM_isWithin l p0 0 ((sA 5 0) - 1)) (gS q_592 q_593 q_2 q_594) rfl rfl ⟨rfl, hdyM_isWithin⟩ ⟨Nat.le_of_ble_eq_true rfl, Nat.le_of_ble_eq_true rfl⟩ hl.1 rfl (Nat.le_of_ble_eq_true rfl) dM_isLot_8 ⟨Nat.le_of_ble_eq_true rfl, Nat.le_of_ble_eq_true rfl⟩ ?_
  exact W.zret (v := fM_isWithin p0 0 ((sA 5 0) - 1)) hx hb hr (nar01 (isWithin01 _ _ _)) (fun t ht hW => ⟨_, rfl, (by rw [fM_isLot] <;> rfl), ht⟩) (fun q h => nomatch h) dM_isLot_11
theorem vin_lot {sL : NL} {sA : NA} {p : Int32} {nm : Nat} (hnm : nm ≤ 30) (hm : sA 5 0 = nI nm) (h : ¬ fM_isLot sL sA p = 0) : vp_in p 30 ∧ p.toNatClampNeg < nm := by
  rw [fM_isLot] at h
  obtain ⟨h1, h2⟩ := isW_ne h
  rw [hm] at h2
  rw [Int32.le_iff_toInt_le] at h1 h2
  rw [nm1 hnm] at h2
  have e0 : (0 : Int32).toInt = 0 := by decide
  have hv : vp_in p 30 := by rw [vp_in_iff]; omega
  refine ⟨hv, ?_⟩
  have e1 := vin_eq hv
  rw [e1, nI_toInt (by have := vin_nat hv; omega)] at h2
  omega
def lM_clear (sL : NL) (p0 : Int32) : Nat → Nat → NA → NL × NA
  | 0, _, _ => (sL, fun _ _ => 0)
  | f + 1, j, sA1 => if 10 ≤ (nI j) then (sL, sA1) else lM_clear sL p0 f (j + 1) (up2 sA1 13 (((10 * p0) + (nI j)).toNatClampNeg) (-1))
def fM_clearBids (sL : NL) (sA : NA) (p0 : Int32) : NL × NA := lM_clear sL p0 11 0 sA
theorem hdyM_clearBids : yM_clearBids.cls ≠ "java/lang/invoke/MethodHandle" ∧ yM_clearBids.cls ≠ "java/lang/invoke/VarHandle" ∧ (parseMethodDescriptor yM_clearBids.desc).map (fun d => d.parameters.length) = some 1 := by decide +kernel
theorem dM_clearBids_0 : decode bM_clearBids 0 = .ok (.iconst 0, 1) := by decide +kernel
theorem dM_clearBids_1 : decode bM_clearBids 1 = .ok (.istore_n 2, 1) := by decide +kernel
theorem dM_clearBids_2 : decode bM_clearBids 2 = .ok (.iload_n 2, 1) := by decide +kernel
theorem dM_clearBids_3 : decode bM_clearBids 3 = .ok (.bipush 10, 2) := by decide +kernel
theorem dM_clearBids_5 : decode bM_clearBids 5 = .ok (.if_icmp .ge 21, 3) := by decide +kernel
theorem dM_clearBids_8 : decode bM_clearBids 8 = .ok (.aload_n 0, 1) := by decide +kernel
theorem dM_clearBids_9 : decode bM_clearBids 9 = .ok (.getfield 31, 3) := by decide +kernel
theorem dM_clearBids_12 : decode bM_clearBids 12 = .ok (.bipush 10, 2) := by decide +kernel
theorem dM_clearBids_14 : decode bM_clearBids 14 = .ok (.iload_n 1, 1) := by decide +kernel
theorem dM_clearBids_15 : decode bM_clearBids 15 = .ok (.imul, 1) := by decide +kernel
theorem dM_clearBids_16 : decode bM_clearBids 16 = .ok (.iload_n 2, 1) := by decide +kernel
theorem dM_clearBids_17 : decode bM_clearBids 17 = .ok (.iadd, 1) := by decide +kernel
theorem dM_clearBids_18 : decode bM_clearBids 18 = .ok (.iconst (-1), 1) := by decide +kernel
theorem dM_clearBids_19 : decode bM_clearBids 19 = .ok (.iastore, 1) := by decide +kernel
theorem dM_clearBids_20 : decode bM_clearBids 20 = .ok (.iinc 2 1, 3) := by decide +kernel
theorem dM_clearBids_23 : decode bM_clearBids 23 = .ok (.goto (-21), 3) := by decide +kernel
theorem dM_clearBids_26 : decode bM_clearBids 26 = .ok (.return_, 1) := by decide +kernel
set_option maxHeartbeats 4000000 in
set_option maxRecDepth 100000 in
theorem cM_clearBids (l : Launch) (D : va_G) (tI tJ tL : ClassId) (A : Nat → Prop) (sg ad : Nat → Nat) (n : Nat) (sL : NL) (sA : NA) (p0 : Int32) (hp : vp_in p0 30) : Met l yM_clearBids (Cond.code yM_clearBids bM_clearBids 3 none :: wNeed) { frames := 0, cells := 0, slots := 0, locals := 0 } (va_Pc [.ref (ad 5), .int p0] (GP D tI tJ tL A sg ad n sL sA)) (va_Qv (fun u : NL × NA => fM_clearBids sL sA p0 = u) (fun u t => GW D tI tJ tL A ad n u.1 u.2 t.heap) A) 0 0 A := by
  refine en_G (av := [.ref (ad 5), .int p0]) (by decide) (Nat.le_of_ble_eq_true rfl) ?_
  intro p e s m below meth c hx hb hml hown hts hr hlocks hmname hC H locs hG hS ls hl
  replace hl : lv_has ls 3 [(0, .ref (ad 5)), (1, .int p0)] := hl
  refine lv_iconst (v := 0) hx hb dM_clearBids_0 (by decide) ?_
  refine lv_istore_n (lv' := [(2, .int 0), (0, .ref (ad 5)), (1, .int p0)]) hx hb dM_clearBids_1 rfl hl (by decide) rfl (fun ls hl => ?_)
  replace hl : ∃ (f : Nat) (j : Nat) (sA1 : NA), j + f = 11 ∧ j ≤ 10 ∧ fM_clearBids sL sA p0 = lM_clear sL p0 f j sA1 ∧ GW D tI tJ tL A ad n sL sA1 H ∧ lv_has ls 3 [(2, .int (nI j)), (0, .ref (ad 5)), (1, .int p0)] := ⟨11, 0, sA, rfl, by omega, (by rw [fM_clearBids] <;> rfl), hG, hl⟩
  clear hG
  obtain ⟨f, j, sA1, hf, hj, hF, hG, hl⟩ := hl
  induction f generalizing j sA1 H locs ls with
  | zero => exact absurd hf (by omega)
  | succ f ih =>
    refine lv_iload_n hx hb dM_clearBids_2 rfl (lv_at hl 0 rfl) ?_
    refine lv_bipush (v := 10) hx hb dM_clearBids_3 (by decide) ?_
    refine lv_icmp_ge (tgt := 26) hx hb dM_clearBids_5 (by decide) (fun c_1 => ?_) (fun c_1 => ?_)
    · refine W.widen (k := 0) (n := 0) (Nat.le_of_ble_eq_true rfl) (Nat.le_of_ble_eq_true rfl) ?_
      exact W.vret hx hb hr (fun t ht hW => ⟨⟨(sL, sA1), rfl, (by rw [hF, lM_clear, if_pos c_1] <;> rfl), gw_at hG ht⟩, hS.F ht⟩) hS.2.2 dM_clearBids_26
    · refine lv_aload_n hx hb dM_clearBids_8 rfl (lv_at hl 1 rfl) ?_
      refine rm_get (v := .ref (ad 13)) hx hb hts hown hC hG 8 (by decide) q_518 (rfl) dM_clearBids_9 ?_
      refine lv_bipush (v := 10) hx hb dM_clearBids_12 (by decide) ?_
      refine lv_iload_n hx hb dM_clearBids_14 rfl (lv_at hl 2 rfl) ?_
      refine lv_imul hx hb dM_clearBids_15 ?_
      refine lv_iload_n hx hb dM_clearBids_16 rfl (lv_at hl 0 rfl) ?_
      refine lv_iadd hx hb dM_clearBids_17 ?_
      refine lv_iconst (v := (-1)) hx hb dM_clearBids_18 (by decide) ?_
      refine ra_st hx hb hC hG hS 13 300 (by omega) (fun _ _ => rfl) (vin_bid hp (vp_in_nI (lt_guard10 (by omega) c_1) (by omega))) dM_clearBids_19 (fun H locs hG hS => ?_)
      refine lv_iinc (v := nI (j + 1)) (lv' := [(2, .int (nI (j + 1))), (0, .ref (ad 5)), (1, .int p0)]) hx hb dM_clearBids_20 hl (k := 0) rfl (nI_1 j) (by decide) rfl (fun ls hl => ?_)
      refine lv_goto (tgt := 2) hx hb dM_clearBids_23 (by decide) ?_
      exact ih (j := j + 1) (sA1 := (up2 sA1 13 (((10 * p0) + (nI j)).toNatClampNeg) (-1))) (H := H) (locs := locs) (hS := hS) (hG := hG) (ls := ls) (hf := by omega) (hj := by have hlt := lt_guard10 (by omega) c_1; omega) (hF := by rw [hF, lM_clear, if_neg c_1] <;> rfl) (hl := lv_sub hl [0, 1, 2] rfl)
def lM_highest (sL : NL) (sA : NA) (p0 : Int32) : Nat → Nat → Int32 → Int32
  | 0, _, _ => 0
  | f + 1, j, x => if ((10 * p0) + 10) ≤ (nI (10 * p0.toNatClampNeg + j)) then x else (if (sA 13 (10 * p0.toNatClampNeg + j)) = (-1) then lM_highest sL sA p0 f (j + 1) x else (if x = (-1) then lM_highest sL sA p0 f (j + 1) (nI (10 * p0.toNatClampNeg + j)) else (if (sA 13 x.toNatClampNeg) < (sA 13 (10 * p0.toNatClampNeg + j)) then lM_highest sL sA p0 f (j + 1) (nI (10 * p0.toNatClampNeg + j)) else (if (sA 13 (10 * p0.toNatClampNeg + j)) = (sA 13 x.toNatClampNeg) then (if (sA 14 x.toNatClampNeg) ≤ (sA 14 (10 * p0.toNatClampNeg + j)) then lM_highest sL sA p0 f (j + 1) x else lM_highest sL sA p0 f (j + 1) (nI (10 * p0.toNatClampNeg + j))) else lM_highest sL sA p0 f (j + 1) x))))
def fM_highest (sL : NL) (sA : NA) (p0 : Int32) : Int32 := lM_highest sL sA p0 11 0 (-1)
theorem hdyM_highest : yM_highest.cls ≠ "java/lang/invoke/MethodHandle" ∧ yM_highest.cls ≠ "java/lang/invoke/VarHandle" ∧ (parseMethodDescriptor yM_highest.desc).map (fun d => d.parameters.length) = some 1 := by decide +kernel
theorem dM_highest_0 : decode bM_highest 0 = .ok (.iconst (-1), 1) := by decide +kernel
theorem dM_highest_1 : decode bM_highest 1 = .ok (.istore_n 2, 1) := by decide +kernel
theorem dM_highest_2 : decode bM_highest 2 = .ok (.bipush 10, 2) := by decide +kernel
theorem dM_highest_4 : decode bM_highest 4 = .ok (.iload_n 1, 1) := by decide +kernel
theorem dM_highest_5 : decode bM_highest 5 = .ok (.imul, 1) := by decide +kernel
theorem dM_highest_6 : decode bM_highest 6 = .ok (.istore_n 3, 1) := by decide +kernel
theorem dM_highest_7 : decode bM_highest 7 = .ok (.iload_n 3, 1) := by decide +kernel
theorem dM_highest_8 : decode bM_highest 8 = .ok (.bipush 10, 2) := by decide +kernel
theorem dM_highest_10 : decode bM_highest 10 = .ok (.iload_n 1, 1) := by decide +kernel
theorem dM_highest_11 : decode bM_highest 11 = .ok (.imul, 1) := by decide +kernel
theorem dM_highest_12 : decode bM_highest 12 = .ok (.bipush 10, 2) := by decide +kernel
theorem dM_highest_14 : decode bM_highest 14 = .ok (.iadd, 1) := by decide +kernel
theorem dM_highest_15 : decode bM_highest 15 = .ok (.if_icmp .ge 87, 3) := by decide +kernel
theorem dM_highest_18 : decode bM_highest 18 = .ok (.aload_n 0, 1) := by decide +kernel
theorem dM_highest_19 : decode bM_highest 19 = .ok (.getfield 31, 3) := by decide +kernel
theorem dM_highest_22 : decode bM_highest 22 = .ok (.iload_n 3, 1) := by decide +kernel
theorem dM_highest_23 : decode bM_highest 23 = .ok (.iaload, 1) := by decide +kernel
theorem dM_highest_24 : decode bM_highest 24 = .ok (.iconst (-1), 1) := by decide +kernel
theorem dM_highest_25 : decode bM_highest 25 = .ok (.if_icmp .eq 57, 3) := by decide +kernel
theorem dM_highest_28 : decode bM_highest 28 = .ok (.iload_n 2, 1) := by decide +kernel
theorem dM_highest_29 : decode bM_highest 29 = .ok (.iconst (-1), 1) := by decide +kernel
theorem dM_highest_30 : decode bM_highest 30 = .ok (.if_icmp .eq 48, 3) := by decide +kernel
theorem dM_highest_33 : decode bM_highest 33 = .ok (.aload_n 0, 1) := by decide +kernel
theorem dM_highest_34 : decode bM_highest 34 = .ok (.getfield 31, 3) := by decide +kernel
theorem dM_highest_37 : decode bM_highest 37 = .ok (.iload_n 3, 1) := by decide +kernel
theorem dM_highest_38 : decode bM_highest 38 = .ok (.iaload, 1) := by decide +kernel
theorem dM_highest_39 : decode bM_highest 39 = .ok (.aload_n 0, 1) := by decide +kernel
theorem dM_highest_40 : decode bM_highest 40 = .ok (.getfield 31, 3) := by decide +kernel
theorem dM_highest_43 : decode bM_highest 43 = .ok (.iload_n 2, 1) := by decide +kernel
theorem dM_highest_44 : decode bM_highest 44 = .ok (.iaload, 1) := by decide +kernel
theorem dM_highest_45 : decode bM_highest 45 = .ok (.if_icmp .gt 33, 3) := by decide +kernel
theorem dM_highest_48 : decode bM_highest 48 = .ok (.aload_n 0, 1) := by decide +kernel
theorem dM_highest_49 : decode bM_highest 49 = .ok (.getfield 31, 3) := by decide +kernel
theorem dM_highest_52 : decode bM_highest 52 = .ok (.iload_n 3, 1) := by decide +kernel
theorem dM_highest_53 : decode bM_highest 53 = .ok (.iaload, 1) := by decide +kernel
theorem dM_highest_54 : decode bM_highest 54 = .ok (.aload_n 0, 1) := by decide +kernel
theorem dM_highest_55 : decode bM_highest 55 = .ok (.getfield 31, 3) := by decide +kernel
theorem dM_highest_58 : decode bM_highest 58 = .ok (.iload_n 2, 1) := by decide +kernel
theorem dM_highest_59 : decode bM_highest 59 = .ok (.iaload, 1) := by decide +kernel
theorem dM_highest_60 : decode bM_highest 60 = .ok (.if_icmp .ne 22, 3) := by decide +kernel
theorem dM_highest_63 : decode bM_highest 63 = .ok (.aload_n 0, 1) := by decide +kernel
theorem dM_highest_64 : decode bM_highest 64 = .ok (.getfield 34, 3) := by decide +kernel
theorem dM_highest_67 : decode bM_highest 67 = .ok (.iload_n 3, 1) := by decide +kernel
theorem dM_highest_68 : decode bM_highest 68 = .ok (.iaload, 1) := by decide +kernel
theorem dM_highest_69 : decode bM_highest 69 = .ok (.aload_n 0, 1) := by decide +kernel
theorem dM_highest_70 : decode bM_highest 70 = .ok (.getfield 34, 3) := by decide +kernel
theorem dM_highest_73 : decode bM_highest 73 = .ok (.iload_n 2, 1) := by decide +kernel
theorem dM_highest_74 : decode bM_highest 74 = .ok (.iaload, 1) := by decide +kernel
theorem dM_highest_75 : decode bM_highest 75 = .ok (.if_icmp .ge 7, 3) := by decide +kernel
theorem dM_highest_78 : decode bM_highest 78 = .ok (.iconst 1, 1) := by decide +kernel
theorem dM_highest_79 : decode bM_highest 79 = .ok (.goto 4, 3) := by decide +kernel
theorem dM_highest_82 : decode bM_highest 82 = .ok (.iconst 0, 1) := by decide +kernel
theorem dM_highest_83 : decode bM_highest 83 = .ok (.istore 4, 2) := by decide +kernel
theorem dM_highest_85 : decode bM_highest 85 = .ok (.iload 4, 2) := by decide +kernel
theorem dM_highest_87 : decode bM_highest 87 = .ok (.ifCond .eq 7, 3) := by decide +kernel
theorem dM_highest_90 : decode bM_highest 90 = .ok (.iload_n 3, 1) := by decide +kernel
theorem dM_highest_91 : decode bM_highest 91 = .ok (.goto 4, 3) := by decide +kernel
theorem dM_highest_94 : decode bM_highest 94 = .ok (.iload_n 2, 1) := by decide +kernel
theorem dM_highest_95 : decode bM_highest 95 = .ok (.istore_n 2, 1) := by decide +kernel
theorem dM_highest_96 : decode bM_highest 96 = .ok (.iinc 3 1, 3) := by decide +kernel
theorem dM_highest_99 : decode bM_highest 99 = .ok (.goto (-92), 3) := by decide +kernel
theorem dM_highest_102 : decode bM_highest 102 = .ok (.iload_n 2, 1) := by decide +kernel
theorem dM_highest_103 : decode bM_highest 103 = .ok (.ireturn, 1) := by decide +kernel
set_option maxHeartbeats 4000000 in
set_option maxRecDepth 100000 in
theorem cM_highest (l : Launch) (D : va_G) (tI tJ tL : ClassId) (A : Nat → Prop) (sg ad : Nat → Nat) (n : Nat) (sL : NL) (sA : NA) (p0 : Int32) (hp : vp_in p0 30) : Met l yM_highest (Cond.code yM_highest bM_highest 5 (some FieldType.int) :: wNeed) { frames := 0, cells := 0, slots := 0, locals := 0 } (va_Pc [.ref (ad 5), .int p0] (GP D tI tJ tL A sg ad n sL sA)) (vp_Si fun r => r = fM_highest sL sA p0) 0 0 (fun _ => False) := by
  refine en_M (av := [.ref (ad 5), .int p0]) (by decide) (Nat.le_of_ble_eq_true rfl) ?_
  intro p e s m below meth c hx hb hml hown hts hr hlocks hmname hP ls hl
  obtain ⟨hG, hC⟩ := hP
  have hS : va_S A s.heap s.heap [] := va_S.rf
  replace hl : lv_has ls 5 [(0, .ref (ad 5)), (1, .int p0)] := hl
  refine lv_iconst (v := (-1)) hx hb dM_highest_0 (by decide) ?_
  refine lv_istore_n (lv' := [(2, .int (-1)), (0, .ref (ad 5)), (1, .int p0)]) hx hb dM_highest_1 rfl hl (by decide) rfl (fun ls hl => ?_)
  refine lv_bipush (v := 10) hx hb dM_highest_2 (by decide) ?_
  refine lv_iload_n hx hb dM_highest_4 rfl (lv_at hl 2 rfl) ?_
  refine lv_imul hx hb dM_highest_5 ?_
  refine lv_istore_n (lv' := [(3, .int (10 * p0)), (2, .int (-1)), (0, .ref (ad 5)), (1, .int p0)]) hx hb dM_highest_6 rfl hl (by decide) rfl (fun ls hl => ?_)
  have hpa := vin_nat hp
  rw [mul10 hp] at hl
  replace hl : ∃ (f : Nat) (j : Nat) (x : Int32), j + f = 11 ∧ j ≤ 10 ∧ (x = (-1) ∨ vp_in x 300) ∧ fM_highest sL sA p0 = lM_highest sL sA p0 f j x ∧ lv_has ls 5 [(3, .int (nI (10 * p0.toNatClampNeg + j))), (2, .int x), (0, .ref (ad 5)), (1, .int p0)] := ⟨11, 0, (-1), rfl, by omega, Or.inl rfl, (by rw [fM_highest] <;> rfl), hl⟩
  obtain ⟨f, j, x, hf, hj, hxr, hF, hl⟩ := hl
  induction f generalizing j x ls with
  | zero => exact absurd hf (by omega)
  | succ f ih =>
    refine lv_iload_n hx hb dM_highest_7 rfl (lv_at hl 0 rfl) ?_
    refine lv_bipush (v := 10) hx hb dM_highest_8 (by decide) ?_
    refine lv_iload_n hx hb dM_highest_10 rfl (lv_at hl 3 rfl) ?_
    refine lv_imul hx hb dM_highest_11 ?_
    refine lv_bipush (v := 10) hx hb dM_highest_12 (by decide) ?_
    refine lv_iadd hx hb dM_highest_14 ?_
    refine lv_icmp_ge (tgt := 102) hx hb dM_highest_15 (by decide) (fun c_1 => ?_) (fun c_1 => ?_)
    · refine lv_iload_n hx hb dM_highest_102 rfl (lv_at hl 1 rfl) ?_
      exact W.iret (v := x) hx hb hr (fun t ht hW => ⟨_, rfl, (by rw [hF, lM_highest, if_pos c_1] <;> rfl), ht⟩) (fun q h => nomatch h) dM_highest_103
    · refine lv_aload_n hx hb dM_highest_18 rfl (lv_at hl 2 rfl) ?_
      refine rm_get (v := .ref (ad 13)) hx hb hts hown hC hG 8 (by decide) q_518 (rfl) dM_highest_19 ?_
      refine lv_iload_n hx hb dM_highest_22 rfl (lv_at hl 0 rfl) ?_
      refine ra_ld hx hb hC hG 13 300 (by omega) (fun _ _ => rfl) (vp_in_nI (by have hlt := grd10 hp (by omega) c_1; omega) (by omega)) dM_highest_23 ?_
      rw [show (nI (10 * p0.toNatClampNeg + j)).toNatClampNeg = (10 * p0.toNatClampNeg + j) from nI_clamp (by omega)]
      refine lv_iconst (v := (-1)) hx hb dM_highest_24 (by decide) ?_
      refine lv_icmp_eq (tgt := 82) hx hb dM_highest_25 (by decide) (fun c_2 => ?_) (fun c_2 => ?_)
      · refine lv_iconst (v := 0) hx hb dM_highest_82 (by decide) ?_
        refine lv_istore (lv' := [(4, .int 0), (3, .int (nI (10 * p0.toNatClampNeg + j))), (2, .int x), (0, .ref (ad 5)), (1, .int p0)]) hx hb dM_highest_83 hl (by decide) rfl (fun ls hl => ?_)
        refine lv_iload hx hb dM_highest_85 (lv_at hl 0 rfl) ?_
        refine lv_if_eq (tgt := 94) hx hb dM_highest_87 (by decide) (fun c_3 => ?_) (fun c_3 => ?_)
        · refine lv_iload_n hx hb dM_highest_94 rfl (lv_at hl 2 rfl) ?_
          refine lv_istore_n (lv' := [(2, .int x), (4, .int 0), (3, .int (nI (10 * p0.toNatClampNeg + j))), (0, .ref (ad 5)), (1, .int p0)]) hx hb dM_highest_95 rfl hl (by decide) rfl (fun ls hl => ?_)
          refine lv_iinc (v := nI (10 * p0.toNatClampNeg + j + 1)) (lv' := [(3, .int (nI (10 * p0.toNatClampNeg + j + 1))), (2, .int x), (4, .int 0), (0, .ref (ad 5)), (1, .int p0)]) hx hb dM_highest_96 hl (k := 2) rfl (nI_1 (10 * p0.toNatClampNeg + j)) (by decide) rfl (fun ls hl => ?_)
          refine lv_goto (tgt := 7) hx hb dM_highest_99 (by decide) ?_
          exact ih (j := j + 1) (x := x) (ls := ls) (hf := by omega) (hj := by have hlt := grd10 hp (by omega) c_1; omega) (hxr := hxr) (hF := by rw [hF, lM_highest, if_neg c_1, if_pos c_2] <;> rfl) (hl := lv_sub hl [0, 1, 3, 4] rfl)
        · exact absurd c_3 (by decide)
      · refine lv_iload_n hx hb dM_highest_28 rfl (lv_at hl 1 rfl) ?_
        refine lv_iconst (v := (-1)) hx hb dM_highest_29 (by decide) ?_
        refine lv_icmp_eq (tgt := 78) hx hb dM_highest_30 (by decide) (fun c_4 => ?_) (fun c_4 => ?_)
        · refine lv_iconst (v := 1) hx hb dM_highest_78 (by decide) ?_
          refine lv_goto (tgt := 83) hx hb dM_highest_79 (by decide) ?_
          refine lv_istore (lv' := [(4, .int 1), (3, .int (nI (10 * p0.toNatClampNeg + j))), (2, .int x), (0, .ref (ad 5)), (1, .int p0)]) hx hb dM_highest_83 hl (by decide) rfl (fun ls hl => ?_)
          refine lv_iload hx hb dM_highest_85 (lv_at hl 0 rfl) ?_
          refine lv_if_eq (tgt := 94) hx hb dM_highest_87 (by decide) (fun c_5 => ?_) (fun c_5 => ?_)
          · exact absurd c_5 (by decide)
          · refine lv_iload_n hx hb dM_highest_90 rfl (lv_at hl 1 rfl) ?_
            refine lv_goto (tgt := 95) hx hb dM_highest_91 (by decide) ?_
            refine lv_istore_n (lv' := [(2, .int (nI (10 * p0.toNatClampNeg + j))), (4, .int 1), (3, .int (nI (10 * p0.toNatClampNeg + j))), (0, .ref (ad 5)), (1, .int p0)]) hx hb dM_highest_95 rfl hl (by decide) rfl (fun ls hl => ?_)
            refine lv_iinc (v := nI (10 * p0.toNatClampNeg + j + 1)) (lv' := [(3, .int (nI (10 * p0.toNatClampNeg + j + 1))), (2, .int (nI (10 * p0.toNatClampNeg + j))), (4, .int 1), (0, .ref (ad 5)), (1, .int p0)]) hx hb dM_highest_96 hl (k := 2) rfl (nI_1 (10 * p0.toNatClampNeg + j)) (by decide) rfl (fun ls hl => ?_)
            refine lv_goto (tgt := 7) hx hb dM_highest_99 (by decide) ?_
            exact ih (j := j + 1) (x := nI (10 * p0.toNatClampNeg + j)) (ls := ls) (hf := by omega) (hj := by have hlt := grd10 hp (by omega) c_1; omega) (hxr := Or.inr (vp_in_nI (by have hlt := grd10 hp (by omega) c_1; omega) (by omega))) (hF := by rw [hF, lM_highest, if_neg c_1, if_neg c_2, if_pos c_4] <;> rfl) (hl := lv_sub hl [0, 1, 3, 4] rfl)
        · refine lv_aload_n hx hb dM_highest_33 rfl (lv_at hl 2 rfl) ?_
          refine rm_get (v := .ref (ad 13)) hx hb hts hown hC hG 8 (by decide) q_518 (rfl) dM_highest_34 ?_
          refine lv_iload_n hx hb dM_highest_37 rfl (lv_at hl 0 rfl) ?_
          refine ra_ld hx hb hC hG 13 300 (by omega) (fun _ _ => rfl) (vp_in_nI (by have hlt := grd10 hp (by omega) c_1; omega) (by omega)) dM_highest_38 ?_
          rw [show (nI (10 * p0.toNatClampNeg + j)).toNatClampNeg = (10 * p0.toNatClampNeg + j) from nI_clamp (by omega)]
          refine lv_aload_n hx hb dM_highest_39 rfl (lv_at hl 2 rfl) ?_
          refine rm_get (v := .ref (ad 13)) hx hb hts hown hC hG 8 (by decide) q_518 (rfl) dM_highest_40 ?_
          refine lv_iload_n hx hb dM_highest_43 rfl (lv_at hl 1 rfl) ?_
          refine ra_ld hx hb hC hG 13 300 (by omega) (fun _ _ => rfl) (hxr.resolve_left c_4) dM_highest_44 ?_
          refine lv_icmp_gt (tgt := 78) hx hb dM_highest_45 (by decide) (fun c_6 => ?_) (fun c_6 => ?_)
          · refine lv_iconst (v := 1) hx hb dM_highest_78 (by decide) ?_
            refine lv_goto (tgt := 83) hx hb dM_highest_79 (by decide) ?_
            refine lv_istore (lv' := [(4, .int 1), (3, .int (nI (10 * p0.toNatClampNeg + j))), (2, .int x), (0, .ref (ad 5)), (1, .int p0)]) hx hb dM_highest_83 hl (by decide) rfl (fun ls hl => ?_)
            refine lv_iload hx hb dM_highest_85 (lv_at hl 0 rfl) ?_
            refine lv_if_eq (tgt := 94) hx hb dM_highest_87 (by decide) (fun c_7 => ?_) (fun c_7 => ?_)
            · exact absurd c_7 (by decide)
            · refine lv_iload_n hx hb dM_highest_90 rfl (lv_at hl 1 rfl) ?_
              refine lv_goto (tgt := 95) hx hb dM_highest_91 (by decide) ?_
              refine lv_istore_n (lv' := [(2, .int (nI (10 * p0.toNatClampNeg + j))), (4, .int 1), (3, .int (nI (10 * p0.toNatClampNeg + j))), (0, .ref (ad 5)), (1, .int p0)]) hx hb dM_highest_95 rfl hl (by decide) rfl (fun ls hl => ?_)
              refine lv_iinc (v := nI (10 * p0.toNatClampNeg + j + 1)) (lv' := [(3, .int (nI (10 * p0.toNatClampNeg + j + 1))), (2, .int (nI (10 * p0.toNatClampNeg + j))), (4, .int 1), (0, .ref (ad 5)), (1, .int p0)]) hx hb dM_highest_96 hl (k := 2) rfl (nI_1 (10 * p0.toNatClampNeg + j)) (by decide) rfl (fun ls hl => ?_)
              refine lv_goto (tgt := 7) hx hb dM_highest_99 (by decide) ?_
              exact ih (j := j + 1) (x := nI (10 * p0.toNatClampNeg + j)) (ls := ls) (hf := by omega) (hj := by have hlt := grd10 hp (by omega) c_1; omega) (hxr := Or.inr (vp_in_nI (by have hlt := grd10 hp (by omega) c_1; omega) (by omega))) (hF := by rw [hF, lM_highest, if_neg c_1, if_neg c_2, if_neg c_4, if_pos c_6] <;> rfl) (hl := lv_sub hl [0, 1, 3, 4] rfl)
          · refine lv_aload_n hx hb dM_highest_48 rfl (lv_at hl 2 rfl) ?_
            refine rm_get (v := .ref (ad 13)) hx hb hts hown hC hG 8 (by decide) q_518 (rfl) dM_highest_49 ?_
            refine lv_iload_n hx hb dM_highest_52 rfl (lv_at hl 0 rfl) ?_
            refine ra_ld hx hb hC hG 13 300 (by omega) (fun _ _ => rfl) (vp_in_nI (by have hlt := grd10 hp (by omega) c_1; omega) (by omega)) dM_highest_53 ?_
            rw [show (nI (10 * p0.toNatClampNeg + j)).toNatClampNeg = (10 * p0.toNatClampNeg + j) from nI_clamp (by omega)]
            refine lv_aload_n hx hb dM_highest_54 rfl (lv_at hl 2 rfl) ?_
            refine rm_get (v := .ref (ad 13)) hx hb hts hown hC hG 8 (by decide) q_518 (rfl) dM_highest_55 ?_
            refine lv_iload_n hx hb dM_highest_58 rfl (lv_at hl 1 rfl) ?_
            refine ra_ld hx hb hC hG 13 300 (by omega) (fun _ _ => rfl) (hxr.resolve_left c_4) dM_highest_59 ?_
            refine lv_icmp_ne (tgt := 82) hx hb dM_highest_60 (by decide) (fun c_8 => ?_) (fun c_8 => ?_)
            · refine lv_iconst (v := 0) hx hb dM_highest_82 (by decide) ?_
              refine lv_istore (lv' := [(4, .int 0), (3, .int (nI (10 * p0.toNatClampNeg + j))), (2, .int x), (0, .ref (ad 5)), (1, .int p0)]) hx hb dM_highest_83 hl (by decide) rfl (fun ls hl => ?_)
              refine lv_iload hx hb dM_highest_85 (lv_at hl 0 rfl) ?_
              refine lv_if_eq (tgt := 94) hx hb dM_highest_87 (by decide) (fun c_9 => ?_) (fun c_9 => ?_)
              · refine lv_iload_n hx hb dM_highest_94 rfl (lv_at hl 2 rfl) ?_
                refine lv_istore_n (lv' := [(2, .int x), (4, .int 0), (3, .int (nI (10 * p0.toNatClampNeg + j))), (0, .ref (ad 5)), (1, .int p0)]) hx hb dM_highest_95 rfl hl (by decide) rfl (fun ls hl => ?_)
                refine lv_iinc (v := nI (10 * p0.toNatClampNeg + j + 1)) (lv' := [(3, .int (nI (10 * p0.toNatClampNeg + j + 1))), (2, .int x), (4, .int 0), (0, .ref (ad 5)), (1, .int p0)]) hx hb dM_highest_96 hl (k := 2) rfl (nI_1 (10 * p0.toNatClampNeg + j)) (by decide) rfl (fun ls hl => ?_)
                refine lv_goto (tgt := 7) hx hb dM_highest_99 (by decide) ?_
                exact ih (j := j + 1) (x := x) (ls := ls) (hf := by omega) (hj := by have hlt := grd10 hp (by omega) c_1; omega) (hxr := hxr) (hF := by rw [hF, lM_highest, if_neg c_1, if_neg c_2, if_neg c_4, if_neg c_6, if_neg c_8] <;> rfl) (hl := lv_sub hl [0, 1, 3, 4] rfl)
              · exact absurd c_9 (by decide)
            · refine lv_aload_n hx hb dM_highest_63 rfl (lv_at hl 2 rfl) ?_
              refine rm_get (v := .ref (ad 14)) hx hb hts hown hC hG 9 (by decide) q_519 (rfl) dM_highest_64 ?_
              refine lv_iload_n hx hb dM_highest_67 rfl (lv_at hl 0 rfl) ?_
              refine ra_ld hx hb hC hG 14 300 (by omega) (fun _ _ => rfl) (vp_in_nI (by have hlt := grd10 hp (by omega) c_1; omega) (by omega)) dM_highest_68 ?_
              rw [show (nI (10 * p0.toNatClampNeg + j)).toNatClampNeg = (10 * p0.toNatClampNeg + j) from nI_clamp (by omega)]
              refine lv_aload_n hx hb dM_highest_69 rfl (lv_at hl 2 rfl) ?_
              refine rm_get (v := .ref (ad 14)) hx hb hts hown hC hG 9 (by decide) q_519 (rfl) dM_highest_70 ?_
              refine lv_iload_n hx hb dM_highest_73 rfl (lv_at hl 1 rfl) ?_
              refine ra_ld hx hb hC hG 14 300 (by omega) (fun _ _ => rfl) (hxr.resolve_left c_4) dM_highest_74 ?_
              refine lv_icmp_ge (tgt := 82) hx hb dM_highest_75 (by decide) (fun c_10 => ?_) (fun c_10 => ?_)
              · refine lv_iconst (v := 0) hx hb dM_highest_82 (by decide) ?_
                refine lv_istore (lv' := [(4, .int 0), (3, .int (nI (10 * p0.toNatClampNeg + j))), (2, .int x), (0, .ref (ad 5)), (1, .int p0)]) hx hb dM_highest_83 hl (by decide) rfl (fun ls hl => ?_)
                refine lv_iload hx hb dM_highest_85 (lv_at hl 0 rfl) ?_
                refine lv_if_eq (tgt := 94) hx hb dM_highest_87 (by decide) (fun c_11 => ?_) (fun c_11 => ?_)
                · refine lv_iload_n hx hb dM_highest_94 rfl (lv_at hl 2 rfl) ?_
                  refine lv_istore_n (lv' := [(2, .int x), (4, .int 0), (3, .int (nI (10 * p0.toNatClampNeg + j))), (0, .ref (ad 5)), (1, .int p0)]) hx hb dM_highest_95 rfl hl (by decide) rfl (fun ls hl => ?_)
                  refine lv_iinc (v := nI (10 * p0.toNatClampNeg + j + 1)) (lv' := [(3, .int (nI (10 * p0.toNatClampNeg + j + 1))), (2, .int x), (4, .int 0), (0, .ref (ad 5)), (1, .int p0)]) hx hb dM_highest_96 hl (k := 2) rfl (nI_1 (10 * p0.toNatClampNeg + j)) (by decide) rfl (fun ls hl => ?_)
                  refine lv_goto (tgt := 7) hx hb dM_highest_99 (by decide) ?_
                  exact ih (j := j + 1) (x := x) (ls := ls) (hf := by omega) (hj := by have hlt := grd10 hp (by omega) c_1; omega) (hxr := hxr) (hF := by rw [hF, lM_highest, if_neg c_1, if_neg c_2, if_neg c_4, if_neg c_6, if_pos c_8, if_pos c_10] <;> rfl) (hl := lv_sub hl [0, 1, 3, 4] rfl)
                · exact absurd c_11 (by decide)
              · refine lv_iconst (v := 1) hx hb dM_highest_78 (by decide) ?_
                refine lv_goto (tgt := 83) hx hb dM_highest_79 (by decide) ?_
                refine lv_istore (lv' := [(4, .int 1), (3, .int (nI (10 * p0.toNatClampNeg + j))), (2, .int x), (0, .ref (ad 5)), (1, .int p0)]) hx hb dM_highest_83 hl (by decide) rfl (fun ls hl => ?_)
                refine lv_iload hx hb dM_highest_85 (lv_at hl 0 rfl) ?_
                refine lv_if_eq (tgt := 94) hx hb dM_highest_87 (by decide) (fun c_12 => ?_) (fun c_12 => ?_)
                · exact absurd c_12 (by decide)
                · refine lv_iload_n hx hb dM_highest_90 rfl (lv_at hl 1 rfl) ?_
                  refine lv_goto (tgt := 95) hx hb dM_highest_91 (by decide) ?_
                  refine lv_istore_n (lv' := [(2, .int (nI (10 * p0.toNatClampNeg + j))), (4, .int 1), (3, .int (nI (10 * p0.toNatClampNeg + j))), (0, .ref (ad 5)), (1, .int p0)]) hx hb dM_highest_95 rfl hl (by decide) rfl (fun ls hl => ?_)
                  refine lv_iinc (v := nI (10 * p0.toNatClampNeg + j + 1)) (lv' := [(3, .int (nI (10 * p0.toNatClampNeg + j + 1))), (2, .int (nI (10 * p0.toNatClampNeg + j))), (4, .int 1), (0, .ref (ad 5)), (1, .int p0)]) hx hb dM_highest_96 hl (k := 2) rfl (nI_1 (10 * p0.toNatClampNeg + j)) (by decide) rfl (fun ls hl => ?_)
                  refine lv_goto (tgt := 7) hx hb dM_highest_99 (by decide) ?_
                  exact ih (j := j + 1) (x := nI (10 * p0.toNatClampNeg + j)) (ls := ls) (hf := by omega) (hj := by have hlt := grd10 hp (by omega) c_1; omega) (hxr := Or.inr (vp_in_nI (by have hlt := grd10 hp (by omega) c_1; omega) (by omega))) (hF := by rw [hF, lM_highest, if_neg c_1, if_neg c_2, if_neg c_4, if_neg c_6, if_pos c_8, if_neg c_10] <;> rfl) (hl := lv_sub hl [0, 1, 3, 4] rfl)
def lM_but (sL : NL) (sA : NA) (p0 p1 : Int32) : Nat → Nat → Int32 → Int32
  | 0, _, _ => 0
  | f + 1, j, x => if ((10 * p0) + 10) ≤ (nI (10 * p0.toNatClampNeg + j)) then x else (if (nI (10 * p0.toNatClampNeg + j)) = p1 then lM_but sL sA p0 p1 f (j + 1) x else (if (sA 13 (10 * p0.toNatClampNeg + j)) ≤ x then lM_but sL sA p0 p1 f (j + 1) x else lM_but sL sA p0 p1 f (j + 1) (sA 13 (10 * p0.toNatClampNeg + j))))
def fM_highestBut (sL : NL) (sA : NA) (p0 : Int32) (p1 : Int32) : Int32 := lM_but sL sA p0 p1 11 0 (-1)
theorem hdyM_highestBut : yM_highestBut.cls ≠ "java/lang/invoke/MethodHandle" ∧ yM_highestBut.cls ≠ "java/lang/invoke/VarHandle" ∧ (parseMethodDescriptor yM_highestBut.desc).map (fun d => d.parameters.length) = some 2 := by decide +kernel
theorem dM_highestBut_0 : decode bM_highestBut 0 = .ok (.iconst (-1), 1) := by decide +kernel
theorem dM_highestBut_1 : decode bM_highestBut 1 = .ok (.istore_n 3, 1) := by decide +kernel
theorem dM_highestBut_2 : decode bM_highestBut 2 = .ok (.bipush 10, 2) := by decide +kernel
theorem dM_highestBut_4 : decode bM_highestBut 4 = .ok (.iload_n 1, 1) := by decide +kernel
theorem dM_highestBut_5 : decode bM_highestBut 5 = .ok (.imul, 1) := by decide +kernel
theorem dM_highestBut_6 : decode bM_highestBut 6 = .ok (.istore 4, 2) := by decide +kernel
theorem dM_highestBut_8 : decode bM_highestBut 8 = .ok (.iload 4, 2) := by decide +kernel
theorem dM_highestBut_10 : decode bM_highestBut 10 = .ok (.bipush 10, 2) := by decide +kernel
theorem dM_highestBut_12 : decode bM_highestBut 12 = .ok (.iload_n 1, 1) := by decide +kernel
theorem dM_highestBut_13 : decode bM_highestBut 13 = .ok (.imul, 1) := by decide +kernel
theorem dM_highestBut_14 : decode bM_highestBut 14 = .ok (.bipush 10, 2) := by decide +kernel
theorem dM_highestBut_16 : decode bM_highestBut 16 = .ok (.iadd, 1) := by decide +kernel
theorem dM_highestBut_17 : decode bM_highestBut 17 = .ok (.if_icmp .ge 38, 3) := by decide +kernel
theorem dM_highestBut_20 : decode bM_highestBut 20 = .ok (.iload 4, 2) := by decide +kernel
theorem dM_highestBut_22 : decode bM_highestBut 22 = .ok (.iload_n 2, 1) := by decide +kernel
theorem dM_highestBut_23 : decode bM_highestBut 23 = .ok (.if_icmp .eq 24, 3) := by decide +kernel
theorem dM_highestBut_26 : decode bM_highestBut 26 = .ok (.aload_n 0, 1) := by decide +kernel
theorem dM_highestBut_27 : decode bM_highestBut 27 = .ok (.getfield 31, 3) := by decide +kernel
theorem dM_highestBut_30 : decode bM_highestBut 30 = .ok (.iload 4, 2) := by decide +kernel
theorem dM_highestBut_32 : decode bM_highestBut 32 = .ok (.iaload, 1) := by decide +kernel
theorem dM_highestBut_33 : decode bM_highestBut 33 = .ok (.iload_n 3, 1) := by decide +kernel
theorem dM_highestBut_34 : decode bM_highestBut 34 = .ok (.if_icmp .le 13, 3) := by decide +kernel
theorem dM_highestBut_37 : decode bM_highestBut 37 = .ok (.aload_n 0, 1) := by decide +kernel
theorem dM_highestBut_38 : decode bM_highestBut 38 = .ok (.getfield 31, 3) := by decide +kernel
theorem dM_highestBut_41 : decode bM_highestBut 41 = .ok (.iload 4, 2) := by decide +kernel
theorem dM_highestBut_43 : decode bM_highestBut 43 = .ok (.iaload, 1) := by decide +kernel
theorem dM_highestBut_44 : decode bM_highestBut 44 = .ok (.goto 4, 3) := by decide +kernel
theorem dM_highestBut_47 : decode bM_highestBut 47 = .ok (.iload_n 3, 1) := by decide +kernel
theorem dM_highestBut_48 : decode bM_highestBut 48 = .ok (.istore_n 3, 1) := by decide +kernel
theorem dM_highestBut_49 : decode bM_highestBut 49 = .ok (.iinc 4 1, 3) := by decide +kernel
theorem dM_highestBut_52 : decode bM_highestBut 52 = .ok (.goto (-44), 3) := by decide +kernel
theorem dM_highestBut_55 : decode bM_highestBut 55 = .ok (.iload_n 3, 1) := by decide +kernel
theorem dM_highestBut_56 : decode bM_highestBut 56 = .ok (.ireturn, 1) := by decide +kernel
set_option maxHeartbeats 4000000 in
set_option maxRecDepth 100000 in
theorem cM_highestBut (l : Launch) (D : va_G) (tI tJ tL : ClassId) (A : Nat → Prop) (sg ad : Nat → Nat) (n : Nat) (sL : NL) (sA : NA) (p0 : Int32) (p1 : Int32) (hp : vp_in p0 30) : Met l yM_highestBut (Cond.code yM_highestBut bM_highestBut 5 (some FieldType.int) :: wNeed) { frames := 0, cells := 0, slots := 0, locals := 0 } (va_Pc [.ref (ad 5), .int p0, .int p1] (GP D tI tJ tL A sg ad n sL sA)) (vp_Si fun r => r = fM_highestBut sL sA p0 p1) 0 0 (fun _ => False) := by
  refine en_M (av := [.ref (ad 5), .int p0, .int p1]) (by decide) (Nat.le_of_ble_eq_true rfl) ?_
  intro p e s m below meth c hx hb hml hown hts hr hlocks hmname hP ls hl
  obtain ⟨hG, hC⟩ := hP
  have hS : va_S A s.heap s.heap [] := va_S.rf
  replace hl : lv_has ls 5 [(0, .ref (ad 5)), (1, .int p0), (2, .int p1)] := hl
  refine lv_iconst (v := (-1)) hx hb dM_highestBut_0 (by decide) ?_
  refine lv_istore_n (lv' := [(3, .int (-1)), (0, .ref (ad 5)), (1, .int p0), (2, .int p1)]) hx hb dM_highestBut_1 rfl hl (by decide) rfl (fun ls hl => ?_)
  refine lv_bipush (v := 10) hx hb dM_highestBut_2 (by decide) ?_
  refine lv_iload_n hx hb dM_highestBut_4 rfl (lv_at hl 2 rfl) ?_
  refine lv_imul hx hb dM_highestBut_5 ?_
  refine lv_istore (lv' := [(4, .int (10 * p0)), (3, .int (-1)), (0, .ref (ad 5)), (1, .int p0), (2, .int p1)]) hx hb dM_highestBut_6 hl (by decide) rfl (fun ls hl => ?_)
  have hpa := vin_nat hp
  rw [mul10 hp] at hl
  replace hl : ∃ (f : Nat) (j : Nat) (x : Int32), j + f = 11 ∧ j ≤ 10 ∧ fM_highestBut sL sA p0 p1 = lM_but sL sA p0 p1 f j x ∧ lv_has ls 5 [(4, .int (nI (10 * p0.toNatClampNeg + j))), (3, .int x), (0, .ref (ad 5)), (1, .int p0), (2, .int p1)] := ⟨11, 0, (-1), rfl, by omega, (by rw [fM_highestBut] <;> rfl), hl⟩
  obtain ⟨f, j, x, hf, hj, hF, hl⟩ := hl
  induction f generalizing j x ls with
  | zero => exact absurd hf (by omega)
  | succ f ih =>
    refine lv_iload hx hb dM_highestBut_8 (lv_at hl 0 rfl) ?_
    refine lv_bipush (v := 10) hx hb dM_highestBut_10 (by decide) ?_
    refine lv_iload_n hx hb dM_highestBut_12 rfl (lv_at hl 3 rfl) ?_
    refine lv_imul hx hb dM_highestBut_13 ?_
    refine lv_bipush (v := 10) hx hb dM_highestBut_14 (by decide) ?_
    refine lv_iadd hx hb dM_highestBut_16 ?_
    refine lv_icmp_ge (tgt := 55) hx hb dM_highestBut_17 (by decide) (fun c_1 => ?_) (fun c_1 => ?_)
    · refine lv_iload_n hx hb dM_highestBut_55 rfl (lv_at hl 1 rfl) ?_
      exact W.iret (v := x) hx hb hr (fun t ht hW => ⟨_, rfl, (by rw [hF, lM_but, if_pos c_1] <;> rfl), ht⟩) (fun q h => nomatch h) dM_highestBut_56
    · refine lv_iload hx hb dM_highestBut_20 (lv_at hl 0 rfl) ?_
      refine lv_iload_n hx hb dM_highestBut_22 rfl (lv_at hl 4 rfl) ?_
      refine lv_icmp_eq (tgt := 47) hx hb dM_highestBut_23 (by decide) (fun c_2 => ?_) (fun c_2 => ?_)
      · refine lv_iload_n hx hb dM_highestBut_47 rfl (lv_at hl 1 rfl) ?_
        refine lv_istore_n (lv' := [(3, .int x), (4, .int (nI (10 * p0.toNatClampNeg + j))), (0, .ref (ad 5)), (1, .int p0), (2, .int p1)]) hx hb dM_highestBut_48 rfl hl (by decide) rfl (fun ls hl => ?_)
        refine lv_iinc (v := nI (10 * p0.toNatClampNeg + j + 1)) (lv' := [(4, .int (nI (10 * p0.toNatClampNeg + j + 1))), (3, .int x), (0, .ref (ad 5)), (1, .int p0), (2, .int p1)]) hx hb dM_highestBut_49 hl (k := 1) rfl (nI_1 (10 * p0.toNatClampNeg + j)) (by decide) rfl (fun ls hl => ?_)
        refine lv_goto (tgt := 8) hx hb dM_highestBut_52 (by decide) ?_
        exact ih (j := j + 1) (x := x) (ls := ls) (hf := by omega) (hj := by have hlt := grd10 hp (by omega) c_1; omega) (hF := by rw [hF, lM_but, if_neg c_1, if_pos c_2] <;> rfl) (hl := lv_sub hl [0, 1, 2, 3, 4] rfl)
      · refine lv_aload_n hx hb dM_highestBut_26 rfl (lv_at hl 2 rfl) ?_
        refine rm_get (v := .ref (ad 13)) hx hb hts hown hC hG 8 (by decide) q_518 (rfl) dM_highestBut_27 ?_
        refine lv_iload hx hb dM_highestBut_30 (lv_at hl 0 rfl) ?_
        refine ra_ld hx hb hC hG 13 300 (by omega) (fun _ _ => rfl) (vp_in_nI (by have hlt := grd10 hp (by omega) c_1; omega) (by omega)) dM_highestBut_32 ?_
        rw [show (nI (10 * p0.toNatClampNeg + j)).toNatClampNeg = (10 * p0.toNatClampNeg + j) from nI_clamp (by omega)]
        refine lv_iload_n hx hb dM_highestBut_33 rfl (lv_at hl 1 rfl) ?_
        refine lv_icmp_le (tgt := 47) hx hb dM_highestBut_34 (by decide) (fun c_3 => ?_) (fun c_3 => ?_)
        · refine lv_iload_n hx hb dM_highestBut_47 rfl (lv_at hl 1 rfl) ?_
          refine lv_istore_n (lv' := [(3, .int x), (4, .int (nI (10 * p0.toNatClampNeg + j))), (0, .ref (ad 5)), (1, .int p0), (2, .int p1)]) hx hb dM_highestBut_48 rfl hl (by decide) rfl (fun ls hl => ?_)
          refine lv_iinc (v := nI (10 * p0.toNatClampNeg + j + 1)) (lv' := [(4, .int (nI (10 * p0.toNatClampNeg + j + 1))), (3, .int x), (0, .ref (ad 5)), (1, .int p0), (2, .int p1)]) hx hb dM_highestBut_49 hl (k := 1) rfl (nI_1 (10 * p0.toNatClampNeg + j)) (by decide) rfl (fun ls hl => ?_)
          refine lv_goto (tgt := 8) hx hb dM_highestBut_52 (by decide) ?_
          exact ih (j := j + 1) (x := x) (ls := ls) (hf := by omega) (hj := by have hlt := grd10 hp (by omega) c_1; omega) (hF := by rw [hF, lM_but, if_neg c_1, if_neg c_2, if_pos c_3] <;> rfl) (hl := lv_sub hl [0, 1, 2, 3, 4] rfl)
        · refine lv_aload_n hx hb dM_highestBut_37 rfl (lv_at hl 2 rfl) ?_
          refine rm_get (v := .ref (ad 13)) hx hb hts hown hC hG 8 (by decide) q_518 (rfl) dM_highestBut_38 ?_
          refine lv_iload hx hb dM_highestBut_41 (lv_at hl 0 rfl) ?_
          refine ra_ld hx hb hC hG 13 300 (by omega) (fun _ _ => rfl) (vp_in_nI (by have hlt := grd10 hp (by omega) c_1; omega) (by omega)) dM_highestBut_43 ?_
          rw [show (nI (10 * p0.toNatClampNeg + j)).toNatClampNeg = (10 * p0.toNatClampNeg + j) from nI_clamp (by omega)]
          refine lv_goto (tgt := 48) hx hb dM_highestBut_44 (by decide) ?_
          refine lv_istore_n (lv' := [(3, .int (sA 13 (10 * p0.toNatClampNeg + j))), (4, .int (nI (10 * p0.toNatClampNeg + j))), (0, .ref (ad 5)), (1, .int p0), (2, .int p1)]) hx hb dM_highestBut_48 rfl hl (by decide) rfl (fun ls hl => ?_)
          refine lv_iinc (v := nI (10 * p0.toNatClampNeg + j + 1)) (lv' := [(4, .int (nI (10 * p0.toNatClampNeg + j + 1))), (3, .int (sA 13 (10 * p0.toNatClampNeg + j))), (0, .ref (ad 5)), (1, .int p0), (2, .int p1)]) hx hb dM_highestBut_49 hl (k := 1) rfl (nI_1 (10 * p0.toNatClampNeg + j)) (by decide) rfl (fun ls hl => ?_)
          refine lv_goto (tgt := 8) hx hb dM_highestBut_52 (by decide) ?_
          exact ih (j := j + 1) (x := sA 13 (10 * p0.toNatClampNeg + j)) (ls := ls) (hf := by omega) (hj := by have hlt := grd10 hp (by omega) c_1; omega) (hF := by rw [hF, lM_but, if_neg c_1, if_neg c_2, if_neg c_3] <;> rfl) (hl := lv_sub hl [0, 1, 2, 3, 4] rfl)
def lM_many (sL : NL) (sA : NA) (p0 : Int32) : Nat → Nat → Int32 → Int32
  | 0, _, _ => 0
  | f + 1, j, x => if ((10 * p0) + 10) ≤ (nI (10 * p0.toNatClampNeg + j)) then x else (if (sA 13 (10 * p0.toNatClampNeg + j)) = (-1) then lM_many sL sA p0 f (j + 1) (x + 0) else lM_many sL sA p0 f (j + 1) (x + 1))
def fM_bidMany (sL : NL) (sA : NA) (p0 : Int32) : Int32 := lM_many sL sA p0 11 0 0
theorem hdyM_bidMany : yM_bidMany.cls ≠ "java/lang/invoke/MethodHandle" ∧ yM_bidMany.cls ≠ "java/lang/invoke/VarHandle" ∧ (parseMethodDescriptor yM_bidMany.desc).map (fun d => d.parameters.length) = some 1 := by decide +kernel
theorem dM_bidMany_0 : decode bM_bidMany 0 = .ok (.iconst 0, 1) := by decide +kernel
theorem dM_bidMany_1 : decode bM_bidMany 1 = .ok (.istore_n 2, 1) := by decide +kernel
theorem dM_bidMany_2 : decode bM_bidMany 2 = .ok (.bipush 10, 2) := by decide +kernel
theorem dM_bidMany_4 : decode bM_bidMany 4 = .ok (.iload_n 1, 1) := by decide +kernel
theorem dM_bidMany_5 : decode bM_bidMany 5 = .ok (.imul, 1) := by decide +kernel
theorem dM_bidMany_6 : decode bM_bidMany 6 = .ok (.istore_n 3, 1) := by decide +kernel
theorem dM_bidMany_7 : decode bM_bidMany 7 = .ok (.iload_n 3, 1) := by decide +kernel
theorem dM_bidMany_8 : decode bM_bidMany 8 = .ok (.bipush 10, 2) := by decide +kernel
theorem dM_bidMany_10 : decode bM_bidMany 10 = .ok (.iload_n 1, 1) := by decide +kernel
theorem dM_bidMany_11 : decode bM_bidMany 11 = .ok (.imul, 1) := by decide +kernel
theorem dM_bidMany_12 : decode bM_bidMany 12 = .ok (.bipush 10, 2) := by decide +kernel
theorem dM_bidMany_14 : decode bM_bidMany 14 = .ok (.iadd, 1) := by decide +kernel
theorem dM_bidMany_15 : decode bM_bidMany 15 = .ok (.if_icmp .ge 27, 3) := by decide +kernel
theorem dM_bidMany_18 : decode bM_bidMany 18 = .ok (.iload_n 2, 1) := by decide +kernel
theorem dM_bidMany_19 : decode bM_bidMany 19 = .ok (.aload_n 0, 1) := by decide +kernel
theorem dM_bidMany_20 : decode bM_bidMany 20 = .ok (.getfield 31, 3) := by decide +kernel
theorem dM_bidMany_23 : decode bM_bidMany 23 = .ok (.iload_n 3, 1) := by decide +kernel
theorem dM_bidMany_24 : decode bM_bidMany 24 = .ok (.iaload, 1) := by decide +kernel
theorem dM_bidMany_25 : decode bM_bidMany 25 = .ok (.iconst (-1), 1) := by decide +kernel
theorem dM_bidMany_26 : decode bM_bidMany 26 = .ok (.if_icmp .eq 7, 3) := by decide +kernel
theorem dM_bidMany_29 : decode bM_bidMany 29 = .ok (.iconst 1, 1) := by decide +kernel
theorem dM_bidMany_30 : decode bM_bidMany 30 = .ok (.goto 4, 3) := by decide +kernel
theorem dM_bidMany_33 : decode bM_bidMany 33 = .ok (.iconst 0, 1) := by decide +kernel
theorem dM_bidMany_34 : decode bM_bidMany 34 = .ok (.iadd, 1) := by decide +kernel
theorem dM_bidMany_35 : decode bM_bidMany 35 = .ok (.istore_n 2, 1) := by decide +kernel
theorem dM_bidMany_36 : decode bM_bidMany 36 = .ok (.iinc 3 1, 3) := by decide +kernel
theorem dM_bidMany_39 : decode bM_bidMany 39 = .ok (.goto (-32), 3) := by decide +kernel
theorem dM_bidMany_42 : decode bM_bidMany 42 = .ok (.iload_n 2, 1) := by decide +kernel
theorem dM_bidMany_43 : decode bM_bidMany 43 = .ok (.ireturn, 1) := by decide +kernel
set_option maxHeartbeats 4000000 in
set_option maxRecDepth 100000 in
theorem cM_bidMany (l : Launch) (D : va_G) (tI tJ tL : ClassId) (A : Nat → Prop) (sg ad : Nat → Nat) (n : Nat) (sL : NL) (sA : NA) (p0 : Int32) (hp : vp_in p0 30) : Met l yM_bidMany (Cond.code yM_bidMany bM_bidMany 4 (some FieldType.int) :: wNeed) { frames := 0, cells := 0, slots := 0, locals := 0 } (va_Pc [.ref (ad 5), .int p0] (GP D tI tJ tL A sg ad n sL sA)) (vp_Si fun r => r = fM_bidMany sL sA p0) 0 0 (fun _ => False) := by
  refine en_M (av := [.ref (ad 5), .int p0]) (by decide) (Nat.le_of_ble_eq_true rfl) ?_
  intro p e s m below meth c hx hb hml hown hts hr hlocks hmname hP ls hl
  obtain ⟨hG, hC⟩ := hP
  have hS : va_S A s.heap s.heap [] := va_S.rf
  replace hl : lv_has ls 4 [(0, .ref (ad 5)), (1, .int p0)] := hl
  refine lv_iconst (v := 0) hx hb dM_bidMany_0 (by decide) ?_
  refine lv_istore_n (lv' := [(2, .int 0), (0, .ref (ad 5)), (1, .int p0)]) hx hb dM_bidMany_1 rfl hl (by decide) rfl (fun ls hl => ?_)
  refine lv_bipush (v := 10) hx hb dM_bidMany_2 (by decide) ?_
  refine lv_iload_n hx hb dM_bidMany_4 rfl (lv_at hl 2 rfl) ?_
  refine lv_imul hx hb dM_bidMany_5 ?_
  refine lv_istore_n (lv' := [(3, .int (10 * p0)), (2, .int 0), (0, .ref (ad 5)), (1, .int p0)]) hx hb dM_bidMany_6 rfl hl (by decide) rfl (fun ls hl => ?_)
  have hpa := vin_nat hp
  rw [mul10 hp] at hl
  replace hl : ∃ (f : Nat) (j : Nat) (x : Int32), j + f = 11 ∧ j ≤ 10 ∧ fM_bidMany sL sA p0 = lM_many sL sA p0 f j x ∧ lv_has ls 4 [(3, .int (nI (10 * p0.toNatClampNeg + j))), (2, .int x), (0, .ref (ad 5)), (1, .int p0)] := ⟨11, 0, 0, rfl, by omega, (by rw [fM_bidMany] <;> rfl), hl⟩
  obtain ⟨f, j, x, hf, hj, hF, hl⟩ := hl
  induction f generalizing j x ls with
  | zero => exact absurd hf (by omega)
  | succ f ih =>
    refine lv_iload_n hx hb dM_bidMany_7 rfl (lv_at hl 0 rfl) ?_
    refine lv_bipush (v := 10) hx hb dM_bidMany_8 (by decide) ?_
    refine lv_iload_n hx hb dM_bidMany_10 rfl (lv_at hl 3 rfl) ?_
    refine lv_imul hx hb dM_bidMany_11 ?_
    refine lv_bipush (v := 10) hx hb dM_bidMany_12 (by decide) ?_
    refine lv_iadd hx hb dM_bidMany_14 ?_
    refine lv_icmp_ge (tgt := 42) hx hb dM_bidMany_15 (by decide) (fun c_1 => ?_) (fun c_1 => ?_)
    · refine lv_iload_n hx hb dM_bidMany_42 rfl (lv_at hl 1 rfl) ?_
      exact W.iret (v := x) hx hb hr (fun t ht hW => ⟨_, rfl, (by rw [hF, lM_many, if_pos c_1] <;> rfl), ht⟩) (fun q h => nomatch h) dM_bidMany_43
    · refine lv_iload_n hx hb dM_bidMany_18 rfl (lv_at hl 1 rfl) ?_
      refine lv_aload_n hx hb dM_bidMany_19 rfl (lv_at hl 2 rfl) ?_
      refine rm_get (v := .ref (ad 13)) hx hb hts hown hC hG 8 (by decide) q_518 (rfl) dM_bidMany_20 ?_
      refine lv_iload_n hx hb dM_bidMany_23 rfl (lv_at hl 0 rfl) ?_
      refine ra_ld hx hb hC hG 13 300 (by omega) (fun _ _ => rfl) (vp_in_nI (by have hlt := grd10 hp (by omega) c_1; omega) (by omega)) dM_bidMany_24 ?_
      rw [show (nI (10 * p0.toNatClampNeg + j)).toNatClampNeg = (10 * p0.toNatClampNeg + j) from nI_clamp (by omega)]
      refine lv_iconst (v := (-1)) hx hb dM_bidMany_25 (by decide) ?_
      refine lv_icmp_eq (tgt := 33) hx hb dM_bidMany_26 (by decide) (fun c_2 => ?_) (fun c_2 => ?_)
      · refine lv_iconst (v := 0) hx hb dM_bidMany_33 (by decide) ?_
        refine lv_iadd hx hb dM_bidMany_34 ?_
        refine lv_istore_n (lv' := [(2, .int (x + 0)), (3, .int (nI (10 * p0.toNatClampNeg + j))), (0, .ref (ad 5)), (1, .int p0)]) hx hb dM_bidMany_35 rfl hl (by decide) rfl (fun ls hl => ?_)
        refine lv_iinc (v := nI (10 * p0.toNatClampNeg + j + 1)) (lv' := [(3, .int (nI (10 * p0.toNatClampNeg + j + 1))), (2, .int (x + 0)), (0, .ref (ad 5)), (1, .int p0)]) hx hb dM_bidMany_36 hl (k := 1) rfl (nI_1 (10 * p0.toNatClampNeg + j)) (by decide) rfl (fun ls hl => ?_)
        refine lv_goto (tgt := 7) hx hb dM_bidMany_39 (by decide) ?_
        exact ih (j := j + 1) (x := x + 0) (ls := ls) (hf := by omega) (hj := by have hlt := grd10 hp (by omega) c_1; omega) (hF := by rw [hF, lM_many, if_neg c_1, if_pos c_2] <;> rfl) (hl := lv_sub hl [0, 1, 2, 3] rfl)
      · refine lv_iconst (v := 1) hx hb dM_bidMany_29 (by decide) ?_
        refine lv_goto (tgt := 34) hx hb dM_bidMany_30 (by decide) ?_
        refine lv_iadd hx hb dM_bidMany_34 ?_
        refine lv_istore_n (lv' := [(2, .int (x + 1)), (3, .int (nI (10 * p0.toNatClampNeg + j))), (0, .ref (ad 5)), (1, .int p0)]) hx hb dM_bidMany_35 rfl hl (by decide) rfl (fun ls hl => ?_)
        refine lv_iinc (v := nI (10 * p0.toNatClampNeg + j + 1)) (lv' := [(3, .int (nI (10 * p0.toNatClampNeg + j + 1))), (2, .int (x + 1)), (0, .ref (ad 5)), (1, .int p0)]) hx hb dM_bidMany_36 hl (k := 1) rfl (nI_1 (10 * p0.toNatClampNeg + j)) (by decide) rfl (fun ls hl => ?_)
        refine lv_goto (tgt := 7) hx hb dM_bidMany_39 (by decide) ?_
        exact ih (j := j + 1) (x := x + 1) (ls := ls) (hf := by omega) (hj := by have hlt := grd10 hp (by omega) c_1; omega) (hF := by rw [hF, lM_many, if_neg c_1, if_neg c_2] <;> rfl) (hl := lv_sub hl [0, 1, 2, 3] rfl)
def lM_held (sL : NL) (sA : NA) : Nat → Nat → Int64 → Int64 × NL × NA
  | 0, _, _ => (0, sL, sA)
  | f + 1, j, x => if (sA 5 0) ≤ (nI j) then (x, sL, (up2 sA 5 23 0)) else (if (sA 9 j) = 3 then (if (sA 9 j) = 4 then lM_held sL sA f (j + 1) ((x + ((sA 11 j : Int32).toInt64)) - 0) else lM_held sL sA f (j + 1) ((x + ((sA 11 j : Int32).toInt64)) - ((sA 17 j : Int32).toInt64))) else (if (sA 9 j) = 4 then lM_held sL sA f (j + 1) ((x + 0) - 0) else lM_held sL sA f (j + 1) ((x + 0) - ((sA 17 j : Int32).toInt64))))
def fM_heldByLots (sL : NL) (sA : NA) : Int64 × NL × NA := lM_held sL sA 31 0 0
theorem hdyM_heldByLots : yM_heldByLots.cls ≠ "java/lang/invoke/MethodHandle" ∧ yM_heldByLots.cls ≠ "java/lang/invoke/VarHandle" ∧ (parseMethodDescriptor yM_heldByLots.desc).map (fun d => d.parameters.length) = some 0 := by decide +kernel
theorem dM_heldByLots_0 : decode bM_heldByLots 0 = .ok (.aload_n 0, 1) := by decide +kernel
theorem dM_heldByLots_1 : decode bM_heldByLots 1 = .ok (.iconst 0, 1) := by decide +kernel
theorem dM_heldByLots_2 : decode bM_heldByLots 2 = .ok (.putfield 62, 3) := by decide +kernel
theorem dM_heldByLots_5 : decode bM_heldByLots 5 = .ok (.lconst 0, 1) := by decide +kernel
theorem dM_heldByLots_6 : decode bM_heldByLots 6 = .ok (.lstore_n 1, 1) := by decide +kernel
theorem dM_heldByLots_7 : decode bM_heldByLots 7 = .ok (.iconst 0, 1) := by decide +kernel
theorem dM_heldByLots_8 : decode bM_heldByLots 8 = .ok (.istore_n 3, 1) := by decide +kernel
theorem dM_heldByLots_9 : decode bM_heldByLots 9 = .ok (.iload_n 3, 1) := by decide +kernel
theorem dM_heldByLots_10 : decode bM_heldByLots 10 = .ok (.aload_n 0, 1) := by decide +kernel
theorem dM_heldByLots_11 : decode bM_heldByLots 11 = .ok (.getfield 65, 3) := by decide +kernel
theorem dM_heldByLots_14 : decode bM_heldByLots 14 = .ok (.if_icmp .ge 57, 3) := by decide +kernel
theorem dM_heldByLots_17 : decode bM_heldByLots 17 = .ok (.lload_n 1, 1) := by decide +kernel
theorem dM_heldByLots_18 : decode bM_heldByLots 18 = .ok (.aload_n 0, 1) := by decide +kernel
theorem dM_heldByLots_19 : decode bM_heldByLots 19 = .ok (.getfield 19, 3) := by decide +kernel
theorem dM_heldByLots_22 : decode bM_heldByLots 22 = .ok (.iload_n 3, 1) := by decide +kernel
theorem dM_heldByLots_23 : decode bM_heldByLots 23 = .ok (.iaload, 1) := by decide +kernel
theorem dM_heldByLots_24 : decode bM_heldByLots 24 = .ok (.iconst 3, 1) := by decide +kernel
theorem dM_heldByLots_25 : decode bM_heldByLots 25 = .ok (.if_icmp .ne 13, 3) := by decide +kernel
theorem dM_heldByLots_28 : decode bM_heldByLots 28 = .ok (.aload_n 0, 1) := by decide +kernel
theorem dM_heldByLots_29 : decode bM_heldByLots 29 = .ok (.getfield 25, 3) := by decide +kernel
theorem dM_heldByLots_32 : decode bM_heldByLots 32 = .ok (.iload_n 3, 1) := by decide +kernel
theorem dM_heldByLots_33 : decode bM_heldByLots 33 = .ok (.iaload, 1) := by decide +kernel
theorem dM_heldByLots_34 : decode bM_heldByLots 34 = .ok (.i2l, 1) := by decide +kernel
theorem dM_heldByLots_35 : decode bM_heldByLots 35 = .ok (.goto 4, 3) := by decide +kernel
theorem dM_heldByLots_38 : decode bM_heldByLots 38 = .ok (.lconst 0, 1) := by decide +kernel
theorem dM_heldByLots_39 : decode bM_heldByLots 39 = .ok (.ladd, 1) := by decide +kernel
theorem dM_heldByLots_40 : decode bM_heldByLots 40 = .ok (.lstore_n 1, 1) := by decide +kernel
theorem dM_heldByLots_41 : decode bM_heldByLots 41 = .ok (.lload_n 1, 1) := by decide +kernel
theorem dM_heldByLots_42 : decode bM_heldByLots 42 = .ok (.aload_n 0, 1) := by decide +kernel
theorem dM_heldByLots_43 : decode bM_heldByLots 43 = .ok (.getfield 19, 3) := by decide +kernel
theorem dM_heldByLots_46 : decode bM_heldByLots 46 = .ok (.iload_n 3, 1) := by decide +kernel
theorem dM_heldByLots_47 : decode bM_heldByLots 47 = .ok (.iaload, 1) := by decide +kernel
theorem dM_heldByLots_48 : decode bM_heldByLots 48 = .ok (.iconst 4, 1) := by decide +kernel
theorem dM_heldByLots_49 : decode bM_heldByLots 49 = .ok (.if_icmp .eq 13, 3) := by decide +kernel
theorem dM_heldByLots_52 : decode bM_heldByLots 52 = .ok (.aload_n 0, 1) := by decide +kernel
theorem dM_heldByLots_53 : decode bM_heldByLots 53 = .ok (.getfield 43, 3) := by decide +kernel
theorem dM_heldByLots_56 : decode bM_heldByLots 56 = .ok (.iload_n 3, 1) := by decide +kernel
theorem dM_heldByLots_57 : decode bM_heldByLots 57 = .ok (.iaload, 1) := by decide +kernel
theorem dM_heldByLots_58 : decode bM_heldByLots 58 = .ok (.i2l, 1) := by decide +kernel
theorem dM_heldByLots_59 : decode bM_heldByLots 59 = .ok (.goto 4, 3) := by decide +kernel
theorem dM_heldByLots_62 : decode bM_heldByLots 62 = .ok (.lconst 0, 1) := by decide +kernel
theorem dM_heldByLots_63 : decode bM_heldByLots 63 = .ok (.lsub, 1) := by decide +kernel
theorem dM_heldByLots_64 : decode bM_heldByLots 64 = .ok (.lstore_n 1, 1) := by decide +kernel
theorem dM_heldByLots_65 : decode bM_heldByLots 65 = .ok (.iinc 3 1, 3) := by decide +kernel
theorem dM_heldByLots_68 : decode bM_heldByLots 68 = .ok (.goto (-59), 3) := by decide +kernel
theorem dM_heldByLots_71 : decode bM_heldByLots 71 = .ok (.lload_n 1, 1) := by decide +kernel
theorem dM_heldByLots_72 : decode bM_heldByLots 72 = .ok (.lreturn, 1) := by decide +kernel
set_option maxHeartbeats 4000000 in
set_option maxRecDepth 100000 in
theorem cM_heldByLots (l : Launch) (D : va_G) (tI tJ tL : ClassId) (A : Nat → Prop) (sg ad : Nat → Nat) (n : Nat) (sL : NL) (sA : NA) (nm : Nat) (hnm : nm ≤ 30) (hm : sA 5 0 = nI nm) : Met l yM_heldByLots (Cond.code yM_heldByLots bM_heldByLots 4 (some FieldType.long) :: wNeed) { frames := 0, cells := 0, slots := 0, locals := 0 } (va_Pc [.ref (ad 5)] (GP D tI tJ tL A sg ad n sL sA)) (va_Ql (fun r (u : NL × NA) => fM_heldByLots sL sA = (r, u.1, u.2)) (fun u t => GW D tI tJ tL A ad n u.1 u.2 t.heap) A) 0 0 A := by
  refine en_G (av := [.ref (ad 5)]) (by decide) (Nat.le_of_ble_eq_true rfl) ?_
  intro p e s m below meth c hx hb hml hown hts hr hlocks hmname hC H locs hG hS ls hl
  replace hl : lv_has ls 4 [(0, .ref (ad 5))] := hl
  refine lv_aload_n hx hb dM_heldByLots_0 rfl (lv_at hl 0 rfl) ?_
  refine lv_iconst (v := 0) hx hb dM_heldByLots_1 (by decide) ?_
  refine rm_puti hx hb hts hown hC hG hS 23 (by decide) q_533 dM_heldByLots_2 (fun H locs hG hS => ?_)
  refine lv_lconst (v := 0) hx hb dM_heldByLots_5 (by decide) ?_
  refine lv_lstore_n (lv' := [(1, .long 0), (0, .ref (ad 5))]) hx hb dM_heldByLots_6 rfl hl (by decide) rfl (fun ls hl => ?_)
  refine lv_iconst (v := 0) hx hb dM_heldByLots_7 (by decide) ?_
  refine lv_istore_n (lv' := [(3, .int 0), (1, .long 0), (0, .ref (ad 5))]) hx hb dM_heldByLots_8 rfl hl (by decide) rfl (fun ls hl => ?_)
  replace hl : ∃ (f : Nat) (j : Nat) (x : Int64), j + f = 31 ∧ j ≤ 30 ∧ fM_heldByLots sL sA = lM_held sL sA f j x ∧ lv_has ls 4 [(3, .int (nI j)), (1, .long x), (0, .ref (ad 5))] := ⟨31, 0, 0, rfl, by omega, (by rw [fM_heldByLots] <;> rfl), hl⟩
  obtain ⟨f, j, x, hf, hj, hF, hl⟩ := hl
  induction f generalizing j x ls with
  | zero => exact absurd hf (by omega)
  | succ f ih =>
    refine lv_iload_n hx hb dM_heldByLots_9 rfl (lv_at hl 0 rfl) ?_
    refine lv_aload_n hx hb dM_heldByLots_10 rfl (lv_at hl 2 rfl) ?_
    refine rm_get (v := .int (sA 5 0)) hx hb hts hown hC hG 0 (by decide) q_510 (by simp [mfs, up2, upd, up2L, vp_updL]) dM_heldByLots_11 ?_
    refine lv_icmp_ge (tgt := 71) hx hb dM_heldByLots_14 (by decide) (fun c_1 => ?_) (fun c_1 => ?_)
    · refine lv_lload_n hx hb dM_heldByLots_71 rfl (lv_at hl 1 rfl) ?_
      refine W.widen (k := 0) (n := 0) (Nat.le_of_ble_eq_true rfl) (Nat.le_of_ble_eq_true rfl) ?_
      exact W.lret (v := x) hx hb hr (fun t ht hW => ⟨⟨x, (sL, (up2 sA 5 23 0)), rfl, (by rw [hF, lM_held, if_pos c_1] <;> rfl), gw_at hG ht⟩, hS.F ht⟩) hS.2.2 dM_heldByLots_72
    · refine lv_lload_n hx hb dM_heldByLots_17 rfl (lv_at hl 1 rfl) ?_
      refine lv_aload_n hx hb dM_heldByLots_18 rfl (lv_at hl 2 rfl) ?_
      refine rm_get (v := .ref (ad 9)) hx hb hts hown hC hG 4 (by decide) q_514 (rfl) dM_heldByLots_19 ?_
      refine lv_iload_n hx hb dM_heldByLots_22 rfl (lv_at hl 0 rfl) ?_
      refine ra_ld hx hb hC hG 9 30 (by omega) (fun _ _ => rfl) (vp_in_nI (by have hlt := lt_guard hm hnm (by omega) c_1; omega) (by omega)) dM_heldByLots_23 ?_
      rw [show (nI j).toNatClampNeg = j from nI_clamp (by omega)]
      refine W.eq (g2 := F0 m 24 ls (.int (sA 9 j) :: .long x :: [])) (by simp [up2, upd]) ?_
      refine lv_iconst (v := 3) hx hb dM_heldByLots_24 (by decide) ?_
      refine lv_icmp_ne (tgt := 38) hx hb dM_heldByLots_25 (by decide) (fun c_2 => ?_) (fun c_2 => ?_)
      · refine lv_lconst (v := 0) hx hb dM_heldByLots_38 (by decide) ?_
        refine lv_ladd hx hb dM_heldByLots_39 ?_
        refine lv_lstore_n (lv' := [(1, .long (x + 0)), (3, .int (nI j)), (0, .ref (ad 5))]) hx hb dM_heldByLots_40 rfl hl (by decide) rfl (fun ls hl => ?_)
        refine lv_lload_n hx hb dM_heldByLots_41 rfl (lv_at hl 0 rfl) ?_
        refine lv_aload_n hx hb dM_heldByLots_42 rfl (lv_at hl 2 rfl) ?_
        refine rm_get (v := .ref (ad 9)) hx hb hts hown hC hG 4 (by decide) q_514 (rfl) dM_heldByLots_43 ?_
        refine lv_iload_n hx hb dM_heldByLots_46 rfl (lv_at hl 1 rfl) ?_
        refine ra_ld hx hb hC hG 9 30 (by omega) (fun _ _ => rfl) (vp_in_nI (by have hlt := lt_guard hm hnm (by omega) c_1; omega) (by omega)) dM_heldByLots_47 ?_
        rw [show (nI j).toNatClampNeg = j from nI_clamp (by omega)]
        refine W.eq (g2 := F0 m 48 ls (.int (sA 9 j) :: .long (x + 0) :: [])) (by simp [up2, upd]) ?_
        refine lv_iconst (v := 4) hx hb dM_heldByLots_48 (by decide) ?_
        refine lv_icmp_eq (tgt := 62) hx hb dM_heldByLots_49 (by decide) (fun c_3 => ?_) (fun c_3 => ?_)
        · refine lv_lconst (v := 0) hx hb dM_heldByLots_62 (by decide) ?_
          refine lv_lsub hx hb dM_heldByLots_63 ?_
          refine lv_lstore_n (lv' := [(1, .long ((x + 0) - 0)), (3, .int (nI j)), (0, .ref (ad 5))]) hx hb dM_heldByLots_64 rfl hl (by decide) rfl (fun ls hl => ?_)
          refine lv_iinc (v := nI (j + 1)) (lv' := [(3, .int (nI (j + 1))), (1, .long ((x + 0) - 0)), (0, .ref (ad 5))]) hx hb dM_heldByLots_65 hl (k := 1) rfl (nI_1 j) (by decide) rfl (fun ls hl => ?_)
          refine lv_goto (tgt := 9) hx hb dM_heldByLots_68 (by decide) ?_
          exact ih (j := j + 1) (x := (x + 0) - 0) (ls := ls) (hf := by omega) (hj := by have hlt := lt_guard hm hnm (by omega) c_1; omega) (hF := by rw [hF, lM_held, if_neg c_1, if_neg c_2, if_pos c_3] <;> rfl) (hl := lv_sub hl [0, 1, 2] rfl)
        · refine lv_aload_n hx hb dM_heldByLots_52 rfl (lv_at hl 2 rfl) ?_
          refine rm_get (v := .ref (ad 17)) hx hb hts hown hC hG 13 (by decide) q_523 (rfl) dM_heldByLots_53 ?_
          refine lv_iload_n hx hb dM_heldByLots_56 rfl (lv_at hl 1 rfl) ?_
          refine ra_ld hx hb hC hG 17 30 (by omega) (fun _ _ => rfl) (vp_in_nI (by have hlt := lt_guard hm hnm (by omega) c_1; omega) (by omega)) dM_heldByLots_57 ?_
          rw [show (nI j).toNatClampNeg = j from nI_clamp (by omega)]
          refine W.eq (g2 := F0 m 58 ls (.int (sA 17 j) :: .long (x + 0) :: [])) (by simp [up2, upd]) ?_
          refine lv_i2l (v := (sA 17 j : Int32).toInt64) hx hb dM_heldByLots_58 rfl ?_
          refine lv_goto (tgt := 63) hx hb dM_heldByLots_59 (by decide) ?_
          refine lv_lsub hx hb dM_heldByLots_63 ?_
          refine lv_lstore_n (lv' := [(1, .long ((x + 0) - ((sA 17 j : Int32).toInt64))), (3, .int (nI j)), (0, .ref (ad 5))]) hx hb dM_heldByLots_64 rfl hl (by decide) rfl (fun ls hl => ?_)
          refine lv_iinc (v := nI (j + 1)) (lv' := [(3, .int (nI (j + 1))), (1, .long ((x + 0) - ((sA 17 j : Int32).toInt64))), (0, .ref (ad 5))]) hx hb dM_heldByLots_65 hl (k := 1) rfl (nI_1 j) (by decide) rfl (fun ls hl => ?_)
          refine lv_goto (tgt := 9) hx hb dM_heldByLots_68 (by decide) ?_
          exact ih (j := j + 1) (x := (x + 0) - ((sA 17 j : Int32).toInt64)) (ls := ls) (hf := by omega) (hj := by have hlt := lt_guard hm hnm (by omega) c_1; omega) (hF := by rw [hF, lM_held, if_neg c_1, if_neg c_2, if_neg c_3] <;> rfl) (hl := lv_sub hl [0, 1, 2] rfl)
      · refine lv_aload_n hx hb dM_heldByLots_28 rfl (lv_at hl 2 rfl) ?_
        refine rm_get (v := .ref (ad 11)) hx hb hts hown hC hG 6 (by decide) q_516 (rfl) dM_heldByLots_29 ?_
        refine lv_iload_n hx hb dM_heldByLots_32 rfl (lv_at hl 0 rfl) ?_
        refine ra_ld hx hb hC hG 11 30 (by omega) (fun _ _ => rfl) (vp_in_nI (by have hlt := lt_guard hm hnm (by omega) c_1; omega) (by omega)) dM_heldByLots_33 ?_
        rw [show (nI j).toNatClampNeg = j from nI_clamp (by omega)]
        refine W.eq (g2 := F0 m 34 ls (.int (sA 11 j) :: .long x :: [])) (by simp [up2, upd]) ?_
        refine lv_i2l (v := (sA 11 j : Int32).toInt64) hx hb dM_heldByLots_34 rfl ?_
        refine lv_goto (tgt := 39) hx hb dM_heldByLots_35 (by decide) ?_
        refine lv_ladd hx hb dM_heldByLots_39 ?_
        refine lv_lstore_n (lv' := [(1, .long (x + ((sA 11 j : Int32).toInt64))), (3, .int (nI j)), (0, .ref (ad 5))]) hx hb dM_heldByLots_40 rfl hl (by decide) rfl (fun ls hl => ?_)
        refine lv_lload_n hx hb dM_heldByLots_41 rfl (lv_at hl 0 rfl) ?_
        refine lv_aload_n hx hb dM_heldByLots_42 rfl (lv_at hl 2 rfl) ?_
        refine rm_get (v := .ref (ad 9)) hx hb hts hown hC hG 4 (by decide) q_514 (rfl) dM_heldByLots_43 ?_
        refine lv_iload_n hx hb dM_heldByLots_46 rfl (lv_at hl 1 rfl) ?_
        refine ra_ld hx hb hC hG 9 30 (by omega) (fun _ _ => rfl) (vp_in_nI (by have hlt := lt_guard hm hnm (by omega) c_1; omega) (by omega)) dM_heldByLots_47 ?_
        rw [show (nI j).toNatClampNeg = j from nI_clamp (by omega)]
        refine W.eq (g2 := F0 m 48 ls (.int (sA 9 j) :: .long (x + ((sA 11 j : Int32).toInt64)) :: [])) (by simp [up2, upd]) ?_
        refine lv_iconst (v := 4) hx hb dM_heldByLots_48 (by decide) ?_
        refine lv_icmp_eq (tgt := 62) hx hb dM_heldByLots_49 (by decide) (fun c_4 => ?_) (fun c_4 => ?_)
        · refine lv_lconst (v := 0) hx hb dM_heldByLots_62 (by decide) ?_
          refine lv_lsub hx hb dM_heldByLots_63 ?_
          refine lv_lstore_n (lv' := [(1, .long ((x + ((sA 11 j : Int32).toInt64)) - 0)), (3, .int (nI j)), (0, .ref (ad 5))]) hx hb dM_heldByLots_64 rfl hl (by decide) rfl (fun ls hl => ?_)
          refine lv_iinc (v := nI (j + 1)) (lv' := [(3, .int (nI (j + 1))), (1, .long ((x + ((sA 11 j : Int32).toInt64)) - 0)), (0, .ref (ad 5))]) hx hb dM_heldByLots_65 hl (k := 1) rfl (nI_1 j) (by decide) rfl (fun ls hl => ?_)
          refine lv_goto (tgt := 9) hx hb dM_heldByLots_68 (by decide) ?_
          exact ih (j := j + 1) (x := (x + ((sA 11 j : Int32).toInt64)) - 0) (ls := ls) (hf := by omega) (hj := by have hlt := lt_guard hm hnm (by omega) c_1; omega) (hF := by rw [hF, lM_held, if_neg c_1, if_pos c_2, if_pos c_4] <;> rfl) (hl := lv_sub hl [0, 1, 2] rfl)
        · refine lv_aload_n hx hb dM_heldByLots_52 rfl (lv_at hl 2 rfl) ?_
          refine rm_get (v := .ref (ad 17)) hx hb hts hown hC hG 13 (by decide) q_523 (rfl) dM_heldByLots_53 ?_
          refine lv_iload_n hx hb dM_heldByLots_56 rfl (lv_at hl 1 rfl) ?_
          refine ra_ld hx hb hC hG 17 30 (by omega) (fun _ _ => rfl) (vp_in_nI (by have hlt := lt_guard hm hnm (by omega) c_1; omega) (by omega)) dM_heldByLots_57 ?_
          rw [show (nI j).toNatClampNeg = j from nI_clamp (by omega)]
          refine W.eq (g2 := F0 m 58 ls (.int (sA 17 j) :: .long (x + ((sA 11 j : Int32).toInt64)) :: [])) (by simp [up2, upd]) ?_
          refine lv_i2l (v := (sA 17 j : Int32).toInt64) hx hb dM_heldByLots_58 rfl ?_
          refine lv_goto (tgt := 63) hx hb dM_heldByLots_59 (by decide) ?_
          refine lv_lsub hx hb dM_heldByLots_63 ?_
          refine lv_lstore_n (lv' := [(1, .long ((x + ((sA 11 j : Int32).toInt64)) - ((sA 17 j : Int32).toInt64))), (3, .int (nI j)), (0, .ref (ad 5))]) hx hb dM_heldByLots_64 rfl hl (by decide) rfl (fun ls hl => ?_)
          refine lv_iinc (v := nI (j + 1)) (lv' := [(3, .int (nI (j + 1))), (1, .long ((x + ((sA 11 j : Int32).toInt64)) - ((sA 17 j : Int32).toInt64))), (0, .ref (ad 5))]) hx hb dM_heldByLots_65 hl (k := 1) rfl (nI_1 j) (by decide) rfl (fun ls hl => ?_)
          refine lv_goto (tgt := 9) hx hb dM_heldByLots_68 (by decide) ?_
          exact ih (j := j + 1) (x := (x + ((sA 11 j : Int32).toInt64)) - ((sA 17 j : Int32).toInt64)) (ls := ls) (hf := by omega) (hj := by have hlt := lt_guard hm hnm (by omega) c_1; omega) (hF := by rw [hF, lM_held, if_neg c_1, if_pos c_2, if_neg c_4] <;> rfl) (hl := lv_sub hl [0, 1, 2] rfl)
