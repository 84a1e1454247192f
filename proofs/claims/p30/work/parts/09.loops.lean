theorem lt_guard {a : Int32} {cn j : Nat} (hcn : a = nI cn) (hc : cn ≤ 30) (hj : j ≤ 30) (h : ¬ a ≤ nI j) : j < cn := by
  rw [hcn, nI_leI (by omega) (by omega)] at h
  omega
theorem lt_guard10 {j : Nat} (hj : j ≤ 30) (h : ¬ (10 : Int32) ≤ nI j) : j < 10 := lt_guard (cn := 10) rfl (by omega) hj h
theorem lt_guard30 {j : Nat} (hj : j ≤ 30) (h : ¬ (30 : Int32) ≤ nI j) : j < 30 := lt_guard (cn := 30) rfl (by omega) hj h
theorem vin_lt10 {j : Nat} (hj : j ≤ 30) (h : nI j < 10) : vp_in (nI j) 10 := by
  refine vp_in_nI ?_ (by omega)
  have h2 : nI j < nI 10 := h
  rw [nI_ltI (by omega) (by omega)] at h2
  exact h2
def lO_best (sL : NL) (sA : NA) (i : Nat) : Nat → Nat → Int32 → Int32
  | 0, _, _ => 0
  | f + 1, j, x => if (sA (4 * i + 12) 2) ≤ (nI j) then x else (if (fO_amountAt sL sA i (nI j)) ≤ (fO_amountAt sL sA i x) then lO_best sL sA i f (j + 1) x else lO_best sL sA i f (j + 1) (nI j))
def fO_placeOfBest (sL : NL) (sA : NA) (i : Nat) : Int32 := lO_best sL sA i 11 0 (-1)
theorem hdyO_placeOfBest : yO_placeOfBest.cls ≠ "java/lang/invoke/MethodHandle" ∧ yO_placeOfBest.cls ≠ "java/lang/invoke/VarHandle" ∧ (parseMethodDescriptor yO_placeOfBest.desc).map (fun d => d.parameters.length) = some 0 := by decide +kernel
theorem dO_placeOfBest_0 : decode bO_placeOfBest 0 = .ok (.iconst (-1), 1) := by decide +kernel
theorem dO_placeOfBest_1 : decode bO_placeOfBest 1 = .ok (.istore_n 1, 1) := by decide +kernel
theorem dO_placeOfBest_2 : decode bO_placeOfBest 2 = .ok (.iconst 0, 1) := by decide +kernel
theorem dO_placeOfBest_3 : decode bO_placeOfBest 3 = .ok (.istore_n 2, 1) := by decide +kernel
theorem dO_placeOfBest_4 : decode bO_placeOfBest 4 = .ok (.iload_n 2, 1) := by decide +kernel
theorem dO_placeOfBest_5 : decode bO_placeOfBest 5 = .ok (.aload_n 0, 1) := by decide +kernel
theorem dO_placeOfBest_6 : decode bO_placeOfBest 6 = .ok (.getfield 18, 3) := by decide +kernel
theorem dO_placeOfBest_9 : decode bO_placeOfBest 9 = .ok (.if_icmp .ge 24, 3) := by decide +kernel
theorem dO_placeOfBest_12 : decode bO_placeOfBest 12 = .ok (.aload_n 0, 1) := by decide +kernel
theorem dO_placeOfBest_13 : decode bO_placeOfBest 13 = .ok (.iload_n 2, 1) := by decide +kernel
theorem dO_placeOfBest_14 : decode bO_placeOfBest 14 = .ok (.invokevirtual 32, 3) := by decide +kernel
theorem dO_placeOfBest_17 : decode bO_placeOfBest 17 = .ok (.aload_n 0, 1) := by decide +kernel
theorem dO_placeOfBest_18 : decode bO_placeOfBest 18 = .ok (.iload_n 1, 1) := by decide +kernel
theorem dO_placeOfBest_19 : decode bO_placeOfBest 19 = .ok (.invokevirtual 32, 3) := by decide +kernel
theorem dO_placeOfBest_22 : decode bO_placeOfBest 22 = .ok (.if_icmp .le 5, 3) := by decide +kernel
theorem dO_placeOfBest_25 : decode bO_placeOfBest 25 = .ok (.iload_n 2, 1) := by decide +kernel
theorem dO_placeOfBest_26 : decode bO_placeOfBest 26 = .ok (.istore_n 1, 1) := by decide +kernel
theorem dO_placeOfBest_27 : decode bO_placeOfBest 27 = .ok (.iinc 2 1, 3) := by decide +kernel
theorem dO_placeOfBest_30 : decode bO_placeOfBest 30 = .ok (.goto (-26), 3) := by decide +kernel
theorem dO_placeOfBest_33 : decode bO_placeOfBest 33 = .ok (.iload_n 1, 1) := by decide +kernel
theorem dO_placeOfBest_34 : decode bO_placeOfBest 34 = .ok (.ireturn, 1) := by decide +kernel
set_option maxHeartbeats 4000000 in
set_option maxRecDepth 100000 in
theorem cO_placeOfBest (l : Launch) (D : va_G) (tI tJ tL : ClassId) (A : Nat → Prop) (sg ad : Nat → Nat) (n : Nat) (sL : NL) (sA : NA) (i : Nat) (hi : i < n) (cn : Nat) (hc : cn ≤ 10) (hcn : sA (4 * i + 12) 2 = nI cn) : Met l yO_placeOfBest (Cond.code yO_placeOfBest bO_placeOfBest 3 (some FieldType.int) :: wNeed) { frames := 1, cells := 0, slots := 0, locals := 21 } (va_Pc [.ref (ad (4 * i + 12))] (GP D tI tJ tL A sg ad n sL sA)) (vp_Si fun r => r = fO_placeOfBest sL sA i) 0 0 (fun _ => False) := by
  refine en_M (av := [.ref (ad (4 * i + 12))]) (by decide) (Nat.le_of_ble_eq_true rfl) ?_
  intro p e s m below meth c hx hb hml hown hts hr hlocks hmname hP ls hl
  obtain ⟨hG, hC⟩ := hP
  have hS : va_S A s.heap s.heap [] := va_S.rf
  replace hl : lv_has ls 3 [(0, .ref (ad (4 * i + 12)))] := hl
  refine lv_iconst (v := (-1)) hx hb dO_placeOfBest_0 (by decide) ?_
  refine lv_istore_n (lv' := [(1, .int (-1)), (0, .ref (ad (4 * i + 12)))]) hx hb dO_placeOfBest_1 rfl hl (by decide) rfl (fun ls hl => ?_)
  refine lv_iconst (v := 0) hx hb dO_placeOfBest_2 (by decide) ?_
  refine lv_istore_n (lv' := [(2, .int 0), (1, .int (-1)), (0, .ref (ad (4 * i + 12)))]) hx hb dO_placeOfBest_3 rfl hl (by decide) rfl (fun ls hl => ?_)
  replace hl : ∃ (f : Nat) (j : Nat) (x : Int32), j + f = 11 ∧ j ≤ 10 ∧ fO_placeOfBest sL sA i = lO_best sL sA i f j x ∧ lv_has ls 3 [(2, .int (nI j)), (1, .int x), (0, .ref (ad (4 * i + 12)))] := ⟨11, 0, (-1), rfl, by omega, (by rw [fO_placeOfBest] <;> rfl), hl⟩
  obtain ⟨f, j, x, hf, hj, hF, hl⟩ := hl
  induction f generalizing j x ls with
  | zero => exact absurd hf (by omega)
  | succ f ih =>
    refine lv_iload_n hx hb dO_placeOfBest_4 rfl (lv_at hl 0 rfl) ?_
    refine lv_aload_n hx hb dO_placeOfBest_5 rfl (lv_at hl 2 rfl) ?_
    refine ro_get (v := .int (sA (4 * i + 12) 2)) hx hb hts hown hC hG 2 hi (by decide) q_225 (rfl) dO_placeOfBest_6 ?_
    refine lv_icmp_ge (tgt := 33) hx hb dO_placeOfBest_9 (by decide) (fun c_1 => ?_) (fun c_1 => ?_)
    · refine lv_iload_n hx hb dO_placeOfBest_33 rfl (lv_at hl 1 rfl) ?_
      exact W.iret (v := x) hx hb hr (fun t ht hW => ⟨_, rfl, (by rw [hF, lO_best, if_pos c_1] <;> rfl), ht⟩) (fun q h => nomatch h) dO_placeOfBest_34
    · refine lv_aload_n hx hb dO_placeOfBest_12 rfl (lv_at hl 2 rfl) ?_
      refine lv_iload_n hx hb dO_placeOfBest_13 rfl (lv_at hl 0 rfl) ?_
      refine rcV2 (rest := []) (As := [.int (nI j)]) hx hb hml hown hts hC hG hS (cO_amountAt l D tI tJ tL A sg ad n sL sA i hi (nI j)) (recO hi hC hG) (gV q_320 q_321 q_322 q_10 q_323) rfl rfl ⟨rfl, hdyO_amountAt⟩ ⟨Nat.le_of_ble_eq_true rfl, Nat.le_of_ble_eq_true rfl⟩ hl.1 rfl (Nat.le_of_ble_eq_true rfl) dO_placeOfBest_14 ⟨Nat.le_of_ble_eq_true rfl, Nat.le_of_ble_eq_true rfl⟩ ?_
      refine lv_aload_n hx hb dO_placeOfBest_17 rfl (lv_at hl 2 rfl) ?_
      refine lv_iload_n hx hb dO_placeOfBest_18 rfl (lv_at hl 1 rfl) ?_
      refine rcV2 (rest := [.int (fO_amountAt sL sA i (nI j))]) (As := [.int x]) hx hb hml hown hts hC hG hS (cO_amountAt l D tI tJ tL A sg ad n sL sA i hi x) (recO hi hC hG) (gV q_320 q_321 q_322 q_10 q_323) rfl rfl ⟨rfl, hdyO_amountAt⟩ ⟨Nat.le_of_ble_eq_true rfl, Nat.le_of_ble_eq_true rfl⟩ hl.1 rfl (Nat.le_of_ble_eq_true rfl) dO_placeOfBest_19 ⟨Nat.le_of_ble_eq_true rfl, Nat.le_of_ble_eq_true rfl⟩ ?_
      refine lv_icmp_le (tgt := 27) hx hb dO_placeOfBest_22 (by decide) (fun c_2 => ?_) (fun c_2 => ?_)
      · refine lv_iinc (v := nI (j + 1)) (lv' := [(2, .int (nI (j + 1))), (1, .int x), (0, .ref (ad (4 * i + 12)))]) hx hb dO_placeOfBest_27 hl (k := 0) rfl (nI_1 j) (by decide) rfl (fun ls hl => ?_)
        refine lv_goto (tgt := 4) hx hb dO_placeOfBest_30 (by decide) ?_
        exact ih (j := j + 1) (x := x) (ls := ls) (hf := by omega) (hj := by have hlt := lt_guard hcn (by omega) (by omega) c_1; omega) (hF := by rw [hF, lO_best, if_neg c_1, if_pos c_2] <;> rfl) (hl := lv_sub hl [0, 1, 2] rfl)
      · refine lv_iload_n hx hb dO_placeOfBest_25 rfl (lv_at hl 0 rfl) ?_
        refine lv_istore_n (lv' := [(1, .int (nI j)), (2, .int (nI j)), (0, .ref (ad (4 * i + 12)))]) hx hb dO_placeOfBest_26 rfl hl (by decide) rfl (fun ls hl => ?_)
        refine lv_iinc (v := nI (j + 1)) (lv' := [(2, .int (nI (j + 1))), (1, .int (nI j)), (0, .ref (ad (4 * i + 12)))]) hx hb dO_placeOfBest_27 hl (k := 1) rfl (nI_1 j) (by decide) rfl (fun ls hl => ?_)
        refine lv_goto (tgt := 4) hx hb dO_placeOfBest_30 (by decide) ?_
        exact ih (j := j + 1) (x := nI j) (ls := ls) (hf := by omega) (hj := by have hlt := lt_guard hcn (by omega) (by omega) c_1; omega) (hF := by rw [hF, lO_best, if_neg c_1, if_neg c_2] <;> rfl) (hl := lv_sub hl [0, 1, 2] rfl)
def lO_beside (sL : NL) (sA : NA) (i : Nat) (p0 : Int32) : Nat → Nat → Int32 → Int32
  | 0, _, _ => 0
  | f + 1, j, x => if (sA (4 * i + 12) 2) ≤ (nI j) then x else (if (nI j) = p0 then lO_beside sL sA i p0 f (j + 1) x else lO_beside sL sA i p0 f (j + 1) (imax x (fO_amountAt sL sA i (nI j))))
def fO_highestBeside (sL : NL) (sA : NA) (i : Nat) (p0 : Int32) : Int32 := lO_beside sL sA i p0 11 0 (-1)
theorem hdyO_highestBeside : yO_highestBeside.cls ≠ "java/lang/invoke/MethodHandle" ∧ yO_highestBeside.cls ≠ "java/lang/invoke/VarHandle" ∧ (parseMethodDescriptor yO_highestBeside.desc).map (fun d => d.parameters.length) = some 1 := by decide +kernel
theorem dO_highestBeside_0 : decode bO_highestBeside 0 = .ok (.iconst (-1), 1) := by decide +kernel
theorem dO_highestBeside_1 : decode bO_highestBeside 1 = .ok (.istore_n 2, 1) := by decide +kernel
theorem dO_highestBeside_2 : decode bO_highestBeside 2 = .ok (.iconst 0, 1) := by decide +kernel
theorem dO_highestBeside_3 : decode bO_highestBeside 3 = .ok (.istore_n 3, 1) := by decide +kernel
theorem dO_highestBeside_4 : decode bO_highestBeside 4 = .ok (.iload_n 3, 1) := by decide +kernel
theorem dO_highestBeside_5 : decode bO_highestBeside 5 = .ok (.aload_n 0, 1) := by decide +kernel
theorem dO_highestBeside_6 : decode bO_highestBeside 6 = .ok (.getfield 18, 3) := by decide +kernel
theorem dO_highestBeside_9 : decode bO_highestBeside 9 = .ok (.if_icmp .ge 24, 3) := by decide +kernel
theorem dO_highestBeside_12 : decode bO_highestBeside 12 = .ok (.iload_n 3, 1) := by decide +kernel
theorem dO_highestBeside_13 : decode bO_highestBeside 13 = .ok (.iload_n 1, 1) := by decide +kernel
theorem dO_highestBeside_14 : decode bO_highestBeside 14 = .ok (.if_icmp .eq 13, 3) := by decide +kernel
theorem dO_highestBeside_17 : decode bO_highestBeside 17 = .ok (.iload_n 2, 1) := by decide +kernel
theorem dO_highestBeside_18 : decode bO_highestBeside 18 = .ok (.aload_n 0, 1) := by decide +kernel
theorem dO_highestBeside_19 : decode bO_highestBeside 19 = .ok (.iload_n 3, 1) := by decide +kernel
theorem dO_highestBeside_20 : decode bO_highestBeside 20 = .ok (.invokevirtual 32, 3) := by decide +kernel
theorem dO_highestBeside_23 : decode bO_highestBeside 23 = .ok (.invokestatic 26, 3) := by decide +kernel
theorem dO_highestBeside_26 : decode bO_highestBeside 26 = .ok (.istore_n 2, 1) := by decide +kernel
theorem dO_highestBeside_27 : decode bO_highestBeside 27 = .ok (.iinc 3 1, 3) := by decide +kernel
theorem dO_highestBeside_30 : decode bO_highestBeside 30 = .ok (.goto (-26), 3) := by decide +kernel
theorem dO_highestBeside_33 : decode bO_highestBeside 33 = .ok (.iload_n 2, 1) := by decide +kernel
theorem dO_highestBeside_34 : decode bO_highestBeside 34 = .ok (.ireturn, 1) := by decide +kernel
set_option maxHeartbeats 4000000 in
set_option maxRecDepth 100000 in
theorem cO_highestBeside (l : Launch) (D : va_G) (tI tJ tL : ClassId) (A : Nat → Prop) (sg ad : Nat → Nat) (n : Nat) (sL : NL) (sA : NA) (i : Nat) (hi : i < n) (p0 : Int32) (cn : Nat) (hc : cn ≤ 10) (hcn : sA (4 * i + 12) 2 = nI cn) : Met l yO_highestBeside (Cond.code yO_highestBeside bO_highestBeside 4 (some FieldType.int) :: wNeed) { frames := 1, cells := 0, slots := 0, locals := 21 } (va_Pc [.ref (ad (4 * i + 12)), .int p0] (GP D tI tJ tL A sg ad n sL sA)) (vp_Si fun r => r = fO_highestBeside sL sA i p0) 0 0 (fun _ => False) := by
  refine en_M (av := [.ref (ad (4 * i + 12)), .int p0]) (by decide) (Nat.le_of_ble_eq_true rfl) ?_
  intro p e s m below meth c hx hb hml hown hts hr hlocks hmname hP ls hl
  obtain ⟨hG, hC⟩ := hP
  have hS : va_S A s.heap s.heap [] := va_S.rf
  replace hl : lv_has ls 4 [(0, .ref (ad (4 * i + 12))), (1, .int p0)] := hl
  refine lv_iconst (v := (-1)) hx hb dO_highestBeside_0 (by decide) ?_
  refine lv_istore_n (lv' := [(2, .int (-1)), (0, .ref (ad (4 * i + 12))), (1, .int p0)]) hx hb dO_highestBeside_1 rfl hl (by decide) rfl (fun ls hl => ?_)
  refine lv_iconst (v := 0) hx hb dO_highestBeside_2 (by decide) ?_
  refine lv_istore_n (lv' := [(3, .int 0), (2, .int (-1)), (0, .ref (ad (4 * i + 12))), (1, .int p0)]) hx hb dO_highestBeside_3 rfl hl (by decide) rfl (fun ls hl => ?_)
  replace hl : ∃ (f : Nat) (j : Nat) (x : Int32), j + f = 11 ∧ j ≤ 10 ∧ fO_highestBeside sL sA i p0 = lO_beside sL sA i p0 f j x ∧ lv_has ls 4 [(3, .int (nI j)), (2, .int x), (0, .ref (ad (4 * i + 12))), (1, .int p0)] := ⟨11, 0, (-1), rfl, by omega, (by rw [fO_highestBeside] <;> rfl), hl⟩
  obtain ⟨f, j, x, hf, hj, hF, hl⟩ := hl
  induction f generalizing j x ls with
  | zero => exact absurd hf (by omega)
  | succ f ih =>
    refine lv_iload_n hx hb dO_highestBeside_4 rfl (lv_at hl 0 rfl) ?_
    refine lv_aload_n hx hb dO_highestBeside_5 rfl (lv_at hl 2 rfl) ?_
    refine ro_get (v := .int (sA (4 * i + 12) 2)) hx hb hts hown hC hG 2 hi (by decide) q_225 (rfl) dO_highestBeside_6 ?_
    refine lv_icmp_ge (tgt := 33) hx hb dO_highestBeside_9 (by decide) (fun c_1 => ?_) (fun c_1 => ?_)
    · refine lv_iload_n hx hb dO_highestBeside_33 rfl (lv_at hl 1 rfl) ?_
      exact W.iret (v := x) hx hb hr (fun t ht hW => ⟨_, rfl, (by rw [hF, lO_beside, if_pos c_1] <;> rfl), ht⟩) (fun q h => nomatch h) dO_highestBeside_34
    · refine lv_iload_n hx hb dO_highestBeside_12 rfl (lv_at hl 0 rfl) ?_
      refine lv_iload_n hx hb dO_highestBeside_13 rfl (lv_at hl 3 rfl) ?_
      refine lv_icmp_eq (tgt := 27) hx hb dO_highestBeside_14 (by decide) (fun c_2 => ?_) (fun c_2 => ?_)
      · refine lv_iinc (v := nI (j + 1)) (lv' := [(3, .int (nI (j + 1))), (2, .int x), (0, .ref (ad (4 * i + 12))), (1, .int p0)]) hx hb dO_highestBeside_27 hl (k := 0) rfl (nI_1 j) (by decide) rfl (fun ls hl => ?_)
        refine lv_goto (tgt := 4) hx hb dO_highestBeside_30 (by decide) ?_
        exact ih (j := j + 1) (x := x) (ls := ls) (hf := by omega) (hj := by have hlt := lt_guard hcn (by omega) (by omega) c_1; omega) (hF := by rw [hF, lO_beside, if_neg c_1, if_pos c_2] <;> rfl) (hl := lv_sub hl [0, 1, 2, 3] rfl)
      · refine lv_iload_n hx hb dO_highestBeside_17 rfl (lv_at hl 1 rfl) ?_
        refine lv_aload_n hx hb dO_highestBeside_18 rfl (lv_at hl 2 rfl) ?_
        refine lv_iload_n hx hb dO_highestBeside_19 rfl (lv_at hl 0 rfl) ?_
        refine rcV2 (rest := [.int x]) (As := [.int (nI j)]) hx hb hml hown hts hC hG hS (cO_amountAt l D tI tJ tL A sg ad n sL sA i hi (nI j)) (recO hi hC hG) (gV q_320 q_321 q_322 q_10 q_323) rfl rfl ⟨rfl, hdyO_amountAt⟩ ⟨Nat.le_of_ble_eq_true rfl, Nat.le_of_ble_eq_true rfl⟩ hl.1 rfl (Nat.le_of_ble_eq_true rfl) dO_highestBeside_20 ⟨Nat.le_of_ble_eq_true rfl, Nat.le_of_ble_eq_true rfl⟩ ?_
        refine va_mmax hx hb (by rw [hml]; exact hl.1.symm) hown (hts _ q_309) (hts _ q_310) (hts _ q_6) (hts _ q_311) (Nat.le_of_ble_eq_true rfl) (Nat.le_of_ble_eq_true rfl) (Nat.le_of_ble_eq_true rfl) (Nat.le_of_ble_eq_true rfl) dO_highestBeside_23 ?_
        refine lv_istore_n (lv' := [(2, .int (imax x (fO_amountAt sL sA i (nI j)))), (3, .int (nI j)), (0, .ref (ad (4 * i + 12))), (1, .int p0)]) hx hb dO_highestBeside_26 rfl hl (by decide) rfl (fun ls hl => ?_)
        refine lv_iinc (v := nI (j + 1)) (lv' := [(3, .int (nI (j + 1))), (2, .int (imax x (fO_amountAt sL sA i (nI j)))), (0, .ref (ad (4 * i + 12))), (1, .int p0)]) hx hb dO_highestBeside_27 hl (k := 1) rfl (nI_1 j) (by decide) rfl (fun ls hl => ?_)
        refine lv_goto (tgt := 4) hx hb dO_highestBeside_30 (by decide) ?_
        exact ih (j := j + 1) (x := imax x (fO_amountAt sL sA i (nI j))) (ls := ls) (hf := by omega) (hj := by have hlt := lt_guard hcn (by omega) (by omega) c_1; omega) (hF := by rw [hF, lO_beside, if_neg c_1, if_neg c_2] <;> rfl) (hl := lv_sub hl [0, 1, 2, 3] rfl)
def lO_leave (sL : NL) (sA : NA) (i : Nat) (p0 p1 : Int32) : Nat → Nat → NL × NA
  | 0, _ => (sL, sA)
  | f + 1, j => if (sA (4 * i + 12) 2) ≤ (nI j) then (if 10 ≤ (nI j) then (sL, sA) else (if (nI j) < 10 then (sL, (up2 (up2 (up2 sA (4 * i + 13) j p0) (4 * i + 14) j p1) (4 * i + 12) 2 (imax (sA (4 * i + 12) 2) ((nI j) + 1)))) else (sL, sA))) else (if (fO_buyerAt sL sA i (nI j)) = p0 then (if 10 ≤ (nI j) then (sL, sA) else (if (nI j) < 10 then (sL, (up2 (up2 (up2 sA (4 * i + 13) j p0) (4 * i + 14) j p1) (4 * i + 12) 2 (imax (sA (4 * i + 12) 2) ((nI j) + 1)))) else (sL, sA))) else lO_leave sL sA i p0 p1 f (j + 1))
def fO_leave (sL : NL) (sA : NA) (i : Nat) (p0 : Int32) (p1 : Int32) : NL × NA := lO_leave sL sA i p0 p1 11 0
theorem hdyO_leave : yO_leave.cls ≠ "java/lang/invoke/MethodHandle" ∧ yO_leave.cls ≠ "java/lang/invoke/VarHandle" ∧ (parseMethodDescriptor yO_leave.desc).map (fun d => d.parameters.length) = some 2 := by decide +kernel
theorem dO_leave_0 : decode bO_leave 0 = .ok (.iconst 0, 1) := by decide +kernel
theorem dO_leave_1 : decode bO_leave 1 = .ok (.istore_n 3, 1) := by decide +kernel
theorem dO_leave_2 : decode bO_leave 2 = .ok (.iload_n 3, 1) := by decide +kernel
theorem dO_leave_3 : decode bO_leave 3 = .ok (.aload_n 0, 1) := by decide +kernel
theorem dO_leave_4 : decode bO_leave 4 = .ok (.getfield 18, 3) := by decide +kernel
theorem dO_leave_7 : decode bO_leave 7 = .ok (.if_icmp .ge 18, 3) := by decide +kernel
theorem dO_leave_10 : decode bO_leave 10 = .ok (.aload_n 0, 1) := by decide +kernel
theorem dO_leave_11 : decode bO_leave 11 = .ok (.iload_n 3, 1) := by decide +kernel
theorem dO_leave_12 : decode bO_leave 12 = .ok (.invokevirtual 22, 3) := by decide +kernel
theorem dO_leave_15 : decode bO_leave 15 = .ok (.iload_n 1, 1) := by decide +kernel
theorem dO_leave_16 : decode bO_leave 16 = .ok (.if_icmp .eq 9, 3) := by decide +kernel
theorem dO_leave_19 : decode bO_leave 19 = .ok (.iinc 3 1, 3) := by decide +kernel
theorem dO_leave_22 : decode bO_leave 22 = .ok (.goto (-20), 3) := by decide +kernel
theorem dO_leave_25 : decode bO_leave 25 = .ok (.iload_n 3, 1) := by decide +kernel
theorem dO_leave_26 : decode bO_leave 26 = .ok (.aload_n 0, 1) := by decide +kernel
theorem dO_leave_27 : decode bO_leave 27 = .ok (.getfield 9, 3) := by decide +kernel
theorem dO_leave_30 : decode bO_leave 30 = .ok (.arraylength, 1) := by decide +kernel
theorem dO_leave_31 : decode bO_leave 31 = .ok (.if_icmp .ge 12, 3) := by decide +kernel
theorem dO_leave_34 : decode bO_leave 34 = .ok (.iload_n 3, 1) := by decide +kernel
theorem dO_leave_35 : decode bO_leave 35 = .ok (.aload_n 0, 1) := by decide +kernel
theorem dO_leave_36 : decode bO_leave 36 = .ok (.getfield 15, 3) := by decide +kernel
theorem dO_leave_39 : decode bO_leave 39 = .ok (.arraylength, 1) := by decide +kernel
theorem dO_leave_40 : decode bO_leave 40 = .ok (.if_icmp .lt 4, 3) := by decide +kernel
theorem dO_leave_43 : decode bO_leave 43 = .ok (.return_, 1) := by decide +kernel
theorem dO_leave_44 : decode bO_leave 44 = .ok (.aload_n 0, 1) := by decide +kernel
theorem dO_leave_45 : decode bO_leave 45 = .ok (.getfield 9, 3) := by decide +kernel
theorem dO_leave_48 : decode bO_leave 48 = .ok (.iload_n 3, 1) := by decide +kernel
theorem dO_leave_49 : decode bO_leave 49 = .ok (.iload_n 1, 1) := by decide +kernel
theorem dO_leave_50 : decode bO_leave 50 = .ok (.iastore, 1) := by decide +kernel
theorem dO_leave_51 : decode bO_leave 51 = .ok (.aload_n 0, 1) := by decide +kernel
theorem dO_leave_52 : decode bO_leave 52 = .ok (.getfield 15, 3) := by decide +kernel
theorem dO_leave_55 : decode bO_leave 55 = .ok (.iload_n 3, 1) := by decide +kernel
theorem dO_leave_56 : decode bO_leave 56 = .ok (.iload_n 2, 1) := by decide +kernel
theorem dO_leave_57 : decode bO_leave 57 = .ok (.iastore, 1) := by decide +kernel
theorem dO_leave_58 : decode bO_leave 58 = .ok (.aload_n 0, 1) := by decide +kernel
theorem dO_leave_59 : decode bO_leave 59 = .ok (.aload_n 0, 1) := by decide +kernel
theorem dO_leave_60 : decode bO_leave 60 = .ok (.getfield 18, 3) := by decide +kernel
theorem dO_leave_63 : decode bO_leave 63 = .ok (.iload_n 3, 1) := by decide +kernel
theorem dO_leave_64 : decode bO_leave 64 = .ok (.iconst 1, 1) := by decide +kernel
theorem dO_leave_65 : decode bO_leave 65 = .ok (.iadd, 1) := by decide +kernel
theorem dO_leave_66 : decode bO_leave 66 = .ok (.invokestatic 26, 3) := by decide +kernel
theorem dO_leave_69 : decode bO_leave 69 = .ok (.putfield 18, 3) := by decide +kernel
theorem dO_leave_72 : decode bO_leave 72 = .ok (.return_, 1) := by decide +kernel
set_option maxHeartbeats 4000000 in
set_option maxRecDepth 100000 in
theorem cO_leave (l : Launch) (D : va_G) (tI tJ tL : ClassId) (A : Nat → Prop) (sg ad : Nat → Nat) (n : Nat) (sL : NL) (sA : NA) (i : Nat) (hi : i < n) (p0 : Int32) (p1 : Int32) (cn : Nat) (hc : cn ≤ 10) (hcn : sA (4 * i + 12) 2 = nI cn) : Met l yO_leave (Cond.code yO_leave bO_leave 4 none :: wNeed) { frames := 1, cells := 0, slots := 0, locals := 21 } (va_Pc [.ref (ad (4 * i + 12)), .int p0, .int p1] (GP D tI tJ tL A sg ad n sL sA)) (va_Qv (fun u : NL × NA => fO_leave sL sA i p0 p1 = u) (fun u t => GW D tI tJ tL A ad n u.1 u.2 t.heap) A) 0 0 A := by
  refine en_G (av := [.ref (ad (4 * i + 12)), .int p0, .int p1]) (by decide) (Nat.le_of_ble_eq_true rfl) ?_
  intro p e s m below meth c hx hb hml hown hts hr hlocks hmname hC H locs hG hS ls hl
  replace hl : lv_has ls 4 [(0, .ref (ad (4 * i + 12))), (1, .int p0), (2, .int p1)] := hl
  refine lv_iconst (v := 0) hx hb dO_leave_0 (by decide) ?_
  refine lv_istore_n (lv' := [(3, .int 0), (0, .ref (ad (4 * i + 12))), (1, .int p0), (2, .int p1)]) hx hb dO_leave_1 rfl hl (by decide) rfl (fun ls hl => ?_)
  replace hl : ∃ (f : Nat) (j : Nat), j + f = 11 ∧ j ≤ 10 ∧ fO_leave sL sA i p0 p1 = lO_leave sL sA i p0 p1 f j ∧ lv_has ls 4 [(3, .int (nI j)), (0, .ref (ad (4 * i + 12))), (1, .int p0), (2, .int p1)] := ⟨11, 0, rfl, by omega, (by rw [fO_leave] <;> rfl), hl⟩
  obtain ⟨f, j, hf, hj, hF, hl⟩ := hl
  induction f generalizing j ls with
  | zero => exact absurd hf (by omega)
  | succ f ih =>
    refine lv_iload_n hx hb dO_leave_2 rfl (lv_at hl 0 rfl) ?_
    refine lv_aload_n hx hb dO_leave_3 rfl (lv_at hl 1 rfl) ?_
    refine ro_get (v := .int (sA (4 * i + 12) 2)) hx hb hts hown hC hG 2 hi (by decide) q_225 (rfl) dO_leave_4 ?_
    refine lv_icmp_ge (tgt := 25) hx hb dO_leave_7 (by decide) (fun c_1 => ?_) (fun c_1 => ?_)
    · refine lv_iload_n hx hb dO_leave_25 rfl (lv_at hl 0 rfl) ?_
      refine lv_aload_n hx hb dO_leave_26 rfl (lv_at hl 1 rfl) ?_
      refine ro_get (v := .ref (ad (4 * i + 13))) hx hb hts hown hC hG 0 hi (by decide) q_223 (rfl) dO_leave_27 ?_
      refine ra_len hx hb hC hG (4 * i + 13) 10 (by omega) (fun _ _ => gr_B i) (v := 10) rfl dO_leave_30 ?_
      refine lv_icmp_ge (tgt := 43) hx hb dO_leave_31 (by decide) (fun c_2 => ?_) (fun c_2 => ?_)
      · refine W.widen (k := 0) (n := 0) (Nat.le_of_ble_eq_true rfl) (Nat.le_of_ble_eq_true rfl) ?_
        exact W.vret hx hb hr (fun t ht hW => ⟨⟨(sL, sA), rfl, (by rw [hF, lO_leave, if_pos c_1, if_pos c_2] <;> rfl), gw_at hG ht⟩, hS.F ht⟩) hS.2.2 dO_leave_43
      · refine lv_iload_n hx hb dO_leave_34 rfl (lv_at hl 0 rfl) ?_
        refine lv_aload_n hx hb dO_leave_35 rfl (lv_at hl 1 rfl) ?_
        refine ro_get (v := .ref (ad (4 * i + 14))) hx hb hts hown hC hG 1 hi (by decide) q_224 (rfl) dO_leave_36 ?_
        refine ra_len hx hb hC hG (4 * i + 14) 10 (by omega) (fun _ _ => gr_Am i) (v := 10) rfl dO_leave_39 ?_
        refine lv_icmp_lt (tgt := 44) hx hb dO_leave_40 (by decide) (fun c_3 => ?_) (fun c_3 => ?_)
        · refine lv_aload_n hx hb dO_leave_44 rfl (lv_at hl 1 rfl) ?_
          refine ro_get (v := .ref (ad (4 * i + 13))) hx hb hts hown hC hG 0 hi (by decide) q_223 (rfl) dO_leave_45 ?_
          refine lv_iload_n hx hb dO_leave_48 rfl (lv_at hl 0 rfl) ?_
          refine lv_iload_n hx hb dO_leave_49 rfl (lv_at hl 2 rfl) ?_
          refine ra_st hx hb hC hG hS (4 * i + 13) 10 (by omega) (fun _ _ => gr_B i) (vin_lt10 (by omega) c_3) dO_leave_50 (fun H locs hG hS => ?_)
          rw [show (nI j).toNatClampNeg = j from nI_clamp (by omega)] at hG
          refine lv_aload_n hx hb dO_leave_51 rfl (lv_at hl 1 rfl) ?_
          refine ro_get (v := .ref (ad (4 * i + 14))) hx hb hts hown hC hG 1 hi (by decide) q_224 (rfl) dO_leave_52 ?_
          refine lv_iload_n hx hb dO_leave_55 rfl (lv_at hl 0 rfl) ?_
          refine lv_iload_n hx hb dO_leave_56 rfl (lv_at hl 3 rfl) ?_
          refine ra_st hx hb hC hG hS (4 * i + 14) 10 (by omega) (fun _ _ => gr_Am i) (vin_lt10 (by omega) c_3) dO_leave_57 (fun H locs hG hS => ?_)
          rw [show (nI j).toNatClampNeg = j from nI_clamp (by omega)] at hG
          refine lv_aload_n hx hb dO_leave_58 rfl (lv_at hl 1 rfl) ?_
          refine lv_aload_n hx hb dO_leave_59 rfl (lv_at hl 1 rfl) ?_
          refine ro_get (v := .int (sA (4 * i + 12) 2)) hx hb hts hown hC hG 2 hi (by decide) q_225 (by simp [ofs, up2, upd]) dO_leave_60 ?_
          refine lv_iload_n hx hb dO_leave_63 rfl (lv_at hl 0 rfl) ?_
          refine lv_iconst (v := 1) hx hb dO_leave_64 (by decide) ?_
          refine lv_iadd hx hb dO_leave_65 ?_
          refine va_mmax hx hb (by rw [hml]; exact hl.1.symm) hown (hts _ q_309) (hts _ q_310) (hts _ q_6) (hts _ q_311) (Nat.le_of_ble_eq_true rfl) (Nat.le_of_ble_eq_true rfl) (Nat.le_of_ble_eq_true rfl) (Nat.le_of_ble_eq_true rfl) dO_leave_66 ?_
          refine ro_put hx hb hts hown hC hG hS hi q_225 dO_leave_69 (fun H locs hG hS => ?_)
          refine W.widen (k := 0) (n := 0) (Nat.le_of_ble_eq_true rfl) (Nat.le_of_ble_eq_true rfl) ?_
          exact W.vret hx hb hr (fun t ht hW => ⟨⟨(sL, (up2 (up2 (up2 sA (4 * i + 13) j p0) (4 * i + 14) j p1) (4 * i + 12) 2 (imax (sA (4 * i + 12) 2) ((nI j) + 1)))), rfl, (by rw [hF, lO_leave, if_pos c_1, if_neg c_2, if_pos c_3] <;> rfl), gw_at hG ht⟩, hS.F ht⟩) hS.2.2 dO_leave_72
        · refine W.widen (k := 0) (n := 0) (Nat.le_of_ble_eq_true rfl) (Nat.le_of_ble_eq_true rfl) ?_
          exact W.vret hx hb hr (fun t ht hW => ⟨⟨(sL, sA), rfl, (by rw [hF, lO_leave, if_pos c_1, if_neg c_2, if_neg c_3] <;> rfl), gw_at hG ht⟩, hS.F ht⟩) hS.2.2 dO_leave_43
    · refine lv_aload_n hx hb dO_leave_10 rfl (lv_at hl 1 rfl) ?_
      refine lv_iload_n hx hb dO_leave_11 rfl (lv_at hl 0 rfl) ?_
      refine rcV2 (rest := []) (As := [.int (nI j)]) hx hb hml hown hts hC hG hS (cO_buyerAt l D tI tJ tL A sg ad n sL sA i hi (nI j)) (recO hi hC hG) (gV q_305 q_306 q_307 q_10 q_308) rfl rfl ⟨rfl, hdyO_buyerAt⟩ ⟨Nat.le_of_ble_eq_true rfl, Nat.le_of_ble_eq_true rfl⟩ hl.1 rfl (Nat.le_of_ble_eq_true rfl) dO_leave_12 ⟨Nat.le_of_ble_eq_true rfl, Nat.le_of_ble_eq_true rfl⟩ ?_
      refine lv_iload_n hx hb dO_leave_15 rfl (lv_at hl 2 rfl) ?_
      refine lv_icmp_eq (tgt := 25) hx hb dO_leave_16 (by decide) (fun c_4 => ?_) (fun c_4 => ?_)
      · refine lv_iload_n hx hb dO_leave_25 rfl (lv_at hl 0 rfl) ?_
        refine lv_aload_n hx hb dO_leave_26 rfl (lv_at hl 1 rfl) ?_
        refine ro_get (v := .ref (ad (4 * i + 13))) hx hb hts hown hC hG 0 hi (by decide) q_223 (rfl) dO_leave_27 ?_
        refine ra_len hx hb hC hG (4 * i + 13) 10 (by omega) (fun _ _ => gr_B i) (v := 10) rfl dO_leave_30 ?_
        refine lv_icmp_ge (tgt := 43) hx hb dO_leave_31 (by decide) (fun c_5 => ?_) (fun c_5 => ?_)
        · refine W.widen (k := 0) (n := 0) (Nat.le_of_ble_eq_true rfl) (Nat.le_of_ble_eq_true rfl) ?_
          exact W.vret hx hb hr (fun t ht hW => ⟨⟨(sL, sA), rfl, (by rw [hF, lO_leave, if_neg c_1, if_pos c_4, if_pos c_5] <;> rfl), gw_at hG ht⟩, hS.F ht⟩) hS.2.2 dO_leave_43
        · refine lv_iload_n hx hb dO_leave_34 rfl (lv_at hl 0 rfl) ?_
          refine lv_aload_n hx hb dO_leave_35 rfl (lv_at hl 1 rfl) ?_
          refine ro_get (v := .ref (ad (4 * i + 14))) hx hb hts hown hC hG 1 hi (by decide) q_224 (rfl) dO_leave_36 ?_
          refine ra_len hx hb hC hG (4 * i + 14) 10 (by omega) (fun _ _ => gr_Am i) (v := 10) rfl dO_leave_39 ?_
          refine lv_icmp_lt (tgt := 44) hx hb dO_leave_40 (by decide) (fun c_6 => ?_) (fun c_6 => ?_)
          · refine lv_aload_n hx hb dO_leave_44 rfl (lv_at hl 1 rfl) ?_
            refine ro_get (v := .ref (ad (4 * i + 13))) hx hb hts hown hC hG 0 hi (by decide) q_223 (rfl) dO_leave_45 ?_
            refine lv_iload_n hx hb dO_leave_48 rfl (lv_at hl 0 rfl) ?_
            refine lv_iload_n hx hb dO_leave_49 rfl (lv_at hl 2 rfl) ?_
            refine ra_st hx hb hC hG hS (4 * i + 13) 10 (by omega) (fun _ _ => gr_B i) (vin_lt10 (by omega) c_6) dO_leave_50 (fun H locs hG hS => ?_)
            rw [show (nI j).toNatClampNeg = j from nI_clamp (by omega)] at hG
            refine lv_aload_n hx hb dO_leave_51 rfl (lv_at hl 1 rfl) ?_
            refine ro_get (v := .ref (ad (4 * i + 14))) hx hb hts hown hC hG 1 hi (by decide) q_224 (rfl) dO_leave_52 ?_
            refine lv_iload_n hx hb dO_leave_55 rfl (lv_at hl 0 rfl) ?_
            refine lv_iload_n hx hb dO_leave_56 rfl (lv_at hl 3 rfl) ?_
            refine ra_st hx hb hC hG hS (4 * i + 14) 10 (by omega) (fun _ _ => gr_Am i) (vin_lt10 (by omega) c_6) dO_leave_57 (fun H locs hG hS => ?_)
            rw [show (nI j).toNatClampNeg = j from nI_clamp (by omega)] at hG
            refine lv_aload_n hx hb dO_leave_58 rfl (lv_at hl 1 rfl) ?_
            refine lv_aload_n hx hb dO_leave_59 rfl (lv_at hl 1 rfl) ?_
            refine ro_get (v := .int (sA (4 * i + 12) 2)) hx hb hts hown hC hG 2 hi (by decide) q_225 (by simp [ofs, up2, upd]) dO_leave_60 ?_
            refine lv_iload_n hx hb dO_leave_63 rfl (lv_at hl 0 rfl) ?_
            refine lv_iconst (v := 1) hx hb dO_leave_64 (by decide) ?_
            refine lv_iadd hx hb dO_leave_65 ?_
            refine va_mmax hx hb (by rw [hml]; exact hl.1.symm) hown (hts _ q_309) (hts _ q_310) (hts _ q_6) (hts _ q_311) (Nat.le_of_ble_eq_true rfl) (Nat.le_of_ble_eq_true rfl) (Nat.le_of_ble_eq_true rfl) (Nat.le_of_ble_eq_true rfl) dO_leave_66 ?_
            refine ro_put hx hb hts hown hC hG hS hi q_225 dO_leave_69 (fun H locs hG hS => ?_)
            refine W.widen (k := 0) (n := 0) (Nat.le_of_ble_eq_true rfl) (Nat.le_of_ble_eq_true rfl) ?_
            exact W.vret hx hb hr (fun t ht hW => ⟨⟨(sL, (up2 (up2 (up2 sA (4 * i + 13) j p0) (4 * i + 14) j p1) (4 * i + 12) 2 (imax (sA (4 * i + 12) 2) ((nI j) + 1)))), rfl, (by rw [hF, lO_leave, if_neg c_1, if_pos c_4, if_neg c_5, if_pos c_6] <;> rfl), gw_at hG ht⟩, hS.F ht⟩) hS.2.2 dO_leave_72
          · refine W.widen (k := 0) (n := 0) (Nat.le_of_ble_eq_true rfl) (Nat.le_of_ble_eq_true rfl) ?_
            exact W.vret hx hb hr (fun t ht hW => ⟨⟨(sL, sA), rfl, (by rw [hF, lO_leave, if_neg c_1, if_pos c_4, if_neg c_5, if_neg c_6] <;> rfl), gw_at hG ht⟩, hS.F ht⟩) hS.2.2 dO_leave_43
      · refine lv_iinc (v := nI (j + 1)) (lv' := [(3, .int (nI (j + 1))), (0, .ref (ad (4 * i + 12))), (1, .int p0), (2, .int p1)]) hx hb dO_leave_19 hl (k := 0) rfl (nI_1 j) (by decide) rfl (fun ls hl => ?_)
        refine lv_goto (tgt := 2) hx hb dO_leave_22 (by decide) ?_
        exact ih (j := j + 1) (ls := ls) (hf := by omega) (hj := by have hlt := lt_guard hcn (by omega) (by omega) c_1; omega) (hF := by rw [hF, lO_leave, if_neg c_1, if_neg c_4] <;> rfl) (hl := lv_sub hl [0, 1, 2, 3] rfl)
def lX_held (n : Nat) (sL : NL) (sA : NA) : Nat → Nat → Int64 → Int64
  | 0, _, _ => 0
  | f + 1, j, x => if 30 ≤ (nI j) then x else (if j < n then lX_held n sL sA f (j + 1) (x + ((fL_heldForIt sL sA j : Int32).toInt64)) else lX_held n sL sA f (j + 1) x)
def fX_heldByLots (n : Nat) (sL : NL) (sA : NA) : Int64 := lX_held n sL sA 31 0 0
theorem hdyX_heldByLots : yX_heldByLots.cls ≠ "java/lang/invoke/MethodHandle" ∧ yX_heldByLots.cls ≠ "java/lang/invoke/VarHandle" ∧ (parseMethodDescriptor yX_heldByLots.desc).map (fun d => d.parameters.length) = some 0 := by decide +kernel
theorem dX_heldByLots_0 : decode bX_heldByLots 0 = .ok (.lconst 0, 1) := by decide +kernel
theorem dX_heldByLots_1 : decode bX_heldByLots 1 = .ok (.lstore_n 1, 1) := by decide +kernel
theorem dX_heldByLots_2 : decode bX_heldByLots 2 = .ok (.aload_n 0, 1) := by decide +kernel
theorem dX_heldByLots_3 : decode bX_heldByLots 3 = .ok (.getfield 11, 3) := by decide +kernel
theorem dX_heldByLots_6 : decode bX_heldByLots 6 = .ok (.astore_n 3, 1) := by decide +kernel
theorem dX_heldByLots_7 : decode bX_heldByLots 7 = .ok (.aload_n 3, 1) := by decide +kernel
theorem dX_heldByLots_8 : decode bX_heldByLots 8 = .ok (.arraylength, 1) := by decide +kernel
theorem dX_heldByLots_9 : decode bX_heldByLots 9 = .ok (.istore 4, 2) := by decide +kernel
theorem dX_heldByLots_11 : decode bX_heldByLots 11 = .ok (.iconst 0, 1) := by decide +kernel
theorem dX_heldByLots_12 : decode bX_heldByLots 12 = .ok (.istore 5, 2) := by decide +kernel
theorem dX_heldByLots_14 : decode bX_heldByLots 14 = .ok (.iload 5, 2) := by decide +kernel
theorem dX_heldByLots_16 : decode bX_heldByLots 16 = .ok (.iload 4, 2) := by decide +kernel
theorem dX_heldByLots_18 : decode bX_heldByLots 18 = .ok (.if_icmp .ge 29, 3) := by decide +kernel
theorem dX_heldByLots_21 : decode bX_heldByLots 21 = .ok (.aload_n 3, 1) := by decide +kernel
theorem dX_heldByLots_22 : decode bX_heldByLots 22 = .ok (.iload 5, 2) := by decide +kernel
theorem dX_heldByLots_24 : decode bX_heldByLots 24 = .ok (.aaload, 1) := by decide +kernel
theorem dX_heldByLots_25 : decode bX_heldByLots 25 = .ok (.astore 6, 2) := by decide +kernel
theorem dX_heldByLots_27 : decode bX_heldByLots 27 = .ok (.aload 6, 2) := by decide +kernel
theorem dX_heldByLots_29 : decode bX_heldByLots 29 = .ok (.ifnull 12, 3) := by decide +kernel
theorem dX_heldByLots_32 : decode bX_heldByLots 32 = .ok (.lload_n 1, 1) := by decide +kernel
theorem dX_heldByLots_33 : decode bX_heldByLots 33 = .ok (.aload 6, 2) := by decide +kernel
theorem dX_heldByLots_35 : decode bX_heldByLots 35 = .ok (.invokevirtual 173, 3) := by decide +kernel
theorem dX_heldByLots_38 : decode bX_heldByLots 38 = .ok (.i2l, 1) := by decide +kernel
theorem dX_heldByLots_39 : decode bX_heldByLots 39 = .ok (.ladd, 1) := by decide +kernel
theorem dX_heldByLots_40 : decode bX_heldByLots 40 = .ok (.lstore_n 1, 1) := by decide +kernel
theorem dX_heldByLots_41 : decode bX_heldByLots 41 = .ok (.iinc 5 1, 3) := by decide +kernel
theorem dX_heldByLots_44 : decode bX_heldByLots 44 = .ok (.goto (-30), 3) := by decide +kernel
theorem dX_heldByLots_47 : decode bX_heldByLots 47 = .ok (.lload_n 1, 1) := by decide +kernel
theorem dX_heldByLots_48 : decode bX_heldByLots 48 = .ok (.lreturn, 1) := by decide +kernel
set_option maxHeartbeats 4000000 in
set_option maxRecDepth 100000 in
theorem cX_heldByLots (l : Launch) (D : va_G) (tI tJ tL : ClassId) (A : Nat → Prop) (sg ad : Nat → Nat) (n : Nat) (sL : NL) (sA : NA) : Met l yX_heldByLots (Cond.code yX_heldByLots bX_heldByLots 7 (some FieldType.long) :: wNeed) { frames := 1, cells := 0, slots := 0, locals := 20 } (va_Pc [.ref (ad 0)] (GP D tI tJ tL A sg ad n sL sA)) (vp_Sl fun r => r = fX_heldByLots n sL sA) 0 0 (fun _ => False) := by
  refine en_M (av := [.ref (ad 0)]) (by decide) (Nat.le_of_ble_eq_true rfl) ?_
  intro p e s m below meth c hx hb hml hown hts hr hlocks hmname hP ls hl
  obtain ⟨hG, hC⟩ := hP
  have hS : va_S A s.heap s.heap [] := va_S.rf
  replace hl : lv_has ls 7 [(0, .ref (ad 0))] := hl
  refine lv_lconst (v := 0) hx hb dX_heldByLots_0 (by decide) ?_
  refine lv_lstore_n (lv' := [(1, .long 0), (0, .ref (ad 0))]) hx hb dX_heldByLots_1 rfl hl (by decide) rfl (fun ls hl => ?_)
  refine lv_aload_n hx hb dX_heldByLots_2 rfl (lv_at hl 1 rfl) ?_
  refine rx_get (v := .ref (ad 1)) hx hb hts hown hC hG 0 (by decide) q_21 (rfl) dX_heldByLots_3 ?_
  refine lv_astore_n (lv' := [(3, .ref (ad 1)), (1, .long 0), (0, .ref (ad 0))]) hx hb dX_heldByLots_6 rfl hl (by decide) rfl (fun ls hl => ?_)
  refine lv_aload_n hx hb dX_heldByLots_7 rfl (lv_at hl 0 rfl) ?_
  refine rh_len hx hb hC hG (v := 30) rfl dX_heldByLots_8 ?_
  refine lv_istore (lv' := [(4, .int 30), (3, .ref (ad 1)), (1, .long 0), (0, .ref (ad 0))]) hx hb dX_heldByLots_9 hl (by decide) rfl (fun ls hl => ?_)
  refine lv_iconst (v := 0) hx hb dX_heldByLots_11 (by decide) ?_
  refine lv_istore (lv' := [(5, .int 0), (4, .int 30), (3, .ref (ad 1)), (1, .long 0), (0, .ref (ad 0))]) hx hb dX_heldByLots_12 hl (by decide) rfl (fun ls hl => ?_)
  replace hl : ∃ (f : Nat) (j : Nat) (x : Int64), j + f = 31 ∧ j ≤ 30 ∧ fX_heldByLots n sL sA = lX_held n sL sA f j x ∧ lv_has ls 7 [(5, .int (nI j)), (4, .int 30), (3, .ref (ad 1)), (1, .long x), (0, .ref (ad 0))] := ⟨31, 0, 0, rfl, by omega, (by rw [fX_heldByLots] <;> rfl), hl⟩
  obtain ⟨f, j, x, hf, hj, hF, hl⟩ := hl
  induction f generalizing j x ls with
  | zero => exact absurd hf (by omega)
  | succ f ih =>
    refine lv_iload hx hb dX_heldByLots_14 (lv_at hl 0 rfl) ?_
    refine lv_iload hx hb dX_heldByLots_16 (lv_at hl 1 rfl) ?_
    refine lv_icmp_ge (tgt := 47) hx hb dX_heldByLots_18 (by decide) (fun c_1 => ?_) (fun c_1 => ?_)
    · refine lv_lload_n hx hb dX_heldByLots_47 rfl (lv_at hl 3 rfl) ?_
      exact W.lret (v := x) hx hb hr (fun t ht hW => ⟨_, rfl, (by rw [hF, lX_held, if_pos c_1] <;> rfl), ht⟩) (fun q h => nomatch h) dX_heldByLots_48
    · refine lv_aload_n hx hb dX_heldByLots_21 rfl (lv_at hl 2 rfl) ?_
      refine lv_iload hx hb dX_heldByLots_22 (lv_at hl 0 rfl) ?_
      refine rh_ld hx hb hC hG (vp_in_nI (lt_guard30 (by omega) c_1) (by omega)) dX_heldByLots_24 ?_
      rw [show (nI j).toNatClampNeg = j from nI_clamp (by omega)]
      by_cases h_2 : j < n
      · rw [show hof ad n j = some (ad (4 * j + 11)) from if_pos h_2]
        refine W.eq (g2 := F0 m 25 ls (.ref (ad (4 * j + 11)) :: [])) rfl ?_
        have hi := h_2
        refine lv_astore (lv' := [(6, .ref (ad (4 * j + 11))), (5, .int (nI j)), (4, .int 30), (3, .ref (ad 1)), (1, .long x), (0, .ref (ad 0))]) hx hb dX_heldByLots_25 hl (by decide) rfl (fun ls hl => ?_)
        refine lv_aload hx hb dX_heldByLots_27 (lv_at hl 0 rfl) ?_
        refine lv_ifnull hx hb dX_heldByLots_29 ?_
        refine lv_lload_n hx hb dX_heldByLots_32 rfl (lv_at hl 4 rfl) ?_
        refine lv_aload hx hb dX_heldByLots_33 (lv_at hl 0 rfl) ?_
        refine rcV2 (rest := [.long x]) (As := []) hx hb hml hown hts hC hG hS (cL_heldForIt l D tI tJ tL A sg ad n sL sA j hi) (recL hi hC hG) (gV q_466 q_467 q_468 q_9 q_469) rfl rfl ⟨rfl, hdyL_heldForIt⟩ ⟨Nat.le_of_ble_eq_true rfl, Nat.le_of_ble_eq_true rfl⟩ hl.1 rfl (Nat.le_of_ble_eq_true rfl) dX_heldByLots_35 ⟨Nat.le_of_ble_eq_true rfl, Nat.le_of_ble_eq_true rfl⟩ ?_
        refine lv_i2l (v := (fL_heldForIt sL sA j : Int32).toInt64) hx hb dX_heldByLots_38 rfl ?_
        refine lv_ladd hx hb dX_heldByLots_39 ?_
        refine lv_lstore_n (lv' := [(1, .long (x + ((fL_heldForIt sL sA j : Int32).toInt64))), (6, .ref (ad (4 * j + 11))), (5, .int (nI j)), (4, .int 30), (3, .ref (ad 1)), (0, .ref (ad 0))]) hx hb dX_heldByLots_40 rfl hl (by decide) rfl (fun ls hl => ?_)
        refine lv_iinc (v := nI (j + 1)) (lv' := [(5, .int (nI (j + 1))), (1, .long (x + ((fL_heldForIt sL sA j : Int32).toInt64))), (6, .ref (ad (4 * j + 11))), (4, .int 30), (3, .ref (ad 1)), (0, .ref (ad 0))]) hx hb dX_heldByLots_41 hl (k := 2) rfl (nI_1 j) (by decide) rfl (fun ls hl => ?_)
        refine lv_goto (tgt := 14) hx hb dX_heldByLots_44 (by decide) ?_
        exact ih (j := j + 1) (x := x + ((fL_heldForIt sL sA j : Int32).toInt64)) (ls := ls) (hf := by omega) (hj := by have hlt := lt_guard30 (by omega) c_1; omega) (hF := by rw [hF, lX_held, if_neg c_1, if_pos h_2] <;> rfl) (hl := lv_sub hl [0, 3, 4, 1, 5] rfl)
      · rw [show hof ad n j = none from if_neg h_2]
        refine W.eq (g2 := F0 m 25 ls (.null :: [])) rfl ?_
        refine lv_astoreN (lv' := [(6, .null), (5, .int (nI j)), (4, .int 30), (3, .ref (ad 1)), (1, .long x), (0, .ref (ad 0))]) hx hb dX_heldByLots_25 hl (by decide) rfl (fun ls hl => ?_)
        refine lv_aloadN hx hb dX_heldByLots_27 (lv_at hl 0 rfl) ?_
        refine lv_ifnullN (tgt := 41) hx hb dX_heldByLots_29 (by decide) ?_
        refine lv_iinc (v := nI (j + 1)) (lv' := [(5, .int (nI (j + 1))), (6, .null), (4, .int 30), (3, .ref (ad 1)), (1, .long x), (0, .ref (ad 0))]) hx hb dX_heldByLots_41 hl (k := 1) rfl (nI_1 j) (by decide) rfl (fun ls hl => ?_)
        refine lv_goto (tgt := 14) hx hb dX_heldByLots_44 (by decide) ?_
        exact ih (j := j + 1) (x := x) (ls := ls) (hf := by omega) (hj := by have hlt := lt_guard30 (by omega) c_1; omega) (hF := by rw [hF, lX_held, if_neg c_1, if_neg h_2] <;> rfl) (hl := lv_sub hl [0, 2, 3, 4, 5] rfl)
