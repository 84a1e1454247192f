theorem owed_ok {sL : NL} {sA : NA} {p : Int32} (h : (fX_owedBy sL sA p).1 = 0) : fX_checkBuyer p = 0 := by
  rw [fX_owedBy] at h
  exact bnd_eq0 h
def fX_lots (sL : NL) (sA : NA) : Int32 := sA 0 3
theorem hdyX_lots : yX_lots.cls ≠ "java/lang/invoke/MethodHandle" ∧ yX_lots.cls ≠ "java/lang/invoke/VarHandle" ∧ (parseMethodDescriptor yX_lots.desc).map (fun d => d.parameters.length) = some 0 := by decide +kernel
theorem dX_lots_0 : decode bX_lots 0 = .ok (.aload_n 0, 1) := by decide +kernel
theorem dX_lots_1 : decode bX_lots 1 = .ok (.getfield 38, 3) := by decide +kernel
theorem dX_lots_4 : decode bX_lots 4 = .ok (.ireturn, 1) := by decide +kernel
set_option maxHeartbeats 4000000 in
set_option maxRecDepth 100000 in
theorem cX_lots (l : Launch) (D : va_G) (tI tJ tL : ClassId) (A : Nat → Prop) (sg ad : Nat → Nat) (n : Nat) (sL : NL) (sA : NA) : Met l yX_lots (Cond.code yX_lots bX_lots 1 (some FieldType.int) :: wNeed) { frames := 0, cells := 0, slots := 0, locals := 0 } (va_Pc [.ref (ad 0)] (GP D tI tJ tL A sg ad n sL sA)) (vp_Si fun r => r = fX_lots sL sA) 0 0 (fun _ => False) := by
  refine en_M (av := [.ref (ad 0)]) (by decide) (Nat.le_of_ble_eq_true rfl) ?_
  intro p e s m below meth c hx hb hml hown hts hr hlocks hmname hP ls hl
  obtain ⟨hG, hC⟩ := hP
  have hS : va_S A s.heap s.heap [] := va_S.rf
  replace hl : lv_has ls 1 [(0, .ref (ad 0))] := hl
  refine lv_aload_n hx hb dX_lots_0 rfl (lv_at hl 0 rfl) ?_
  refine rx_get (v := .int (sA 0 3)) hx hb hts hown hC hG 3 (by decide) q_24 (rfl) dX_lots_1 ?_
  exact W.iret (v := sA 0 3) hx hb hr (fun t ht hW => ⟨_, rfl, (by rw [fX_lots] <;> rfl), ht⟩) (fun q h => nomatch h) dX_lots_4
def fX_in (sL : NL) (sA : NA) : Int64 := sL 0 6
theorem hdyX_in : yX_in.cls ≠ "java/lang/invoke/MethodHandle" ∧ yX_in.cls ≠ "java/lang/invoke/VarHandle" ∧ (parseMethodDescriptor yX_in.desc).map (fun d => d.parameters.length) = some 0 := by decide +kernel
theorem dX_in_0 : decode bX_in 0 = .ok (.aload_n 0, 1) := by decide +kernel
theorem dX_in_1 : decode bX_in 1 = .ok (.getfield 119, 3) := by decide +kernel
theorem dX_in_4 : decode bX_in 4 = .ok (.lreturn, 1) := by decide +kernel
set_option maxHeartbeats 4000000 in
set_option maxRecDepth 100000 in
theorem cX_in (l : Launch) (D : va_G) (tI tJ tL : ClassId) (A : Nat → Prop) (sg ad : Nat → Nat) (n : Nat) (sL : NL) (sA : NA) : Met l yX_in (Cond.code yX_in bX_in 1 (some FieldType.long) :: wNeed) { frames := 0, cells := 0, slots := 0, locals := 0 } (va_Pc [.ref (ad 0)] (GP D tI tJ tL A sg ad n sL sA)) (vp_Sl fun r => r = fX_in sL sA) 0 0 (fun _ => False) := by
  refine en_M (av := [.ref (ad 0)]) (by decide) (Nat.le_of_ble_eq_true rfl) ?_
  intro p e s m below meth c hx hb hml hown hts hr hlocks hmname hP ls hl
  obtain ⟨hG, hC⟩ := hP
  have hS : va_S A s.heap s.heap [] := va_S.rf
  replace hl : lv_has ls 1 [(0, .ref (ad 0))] := hl
  refine lv_aload_n hx hb dX_in_0 rfl (lv_at hl 0 rfl) ?_
  refine rx_get (v := .long (sL 0 6)) hx hb hts hown hC hG 6 (by decide) q_27 (rfl) dX_in_1 ?_
  exact W.lret (v := sL 0 6) hx hb hr (fun t ht hW => ⟨_, rfl, (by rw [fX_in] <;> rfl), ht⟩) (fun q h => nomatch h) dX_in_4
def fX_out (sL : NL) (sA : NA) : Int64 := sL 0 7
theorem hdyX_out : yX_out.cls ≠ "java/lang/invoke/MethodHandle" ∧ yX_out.cls ≠ "java/lang/invoke/VarHandle" ∧ (parseMethodDescriptor yX_out.desc).map (fun d => d.parameters.length) = some 0 := by decide +kernel
theorem dX_out_0 : decode bX_out 0 = .ok (.aload_n 0, 1) := by decide +kernel
theorem dX_out_1 : decode bX_out 1 = .ok (.getfield 152, 3) := by decide +kernel
theorem dX_out_4 : decode bX_out 4 = .ok (.lreturn, 1) := by decide +kernel
set_option maxHeartbeats 4000000 in
set_option maxRecDepth 100000 in
theorem cX_out (l : Launch) (D : va_G) (tI tJ tL : ClassId) (A : Nat → Prop) (sg ad : Nat → Nat) (n : Nat) (sL : NL) (sA : NA) : Met l yX_out (Cond.code yX_out bX_out 1 (some FieldType.long) :: wNeed) { frames := 0, cells := 0, slots := 0, locals := 0 } (va_Pc [.ref (ad 0)] (GP D tI tJ tL A sg ad n sL sA)) (vp_Sl fun r => r = fX_out sL sA) 0 0 (fun _ => False) := by
  refine en_M (av := [.ref (ad 0)]) (by decide) (Nat.le_of_ble_eq_true rfl) ?_
  intro p e s m below meth c hx hb hml hown hts hr hlocks hmname hP ls hl
  obtain ⟨hG, hC⟩ := hP
  have hS : va_S A s.heap s.heap [] := va_S.rf
  replace hl : lv_has ls 1 [(0, .ref (ad 0))] := hl
  refine lv_aload_n hx hb dX_out_0 rfl (lv_at hl 0 rfl) ?_
  refine rx_get (v := .long (sL 0 7)) hx hb hts hown hC hG 7 (by decide) q_28 (rfl) dX_out_1 ?_
  exact W.lret (v := sL 0 7) hx hb hr (fun t ht hW => ⟨_, rfl, (by rw [fX_out] <;> rfl), ht⟩) (fun q h => nomatch h) dX_out_4
def fX_kept (sL : NL) (sA : NA) : Int64 := sL 0 8
theorem hdyX_kept : yX_kept.cls ≠ "java/lang/invoke/MethodHandle" ∧ yX_kept.cls ≠ "java/lang/invoke/VarHandle" ∧ (parseMethodDescriptor yX_kept.desc).map (fun d => d.parameters.length) = some 0 := by decide +kernel
theorem dX_kept_0 : decode bX_kept 0 = .ok (.aload_n 0, 1) := by decide +kernel
theorem dX_kept_1 : decode bX_kept 1 = .ok (.getfield 123, 3) := by decide +kernel
theorem dX_kept_4 : decode bX_kept 4 = .ok (.lreturn, 1) := by decide +kernel
set_option maxHeartbeats 4000000 in
set_option maxRecDepth 100000 in
theorem cX_kept (l : Launch) (D : va_G) (tI tJ tL : ClassId) (A : Nat → Prop) (sg ad : Nat → Nat) (n : Nat) (sL : NL) (sA : NA) : Met l yX_kept (Cond.code yX_kept bX_kept 1 (some FieldType.long) :: wNeed) { frames := 0, cells := 0, slots := 0, locals := 0 } (va_Pc [.ref (ad 0)] (GP D tI tJ tL A sg ad n sL sA)) (vp_Sl fun r => r = fX_kept sL sA) 0 0 (fun _ => False) := by
  refine en_M (av := [.ref (ad 0)]) (by decide) (Nat.le_of_ble_eq_true rfl) ?_
  intro p e s m below meth c hx hb hml hown hts hr hlocks hmname hP ls hl
  obtain ⟨hG, hC⟩ := hP
  have hS : va_S A s.heap s.heap [] := va_S.rf
  replace hl : lv_has ls 1 [(0, .ref (ad 0))] := hl
  refine lv_aload_n hx hb dX_kept_0 rfl (lv_at hl 0 rfl) ?_
  refine rx_get (v := .long (sL 0 8)) hx hb hts hown hC hG 8 (by decide) q_29 (rfl) dX_kept_1 ?_
  exact W.lret (v := sL 0 8) hx hb hr (fun t ht hW => ⟨_, rfl, (by rw [fX_kept] <;> rfl), ht⟩) (fun q h => nomatch h) dX_kept_4
def fX_held (sL : NL) (sA : NA) : Int64 := ((sL 0 6) - (sL 0 7)) - (sL 0 8)
theorem hdyX_held : yX_held.cls ≠ "java/lang/invoke/MethodHandle" ∧ yX_held.cls ≠ "java/lang/invoke/VarHandle" ∧ (parseMethodDescriptor yX_held.desc).map (fun d => d.parameters.length) = some 0 := by decide +kernel
theorem dX_held_0 : decode bX_held 0 = .ok (.aload_n 0, 1) := by decide +kernel
theorem dX_held_1 : decode bX_held 1 = .ok (.getfield 119, 3) := by decide +kernel
theorem dX_held_4 : decode bX_held 4 = .ok (.aload_n 0, 1) := by decide +kernel
theorem dX_held_5 : decode bX_held 5 = .ok (.getfield 152, 3) := by decide +kernel
theorem dX_held_8 : decode bX_held 8 = .ok (.lsub, 1) := by decide +kernel
theorem dX_held_9 : decode bX_held 9 = .ok (.aload_n 0, 1) := by decide +kernel
theorem dX_held_10 : decode bX_held 10 = .ok (.getfield 123, 3) := by decide +kernel
theorem dX_held_13 : decode bX_held 13 = .ok (.lsub, 1) := by decide +kernel
theorem dX_held_14 : decode bX_held 14 = .ok (.lreturn, 1) := by decide +kernel
set_option maxHeartbeats 4000000 in
set_option maxRecDepth 100000 in
theorem cX_held (l : Launch) (D : va_G) (tI tJ tL : ClassId) (A : Nat → Prop) (sg ad : Nat → Nat) (n : Nat) (sL : NL) (sA : NA) : Met l yX_held (Cond.code yX_held bX_held 1 (some FieldType.long) :: wNeed) { frames := 0, cells := 0, slots := 0, locals := 0 } (va_Pc [.ref (ad 0)] (GP D tI tJ tL A sg ad n sL sA)) (vp_Sl fun r => r = fX_held sL sA) 0 0 (fun _ => False) := by
  refine en_M (av := [.ref (ad 0)]) (by decide) (Nat.le_of_ble_eq_true rfl) ?_
  intro p e s m below meth c hx hb hml hown hts hr hlocks hmname hP ls hl
  obtain ⟨hG, hC⟩ := hP
  have hS : va_S A s.heap s.heap [] := va_S.rf
  replace hl : lv_has ls 1 [(0, .ref (ad 0))] := hl
  refine lv_aload_n hx hb dX_held_0 rfl (lv_at hl 0 rfl) ?_
  refine rx_get (v := .long (sL 0 6)) hx hb hts hown hC hG 6 (by decide) q_27 (rfl) dX_held_1 ?_
  refine lv_aload_n hx hb dX_held_4 rfl (lv_at hl 0 rfl) ?_
  refine rx_get (v := .long (sL 0 7)) hx hb hts hown hC hG 7 (by decide) q_28 (rfl) dX_held_5 ?_
  refine lv_lsub hx hb dX_held_8 ?_
  refine lv_aload_n hx hb dX_held_9 rfl (lv_at hl 0 rfl) ?_
  refine rx_get (v := .long (sL 0 8)) hx hb hts hown hC hG 8 (by decide) q_29 (rfl) dX_held_10 ?_
  refine lv_lsub hx hb dX_held_13 ?_
  exact W.lret (v := ((sL 0 6) - (sL 0 7)) - (sL 0 8)) hx hb hr (fun t ht hW => ⟨_, rfl, (by rw [fX_held] <;> rfl), ht⟩) (fun q h => nomatch h) dX_held_14
def fX_bid (n : Nat) (sL : NL) (sA : NA) (p0 : Int32) (p1 : Int32) (p2 : Int32) : Nat × Int32 × NL × NA := bndq (fX_findLot n p0) (fun i => bnd (fX_checkBuyer p1) (bnd (fX_checkRange p2 1 1000000) (bnd (fX_checkState sL sA i 0) ((0, fX_calledAmount p2, (fO_leave sL sA i p1 (fX_calledAmount p2)).1, (fO_leave sL sA i p1 (fX_calledAmount p2)).2)) (0, sL, sA)) (0, sL, sA)) (0, sL, sA)) (0, sL, sA)
theorem hdyX_bid : yX_bid.cls ≠ "java/lang/invoke/MethodHandle" ∧ yX_bid.cls ≠ "java/lang/invoke/VarHandle" ∧ (parseMethodDescriptor yX_bid.desc).map (fun d => d.parameters.length) = some 3 := by decide +kernel
theorem dX_bid_0 : decode bX_bid 0 = .ok (.aload_n 0, 1) := by decide +kernel
theorem dX_bid_1 : decode bX_bid 1 = .ok (.iload_n 1, 1) := by decide +kernel
theorem dX_bid_2 : decode bX_bid 2 = .ok (.invokevirtual 54, 3) := by decide +kernel
theorem dX_bid_5 : decode bX_bid 5 = .ok (.astore 4, 2) := by decide +kernel
theorem dX_bid_7 : decode bX_bid 7 = .ok (.iload_n 2, 1) := by decide +kernel
theorem dX_bid_8 : decode bX_bid 8 = .ok (.invokestatic 58, 3) := by decide +kernel
theorem dX_bid_11 : decode bX_bid 11 = .ok (.iload_n 3, 1) := by decide +kernel
theorem dX_bid_12 : decode bX_bid 12 = .ok (.iconst 1, 1) := by decide +kernel
theorem dX_bid_13 : decode bX_bid 13 = .ok (.ldc 30, 2) := by decide +kernel
theorem dX_bid_15 : decode bX_bid 15 = .ok (.invokestatic 31, 3) := by decide +kernel
theorem dX_bid_18 : decode bX_bid 18 = .ok (.aload 4, 2) := by decide +kernel
theorem dX_bid_20 : decode bX_bid 20 = .ok (.iconst 0, 1) := by decide +kernel
theorem dX_bid_21 : decode bX_bid 21 = .ok (.invokestatic 61, 3) := by decide +kernel
theorem dX_bid_24 : decode bX_bid 24 = .ok (.iload_n 3, 1) := by decide +kernel
theorem dX_bid_25 : decode bX_bid 25 = .ok (.invokestatic 48, 3) := by decide +kernel
theorem dX_bid_28 : decode bX_bid 28 = .ok (.istore 5, 2) := by decide +kernel
theorem dX_bid_30 : decode bX_bid 30 = .ok (.aload 4, 2) := by decide +kernel
theorem dX_bid_32 : decode bX_bid 32 = .ok (.getfield 65, 3) := by decide +kernel
theorem dX_bid_35 : decode bX_bid 35 = .ok (.iload_n 2, 1) := by decide +kernel
theorem dX_bid_36 : decode bX_bid 36 = .ok (.iload 5, 2) := by decide +kernel
theorem dX_bid_38 : decode bX_bid 38 = .ok (.invokevirtual 69, 3) := by decide +kernel
theorem dX_bid_41 : decode bX_bid 41 = .ok (.iload 5, 2) := by decide +kernel
theorem dX_bid_43 : decode bX_bid 43 = .ok (.ireturn, 1) := by decide +kernel
set_option maxHeartbeats 4000000 in
set_option maxRecDepth 100000 in
theorem cX_bid (l : Launch) (hl9 : l.stackTraces = false) (D : va_G) (tI tJ tL : ClassId) (A : Nat → Prop) (sg ad : Nat → Nat) (n : Nat) (sL : NL) (sA : NA) (p0 : Int32) (p1 : Int32) (p2 : Int32) (hcnt : ∀ i, i < n → ∃ cn : Nat, cn ≤ 10 ∧ sA (4 * i + 12) 2 = nI cn) : vx_Met l yX_bid (Cond.code yX_bid bX_bid 6 (some FieldType.int) :: wNeed) { frames := 7, cells := 4, slots := 24, locals := 112 } (va_Pc [.ref (ad 0), .int p0, .int p1, .int p2] (GP D tI tJ tL A sg ad n sL sA)) (va_Qi (fun r (u : NL × NA) => fX_bid n sL sA p0 p1 p2 = (0, r, u.1, u.2)) (fun u t => GW D tI tJ tL A ad n u.1 u.2 t.heap) A) (XQ D tI tJ tL A ad n sL sA (fX_bid n sL sA p0 p1 p2).1) 4 24 A := by
  refine en_XG (av := [.ref (ad 0), .int p0, .int p1, .int p2]) (by decide) (Nat.le_of_ble_eq_true rfl) ?_
  intro p e s m below meth c hx hb hml hown hts hr hlocks hT hC H locs hG hS ls hl
  replace hl : lv_has ls 6 [(0, .ref (ad 0)), (1, .int p0), (2, .int p1), (3, .int p2)] := hl
  refine lv_aload_n hx hb dX_bid_0 rfl (lv_at hl 0 rfl) ?_
  refine lv_iload_n hx hb dX_bid_1 rfl (lv_at hl 1 rfl) ?_
  refine rcV5q (rest := []) (As := [.int p0]) (p0 := p0) (Mc := 4) (Ms := 24) hx hb hml hown hts hC hG hS hlocks hT (cX_findLot l hl9 D tI tJ tL A sg ad n sL sA p0) (recX hC hG) (gV q_288 q_290 q_p1 q_1 q_291) rfl rfl ⟨rfl, hdyX_findLot⟩ ⟨Nat.le_of_ble_eq_true rfl, Nat.le_of_ble_eq_true rfl⟩ hl.1 rfl (Nat.le_of_ble_eq_true rfl) dX_bid_2 ⟨Nat.le_of_ble_eq_true rfl, Nat.le_of_ble_eq_true rfl⟩ ⟨Nat.le_of_ble_eq_true rfl, Nat.le_of_ble_eq_true rfl⟩ (fun h => by rw [fX_bid, bndq_n h] <;> rfl) (fun i h_1 hi hp H locs hG hS => ?_)
  subst hp
  refine lv_astore (lv' := [(4, .ref (ad (4 * i + 11))), (0, .ref (ad 0)), (1, .int (nI i)), (2, .int p1), (3, .int p2)]) hx hb dX_bid_5 hl (by decide) rfl (fun ls hl => ?_)
  refine lv_iload_n hx hb dX_bid_7 rfl (lv_at hl 3 rfl) ?_
  refine rcS4 (rest := []) (As := [.int p1]) (Mc := 4) (Ms := 24) hx hb hml hown hts hC hG hS hlocks hT (cX_checkBuyer l hl9 D tI tJ tL A sg ad n sL sA p1) (gS q_293 q_294 q_1 q_295) rfl rfl ⟨rfl, hdyX_checkBuyer⟩ ⟨Nat.le_of_ble_eq_true rfl, Nat.le_of_ble_eq_true rfl⟩ hl.1 rfl (Nat.le_of_ble_eq_true rfl) dX_bid_8 ⟨Nat.le_of_ble_eq_true rfl, Nat.le_of_ble_eq_true rfl⟩ ⟨Nat.le_of_ble_eq_true rfl, Nat.le_of_ble_eq_true rfl⟩ (fun h => by rw [fX_bid, bndq_s h_1, bnd_n h] <;> rfl) (fun h_2 H locs hG hS => ?_)
  refine lv_iload_n hx hb dX_bid_11 rfl (lv_at hl 4 rfl) ?_
  refine lv_iconst (v := 1) hx hb dX_bid_12 (by decide) ?_
  refine lv_ldc (v := 1000000) hx hb hown (hts _ q_186) dX_bid_13 ?_
  refine rcS4 (rest := []) (As := [.int p2, .int 1, .int 1000000]) (Mc := 4) (Ms := 24) hx hb hml hown hts hC hG hS hlocks hT (cX_checkRange l hl9 D tI tJ tL A sg ad n sL sA p2 1 1000000) (gS q_125 q_126 q_1 q_127) rfl rfl ⟨rfl, hdyX_checkRange⟩ ⟨Nat.le_of_ble_eq_true rfl, Nat.le_of_ble_eq_true rfl⟩ hl.1 rfl (Nat.le_of_ble_eq_true rfl) dX_bid_15 ⟨Nat.le_of_ble_eq_true rfl, Nat.le_of_ble_eq_true rfl⟩ ⟨Nat.le_of_ble_eq_true rfl, Nat.le_of_ble_eq_true rfl⟩ (fun h => by rw [fX_bid, bndq_s h_1, bnd_0 h_2, bnd_n h] <;> rfl) (fun h_3 H locs hG hS => ?_)
  refine lv_aload hx hb dX_bid_18 (lv_at hl 0 rfl) ?_
  refine lv_iconst (v := 0) hx hb dX_bid_20 (by decide) ?_
  refine rcS4 (rest := []) (As := [.ref (ad (4 * i + 11)), .int 0]) (Mc := 4) (Ms := 24) hx hb hml hown hts hC hG hS hlocks hT (cX_checkState l hl9 D tI tJ tL A sg ad n sL sA i hi 0) (gS q_297 q_298 q_1 q_299) rfl rfl ⟨rfl, hdyX_checkState⟩ ⟨Nat.le_of_ble_eq_true rfl, Nat.le_of_ble_eq_true rfl⟩ hl.1 rfl (Nat.le_of_ble_eq_true rfl) dX_bid_21 ⟨Nat.le_of_ble_eq_true rfl, Nat.le_of_ble_eq_true rfl⟩ ⟨Nat.le_of_ble_eq_true rfl, Nat.le_of_ble_eq_true rfl⟩ (fun h => by rw [fX_bid, bndq_s h_1, bnd_0 h_2, bnd_0 h_3, bnd_n h] <;> rfl) (fun h_4 H locs hG hS => ?_)
  refine lv_iload_n hx hb dX_bid_24 rfl (lv_at hl 4 rfl) ?_
  refine rcS1 (rest := []) (As := [.int p2]) hx hb hml hown hts (cX_calledAmount l p2) (gS q_207 q_208 q_1 q_209) rfl rfl ⟨rfl, hdyX_calledAmount⟩ ⟨Nat.le_of_ble_eq_true rfl, Nat.le_of_ble_eq_true rfl⟩ hl.1 rfl (Nat.le_of_ble_eq_true rfl) dX_bid_25 ⟨Nat.le_of_ble_eq_true rfl, Nat.le_of_ble_eq_true rfl⟩ ?_
  refine lv_istore (lv' := [(5, .int (fX_calledAmount p2)), (4, .ref (ad (4 * i + 11))), (0, .ref (ad 0)), (1, .int (nI i)), (2, .int p1), (3, .int p2)]) hx hb dX_bid_28 hl (by decide) rfl (fun ls hl => ?_)
  refine lv_aload hx hb dX_bid_30 (lv_at hl 1 rfl) ?_
  refine rl_getN (v := .ref (ad (4 * i + 12))) hx hb hts hown hC hG 2 hi (by decide) z_240 (rfl) dX_bid_32 ?_
  refine lv_iload_n hx hb dX_bid_35 rfl (lv_at hl 4 rfl) ?_
  refine lv_iload hx hb dX_bid_36 (lv_at hl 0 rfl) ?_
  obtain ⟨cn, hc, hcn⟩ := hcnt i hi
  refine rcV3v (rest := []) (As := [.int p1, .int (fX_calledAmount p2)]) hx hb hml hown hts hC hG hS (cO_leave l D tI tJ tL A sg ad n sL sA i hi p1 (fX_calledAmount p2) cn hc hcn) (recO hi hC hG) (gV q_301 q_302 q_303 q_10 q_304) rfl rfl ⟨rfl, hdyO_leave⟩ ⟨Nat.le_of_ble_eq_true rfl, Nat.le_of_ble_eq_true rfl⟩ hl.1 rfl (Nat.le_of_ble_eq_true rfl) dX_bid_38 ⟨Nat.le_of_ble_eq_true rfl, Nat.le_of_ble_eq_true rfl⟩ (fun H locs hG hS => ?_)
  refine lv_iload hx hb dX_bid_41 (lv_at hl 0 rfl) ?_
  refine vx_ret ?_
  refine W.widen (k := 4) (n := 24) (Nat.le_of_ble_eq_true rfl) (Nat.le_of_ble_eq_true rfl) ?_
  exact W.iret (v := fX_calledAmount p2) hx hb hr (fun t ht hW => ⟨⟨(fX_calledAmount p2), ((fO_leave sL sA i p1 (fX_calledAmount p2)).1, (fO_leave sL sA i p1 (fX_calledAmount p2)).2), rfl, (by rw [fX_bid, bndq_s h_1, bnd_0 h_2, bnd_0 h_3, bnd_0 h_4] <;> rfl), gw_at hG ht⟩, hS.F ht⟩) hS.2.2 dX_bid_43
def fX_hammer (n : Nat) (sL : NL) (sA : NA) (p0 : Int32) : Nat × Int32 × NL × NA := bndq (fX_findLot n p0) (fun i => bnd (fX_checkState sL sA i 0) (if (sA (4 * i + 11) 3) ≤ (fO_amountAt sL sA i (fO_placeOfBest sL sA i)) then (0, fX_priceFor (sA (4 * i + 11) 3) (fO_amountAt sL sA i (fO_placeOfBest sL sA i)) (fO_highestBeside sL (up2 (up2 sA (4 * i + 11) 4 2) (4 * i + 11) 5 (fO_buyerAt sL (up2 sA (4 * i + 11) 4 2) i (fO_placeOfBest sL sA i))) i (fO_placeOfBest sL sA i)), sL, (up2 (up2 (up2 (up2 sA (4 * i + 11) 4 2) (4 * i + 11) 5 (fO_buyerAt sL (up2 sA (4 * i + 11) 4 2) i (fO_placeOfBest sL sA i))) (4 * i + 11) 6 (fX_priceFor (sA (4 * i + 11) 3) (fO_amountAt sL sA i (fO_placeOfBest sL sA i)) (fO_highestBeside sL (up2 (up2 sA (4 * i + 11) 4 2) (4 * i + 11) 5 (fO_buyerAt sL (up2 sA (4 * i + 11) 4 2) i (fO_placeOfBest sL sA i))) i (fO_placeOfBest sL sA i)))) (4 * i + 11) 7 (2000 + ((sA 0 4) / 365)))) else (0, (-1), sL, (up2 sA (4 * i + 11) 4 1))) (0, sL, sA)) (0, sL, sA)
theorem hdyX_hammer : yX_hammer.cls ≠ "java/lang/invoke/MethodHandle" ∧ yX_hammer.cls ≠ "java/lang/invoke/VarHandle" ∧ (parseMethodDescriptor yX_hammer.desc).map (fun d => d.parameters.length) = some 1 := by decide +kernel
theorem dX_hammer_0 : decode bX_hammer 0 = .ok (.aload_n 0, 1) := by decide +kernel
theorem dX_hammer_1 : decode bX_hammer 1 = .ok (.iload_n 1, 1) := by decide +kernel
theorem dX_hammer_2 : decode bX_hammer 2 = .ok (.invokevirtual 54, 3) := by decide +kernel
theorem dX_hammer_5 : decode bX_hammer 5 = .ok (.astore_n 2, 1) := by decide +kernel
theorem dX_hammer_6 : decode bX_hammer 6 = .ok (.aload_n 2, 1) := by decide +kernel
theorem dX_hammer_7 : decode bX_hammer 7 = .ok (.iconst 0, 1) := by decide +kernel
theorem dX_hammer_8 : decode bX_hammer 8 = .ok (.invokestatic 61, 3) := by decide +kernel
theorem dX_hammer_11 : decode bX_hammer 11 = .ok (.aload_n 2, 1) := by decide +kernel
theorem dX_hammer_12 : decode bX_hammer 12 = .ok (.getfield 65, 3) := by decide +kernel
theorem dX_hammer_15 : decode bX_hammer 15 = .ok (.astore_n 3, 1) := by decide +kernel
theorem dX_hammer_16 : decode bX_hammer 16 = .ok (.aload_n 3, 1) := by decide +kernel
theorem dX_hammer_17 : decode bX_hammer 17 = .ok (.invokevirtual 75, 3) := by decide +kernel
theorem dX_hammer_20 : decode bX_hammer 20 = .ok (.istore 4, 2) := by decide +kernel
theorem dX_hammer_22 : decode bX_hammer 22 = .ok (.aload_n 3, 1) := by decide +kernel
theorem dX_hammer_23 : decode bX_hammer 23 = .ok (.iload 4, 2) := by decide +kernel
theorem dX_hammer_25 : decode bX_hammer 25 = .ok (.invokevirtual 79, 3) := by decide +kernel
theorem dX_hammer_28 : decode bX_hammer 28 = .ok (.istore 5, 2) := by decide +kernel
theorem dX_hammer_30 : decode bX_hammer 30 = .ok (.iload 5, 2) := by decide +kernel
theorem dX_hammer_32 : decode bX_hammer 32 = .ok (.aload_n 2, 1) := by decide +kernel
theorem dX_hammer_33 : decode bX_hammer 33 = .ok (.getfield 82, 3) := by decide +kernel
theorem dX_hammer_36 : decode bX_hammer 36 = .ok (.if_icmp .ge 10, 3) := by decide +kernel
theorem dX_hammer_39 : decode bX_hammer 39 = .ok (.aload_n 2, 1) := by decide +kernel
theorem dX_hammer_40 : decode bX_hammer 40 = .ok (.iconst 1, 1) := by decide +kernel
theorem dX_hammer_41 : decode bX_hammer 41 = .ok (.putfield 85, 3) := by decide +kernel
theorem dX_hammer_44 : decode bX_hammer 44 = .ok (.iconst (-1), 1) := by decide +kernel
theorem dX_hammer_45 : decode bX_hammer 45 = .ok (.ireturn, 1) := by decide +kernel
theorem dX_hammer_46 : decode bX_hammer 46 = .ok (.aload_n 2, 1) := by decide +kernel
theorem dX_hammer_47 : decode bX_hammer 47 = .ok (.iconst 2, 1) := by decide +kernel
theorem dX_hammer_48 : decode bX_hammer 48 = .ok (.putfield 85, 3) := by decide +kernel
theorem dX_hammer_51 : decode bX_hammer 51 = .ok (.aload_n 2, 1) := by decide +kernel
theorem dX_hammer_52 : decode bX_hammer 52 = .ok (.aload_n 3, 1) := by decide +kernel
theorem dX_hammer_53 : decode bX_hammer 53 = .ok (.iload 4, 2) := by decide +kernel
theorem dX_hammer_55 : decode bX_hammer 55 = .ok (.invokevirtual 88, 3) := by decide +kernel
theorem dX_hammer_58 : decode bX_hammer 58 = .ok (.putfield 91, 3) := by decide +kernel
theorem dX_hammer_61 : decode bX_hammer 61 = .ok (.aload_n 2, 1) := by decide +kernel
theorem dX_hammer_62 : decode bX_hammer 62 = .ok (.aload_n 2, 1) := by decide +kernel
theorem dX_hammer_63 : decode bX_hammer 63 = .ok (.getfield 82, 3) := by decide +kernel
theorem dX_hammer_66 : decode bX_hammer 66 = .ok (.iload 5, 2) := by decide +kernel
theorem dX_hammer_68 : decode bX_hammer 68 = .ok (.aload_n 3, 1) := by decide +kernel
theorem dX_hammer_69 : decode bX_hammer 69 = .ok (.iload 4, 2) := by decide +kernel
theorem dX_hammer_71 : decode bX_hammer 71 = .ok (.invokevirtual 94, 3) := by decide +kernel
theorem dX_hammer_74 : decode bX_hammer 74 = .ok (.invokestatic 97, 3) := by decide +kernel
theorem dX_hammer_77 : decode bX_hammer 77 = .ok (.putfield 101, 3) := by decide +kernel
theorem dX_hammer_80 : decode bX_hammer 80 = .ok (.aload_n 2, 1) := by decide +kernel
theorem dX_hammer_81 : decode bX_hammer 81 = .ok (.sipush 2000, 3) := by decide +kernel
theorem dX_hammer_84 : decode bX_hammer 84 = .ok (.aload_n 0, 1) := by decide +kernel
theorem dX_hammer_85 : decode bX_hammer 85 = .ok (.getfield 104, 3) := by decide +kernel
theorem dX_hammer_88 : decode bX_hammer 88 = .ok (.sipush 365, 3) := by decide +kernel
theorem dX_hammer_91 : decode bX_hammer 91 = .ok (.idiv, 1) := by decide +kernel
theorem dX_hammer_92 : decode bX_hammer 92 = .ok (.iadd, 1) := by decide +kernel
theorem dX_hammer_93 : decode bX_hammer 93 = .ok (.putfield 107, 3) := by decide +kernel
theorem dX_hammer_96 : decode bX_hammer 96 = .ok (.aload_n 2, 1) := by decide +kernel
theorem dX_hammer_97 : decode bX_hammer 97 = .ok (.getfield 101, 3) := by decide +kernel
theorem dX_hammer_100 : decode bX_hammer 100 = .ok (.ireturn, 1) := by decide +kernel
set_option maxHeartbeats 4000000 in
set_option maxRecDepth 100000 in
theorem cX_hammer (l : Launch) (hl9 : l.stackTraces = false) (D : va_G) (tI tJ tL : ClassId) (A : Nat → Prop) (sg ad : Nat → Nat) (n : Nat) (sL : NL) (sA : NA) (p0 : Int32) (hcnt : ∀ i, i < n → ∃ cn : Nat, cn ≤ 10 ∧ sA (4 * i + 12) 2 = nI cn) : vx_Met l yX_hammer (Cond.code yX_hammer bX_hammer 6 (some FieldType.int) :: wNeed) { frames := 7, cells := 2, slots := 12, locals := 112 } (va_Pc [.ref (ad 0), .int p0] (GP D tI tJ tL A sg ad n sL sA)) (va_Qi (fun r (u : NL × NA) => fX_hammer n sL sA p0 = (0, r, u.1, u.2)) (fun u t => GW D tI tJ tL A ad n u.1 u.2 t.heap) A) (XQ D tI tJ tL A ad n sL sA (fX_hammer n sL sA p0).1) 2 12 A := by
  refine en_XG (av := [.ref (ad 0), .int p0]) (by decide) (Nat.le_of_ble_eq_true rfl) ?_
  intro p e s m below meth c hx hb hml hown hts hr hlocks hT hC H locs hG hS ls hl
  replace hl : lv_has ls 6 [(0, .ref (ad 0)), (1, .int p0)] := hl
  refine lv_aload_n hx hb dX_hammer_0 rfl (lv_at hl 0 rfl) ?_
  refine lv_iload_n hx hb dX_hammer_1 rfl (lv_at hl 1 rfl) ?_
  refine rcV5q (rest := []) (As := [.int p0]) (p0 := p0) (Mc := 2) (Ms := 12) hx hb hml hown hts hC hG hS hlocks hT (cX_findLot l hl9 D tI tJ tL A sg ad n sL sA p0) (recX hC hG) (gV q_288 q_290 q_p1 q_1 q_291) rfl rfl ⟨rfl, hdyX_findLot⟩ ⟨Nat.le_of_ble_eq_true rfl, Nat.le_of_ble_eq_true rfl⟩ hl.1 rfl (Nat.le_of_ble_eq_true rfl) dX_hammer_2 ⟨Nat.le_of_ble_eq_true rfl, Nat.le_of_ble_eq_true rfl⟩ ⟨Nat.le_of_ble_eq_true rfl, Nat.le_of_ble_eq_true rfl⟩ (fun h => by rw [fX_hammer, bndq_n h] <;> rfl) (fun i h_1 hi hp H locs hG hS => ?_)
  subst hp
  refine lv_astore_n (lv' := [(2, .ref (ad (4 * i + 11))), (0, .ref (ad 0)), (1, .int (nI i))]) hx hb dX_hammer_5 rfl hl (by decide) rfl (fun ls hl => ?_)
  refine lv_aload_n hx hb dX_hammer_6 rfl (lv_at hl 0 rfl) ?_
  refine lv_iconst (v := 0) hx hb dX_hammer_7 (by decide) ?_
  refine rcS4 (rest := []) (As := [.ref (ad (4 * i + 11)), .int 0]) (Mc := 2) (Ms := 12) hx hb hml hown hts hC hG hS hlocks hT (cX_checkState l hl9 D tI tJ tL A sg ad n sL sA i hi 0) (gS q_297 q_298 q_1 q_299) rfl rfl ⟨rfl, hdyX_checkState⟩ ⟨Nat.le_of_ble_eq_true rfl, Nat.le_of_ble_eq_true rfl⟩ hl.1 rfl (Nat.le_of_ble_eq_true rfl) dX_hammer_8 ⟨Nat.le_of_ble_eq_true rfl, Nat.le_of_ble_eq_true rfl⟩ ⟨Nat.le_of_ble_eq_true rfl, Nat.le_of_ble_eq_true rfl⟩ (fun h => by rw [fX_hammer, bndq_s h_1, bnd_n h] <;> rfl) (fun h_2 H locs hG hS => ?_)
  refine lv_aload_n hx hb dX_hammer_11 rfl (lv_at hl 0 rfl) ?_
  refine rl_getN (v := .ref (ad (4 * i + 12))) hx hb hts hown hC hG 2 hi (by decide) z_240 (rfl) dX_hammer_12 ?_
  refine lv_astore_n (lv' := [(3, .ref (ad (4 * i + 12))), (2, .ref (ad (4 * i + 11))), (0, .ref (ad 0)), (1, .int (nI i))]) hx hb dX_hammer_15 rfl hl (by decide) rfl (fun ls hl => ?_)
  refine lv_aload_n hx hb dX_hammer_16 rfl (lv_at hl 0 rfl) ?_
  obtain ⟨cn, hc, hcn⟩ := hcnt i hi
  refine rcV2 (rest := []) (As := []) hx hb hml hown hts hC hG hS (cO_placeOfBest l D tI tJ tL A sg ad n sL sA i hi cn hc hcn) (recO hi hC hG) (gV q_316 q_317 q_318 q_10 q_319) rfl rfl ⟨rfl, hdyO_placeOfBest⟩ ⟨Nat.le_of_ble_eq_true rfl, Nat.le_of_ble_eq_true rfl⟩ hl.1 rfl (Nat.le_of_ble_eq_true rfl) dX_hammer_17 ⟨Nat.le_of_ble_eq_true rfl, Nat.le_of_ble_eq_true rfl⟩ ?_
  refine lv_istore (lv' := [(4, .int (fO_placeOfBest sL sA i)), (3, .ref (ad (4 * i + 12))), (2, .ref (ad (4 * i + 11))), (0, .ref (ad 0)), (1, .int (nI i))]) hx hb dX_hammer_20 hl (by decide) rfl (fun ls hl => ?_)
  refine lv_aload_n hx hb dX_hammer_22 rfl (lv_at hl 1 rfl) ?_
  refine lv_iload hx hb dX_hammer_23 (lv_at hl 0 rfl) ?_
  refine rcV2 (rest := []) (As := [.int (fO_placeOfBest sL sA i)]) hx hb hml hown hts hC hG hS (cO_amountAt l D tI tJ tL A sg ad n sL sA i hi (fO_placeOfBest sL sA i)) (recO hi hC hG) (gV q_324 q_321 q_322 q_10 q_323) rfl rfl ⟨rfl, hdyO_amountAt⟩ ⟨Nat.le_of_ble_eq_true rfl, Nat.le_of_ble_eq_true rfl⟩ hl.1 rfl (Nat.le_of_ble_eq_true rfl) dX_hammer_25 ⟨Nat.le_of_ble_eq_true rfl, Nat.le_of_ble_eq_true rfl⟩ ?_
  refine lv_istore (lv' := [(5, .int (fO_amountAt sL sA i (fO_placeOfBest sL sA i))), (4, .int (fO_placeOfBest sL sA i)), (3, .ref (ad (4 * i + 12))), (2, .ref (ad (4 * i + 11))), (0, .ref (ad 0)), (1, .int (nI i))]) hx hb dX_hammer_28 hl (by decide) rfl (fun ls hl => ?_)
  refine lv_iload hx hb dX_hammer_30 (lv_at hl 0 rfl) ?_
  refine lv_aload_n hx hb dX_hammer_32 rfl (lv_at hl 3 rfl) ?_
  refine rl_getN (v := .int (sA (4 * i + 11) 3)) hx hb hts hown hC hG 3 hi (by decide) z_242 (rfl) dX_hammer_33 ?_
  refine lv_icmp_ge (tgt := 46) hx hb dX_hammer_36 (by decide) (fun c_3 => ?_) (fun c_3 => ?_)
  · refine lv_aload_n hx hb dX_hammer_46 rfl (lv_at hl 3 rfl) ?_
    refine lv_iconst (v := 2) hx hb dX_hammer_47 (by decide) ?_
    refine rl_putN hx hb hts hown hC hG hS 4 hi (by decide) (by decide) z_244 dX_hammer_48 (fun H locs hG hS => ?_)
    refine lv_aload_n hx hb dX_hammer_51 rfl (lv_at hl 3 rfl) ?_
    refine lv_aload_n hx hb dX_hammer_52 rfl (lv_at hl 2 rfl) ?_
    refine lv_iload hx hb dX_hammer_53 (lv_at hl 1 rfl) ?_
    refine rcV2 (rest := [.ref (ad (4 * i + 11))]) (As := [.int (fO_placeOfBest sL sA i)]) hx hb hml hown hts hC hG hS (cO_buyerAt l D tI tJ tL A sg ad n sL (up2 sA (4 * i + 11) 4 2) i hi (fO_placeOfBest sL sA i)) (recO hi hC hG) (gV q_325 q_306 q_307 q_10 q_308) rfl rfl ⟨rfl, hdyO_buyerAt⟩ ⟨Nat.le_of_ble_eq_true rfl, Nat.le_of_ble_eq_true rfl⟩ hl.1 rfl (Nat.le_of_ble_eq_true rfl) dX_hammer_55 ⟨Nat.le_of_ble_eq_true rfl, Nat.le_of_ble_eq_true rfl⟩ ?_
    refine rl_putN hx hb hts hown hC hG hS 5 hi (by decide) (by decide) z_246 dX_hammer_58 (fun H locs hG hS => ?_)
    refine lv_aload_n hx hb dX_hammer_61 rfl (lv_at hl 3 rfl) ?_
    refine lv_aload_n hx hb dX_hammer_62 rfl (lv_at hl 3 rfl) ?_
    refine rl_getN (v := .int (sA (4 * i + 11) 3)) hx hb hts hown hC hG 3 hi (by decide) z_242 (by simp [lfs, up2, upd]) dX_hammer_63 ?_
    refine lv_iload hx hb dX_hammer_66 (lv_at hl 0 rfl) ?_
    refine lv_aload_n hx hb dX_hammer_68 rfl (lv_at hl 2 rfl) ?_
    refine lv_iload hx hb dX_hammer_69 (lv_at hl 1 rfl) ?_
    refine rcV2 (rest := [.int (fO_amountAt sL sA i (fO_placeOfBest sL sA i)), .int (sA (4 * i + 11) 3), .ref (ad (4 * i + 11))]) (As := [.int (fO_placeOfBest sL sA i)]) hx hb hml hown hts hC hG hS (cO_highestBeside l D tI tJ tL A sg ad n sL (up2 (up2 sA (4 * i + 11) 4 2) (4 * i + 11) 5 (fO_buyerAt sL (up2 sA (4 * i + 11) 4 2) i (fO_placeOfBest sL sA i))) i hi (fO_placeOfBest sL sA i) cn hc (by rw [up2_ne (by omega), up2_ne (by omega)]; exact hcn)) (recO hi hC hG) (gV q_326 q_327 q_328 q_10 q_329) rfl rfl ⟨rfl, hdyO_highestBeside⟩ ⟨Nat.le_of_ble_eq_true rfl, Nat.le_of_ble_eq_true rfl⟩ hl.1 rfl (Nat.le_of_ble_eq_true rfl) dX_hammer_71 ⟨Nat.le_of_ble_eq_true rfl, Nat.le_of_ble_eq_true rfl⟩ ?_
    refine rcS1 (rest := [.ref (ad (4 * i + 11))]) (As := [.int (sA (4 * i + 11) 3), .int (fO_amountAt sL sA i (fO_placeOfBest sL sA i)), .int (fO_highestBeside sL (up2 (up2 sA (4 * i + 11) 4 2) (4 * i + 11) 5 (fO_buyerAt sL (up2 sA (4 * i + 11) 4 2) i (fO_placeOfBest sL sA i))) i (fO_placeOfBest sL sA i))]) hx hb hml hown hts (cX_priceFor l (sA (4 * i + 11) 3) (fO_amountAt sL sA i (fO_placeOfBest sL sA i)) (fO_highestBeside sL (up2 (up2 sA (4 * i + 11) 4 2) (4 * i + 11) 5 (fO_buyerAt sL (up2 sA (4 * i + 11) 4 2) i (fO_placeOfBest sL sA i))) i (fO_placeOfBest sL sA i))) (gS q_330 q_331 q_1 q_332) rfl rfl ⟨rfl, hdyX_priceFor⟩ ⟨Nat.le_of_ble_eq_true rfl, Nat.le_of_ble_eq_true rfl⟩ hl.1 rfl (Nat.le_of_ble_eq_true rfl) dX_hammer_74 ⟨Nat.le_of_ble_eq_true rfl, Nat.le_of_ble_eq_true rfl⟩ ?_
    refine rl_putN hx hb hts hown hC hG hS 6 hi (by decide) (by decide) z_248 dX_hammer_77 (fun H locs hG hS => ?_)
    refine lv_aload_n hx hb dX_hammer_80 rfl (lv_at hl 3 rfl) ?_
    refine lv_sipush (v := 2000) hx hb dX_hammer_81 (by decide) ?_
    refine lv_aload_n hx hb dX_hammer_84 rfl (lv_at hl 4 rfl) ?_
    refine rx_get (v := .int (sA 0 4)) hx hb hts hown hC hG 4 (by decide) q_25 (by simp [xfs, up2, upd, up2L, vp_updL]) dX_hammer_85 ?_
    refine lv_sipush (v := 365) hx hb dX_hammer_88 (by decide) ?_
    refine lv_idiv hx hb dX_hammer_91 (by decide) ?_
    refine lv_iadd hx hb dX_hammer_92 ?_
    refine rl_putN hx hb hts hown hC hG hS 7 hi (by decide) (by decide) z_249 dX_hammer_93 (fun H locs hG hS => ?_)
    refine lv_aload_n hx hb dX_hammer_96 rfl (lv_at hl 3 rfl) ?_
    refine rl_getN (v := .int (fX_priceFor (sA (4 * i + 11) 3) (fO_amountAt sL sA i (fO_placeOfBest sL sA i)) (fO_highestBeside sL (up2 (up2 sA (4 * i + 11) 4 2) (4 * i + 11) 5 (fO_buyerAt sL (up2 sA (4 * i + 11) 4 2) i (fO_placeOfBest sL sA i))) i (fO_placeOfBest sL sA i)))) hx hb hts hown hC hG 6 hi (by decide) z_248 (by simp [lfs, up2, upd]) dX_hammer_97 ?_
    refine vx_ret ?_
    refine W.widen (k := 2) (n := 12) (Nat.le_of_ble_eq_true rfl) (Nat.le_of_ble_eq_true rfl) ?_
    exact W.iret (v := fX_priceFor (sA (4 * i + 11) 3) (fO_amountAt sL sA i (fO_placeOfBest sL sA i)) (fO_highestBeside sL (up2 (up2 sA (4 * i + 11) 4 2) (4 * i + 11) 5 (fO_buyerAt sL (up2 sA (4 * i + 11) 4 2) i (fO_placeOfBest sL sA i))) i (fO_placeOfBest sL sA i))) hx hb hr (fun t ht hW => ⟨⟨(fX_priceFor (sA (4 * i + 11) 3) (fO_amountAt sL sA i (fO_placeOfBest sL sA i)) (fO_highestBeside sL (up2 (up2 sA (4 * i + 11) 4 2) (4 * i + 11) 5 (fO_buyerAt sL (up2 sA (4 * i + 11) 4 2) i (fO_placeOfBest sL sA i))) i (fO_placeOfBest sL sA i))), (sL, (up2 (up2 (up2 (up2 sA (4 * i + 11) 4 2) (4 * i + 11) 5 (fO_buyerAt sL (up2 sA (4 * i + 11) 4 2) i (fO_placeOfBest sL sA i))) (4 * i + 11) 6 (fX_priceFor (sA (4 * i + 11) 3) (fO_amountAt sL sA i (fO_placeOfBest sL sA i)) (fO_highestBeside sL (up2 (up2 sA (4 * i + 11) 4 2) (4 * i + 11) 5 (fO_buyerAt sL (up2 sA (4 * i + 11) 4 2) i (fO_placeOfBest sL sA i))) i (fO_placeOfBest sL sA i)))) (4 * i + 11) 7 (2000 + ((sA 0 4) / 365)))), rfl, (by rw [fX_hammer, bndq_s h_1, bnd_0 h_2, if_pos c_3] <;> rfl), gw_at hG ht⟩, hS.F ht⟩) hS.2.2 dX_hammer_100
  · refine lv_aload_n hx hb dX_hammer_39 rfl (lv_at hl 3 rfl) ?_
    refine lv_iconst (v := 1) hx hb dX_hammer_40 (by decide) ?_
    refine rl_putN hx hb hts hown hC hG hS 4 hi (by decide) (by decide) z_244 dX_hammer_41 (fun H locs hG hS => ?_)
    refine lv_iconst (v := (-1)) hx hb dX_hammer_44 (by decide) ?_
    refine vx_ret ?_
    refine W.widen (k := 2) (n := 12) (Nat.le_of_ble_eq_true rfl) (Nat.le_of_ble_eq_true rfl) ?_
    exact W.iret (v := (-1)) hx hb hr (fun t ht hW => ⟨⟨(-1), (sL, (up2 sA (4 * i + 11) 4 1)), rfl, (by rw [fX_hammer, bndq_s h_1, bnd_0 h_2, if_neg c_3] <;> rfl), gw_at hG ht⟩, hS.F ht⟩) hS.2.2 dX_hammer_45
def fX_again (n : Nat) (sL : NL) (sA : NA) (p0 : Int32) (p1 : Int32) : Nat × Int32 × NL × NA := bndq (fX_findLot n p0) (fun i => bnd (fX_checkRange p1 0 1000000) (bnd (fX_checkState sL sA i 1) ((0, sA (4 * i + 12) 2, (fL_open sL sA i (fX_calledAmount p1)).1, (fL_open sL sA i (fX_calledAmount p1)).2)) (0, sL, sA)) (0, sL, sA)) (0, sL, sA)
theorem hdyX_again : yX_again.cls ≠ "java/lang/invoke/MethodHandle" ∧ yX_again.cls ≠ "java/lang/invoke/VarHandle" ∧ (parseMethodDescriptor yX_again.desc).map (fun d => d.parameters.length) = some 2 := by decide +kernel
theorem dX_again_0 : decode bX_again 0 = .ok (.aload_n 0, 1) := by decide +kernel
theorem dX_again_1 : decode bX_again 1 = .ok (.iload_n 1, 1) := by decide +kernel
theorem dX_again_2 : decode bX_again 2 = .ok (.invokevirtual 54, 3) := by decide +kernel
theorem dX_again_5 : decode bX_again 5 = .ok (.astore_n 3, 1) := by decide +kernel
theorem dX_again_6 : decode bX_again 6 = .ok (.iload_n 2, 1) := by decide +kernel
theorem dX_again_7 : decode bX_again 7 = .ok (.iconst 0, 1) := by decide +kernel
theorem dX_again_8 : decode bX_again 8 = .ok (.ldc 30, 2) := by decide +kernel
theorem dX_again_10 : decode bX_again 10 = .ok (.invokestatic 31, 3) := by decide +kernel
theorem dX_again_13 : decode bX_again 13 = .ok (.aload_n 3, 1) := by decide +kernel
theorem dX_again_14 : decode bX_again 14 = .ok (.iconst 1, 1) := by decide +kernel
theorem dX_again_15 : decode bX_again 15 = .ok (.invokestatic 61, 3) := by decide +kernel
theorem dX_again_18 : decode bX_again 18 = .ok (.aload_n 3, 1) := by decide +kernel
theorem dX_again_19 : decode bX_again 19 = .ok (.getfield 65, 3) := by decide +kernel
theorem dX_again_22 : decode bX_again 22 = .ok (.getfield 110, 3) := by decide +kernel
theorem dX_again_25 : decode bX_again 25 = .ok (.istore 4, 2) := by decide +kernel
theorem dX_again_27 : decode bX_again 27 = .ok (.aload_n 3, 1) := by decide +kernel
theorem dX_again_28 : decode bX_again 28 = .ok (.iload_n 2, 1) := by decide +kernel
theorem dX_again_29 : decode bX_again 29 = .ok (.invokestatic 48, 3) := by decide +kernel
theorem dX_again_32 : decode bX_again 32 = .ok (.invokevirtual 113, 3) := by decide +kernel
theorem dX_again_35 : decode bX_again 35 = .ok (.iload 4, 2) := by decide +kernel
theorem dX_again_37 : decode bX_again 37 = .ok (.ireturn, 1) := by decide +kernel
set_option maxHeartbeats 4000000 in
set_option maxRecDepth 100000 in
theorem cX_again (l : Launch) (hl9 : l.stackTraces = false) (D : va_G) (tI tJ tL : ClassId) (A : Nat → Prop) (sg ad : Nat → Nat) (n : Nat) (sL : NL) (sA : NA) (p0 : Int32) (p1 : Int32) : vx_Met l yX_again (Cond.code yX_again bX_again 5 (some FieldType.int) :: wNeed) { frames := 7, cells := 3, slots := 18, locals := 112 } (va_Pc [.ref (ad 0), .int p0, .int p1] (GP D tI tJ tL A sg ad n sL sA)) (va_Qi (fun r (u : NL × NA) => fX_again n sL sA p0 p1 = (0, r, u.1, u.2)) (fun u t => GW D tI tJ tL A ad n u.1 u.2 t.heap) A) (XQ D tI tJ tL A ad n sL sA (fX_again n sL sA p0 p1).1) 3 18 A := by
  refine en_XG (av := [.ref (ad 0), .int p0, .int p1]) (by decide) (Nat.le_of_ble_eq_true rfl) ?_
  intro p e s m below meth c hx hb hml hown hts hr hlocks hT hC H locs hG hS ls hl
  replace hl : lv_has ls 5 [(0, .ref (ad 0)), (1, .int p0), (2, .int p1)] := hl
  refine lv_aload_n hx hb dX_again_0 rfl (lv_at hl 0 rfl) ?_
  refine lv_iload_n hx hb dX_again_1 rfl (lv_at hl 1 rfl) ?_
  refine rcV5q (rest := []) (As := [.int p0]) (p0 := p0) (Mc := 3) (Ms := 18) hx hb hml hown hts hC hG hS hlocks hT (cX_findLot l hl9 D tI tJ tL A sg ad n sL sA p0) (recX hC hG) (gV q_288 q_290 q_p1 q_1 q_291) rfl rfl ⟨rfl, hdyX_findLot⟩ ⟨Nat.le_of_ble_eq_true rfl, Nat.le_of_ble_eq_true rfl⟩ hl.1 rfl (Nat.le_of_ble_eq_true rfl) dX_again_2 ⟨Nat.le_of_ble_eq_true rfl, Nat.le_of_ble_eq_true rfl⟩ ⟨Nat.le_of_ble_eq_true rfl, Nat.le_of_ble_eq_true rfl⟩ (fun h => by rw [fX_again, bndq_n h] <;> rfl) (fun i h_1 hi hp H locs hG hS => ?_)
  subst hp
  refine lv_astore_n (lv' := [(3, .ref (ad (4 * i + 11))), (0, .ref (ad 0)), (1, .int (nI i)), (2, .int p1)]) hx hb dX_again_5 rfl hl (by decide) rfl (fun ls hl => ?_)
  refine lv_iload_n hx hb dX_again_6 rfl (lv_at hl 3 rfl) ?_
  refine lv_iconst (v := 0) hx hb dX_again_7 (by decide) ?_
  refine lv_ldc (v := 1000000) hx hb hown (hts _ q_186) dX_again_8 ?_
  refine rcS4 (rest := []) (As := [.int p1, .int 0, .int 1000000]) (Mc := 3) (Ms := 18) hx hb hml hown hts hC hG hS hlocks hT (cX_checkRange l hl9 D tI tJ tL A sg ad n sL sA p1 0 1000000) (gS q_125 q_126 q_1 q_127) rfl rfl ⟨rfl, hdyX_checkRange⟩ ⟨Nat.le_of_ble_eq_true rfl, Nat.le_of_ble_eq_true rfl⟩ hl.1 rfl (Nat.le_of_ble_eq_true rfl) dX_again_10 ⟨Nat.le_of_ble_eq_true rfl, Nat.le_of_ble_eq_true rfl⟩ ⟨Nat.le_of_ble_eq_true rfl, Nat.le_of_ble_eq_true rfl⟩ (fun h => by rw [fX_again, bndq_s h_1, bnd_n h] <;> rfl) (fun h_2 H locs hG hS => ?_)
  refine lv_aload_n hx hb dX_again_13 rfl (lv_at hl 0 rfl) ?_
  refine lv_iconst (v := 1) hx hb dX_again_14 (by decide) ?_
  refine rcS4 (rest := []) (As := [.ref (ad (4 * i + 11)), .int 1]) (Mc := 3) (Ms := 18) hx hb hml hown hts hC hG hS hlocks hT (cX_checkState l hl9 D tI tJ tL A sg ad n sL sA i hi 1) (gS q_297 q_298 q_1 q_299) rfl rfl ⟨rfl, hdyX_checkState⟩ ⟨Nat.le_of_ble_eq_true rfl, Nat.le_of_ble_eq_true rfl⟩ hl.1 rfl (Nat.le_of_ble_eq_true rfl) dX_again_15 ⟨Nat.le_of_ble_eq_true rfl, Nat.le_of_ble_eq_true rfl⟩ ⟨Nat.le_of_ble_eq_true rfl, Nat.le_of_ble_eq_true rfl⟩ (fun h => by rw [fX_again, bndq_s h_1, bnd_0 h_2, bnd_n h] <;> rfl) (fun h_3 H locs hG hS => ?_)
  refine lv_aload_n hx hb dX_again_18 rfl (lv_at hl 0 rfl) ?_
  refine rl_getN (v := .ref (ad (4 * i + 12))) hx hb hts hown hC hG 2 hi (by decide) z_240 (rfl) dX_again_19 ?_
  refine ro_getN (v := .int (sA (4 * i + 12) 2)) hx hb hts hown hC hG 2 hi (by decide) z_227 (rfl) dX_again_22 ?_
  refine lv_istore (lv' := [(4, .int (sA (4 * i + 12) 2)), (3, .ref (ad (4 * i + 11))), (0, .ref (ad 0)), (1, .int (nI i)), (2, .int p1)]) hx hb dX_again_25 hl (by decide) rfl (fun ls hl => ?_)
  refine lv_aload_n hx hb dX_again_27 rfl (lv_at hl 1 rfl) ?_
  refine lv_iload_n hx hb dX_again_28 rfl (lv_at hl 4 rfl) ?_
  refine rcS1 (rest := [.ref (ad (4 * i + 11))]) (As := [.int p1]) hx hb hml hown hts (cX_calledAmount l p1) (gS q_207 q_208 q_1 q_209) rfl rfl ⟨rfl, hdyX_calledAmount⟩ ⟨Nat.le_of_ble_eq_true rfl, Nat.le_of_ble_eq_true rfl⟩ hl.1 rfl (Nat.le_of_ble_eq_true rfl) dX_again_29 ⟨Nat.le_of_ble_eq_true rfl, Nat.le_of_ble_eq_true rfl⟩ ?_
  refine rcV3v (rest := []) (As := [.int (fX_calledAmount p1)]) hx hb hml hown hts hC hG hS (cL_open l D tI tJ tL A sg ad n sL sA i hi (fX_calledAmount p1)) (recL hi hC hG) (gV q_341 q_342 q_343 q_9 q_344) rfl rfl ⟨rfl, hdyL_open⟩ ⟨Nat.le_of_ble_eq_true rfl, Nat.le_of_ble_eq_true rfl⟩ hl.1 rfl (Nat.le_of_ble_eq_true rfl) dX_again_32 ⟨Nat.le_of_ble_eq_true rfl, Nat.le_of_ble_eq_true rfl⟩ (fun H locs hG hS => ?_)
  refine lv_iload hx hb dX_again_35 (lv_at hl 0 rfl) ?_
  refine vx_ret ?_
  refine W.widen (k := 3) (n := 18) (Nat.le_of_ble_eq_true rfl) (Nat.le_of_ble_eq_true rfl) ?_
  exact W.iret (v := sA (4 * i + 12) 2) hx hb hr (fun t ht hW => ⟨⟨(sA (4 * i + 12) 2), ((fL_open sL sA i (fX_calledAmount p1)).1, (fL_open sL sA i (fX_calledAmount p1)).2), rfl, (by rw [fX_again, bndq_s h_1, bnd_0 h_2, bnd_0 h_3] <;> rfl), gw_at hG ht⟩, hS.F ht⟩) hS.2.2 dX_again_37
def fX_callOf (sL : NL) (sA : NA) (p0 : Int32) : Nat × Int32 × NL × NA := bnd (fX_checkRange p0 0 1000000) ((0, fX_calledAmount p0, sL, sA)) (0, sL, sA)
theorem hdyX_callOf : yX_callOf.cls ≠ "java/lang/invoke/MethodHandle" ∧ yX_callOf.cls ≠ "java/lang/invoke/VarHandle" ∧ (parseMethodDescriptor yX_callOf.desc).map (fun d => d.parameters.length) = some 1 := by decide +kernel
theorem dX_callOf_0 : decode bX_callOf 0 = .ok (.iload_n 1, 1) := by decide +kernel
theorem dX_callOf_1 : decode bX_callOf 1 = .ok (.iconst 0, 1) := by decide +kernel
theorem dX_callOf_2 : decode bX_callOf 2 = .ok (.ldc 30, 2) := by decide +kernel
theorem dX_callOf_4 : decode bX_callOf 4 = .ok (.invokestatic 31, 3) := by decide +kernel
theorem dX_callOf_7 : decode bX_callOf 7 = .ok (.iload_n 1, 1) := by decide +kernel
theorem dX_callOf_8 : decode bX_callOf 8 = .ok (.invokestatic 48, 3) := by decide +kernel
theorem dX_callOf_11 : decode bX_callOf 11 = .ok (.ireturn, 1) := by decide +kernel
set_option maxHeartbeats 4000000 in
set_option maxRecDepth 100000 in
theorem cX_callOf (l : Launch) (hl9 : l.stackTraces = false) (D : va_G) (tI tJ tL : ClassId) (A : Nat → Prop) (sg ad : Nat → Nat) (n : Nat) (sL : NL) (sA : NA) (p0 : Int32) : vx_Met l yX_callOf (Cond.code yX_callOf bX_callOf 2 (some FieldType.int) :: wNeed) { frames := 7, cells := 1, slots := 6, locals := 112 } (va_Pc [.ref (ad 0), .int p0] (GP D tI tJ tL A sg ad n sL sA)) (va_Qi (fun r (u : NL × NA) => fX_callOf sL sA p0 = (0, r, u.1, u.2)) (fun u t => GW D tI tJ tL A ad n u.1 u.2 t.heap) A) (XQ D tI tJ tL A ad n sL sA (fX_callOf sL sA p0).1) 1 6 A := by
  refine en_XG (av := [.ref (ad 0), .int p0]) (by decide) (Nat.le_of_ble_eq_true rfl) ?_
  intro p e s m below meth c hx hb hml hown hts hr hlocks hT hC H locs hG hS ls hl
  replace hl : lv_has ls 2 [(0, .ref (ad 0)), (1, .int p0)] := hl
  refine lv_iload_n hx hb dX_callOf_0 rfl (lv_at hl 1 rfl) ?_
  refine lv_iconst (v := 0) hx hb dX_callOf_1 (by decide) ?_
  refine lv_ldc (v := 1000000) hx hb hown (hts _ q_186) dX_callOf_2 ?_
  refine rcS4 (rest := []) (As := [.int p0, .int 0, .int 1000000]) (Mc := 1) (Ms := 6) hx hb hml hown hts hC hG hS hlocks hT (cX_checkRange l hl9 D tI tJ tL A sg ad n sL sA p0 0 1000000) (gS q_125 q_126 q_1 q_127) rfl rfl ⟨rfl, hdyX_checkRange⟩ ⟨Nat.le_of_ble_eq_true rfl, Nat.le_of_ble_eq_true rfl⟩ hl.1 rfl (Nat.le_of_ble_eq_true rfl) dX_callOf_4 ⟨Nat.le_of_ble_eq_true rfl, Nat.le_of_ble_eq_true rfl⟩ ⟨Nat.le_of_ble_eq_true rfl, Nat.le_of_ble_eq_true rfl⟩ (fun h => by rw [fX_callOf, bnd_n h] <;> rfl) (fun h_1 H locs hG hS => ?_)
  refine lv_iload_n hx hb dX_callOf_7 rfl (lv_at hl 1 rfl) ?_
  refine rcS1 (rest := []) (As := [.int p0]) hx hb hml hown hts (cX_calledAmount l p0) (gS q_207 q_208 q_1 q_209) rfl rfl ⟨rfl, hdyX_calledAmount⟩ ⟨Nat.le_of_ble_eq_true rfl, Nat.le_of_ble_eq_true rfl⟩ hl.1 rfl (Nat.le_of_ble_eq_true rfl) dX_callOf_8 ⟨Nat.le_of_ble_eq_true rfl, Nat.le_of_ble_eq_true rfl⟩ ?_
  refine vx_ret ?_
  refine W.widen (k := 1) (n := 6) (Nat.le_of_ble_eq_true rfl) (Nat.le_of_ble_eq_true rfl) ?_
  exact W.iret (v := fX_calledAmount p0) hx hb hr (fun t ht hW => ⟨⟨(fX_calledAmount p0), (sL, sA), rfl, (by rw [fX_callOf, bnd_0 h_1] <;> rfl), gw_at hG ht⟩, hS.F ht⟩) hS.2.2 dX_callOf_11
def fX_pay (n : Nat) (sL : NL) (sA : NA) (p0 : Int32) : Nat × Int32 × NL × NA := bndq (fX_findLot n p0) (fun i => bnd (fX_checkState sL sA i 2) ((0, ((fX_closeGap (up2L (up2L sL 0 6 ((sL 0 6) + (((sA (4 * i + 11) 6) + (fX_feeFor (sA (4 * i + 11) 6)) : Int32).toInt64))) 0 8 ((sL 0 8) + ((fX_feeFor (sA (4 * i + 11) 6) : Int32).toInt64))) (up2 sA (4 * i + 11) 4 3) i).2 (4 * i + 11) 6) + (fX_feeFor (sA (4 * i + 11) 6)), (fX_closeGap (up2L (up2L sL 0 6 ((sL 0 6) + (((sA (4 * i + 11) 6) + (fX_feeFor (sA (4 * i + 11) 6)) : Int32).toInt64))) 0 8 ((sL 0 8) + ((fX_feeFor (sA (4 * i + 11) 6) : Int32).toInt64))) (up2 sA (4 * i + 11) 4 3) i).1, (fX_closeGap (up2L (up2L sL 0 6 ((sL 0 6) + (((sA (4 * i + 11) 6) + (fX_feeFor (sA (4 * i + 11) 6)) : Int32).toInt64))) 0 8 ((sL 0 8) + ((fX_feeFor (sA (4 * i + 11) 6) : Int32).toInt64))) (up2 sA (4 * i + 11) 4 3) i).2)) (0, sL, sA)) (0, sL, sA)
theorem hdyX_pay : yX_pay.cls ≠ "java/lang/invoke/MethodHandle" ∧ yX_pay.cls ≠ "java/lang/invoke/VarHandle" ∧ (parseMethodDescriptor yX_pay.desc).map (fun d => d.parameters.length) = some 1 := by decide +kernel
theorem dX_pay_0 : decode bX_pay 0 = .ok (.aload_n 0, 1) := by decide +kernel
theorem dX_pay_1 : decode bX_pay 1 = .ok (.iload_n 1, 1) := by decide +kernel
theorem dX_pay_2 : decode bX_pay 2 = .ok (.invokevirtual 54, 3) := by decide +kernel
theorem dX_pay_5 : decode bX_pay 5 = .ok (.astore_n 2, 1) := by decide +kernel
theorem dX_pay_6 : decode bX_pay 6 = .ok (.aload_n 2, 1) := by decide +kernel
theorem dX_pay_7 : decode bX_pay 7 = .ok (.iconst 2, 1) := by decide +kernel
theorem dX_pay_8 : decode bX_pay 8 = .ok (.invokestatic 61, 3) := by decide +kernel
theorem dX_pay_11 : decode bX_pay 11 = .ok (.aload_n 2, 1) := by decide +kernel
theorem dX_pay_12 : decode bX_pay 12 = .ok (.getfield 101, 3) := by decide +kernel
theorem dX_pay_15 : decode bX_pay 15 = .ok (.invokestatic 116, 3) := by decide +kernel
theorem dX_pay_18 : decode bX_pay 18 = .ok (.istore_n 3, 1) := by decide +kernel
theorem dX_pay_19 : decode bX_pay 19 = .ok (.aload_n 0, 1) := by decide +kernel
theorem dX_pay_20 : decode bX_pay 20 = .ok (.dup, 1) := by decide +kernel
theorem dX_pay_21 : decode bX_pay 21 = .ok (.getfield 119, 3) := by decide +kernel
theorem dX_pay_24 : decode bX_pay 24 = .ok (.aload_n 2, 1) := by decide +kernel
theorem dX_pay_25 : decode bX_pay 25 = .ok (.getfield 101, 3) := by decide +kernel
theorem dX_pay_28 : decode bX_pay 28 = .ok (.iload_n 3, 1) := by decide +kernel
theorem dX_pay_29 : decode bX_pay 29 = .ok (.iadd, 1) := by decide +kernel
theorem dX_pay_30 : decode bX_pay 30 = .ok (.i2l, 1) := by decide +kernel
theorem dX_pay_31 : decode bX_pay 31 = .ok (.ladd, 1) := by decide +kernel
theorem dX_pay_32 : decode bX_pay 32 = .ok (.putfield 119, 3) := by decide +kernel
theorem dX_pay_35 : decode bX_pay 35 = .ok (.aload_n 0, 1) := by decide +kernel
theorem dX_pay_36 : decode bX_pay 36 = .ok (.dup, 1) := by decide +kernel
theorem dX_pay_37 : decode bX_pay 37 = .ok (.getfield 123, 3) := by decide +kernel
theorem dX_pay_40 : decode bX_pay 40 = .ok (.iload_n 3, 1) := by decide +kernel
theorem dX_pay_41 : decode bX_pay 41 = .ok (.i2l, 1) := by decide +kernel
theorem dX_pay_42 : decode bX_pay 42 = .ok (.ladd, 1) := by decide +kernel
theorem dX_pay_43 : decode bX_pay 43 = .ok (.putfield 123, 3) := by decide +kernel
theorem dX_pay_46 : decode bX_pay 46 = .ok (.aload_n 2, 1) := by decide +kernel
theorem dX_pay_47 : decode bX_pay 47 = .ok (.iconst 3, 1) := by decide +kernel
theorem dX_pay_48 : decode bX_pay 48 = .ok (.putfield 85, 3) := by decide +kernel
theorem dX_pay_51 : decode bX_pay 51 = .ok (.aload_n 0, 1) := by decide +kernel
theorem dX_pay_52 : decode bX_pay 52 = .ok (.aload_n 2, 1) := by decide +kernel
theorem dX_pay_53 : decode bX_pay 53 = .ok (.invokevirtual 126, 3) := by decide +kernel
theorem dX_pay_56 : decode bX_pay 56 = .ok (.aload_n 2, 1) := by decide +kernel
theorem dX_pay_57 : decode bX_pay 57 = .ok (.getfield 101, 3) := by decide +kernel
theorem dX_pay_60 : decode bX_pay 60 = .ok (.iload_n 3, 1) := by decide +kernel
theorem dX_pay_61 : decode bX_pay 61 = .ok (.iadd, 1) := by decide +kernel
theorem dX_pay_62 : decode bX_pay 62 = .ok (.ireturn, 1) := by decide +kernel
set_option maxHeartbeats 4000000 in
set_option maxRecDepth 100000 in
theorem cX_pay (l : Launch) (hl9 : l.stackTraces = false) (D : va_G) (tI tJ tL : ClassId) (A : Nat → Prop) (sg ad : Nat → Nat) (n : Nat) (sL : NL) (sA : NA) (p0 : Int32) (hgap : ∀ i, i < n → sA (4 * i + 11) 8 = (-1) ∨ fX_checkBuyer (sA (4 * i + 11) 8) = 0) : vx_Met l yX_pay (Cond.code yX_pay bX_pay 4 (some FieldType.int) :: wNeed) { frames := 9, cells := 3, slots := 18, locals := 153 } (va_Pc [.ref (ad 0), .int p0] (GP D tI tJ tL A sg ad n sL sA)) (va_Qi (fun r (u : NL × NA) => fX_pay n sL sA p0 = (0, r, u.1, u.2)) (fun u t => GW D tI tJ tL A ad n u.1 u.2 t.heap) A) (XQ D tI tJ tL A ad n sL sA (fX_pay n sL sA p0).1) 3 18 A := by
  refine en_XG (av := [.ref (ad 0), .int p0]) (by decide) (Nat.le_of_ble_eq_true rfl) ?_
  intro p e s m below meth c hx hb hml hown hts hr hlocks hT hC H locs hG hS ls hl
  replace hl : lv_has ls 4 [(0, .ref (ad 0)), (1, .int p0)] := hl
  refine lv_aload_n hx hb dX_pay_0 rfl (lv_at hl 0 rfl) ?_
  refine lv_iload_n hx hb dX_pay_1 rfl (lv_at hl 1 rfl) ?_
  refine rcV5q (rest := []) (As := [.int p0]) (p0 := p0) (Mc := 3) (Ms := 18) hx hb hml hown hts hC hG hS hlocks hT (cX_findLot l hl9 D tI tJ tL A sg ad n sL sA p0) (recX hC hG) (gV q_288 q_290 q_p1 q_1 q_291) rfl rfl ⟨rfl, hdyX_findLot⟩ ⟨Nat.le_of_ble_eq_true rfl, Nat.le_of_ble_eq_true rfl⟩ hl.1 rfl (Nat.le_of_ble_eq_true rfl) dX_pay_2 ⟨Nat.le_of_ble_eq_true rfl, Nat.le_of_ble_eq_true rfl⟩ ⟨Nat.le_of_ble_eq_true rfl, Nat.le_of_ble_eq_true rfl⟩ (fun h => by rw [fX_pay, bndq_n h] <;> rfl) (fun i h_1 hi hp H locs hG hS => ?_)
  subst hp
  refine lv_astore_n (lv' := [(2, .ref (ad (4 * i + 11))), (0, .ref (ad 0)), (1, .int (nI i))]) hx hb dX_pay_5 rfl hl (by decide) rfl (fun ls hl => ?_)
  refine lv_aload_n hx hb dX_pay_6 rfl (lv_at hl 0 rfl) ?_
  refine lv_iconst (v := 2) hx hb dX_pay_7 (by decide) ?_
  refine rcS4 (rest := []) (As := [.ref (ad (4 * i + 11)), .int 2]) (Mc := 3) (Ms := 18) hx hb hml hown hts hC hG hS hlocks hT (cX_checkState l hl9 D tI tJ tL A sg ad n sL sA i hi 2) (gS q_297 q_298 q_1 q_299) rfl rfl ⟨rfl, hdyX_checkState⟩ ⟨Nat.le_of_ble_eq_true rfl, Nat.le_of_ble_eq_true rfl⟩ hl.1 rfl (Nat.le_of_ble_eq_true rfl) dX_pay_8 ⟨Nat.le_of_ble_eq_true rfl, Nat.le_of_ble_eq_true rfl⟩ ⟨Nat.le_of_ble_eq_true rfl, Nat.le_of_ble_eq_true rfl⟩ (fun h => by rw [fX_pay, bndq_s h_1, bnd_n h] <;> rfl) (fun h_2 H locs hG hS => ?_)
  refine lv_aload_n hx hb dX_pay_11 rfl (lv_at hl 0 rfl) ?_
  refine rl_getN (v := .int (sA (4 * i + 11) 6)) hx hb hts hown hC hG 6 hi (by decide) z_248 (rfl) dX_pay_12 ?_
  refine rcS1 (rest := []) (As := [.int (sA (4 * i + 11) 6)]) hx hb hml hown hts (cX_feeFor l (sA (4 * i + 11) 6)) (gS q_349 q_350 q_1 q_351) rfl rfl ⟨rfl, hdyX_feeFor⟩ ⟨Nat.le_of_ble_eq_true rfl, Nat.le_of_ble_eq_true rfl⟩ hl.1 rfl (Nat.le_of_ble_eq_true rfl) dX_pay_15 ⟨Nat.le_of_ble_eq_true rfl, Nat.le_of_ble_eq_true rfl⟩ ?_
  refine lv_istore_n (lv' := [(3, .int (fX_feeFor (sA (4 * i + 11) 6))), (2, .ref (ad (4 * i + 11))), (0, .ref (ad 0)), (1, .int (nI i))]) hx hb dX_pay_18 rfl hl (by decide) rfl (fun ls hl => ?_)
  refine lv_aload_n hx hb dX_pay_19 rfl (lv_at hl 2 rfl) ?_
  refine lv_dup hx hb dX_pay_20 rfl ?_
  refine rx_get (v := .long (sL 0 6)) hx hb hts hown hC hG 6 (by decide) q_27 (rfl) dX_pay_21 ?_
  refine lv_aload_n hx hb dX_pay_24 rfl (lv_at hl 1 rfl) ?_
  refine rl_getN (v := .int (sA (4 * i + 11) 6)) hx hb hts hown hC hG 6 hi (by decide) z_248 (rfl) dX_pay_25 ?_
  refine lv_iload_n hx hb dX_pay_28 rfl (lv_at hl 0 rfl) ?_
  refine lv_iadd hx hb dX_pay_29 ?_
  refine lv_i2l (v := ((sA (4 * i + 11) 6) + (fX_feeFor (sA (4 * i + 11) 6)) : Int32).toInt64) hx hb dX_pay_30 rfl ?_
  refine lv_ladd hx hb dX_pay_31 ?_
  refine rx_putl hx hb hts hown hC hG hS 6 (by decide) q_27 dX_pay_32 (fun H locs hG hS => ?_)
  refine lv_aload_n hx hb dX_pay_35 rfl (lv_at hl 2 rfl) ?_
  refine lv_dup hx hb dX_pay_36 rfl ?_
  refine rx_get (v := .long (sL 0 8)) hx hb hts hown hC hG 8 (by decide) q_29 (by simp [xfs, up2, upd, up2L, vp_updL]) dX_pay_37 ?_
  refine lv_iload_n hx hb dX_pay_40 rfl (lv_at hl 0 rfl) ?_
  refine lv_i2l (v := (fX_feeFor (sA (4 * i + 11) 6) : Int32).toInt64) hx hb dX_pay_41 rfl ?_
  refine lv_ladd hx hb dX_pay_42 ?_
  refine rx_putl hx hb hts hown hC hG hS 8 (by decide) q_29 dX_pay_43 (fun H locs hG hS => ?_)
  refine lv_aload_n hx hb dX_pay_46 rfl (lv_at hl 1 rfl) ?_
  refine lv_iconst (v := 3) hx hb dX_pay_47 (by decide) ?_
  refine rl_putN hx hb hts hown hC hG hS 4 hi (by decide) (by decide) z_244 dX_pay_48 (fun H locs hG hS => ?_)
  refine lv_aload_n hx hb dX_pay_51 rfl (lv_at hl 2 rfl) ?_
  refine lv_aload_n hx hb dX_pay_52 rfl (lv_at hl 1 rfl) ?_
  refine rcV3v (rest := []) (As := [.ref (ad (4 * i + 11))]) hx hb hml hown hts hC hG hS (cX_closeGap l hl9 D tI tJ tL A sg ad n (up2L (up2L sL 0 6 ((sL 0 6) + (((sA (4 * i + 11) 6) + (fX_feeFor (sA (4 * i + 11) 6)) : Int32).toInt64))) 0 8 ((sL 0 8) + ((fX_feeFor (sA (4 * i + 11) 6) : Int32).toInt64))) (up2 sA (4 * i + 11) 4 3) i hi (by simpa [up2, upd] using hgap i hi)) (recX hC hG) (gV q_356 q_358 q_p2 q_1 q_359) rfl rfl ⟨rfl, hdyX_closeGap⟩ ⟨Nat.le_of_ble_eq_true rfl, Nat.le_of_ble_eq_true rfl⟩ hl.1 rfl (Nat.le_of_ble_eq_true rfl) dX_pay_53 ⟨Nat.le_of_ble_eq_true rfl, Nat.le_of_ble_eq_true rfl⟩ (fun H locs hG hS => ?_)
  refine lv_aload_n hx hb dX_pay_56 rfl (lv_at hl 1 rfl) ?_
  refine rl_getN (v := .int ((fX_closeGap (up2L (up2L sL 0 6 ((sL 0 6) + (((sA (4 * i + 11) 6) + (fX_feeFor (sA (4 * i + 11) 6)) : Int32).toInt64))) 0 8 ((sL 0 8) + ((fX_feeFor (sA (4 * i + 11) 6) : Int32).toInt64))) (up2 sA (4 * i + 11) 4 3) i).2 (4 * i + 11) 6)) hx hb hts hown hC hG 6 hi (by decide) z_248 (rfl) dX_pay_57 ?_
  refine lv_iload_n hx hb dX_pay_60 rfl (lv_at hl 0 rfl) ?_
  refine lv_iadd hx hb dX_pay_61 ?_
  refine vx_ret ?_
  refine W.widen (k := 3) (n := 18) (Nat.le_of_ble_eq_true rfl) (Nat.le_of_ble_eq_true rfl) ?_
  exact W.iret (v := ((fX_closeGap (up2L (up2L sL 0 6 ((sL 0 6) + (((sA (4 * i + 11) 6) + (fX_feeFor (sA (4 * i + 11) 6)) : Int32).toInt64))) 0 8 ((sL 0 8) + ((fX_feeFor (sA (4 * i + 11) 6) : Int32).toInt64))) (up2 sA (4 * i + 11) 4 3) i).2 (4 * i + 11) 6) + (fX_feeFor (sA (4 * i + 11) 6))) hx hb hr (fun t ht hW => ⟨⟨(((fX_closeGap (up2L (up2L sL 0 6 ((sL 0 6) + (((sA (4 * i + 11) 6) + (fX_feeFor (sA (4 * i + 11) 6)) : Int32).toInt64))) 0 8 ((sL 0 8) + ((fX_feeFor (sA (4 * i + 11) 6) : Int32).toInt64))) (up2 sA (4 * i + 11) 4 3) i).2 (4 * i + 11) 6) + (fX_feeFor (sA (4 * i + 11) 6))), ((fX_closeGap (up2L (up2L sL 0 6 ((sL 0 6) + (((sA (4 * i + 11) 6) + (fX_feeFor (sA (4 * i + 11) 6)) : Int32).toInt64))) 0 8 ((sL 0 8) + ((fX_feeFor (sA (4 * i + 11) 6) : Int32).toInt64))) (up2 sA (4 * i + 11) 4 3) i).1, (fX_closeGap (up2L (up2L sL 0 6 ((sL 0 6) + (((sA (4 * i + 11) 6) + (fX_feeFor (sA (4 * i + 11) 6)) : Int32).toInt64))) 0 8 ((sL 0 8) + ((fX_feeFor (sA (4 * i + 11) 6) : Int32).toInt64))) (up2 sA (4 * i + 11) 4 3) i).2), rfl, (by rw [fX_pay, bndq_s h_1, bnd_0 h_2] <;> rfl), gw_at hG ht⟩, hS.F ht⟩) hS.2.2 dX_pay_62
def fX_defaults (n : Nat) (sL : NL) (sA : NA) (p0 : Int32) : Nat × Int32 × NL × NA := bndq (fX_findLot n p0) (fun i => bnd (fX_checkState sL sA i 2) (if (sA (4 * i + 11) 8) = (-1) then (0, sA (4 * i + 11) 5, (fL_open sL (up2 (up2 sA (4 * i + 11) 8 (sA (4 * i + 11) 5)) (4 * i + 11) 9 (sA (4 * i + 11) 6)) i (sA (4 * i + 11) 3)).1, (fL_open sL (up2 (up2 sA (4 * i + 11) 8 (sA (4 * i + 11) 5)) (4 * i + 11) 9 (sA (4 * i + 11) 6)) i (sA (4 * i + 11) 3)).2) else (0, sA (4 * i + 11) 5, (fL_open sL sA i (sA (4 * i + 11) 3)).1, (fL_open sL sA i (sA (4 * i + 11) 3)).2)) (0, sL, sA)) (0, sL, sA)
theorem hdyX_defaults : yX_defaults.cls ≠ "java/lang/invoke/MethodHandle" ∧ yX_defaults.cls ≠ "java/lang/invoke/VarHandle" ∧ (parseMethodDescriptor yX_defaults.desc).map (fun d => d.parameters.length) = some 1 := by decide +kernel
theorem dX_defaults_0 : decode bX_defaults 0 = .ok (.aload_n 0, 1) := by decide +kernel
theorem dX_defaults_1 : decode bX_defaults 1 = .ok (.iload_n 1, 1) := by decide +kernel
theorem dX_defaults_2 : decode bX_defaults 2 = .ok (.invokevirtual 54, 3) := by decide +kernel
theorem dX_defaults_5 : decode bX_defaults 5 = .ok (.astore_n 2, 1) := by decide +kernel
theorem dX_defaults_6 : decode bX_defaults 6 = .ok (.aload_n 2, 1) := by decide +kernel
theorem dX_defaults_7 : decode bX_defaults 7 = .ok (.iconst 2, 1) := by decide +kernel
theorem dX_defaults_8 : decode bX_defaults 8 = .ok (.invokestatic 61, 3) := by decide +kernel
theorem dX_defaults_11 : decode bX_defaults 11 = .ok (.aload_n 2, 1) := by decide +kernel
theorem dX_defaults_12 : decode bX_defaults 12 = .ok (.getfield 91, 3) := by decide +kernel
theorem dX_defaults_15 : decode bX_defaults 15 = .ok (.istore_n 3, 1) := by decide +kernel
theorem dX_defaults_16 : decode bX_defaults 16 = .ok (.aload_n 2, 1) := by decide +kernel
theorem dX_defaults_17 : decode bX_defaults 17 = .ok (.getfield 130, 3) := by decide +kernel
theorem dX_defaults_20 : decode bX_defaults 20 = .ok (.iconst (-1), 1) := by decide +kernel
theorem dX_defaults_21 : decode bX_defaults 21 = .ok (.if_icmp .ne 16, 3) := by decide +kernel
theorem dX_defaults_24 : decode bX_defaults 24 = .ok (.aload_n 2, 1) := by decide +kernel
theorem dX_defaults_25 : decode bX_defaults 25 = .ok (.iload_n 3, 1) := by decide +kernel
theorem dX_defaults_26 : decode bX_defaults 26 = .ok (.putfield 130, 3) := by decide +kernel
theorem dX_defaults_29 : decode bX_defaults 29 = .ok (.aload_n 2, 1) := by decide +kernel
theorem dX_defaults_30 : decode bX_defaults 30 = .ok (.aload_n 2, 1) := by decide +kernel
theorem dX_defaults_31 : decode bX_defaults 31 = .ok (.getfield 101, 3) := by decide +kernel
theorem dX_defaults_34 : decode bX_defaults 34 = .ok (.putfield 133, 3) := by decide +kernel
theorem dX_defaults_37 : decode bX_defaults 37 = .ok (.aload_n 2, 1) := by decide +kernel
theorem dX_defaults_38 : decode bX_defaults 38 = .ok (.aload_n 2, 1) := by decide +kernel
theorem dX_defaults_39 : decode bX_defaults 39 = .ok (.getfield 82, 3) := by decide +kernel
theorem dX_defaults_42 : decode bX_defaults 42 = .ok (.invokevirtual 113, 3) := by decide +kernel
theorem dX_defaults_45 : decode bX_defaults 45 = .ok (.iload_n 3, 1) := by decide +kernel
theorem dX_defaults_46 : decode bX_defaults 46 = .ok (.ireturn, 1) := by decide +kernel
set_option maxHeartbeats 4000000 in
set_option maxRecDepth 100000 in
theorem cX_defaults (l : Launch) (hl9 : l.stackTraces = false) (D : va_G) (tI tJ tL : ClassId) (A : Nat → Prop) (sg ad : Nat → Nat) (n : Nat) (sL : NL) (sA : NA) (p0 : Int32) : vx_Met l yX_defaults (Cond.code yX_defaults bX_defaults 4 (some FieldType.int) :: wNeed) { frames := 7, cells := 2, slots := 12, locals := 112 } (va_Pc [.ref (ad 0), .int p0] (GP D tI tJ tL A sg ad n sL sA)) (va_Qi (fun r (u : NL × NA) => fX_defaults n sL sA p0 = (0, r, u.1, u.2)) (fun u t => GW D tI tJ tL A ad n u.1 u.2 t.heap) A) (XQ D tI tJ tL A ad n sL sA (fX_defaults n sL sA p0).1) 2 12 A := by
  refine en_XG (av := [.ref (ad 0), .int p0]) (by decide) (Nat.le_of_ble_eq_true rfl) ?_
  intro p e s m below meth c hx hb hml hown hts hr hlocks hT hC H locs hG hS ls hl
  replace hl : lv_has ls 4 [(0, .ref (ad 0)), (1, .int p0)] := hl
  refine lv_aload_n hx hb dX_defaults_0 rfl (lv_at hl 0 rfl) ?_
  refine lv_iload_n hx hb dX_defaults_1 rfl (lv_at hl 1 rfl) ?_
  refine rcV5q (rest := []) (As := [.int p0]) (p0 := p0) (Mc := 2) (Ms := 12) hx hb hml hown hts hC hG hS hlocks hT (cX_findLot l hl9 D tI tJ tL A sg ad n sL sA p0) (recX hC hG) (gV q_288 q_290 q_p1 q_1 q_291) rfl rfl ⟨rfl, hdyX_findLot⟩ ⟨Nat.le_of_ble_eq_true rfl, Nat.le_of_ble_eq_true rfl⟩ hl.1 rfl (Nat.le_of_ble_eq_true rfl) dX_defaults_2 ⟨Nat.le_of_ble_eq_true rfl, Nat.le_of_ble_eq_true rfl⟩ ⟨Nat.le_of_ble_eq_true rfl, Nat.le_of_ble_eq_true rfl⟩ (fun h => by rw [fX_defaults, bndq_n h] <;> rfl) (fun i h_1 hi hp H locs hG hS => ?_)
  subst hp
  refine lv_astore_n (lv' := [(2, .ref (ad (4 * i + 11))), (0, .ref (ad 0)), (1, .int (nI i))]) hx hb dX_defaults_5 rfl hl (by decide) rfl (fun ls hl => ?_)
  refine lv_aload_n hx hb dX_defaults_6 rfl (lv_at hl 0 rfl) ?_
  refine lv_iconst (v := 2) hx hb dX_defaults_7 (by decide) ?_
  refine rcS4 (rest := []) (As := [.ref (ad (4 * i + 11)), .int 2]) (Mc := 2) (Ms := 12) hx hb hml hown hts hC hG hS hlocks hT (cX_checkState l hl9 D tI tJ tL A sg ad n sL sA i hi 2) (gS q_297 q_298 q_1 q_299) rfl rfl ⟨rfl, hdyX_checkState⟩ ⟨Nat.le_of_ble_eq_true rfl, Nat.le_of_ble_eq_true rfl⟩ hl.1 rfl (Nat.le_of_ble_eq_true rfl) dX_defaults_8 ⟨Nat.le_of_ble_eq_true rfl, Nat.le_of_ble_eq_true rfl⟩ ⟨Nat.le_of_ble_eq_true rfl, Nat.le_of_ble_eq_true rfl⟩ (fun h => by rw [fX_defaults, bndq_s h_1, bnd_n h] <;> rfl) (fun h_2 H locs hG hS => ?_)
  refine lv_aload_n hx hb dX_defaults_11 rfl (lv_at hl 0 rfl) ?_
  refine rl_getN (v := .int (sA (4 * i + 11) 5)) hx hb hts hown hC hG 5 hi (by decide) z_246 (rfl) dX_defaults_12 ?_
  refine lv_istore_n (lv' := [(3, .int (sA (4 * i + 11) 5)), (2, .ref (ad (4 * i + 11))), (0, .ref (ad 0)), (1, .int (nI i))]) hx hb dX_defaults_15 rfl hl (by decide) rfl (fun ls hl => ?_)
  refine lv_aload_n hx hb dX_defaults_16 rfl (lv_at hl 1 rfl) ?_
  refine rl_getN (v := .int (sA (4 * i + 11) 8)) hx hb hts hown hC hG 8 hi (by decide) z_251 (rfl) dX_defaults_17 ?_
  refine lv_iconst (v := (-1)) hx hb dX_defaults_20 (by decide) ?_
  refine lv_icmp_ne (tgt := 37) hx hb dX_defaults_21 (by decide) (fun c_3 => ?_) (fun c_3 => ?_)
  · refine lv_aload_n hx hb dX_defaults_37 rfl (lv_at hl 1 rfl) ?_
    refine lv_aload_n hx hb dX_defaults_38 rfl (lv_at hl 1 rfl) ?_
    refine rl_getN (v := .int (sA (4 * i + 11) 3)) hx hb hts hown hC hG 3 hi (by decide) z_242 (rfl) dX_defaults_39 ?_
    refine rcV3v (rest := []) (As := [.int (sA (4 * i + 11) 3)]) hx hb hml hown hts hC hG hS (cL_open l D tI tJ tL A sg ad n sL sA i hi (sA (4 * i + 11) 3)) (recL hi hC hG) (gV q_341 q_342 q_343 q_9 q_344) rfl rfl ⟨rfl, hdyL_open⟩ ⟨Nat.le_of_ble_eq_true rfl, Nat.le_of_ble_eq_true rfl⟩ hl.1 rfl (Nat.le_of_ble_eq_true rfl) dX_defaults_42 ⟨Nat.le_of_ble_eq_true rfl, Nat.le_of_ble_eq_true rfl⟩ (fun H locs hG hS => ?_)
    refine lv_iload_n hx hb dX_defaults_45 rfl (lv_at hl 0 rfl) ?_
    refine vx_ret ?_
    refine W.widen (k := 2) (n := 12) (Nat.le_of_ble_eq_true rfl) (Nat.le_of_ble_eq_true rfl) ?_
    exact W.iret (v := sA (4 * i + 11) 5) hx hb hr (fun t ht hW => ⟨⟨(sA (4 * i + 11) 5), ((fL_open sL sA i (sA (4 * i + 11) 3)).1, (fL_open sL sA i (sA (4 * i + 11) 3)).2), rfl, (by rw [fX_defaults, bndq_s h_1, bnd_0 h_2, if_neg c_3] <;> rfl), gw_at hG ht⟩, hS.F ht⟩) hS.2.2 dX_defaults_46
  · refine lv_aload_n hx hb dX_defaults_24 rfl (lv_at hl 1 rfl) ?_
    refine lv_iload_n hx hb dX_defaults_25 rfl (lv_at hl 0 rfl) ?_
    refine rl_putN hx hb hts hown hC hG hS 8 hi (by decide) (by decide) z_251 dX_defaults_26 (fun H locs hG hS => ?_)
    refine lv_aload_n hx hb dX_defaults_29 rfl (lv_at hl 1 rfl) ?_
    refine lv_aload_n hx hb dX_defaults_30 rfl (lv_at hl 1 rfl) ?_
    refine rl_getN (v := .int (sA (4 * i + 11) 6)) hx hb hts hown hC hG 6 hi (by decide) z_248 (by simp [lfs, up2, upd]) dX_defaults_31 ?_
    refine rl_putN hx hb hts hown hC hG hS 9 hi (by decide) (by decide) z_252 dX_defaults_34 (fun H locs hG hS => ?_)
    refine lv_aload_n hx hb dX_defaults_37 rfl (lv_at hl 1 rfl) ?_
    refine lv_aload_n hx hb dX_defaults_38 rfl (lv_at hl 1 rfl) ?_
    refine rl_getN (v := .int (sA (4 * i + 11) 3)) hx hb hts hown hC hG 3 hi (by decide) z_242 (by simp [lfs, up2, upd]) dX_defaults_39 ?_
    refine rcV3v (rest := []) (As := [.int (sA (4 * i + 11) 3)]) hx hb hml hown hts hC hG hS (cL_open l D tI tJ tL A sg ad n sL (up2 (up2 sA (4 * i + 11) 8 (sA (4 * i + 11) 5)) (4 * i + 11) 9 (sA (4 * i + 11) 6)) i hi (sA (4 * i + 11) 3)) (recL hi hC hG) (gV q_341 q_342 q_343 q_9 q_344) rfl rfl ⟨rfl, hdyL_open⟩ ⟨Nat.le_of_ble_eq_true rfl, Nat.le_of_ble_eq_true rfl⟩ hl.1 rfl (Nat.le_of_ble_eq_true rfl) dX_defaults_42 ⟨Nat.le_of_ble_eq_true rfl, Nat.le_of_ble_eq_true rfl⟩ (fun H locs hG hS => ?_)
    refine lv_iload_n hx hb dX_defaults_45 rfl (lv_at hl 0 rfl) ?_
    refine vx_ret ?_
    refine W.widen (k := 2) (n := 12) (Nat.le_of_ble_eq_true rfl) (Nat.le_of_ble_eq_true rfl) ?_
    exact W.iret (v := sA (4 * i + 11) 5) hx hb hr (fun t ht hW => ⟨⟨(sA (4 * i + 11) 5), ((fL_open sL (up2 (up2 sA (4 * i + 11) 8 (sA (4 * i + 11) 5)) (4 * i + 11) 9 (sA (4 * i + 11) 6)) i (sA (4 * i + 11) 3)).1, (fL_open sL (up2 (up2 sA (4 * i + 11) 8 (sA (4 * i + 11) 5)) (4 * i + 11) 9 (sA (4 * i + 11) 6)) i (sA (4 * i + 11) 3)).2), rfl, (by rw [fX_defaults, bndq_s h_1, bnd_0 h_2, if_pos c_3] <;> rfl), gw_at hG ht⟩, hS.F ht⟩) hS.2.2 dX_defaults_46
def fX_payGaps (sL : NL) (sA : NA) (p0 : Int32) : Nat × Int32 × NL × NA := bnd ((fX_owedBy sL sA p0).1) (if ((fX_owedBy sL sA p0).2) = 0 then (3, 0, sL, sA) else (0, (fX_owedBy sL sA p0).2, (up2L (up2L ((fX_addToDebt sL sA p0 (-((fX_owedBy sL sA p0).2))).1) 0 6 (((fX_addToDebt sL sA p0 (-((fX_owedBy sL sA p0).2))).1 0 6) + (((fX_owedBy sL sA p0).2 : Int32).toInt64))) 0 8 (((fX_addToDebt sL sA p0 (-((fX_owedBy sL sA p0).2))).1 0 8) + (((fX_owedBy sL sA p0).2 : Int32).toInt64))), (fX_addToDebt sL sA p0 (-((fX_owedBy sL sA p0).2))).2)) (0, sL, sA)
theorem hdyX_payGaps : yX_payGaps.cls ≠ "java/lang/invoke/MethodHandle" ∧ yX_payGaps.cls ≠ "java/lang/invoke/VarHandle" ∧ (parseMethodDescriptor yX_payGaps.desc).map (fun d => d.parameters.length) = some 1 := by decide +kernel
theorem dX_payGaps_0 : decode bX_payGaps 0 = .ok (.aload_n 0, 1) := by decide +kernel
theorem dX_payGaps_1 : decode bX_payGaps 1 = .ok (.iload_n 1, 1) := by decide +kernel
theorem dX_payGaps_2 : decode bX_payGaps 2 = .ok (.invokevirtual 136, 3) := by decide +kernel
theorem dX_payGaps_5 : decode bX_payGaps 5 = .ok (.istore_n 2, 1) := by decide +kernel
theorem dX_payGaps_6 : decode bX_payGaps 6 = .ok (.iload_n 2, 1) := by decide +kernel
theorem dX_payGaps_7 : decode bX_payGaps 7 = .ok (.ifCond .ne 13, 3) := by decide +kernel
theorem dX_payGaps_10 : decode bX_payGaps 10 = .ok (.new 41, 3) := by decide +kernel
theorem dX_payGaps_13 : decode bX_payGaps 13 = .ok (.dup, 1) := by decide +kernel
theorem dX_payGaps_14 : decode bX_payGaps 14 = .ok (.ldc 139, 2) := by decide +kernel
theorem dX_payGaps_16 : decode bX_payGaps 16 = .ok (.invokespecial 45, 3) := by decide +kernel
theorem dX_payGaps_19 : decode bX_payGaps 19 = .ok (.athrow, 1) := by decide +kernel
theorem dX_payGaps_20 : decode bX_payGaps 20 = .ok (.aload_n 0, 1) := by decide +kernel
theorem dX_payGaps_21 : decode bX_payGaps 21 = .ok (.iload_n 1, 1) := by decide +kernel
theorem dX_payGaps_22 : decode bX_payGaps 22 = .ok (.iload_n 2, 1) := by decide +kernel
theorem dX_payGaps_23 : decode bX_payGaps 23 = .ok (.ineg, 1) := by decide +kernel
theorem dX_payGaps_24 : decode bX_payGaps 24 = .ok (.invokevirtual 141, 3) := by decide +kernel
theorem dX_payGaps_27 : decode bX_payGaps 27 = .ok (.aload_n 0, 1) := by decide +kernel
theorem dX_payGaps_28 : decode bX_payGaps 28 = .ok (.dup, 1) := by decide +kernel
theorem dX_payGaps_29 : decode bX_payGaps 29 = .ok (.getfield 119, 3) := by decide +kernel
theorem dX_payGaps_32 : decode bX_payGaps 32 = .ok (.iload_n 2, 1) := by decide +kernel
theorem dX_payGaps_33 : decode bX_payGaps 33 = .ok (.i2l, 1) := by decide +kernel
theorem dX_payGaps_34 : decode bX_payGaps 34 = .ok (.ladd, 1) := by decide +kernel
theorem dX_payGaps_35 : decode bX_payGaps 35 = .ok (.putfield 119, 3) := by decide +kernel
theorem dX_payGaps_38 : decode bX_payGaps 38 = .ok (.aload_n 0, 1) := by decide +kernel
theorem dX_payGaps_39 : decode bX_payGaps 39 = .ok (.dup, 1) := by decide +kernel
theorem dX_payGaps_40 : decode bX_payGaps 40 = .ok (.getfield 123, 3) := by decide +kernel
theorem dX_payGaps_43 : decode bX_payGaps 43 = .ok (.iload_n 2, 1) := by decide +kernel
theorem dX_payGaps_44 : decode bX_payGaps 44 = .ok (.i2l, 1) := by decide +kernel
theorem dX_payGaps_45 : decode bX_payGaps 45 = .ok (.ladd, 1) := by decide +kernel
theorem dX_payGaps_46 : decode bX_payGaps 46 = .ok (.putfield 123, 3) := by decide +kernel
theorem dX_payGaps_49 : decode bX_payGaps 49 = .ok (.iload_n 2, 1) := by decide +kernel
theorem dX_payGaps_50 : decode bX_payGaps 50 = .ok (.ireturn, 1) := by decide +kernel
set_option maxHeartbeats 4000000 in
set_option maxRecDepth 100000 in
theorem cX_payGaps (l : Launch) (hl9 : l.stackTraces = false) (D : va_G) (tI tJ tL : ClassId) (A : Nat → Prop) (sg ad : Nat → Nat) (n : Nat) (sL : NL) (sA : NA) (p0 : Int32) : vx_Met l yX_payGaps (Cond.code yX_payGaps bX_payGaps 3 (some FieldType.int) :: wNeed) { frames := 8, cells := 2, slots := 12, locals := 132 } (va_Pc [.ref (ad 0), .int p0] (GP D tI tJ tL A sg ad n sL sA)) (va_Qi (fun r (u : NL × NA) => fX_payGaps sL sA p0 = (0, r, u.1, u.2)) (fun u t => GW D tI tJ tL A ad n u.1 u.2 t.heap) A) (XQ D tI tJ tL A ad n sL sA (fX_payGaps sL sA p0).1) 2 12 A := by
  refine en_XG (av := [.ref (ad 0), .int p0]) (by decide) (Nat.le_of_ble_eq_true rfl) ?_
  intro p e s m below meth c hx hb hml hown hts hr hlocks hT hC H locs hG hS ls hl
  replace hl : lv_has ls 3 [(0, .ref (ad 0)), (1, .int p0)] := hl
  refine lv_aload_n hx hb dX_payGaps_0 rfl (lv_at hl 0 rfl) ?_
  refine lv_iload_n hx hb dX_payGaps_1 rfl (lv_at hl 1 rfl) ?_
  refine rcV5r (rest := []) (As := [.int p0]) (Mc := 2) (Ms := 12) hx hb hml hown hts hC hG hS hlocks hT (cX_owedBy l hl9 D tI tJ tL A sg ad n sL sA p0) (recX hC hG) (gV q_372 q_374 q_p4 q_1 q_375) rfl rfl ⟨rfl, hdyX_owedBy⟩ ⟨Nat.le_of_ble_eq_true rfl, Nat.le_of_ble_eq_true rfl⟩ hl.1 rfl (Nat.le_of_ble_eq_true rfl) dX_payGaps_2 ⟨Nat.le_of_ble_eq_true rfl, Nat.le_of_ble_eq_true rfl⟩ ⟨Nat.le_of_ble_eq_true rfl, Nat.le_of_ble_eq_true rfl⟩ (fun h => by rw [fX_payGaps, bnd_n h] <;> rfl) (fun h_1 H locs hG hS => ?_)
  refine lv_istore_n (lv' := [(2, .int ((fX_owedBy sL sA p0).2)), (0, .ref (ad 0)), (1, .int p0)]) hx hb dX_payGaps_5 rfl hl (by decide) rfl (fun ls hl => ?_)
  refine lv_iload_n hx hb dX_payGaps_6 rfl (lv_at hl 0 rfl) ?_
  refine lv_if_ne (tgt := 20) hx hb dX_payGaps_7 (by decide) (fun c_2 => ?_) (fun c_2 => ?_)
  · refine lv_aload_n hx hb dX_payGaps_20 rfl (lv_at hl 1 rfl) ?_
    refine lv_iload_n hx hb dX_payGaps_21 rfl (lv_at hl 2 rfl) ?_
    refine lv_iload_n hx hb dX_payGaps_22 rfl (lv_at hl 0 rfl) ?_
    refine lv_ineg hx hb dX_payGaps_23 ?_
    refine rcV3v (rest := []) (As := [.int p0, .int (-((fX_owedBy sL sA p0).2))]) hx hb hml hown hts hC hG hS (cX_addToDebt l hl9 D tI tJ tL A sg ad n sL sA p0 (-((fX_owedBy sL sA p0).2)) (owed_ok h_1)) (recX hC hG) (gV q_360 q_362 q_p3 q_1 q_363) rfl rfl ⟨rfl, hdyX_addToDebt⟩ ⟨Nat.le_of_ble_eq_true rfl, Nat.le_of_ble_eq_true rfl⟩ hl.1 rfl (Nat.le_of_ble_eq_true rfl) dX_payGaps_24 ⟨Nat.le_of_ble_eq_true rfl, Nat.le_of_ble_eq_true rfl⟩ (fun H locs hG hS => ?_)
    refine lv_aload_n hx hb dX_payGaps_27 rfl (lv_at hl 1 rfl) ?_
    refine lv_dup hx hb dX_payGaps_28 rfl ?_
    refine rx_get (v := .long ((fX_addToDebt sL sA p0 (-((fX_owedBy sL sA p0).2))).1 0 6)) hx hb hts hown hC hG 6 (by decide) q_27 (rfl) dX_payGaps_29 ?_
    refine lv_iload_n hx hb dX_payGaps_32 rfl (lv_at hl 0 rfl) ?_
    refine lv_i2l (v := ((fX_owedBy sL sA p0).2 : Int32).toInt64) hx hb dX_payGaps_33 rfl ?_
    refine lv_ladd hx hb dX_payGaps_34 ?_
    refine rx_putl hx hb hts hown hC hG hS 6 (by decide) q_27 dX_payGaps_35 (fun H locs hG hS => ?_)
    refine lv_aload_n hx hb dX_payGaps_38 rfl (lv_at hl 1 rfl) ?_
    refine lv_dup hx hb dX_payGaps_39 rfl ?_
    refine rx_get (v := .long ((fX_addToDebt sL sA p0 (-((fX_owedBy sL sA p0).2))).1 0 8)) hx hb hts hown hC hG 8 (by decide) q_29 (by simp [xfs, up2, upd, up2L, vp_updL]) dX_payGaps_40 ?_
    refine lv_iload_n hx hb dX_payGaps_43 rfl (lv_at hl 0 rfl) ?_
    refine lv_i2l (v := ((fX_owedBy sL sA p0).2 : Int32).toInt64) hx hb dX_payGaps_44 rfl ?_
    refine lv_ladd hx hb dX_payGaps_45 ?_
    refine rx_putl hx hb hts hown hC hG hS 8 (by decide) q_29 dX_payGaps_46 (fun H locs hG hS => ?_)
    refine lv_iload_n hx hb dX_payGaps_49 rfl (lv_at hl 0 rfl) ?_
    refine vx_ret ?_
    refine W.widen (k := 2) (n := 12) (Nat.le_of_ble_eq_true rfl) (Nat.le_of_ble_eq_true rfl) ?_
    exact W.iret (v := (fX_owedBy sL sA p0).2) hx hb hr (fun t ht hW => ⟨⟨((fX_owedBy sL sA p0).2), ((up2L (up2L ((fX_addToDebt sL sA p0 (-((fX_owedBy sL sA p0).2))).1) 0 6 (((fX_addToDebt sL sA p0 (-((fX_owedBy sL sA p0).2))).1 0 6) + (((fX_owedBy sL sA p0).2 : Int32).toInt64))) 0 8 (((fX_addToDebt sL sA p0 (-((fX_owedBy sL sA p0).2))).1 0 8) + (((fX_owedBy sL sA p0).2 : Int32).toInt64))), (fX_addToDebt sL sA p0 (-((fX_owedBy sL sA p0).2))).2), rfl, (by rw [fX_payGaps, bnd_0 h_1, if_neg c_2] <;> rfl), gw_at hG ht⟩, hS.F ht⟩) hS.2.2 dX_payGaps_50
  · exact rc_throw (text := "nothing is owed") hx hb hts hown hC hG hS hl9 hlocks hT (Or.inr (Or.inr ⟨rfl, by rw [fX_payGaps, bnd_0 h_1, if_pos c_2] <;> rfl⟩)) (by decide +kernel) q_190 q_8 (by decide) at_S (hl.1.trans hml.symm) dX_payGaps_10 dX_payGaps_13 dX_payGaps_14 dX_payGaps_16 dX_payGaps_19 (Nat.le_of_ble_eq_true rfl) (Nat.le_of_ble_eq_true rfl) (Nat.le_of_ble_eq_true rfl) (Nat.le_of_ble_eq_true rfl) (Nat.le_of_ble_eq_true rfl) (Nat.le_of_ble_eq_true rfl)
def fX_advance (n : Nat) (sL : NL) (sA : NA) (p0 : Int32) (p1 : Int32) : Nat × Int32 × NL × NA := bndq (fX_findLot n p0) (fun i => bnd (fX_checkRange p1 1 ((sA (4 * i + 11) 3) / 2)) (if (sA (4 * i + 11) 4) = 3 then (3, 0, sL, sA) else (if (sA (4 * i + 11) 4) = 4 then (3, 0, sL, sA) else (if (sA (4 * i + 11) 10) ≤ 0 then (0, (sA (4 * i + 11) 3) / 2, (up2L sL 0 7 ((sL 0 7) + ((p1 : Int32).toInt64))), (up2 (up2 sA (4 * i + 11) 10 p1) (4 * i + 11) 11 (sA 0 4))) else (3, 0, sL, sA)))) (0, sL, sA)) (0, sL, sA)
theorem hdyX_advance : yX_advance.cls ≠ "java/lang/invoke/MethodHandle" ∧ yX_advance.cls ≠ "java/lang/invoke/VarHandle" ∧ (parseMethodDescriptor yX_advance.desc).map (fun d => d.parameters.length) = some 2 := by decide +kernel
theorem dX_advance_0 : decode bX_advance 0 = .ok (.aload_n 0, 1) := by decide +kernel
theorem dX_advance_1 : decode bX_advance 1 = .ok (.iload_n 1, 1) := by decide +kernel
theorem dX_advance_2 : decode bX_advance 2 = .ok (.invokevirtual 54, 3) := by decide +kernel
theorem dX_advance_5 : decode bX_advance 5 = .ok (.astore_n 3, 1) := by decide +kernel
theorem dX_advance_6 : decode bX_advance 6 = .ok (.aload_n 3, 1) := by decide +kernel
theorem dX_advance_7 : decode bX_advance 7 = .ok (.getfield 82, 3) := by decide +kernel
theorem dX_advance_10 : decode bX_advance 10 = .ok (.iconst 2, 1) := by decide +kernel
theorem dX_advance_11 : decode bX_advance 11 = .ok (.idiv, 1) := by decide +kernel
theorem dX_advance_12 : decode bX_advance 12 = .ok (.istore 4, 2) := by decide +kernel
theorem dX_advance_14 : decode bX_advance 14 = .ok (.iload_n 2, 1) := by decide +kernel
theorem dX_advance_15 : decode bX_advance 15 = .ok (.iconst 1, 1) := by decide +kernel
theorem dX_advance_16 : decode bX_advance 16 = .ok (.iload 4, 2) := by decide +kernel
theorem dX_advance_18 : decode bX_advance 18 = .ok (.invokestatic 31, 3) := by decide +kernel
theorem dX_advance_21 : decode bX_advance 21 = .ok (.aload_n 3, 1) := by decide +kernel
theorem dX_advance_22 : decode bX_advance 22 = .ok (.getfield 85, 3) := by decide +kernel
theorem dX_advance_25 : decode bX_advance 25 = .ok (.iconst 3, 1) := by decide +kernel
theorem dX_advance_26 : decode bX_advance 26 = .ok (.if_icmp .eq 18, 3) := by decide +kernel
theorem dX_advance_29 : decode bX_advance 29 = .ok (.aload_n 3, 1) := by decide +kernel
theorem dX_advance_30 : decode bX_advance 30 = .ok (.getfield 85, 3) := by decide +kernel
theorem dX_advance_33 : decode bX_advance 33 = .ok (.iconst 4, 1) := by decide +kernel
theorem dX_advance_34 : decode bX_advance 34 = .ok (.if_icmp .eq 10, 3) := by decide +kernel
theorem dX_advance_37 : decode bX_advance 37 = .ok (.aload_n 3, 1) := by decide +kernel
theorem dX_advance_38 : decode bX_advance 38 = .ok (.getfield 144, 3) := by decide +kernel
theorem dX_advance_41 : decode bX_advance 41 = .ok (.ifCond .le 13, 3) := by decide +kernel
theorem dX_advance_44 : decode bX_advance 44 = .ok (.new 41, 3) := by decide +kernel
theorem dX_advance_47 : decode bX_advance 47 = .ok (.dup, 1) := by decide +kernel
theorem dX_advance_48 : decode bX_advance 48 = .ok (.ldc 147, 2) := by decide +kernel
theorem dX_advance_50 : decode bX_advance 50 = .ok (.invokespecial 45, 3) := by decide +kernel
theorem dX_advance_53 : decode bX_advance 53 = .ok (.athrow, 1) := by decide +kernel
theorem dX_advance_54 : decode bX_advance 54 = .ok (.aload_n 3, 1) := by decide +kernel
theorem dX_advance_55 : decode bX_advance 55 = .ok (.iload_n 2, 1) := by decide +kernel
theorem dX_advance_56 : decode bX_advance 56 = .ok (.putfield 144, 3) := by decide +kernel
theorem dX_advance_59 : decode bX_advance 59 = .ok (.aload_n 3, 1) := by decide +kernel
theorem dX_advance_60 : decode bX_advance 60 = .ok (.aload_n 0, 1) := by decide +kernel
theorem dX_advance_61 : decode bX_advance 61 = .ok (.getfield 104, 3) := by decide +kernel
theorem dX_advance_64 : decode bX_advance 64 = .ok (.putfield 149, 3) := by decide +kernel
theorem dX_advance_67 : decode bX_advance 67 = .ok (.aload_n 0, 1) := by decide +kernel
theorem dX_advance_68 : decode bX_advance 68 = .ok (.dup, 1) := by decide +kernel
theorem dX_advance_69 : decode bX_advance 69 = .ok (.getfield 152, 3) := by decide +kernel
theorem dX_advance_72 : decode bX_advance 72 = .ok (.iload_n 2, 1) := by decide +kernel
theorem dX_advance_73 : decode bX_advance 73 = .ok (.i2l, 1) := by decide +kernel
theorem dX_advance_74 : decode bX_advance 74 = .ok (.ladd, 1) := by decide +kernel
theorem dX_advance_75 : decode bX_advance 75 = .ok (.putfield 152, 3) := by decide +kernel
theorem dX_advance_78 : decode bX_advance 78 = .ok (.iload 4, 2) := by decide +kernel
theorem dX_advance_80 : decode bX_advance 80 = .ok (.ireturn, 1) := by decide +kernel
set_option maxHeartbeats 4000000 in
set_option maxRecDepth 100000 in
theorem cX_advance (l : Launch) (hl9 : l.stackTraces = false) (D : va_G) (tI tJ tL : ClassId) (A : Nat → Prop) (sg ad : Nat → Nat) (n : Nat) (sL : NL) (sA : NA) (p0 : Int32) (p1 : Int32) : vx_Met l yX_advance (Cond.code yX_advance bX_advance 5 (some FieldType.int) :: wNeed) { frames := 7, cells := 3, slots := 18, locals := 112 } (va_Pc [.ref (ad 0), .int p0, .int p1] (GP D tI tJ tL A sg ad n sL sA)) (va_Qi (fun r (u : NL × NA) => fX_advance n sL sA p0 p1 = (0, r, u.1, u.2)) (fun u t => GW D tI tJ tL A ad n u.1 u.2 t.heap) A) (XQ D tI tJ tL A ad n sL sA (fX_advance n sL sA p0 p1).1) 3 18 A := by
  refine en_XG (av := [.ref (ad 0), .int p0, .int p1]) (by decide) (Nat.le_of_ble_eq_true rfl) ?_
  intro p e s m below meth c hx hb hml hown hts hr hlocks hT hC H locs hG hS ls hl
  replace hl : lv_has ls 5 [(0, .ref (ad 0)), (1, .int p0), (2, .int p1)] := hl
  refine lv_aload_n hx hb dX_advance_0 rfl (lv_at hl 0 rfl) ?_
  refine lv_iload_n hx hb dX_advance_1 rfl (lv_at hl 1 rfl) ?_
  refine rcV5q (rest := []) (As := [.int p0]) (p0 := p0) (Mc := 3) (Ms := 18) hx hb hml hown hts hC hG hS hlocks hT (cX_findLot l hl9 D tI tJ tL A sg ad n sL sA p0) (recX hC hG) (gV q_288 q_290 q_p1 q_1 q_291) rfl rfl ⟨rfl, hdyX_findLot⟩ ⟨Nat.le_of_ble_eq_true rfl, Nat.le_of_ble_eq_true rfl⟩ hl.1 rfl (Nat.le_of_ble_eq_true rfl) dX_advance_2 ⟨Nat.le_of_ble_eq_true rfl, Nat.le_of_ble_eq_true rfl⟩ ⟨Nat.le_of_ble_eq_true rfl, Nat.le_of_ble_eq_true rfl⟩ (fun h => by rw [fX_advance, bndq_n h] <;> rfl) (fun i h_1 hi hp H locs hG hS => ?_)
  subst hp
  refine lv_astore_n (lv' := [(3, .ref (ad (4 * i + 11))), (0, .ref (ad 0)), (1, .int (nI i)), (2, .int p1)]) hx hb dX_advance_5 rfl hl (by decide) rfl (fun ls hl => ?_)
  refine lv_aload_n hx hb dX_advance_6 rfl (lv_at hl 0 rfl) ?_
  refine rl_getN (v := .int (sA (4 * i + 11) 3)) hx hb hts hown hC hG 3 hi (by decide) z_242 (rfl) dX_advance_7 ?_
  refine lv_iconst (v := 2) hx hb dX_advance_10 (by decide) ?_
  refine lv_idiv hx hb dX_advance_11 (by decide) ?_
  refine lv_istore (lv' := [(4, .int ((sA (4 * i + 11) 3) / 2)), (3, .ref (ad (4 * i + 11))), (0, .ref (ad 0)), (1, .int (nI i)), (2, .int p1)]) hx hb dX_advance_12 hl (by decide) rfl (fun ls hl => ?_)
  refine lv_iload_n hx hb dX_advance_14 rfl (lv_at hl 4 rfl) ?_
  refine lv_iconst (v := 1) hx hb dX_advance_15 (by decide) ?_
  refine lv_iload hx hb dX_advance_16 (lv_at hl 0 rfl) ?_
  refine rcS4 (rest := []) (As := [.int p1, .int 1, .int ((sA (4 * i + 11) 3) / 2)]) (Mc := 3) (Ms := 18) hx hb hml hown hts hC hG hS hlocks hT (cX_checkRange l hl9 D tI tJ tL A sg ad n sL sA p1 1 ((sA (4 * i + 11) 3) / 2)) (gS q_125 q_126 q_1 q_127) rfl rfl ⟨rfl, hdyX_checkRange⟩ ⟨Nat.le_of_ble_eq_true rfl, Nat.le_of_ble_eq_true rfl⟩ hl.1 rfl (Nat.le_of_ble_eq_true rfl) dX_advance_18 ⟨Nat.le_of_ble_eq_true rfl, Nat.le_of_ble_eq_true rfl⟩ ⟨Nat.le_of_ble_eq_true rfl, Nat.le_of_ble_eq_true rfl⟩ (fun h => by rw [fX_advance, bndq_s h_1, bnd_n h] <;> rfl) (fun h_2 H locs hG hS => ?_)
  refine lv_aload_n hx hb dX_advance_21 rfl (lv_at hl 1 rfl) ?_
  refine rl_getN (v := .int (sA (4 * i + 11) 4)) hx hb hts hown hC hG 4 hi (by decide) z_244 (rfl) dX_advance_22 ?_
  refine lv_iconst (v := 3) hx hb dX_advance_25 (by decide) ?_
  refine lv_icmp_eq (tgt := 44) hx hb dX_advance_26 (by decide) (fun c_3 => ?_) (fun c_3 => ?_)
  · exact rc_throw (text := "no advance for this lot any more") hx hb hts hown hC hG hS hl9 hlocks hT (Or.inr (Or.inr ⟨rfl, by rw [fX_advance, bndq_s h_1, bnd_0 h_2, if_pos c_3] <;> rfl⟩)) (by decide +kernel) q_190 q_8 (by decide) at_S (hl.1.trans hml.symm) dX_advance_44 dX_advance_47 dX_advance_48 dX_advance_50 dX_advance_53 (Nat.le_of_ble_eq_true rfl) (Nat.le_of_ble_eq_true rfl) (Nat.le_of_ble_eq_true rfl) (Nat.le_of_ble_eq_true rfl) (Nat.le_of_ble_eq_true rfl) (Nat.le_of_ble_eq_true rfl)
  · refine lv_aload_n hx hb dX_advance_29 rfl (lv_at hl 1 rfl) ?_
    refine rl_getN (v := .int (sA (4 * i + 11) 4)) hx hb hts hown hC hG 4 hi (by decide) z_244 (rfl) dX_advance_30 ?_
    refine lv_iconst (v := 4) hx hb dX_advance_33 (by decide) ?_
    refine lv_icmp_eq (tgt := 44) hx hb dX_advance_34 (by decide) (fun c_4 => ?_) (fun c_4 => ?_)
    · exact rc_throw (text := "no advance for this lot any more") hx hb hts hown hC hG hS hl9 hlocks hT (Or.inr (Or.inr ⟨rfl, by rw [fX_advance, bndq_s h_1, bnd_0 h_2, if_neg c_3, if_pos c_4] <;> rfl⟩)) (by decide +kernel) q_190 q_8 (by decide) at_S (hl.1.trans hml.symm) dX_advance_44 dX_advance_47 dX_advance_48 dX_advance_50 dX_advance_53 (Nat.le_of_ble_eq_true rfl) (Nat.le_of_ble_eq_true rfl) (Nat.le_of_ble_eq_true rfl) (Nat.le_of_ble_eq_true rfl) (Nat.le_of_ble_eq_true rfl) (Nat.le_of_ble_eq_true rfl)
    · refine lv_aload_n hx hb dX_advance_37 rfl (lv_at hl 1 rfl) ?_
      refine rl_getN (v := .int (sA (4 * i + 11) 10)) hx hb hts hown hC hG 10 hi (by decide) z_254 (rfl) dX_advance_38 ?_
      refine lv_if_le (tgt := 54) hx hb dX_advance_41 (by decide) (fun c_5 => ?_) (fun c_5 => ?_)
      · refine lv_aload_n hx hb dX_advance_54 rfl (lv_at hl 1 rfl) ?_
        refine lv_iload_n hx hb dX_advance_55 rfl (lv_at hl 4 rfl) ?_
        refine rl_putN hx hb hts hown hC hG hS 10 hi (by decide) (by decide) z_254 dX_advance_56 (fun H locs hG hS => ?_)
        refine lv_aload_n hx hb dX_advance_59 rfl (lv_at hl 1 rfl) ?_
        refine lv_aload_n hx hb dX_advance_60 rfl (lv_at hl 2 rfl) ?_
        refine rx_get (v := .int (sA 0 4)) hx hb hts hown hC hG 4 (by decide) q_25 (by simp [xfs, up2, upd, up2L, vp_updL]) dX_advance_61 ?_
        refine rl_putN hx hb hts hown hC hG hS 11 hi (by decide) (by decide) z_255 dX_advance_64 (fun H locs hG hS => ?_)
        refine lv_aload_n hx hb dX_advance_67 rfl (lv_at hl 2 rfl) ?_
        refine lv_dup hx hb dX_advance_68 rfl ?_
        refine rx_get (v := .long (sL 0 7)) hx hb hts hown hC hG 7 (by decide) q_28 (rfl) dX_advance_69 ?_
        refine lv_iload_n hx hb dX_advance_72 rfl (lv_at hl 4 rfl) ?_
        refine lv_i2l (v := (p1 : Int32).toInt64) hx hb dX_advance_73 rfl ?_
        refine lv_ladd hx hb dX_advance_74 ?_
        refine rx_putl hx hb hts hown hC hG hS 7 (by decide) q_28 dX_advance_75 (fun H locs hG hS => ?_)
        refine lv_iload hx hb dX_advance_78 (lv_at hl 0 rfl) ?_
        refine vx_ret ?_
        refine W.widen (k := 3) (n := 18) (Nat.le_of_ble_eq_true rfl) (Nat.le_of_ble_eq_true rfl) ?_
        exact W.iret (v := (sA (4 * i + 11) 3) / 2) hx hb hr (fun t ht hW => ⟨⟨((sA (4 * i + 11) 3) / 2), ((up2L sL 0 7 ((sL 0 7) + ((p1 : Int32).toInt64))), (up2 (up2 sA (4 * i + 11) 10 p1) (4 * i + 11) 11 (sA 0 4))), rfl, (by rw [fX_advance, bndq_s h_1, bnd_0 h_2, if_neg c_3, if_neg c_4, if_pos c_5] <;> rfl), gw_at hG ht⟩, hS.F ht⟩) hS.2.2 dX_advance_80
      · exact rc_throw (text := "no advance for this lot any more") hx hb hts hown hC hG hS hl9 hlocks hT (Or.inr (Or.inr ⟨rfl, by rw [fX_advance, bndq_s h_1, bnd_0 h_2, if_neg c_3, if_neg c_4, if_neg c_5] <;> rfl⟩)) (by decide +kernel) q_190 q_8 (by decide) at_S (hl.1.trans hml.symm) dX_advance_44 dX_advance_47 dX_advance_48 dX_advance_50 dX_advance_53 (Nat.le_of_ble_eq_true rfl) (Nat.le_of_ble_eq_true rfl) (Nat.le_of_ble_eq_true rfl) (Nat.le_of_ble_eq_true rfl) (Nat.le_of_ble_eq_true rfl) (Nat.le_of_ble_eq_true rfl)
def fX_settle (n : Nat) (sL : NL) (sA : NA) (p0 : Int32) : Nat × Int32 × NL × NA := bndq (fX_findLot n p0) (fun i => bnd (fX_checkState sL sA i 3) (bnd ((fX_hundredthsOf sL sA (sA (4 * i + 11) 0)).1) ((0, ((((sA (4 * i + 11) 6) - (((sA (4 * i + 11) 6) * ((fX_hundredthsOf sL sA (sA (4 * i + 11) 0)).2)) / 100)) - (fX_shareOf sL sA i)) - (sA (4 * i + 11) 10)) - (fX_interestOf sL sA i), (up2L (up2L sL 0 7 ((sL 0 7) + (((((((sA (4 * i + 11) 6) - (((sA (4 * i + 11) 6) * ((fX_hundredthsOf sL sA (sA (4 * i + 11) 0)).2)) / 100)) - (fX_shareOf sL sA i)) - (sA (4 * i + 11) 10)) - (fX_interestOf sL sA i)) + (fX_shareOf sL sA i) : Int32).toInt64))) 0 8 ((sL 0 8) + (((((sA (4 * i + 11) 6) * ((fX_hundredthsOf sL sA (sA (4 * i + 11) 0)).2)) / 100) + (fX_interestOf sL sA i) : Int32).toInt64))), (up2 (up2 sA (4 * i + 11) 12 (fX_interestOf sL sA i)) (4 * i + 11) 4 4))) (0, sL, sA)) (0, sL, sA)) (0, sL, sA)
theorem hdyX_settle : yX_settle.cls ≠ "java/lang/invoke/MethodHandle" ∧ yX_settle.cls ≠ "java/lang/invoke/VarHandle" ∧ (parseMethodDescriptor yX_settle.desc).map (fun d => d.parameters.length) = some 1 := by decide +kernel
theorem dX_settle_0 : decode bX_settle 0 = .ok (.aload_n 0, 1) := by decide +kernel
theorem dX_settle_1 : decode bX_settle 1 = .ok (.iload_n 1, 1) := by decide +kernel
theorem dX_settle_2 : decode bX_settle 2 = .ok (.invokevirtual 54, 3) := by decide +kernel
theorem dX_settle_5 : decode bX_settle 5 = .ok (.astore_n 2, 1) := by decide +kernel
theorem dX_settle_6 : decode bX_settle 6 = .ok (.aload_n 2, 1) := by decide +kernel
theorem dX_settle_7 : decode bX_settle 7 = .ok (.iconst 3, 1) := by decide +kernel
theorem dX_settle_8 : decode bX_settle 8 = .ok (.invokestatic 61, 3) := by decide +kernel
theorem dX_settle_11 : decode bX_settle 11 = .ok (.aload_n 2, 1) := by decide +kernel
theorem dX_settle_12 : decode bX_settle 12 = .ok (.getfield 101, 3) := by decide +kernel
theorem dX_settle_15 : decode bX_settle 15 = .ok (.istore_n 3, 1) := by decide +kernel
theorem dX_settle_16 : decode bX_settle 16 = .ok (.iload_n 3, 1) := by decide +kernel
theorem dX_settle_17 : decode bX_settle 17 = .ok (.aload_n 0, 1) := by decide +kernel
theorem dX_settle_18 : decode bX_settle 18 = .ok (.aload_n 2, 1) := by decide +kernel
theorem dX_settle_19 : decode bX_settle 19 = .ok (.getfield 155, 3) := by decide +kernel
theorem dX_settle_22 : decode bX_settle 22 = .ok (.invokevirtual 158, 3) := by decide +kernel
theorem dX_settle_25 : decode bX_settle 25 = .ok (.imul, 1) := by decide +kernel
theorem dX_settle_26 : decode bX_settle 26 = .ok (.bipush 100, 2) := by decide +kernel
theorem dX_settle_28 : decode bX_settle 28 = .ok (.idiv, 1) := by decide +kernel
theorem dX_settle_29 : decode bX_settle 29 = .ok (.istore 4, 2) := by decide +kernel
theorem dX_settle_31 : decode bX_settle 31 = .ok (.aload_n 2, 1) := by decide +kernel
theorem dX_settle_32 : decode bX_settle 32 = .ok (.invokestatic 161, 3) := by decide +kernel
theorem dX_settle_35 : decode bX_settle 35 = .ok (.istore 5, 2) := by decide +kernel
theorem dX_settle_37 : decode bX_settle 37 = .ok (.aload_n 0, 1) := by decide +kernel
theorem dX_settle_38 : decode bX_settle 38 = .ok (.aload_n 2, 1) := by decide +kernel
theorem dX_settle_39 : decode bX_settle 39 = .ok (.invokevirtual 165, 3) := by decide +kernel
theorem dX_settle_42 : decode bX_settle 42 = .ok (.istore 6, 2) := by decide +kernel
theorem dX_settle_44 : decode bX_settle 44 = .ok (.iload_n 3, 1) := by decide +kernel
theorem dX_settle_45 : decode bX_settle 45 = .ok (.iload 4, 2) := by decide +kernel
theorem dX_settle_47 : decode bX_settle 47 = .ok (.isub, 1) := by decide +kernel
theorem dX_settle_48 : decode bX_settle 48 = .ok (.iload 5, 2) := by decide +kernel
theorem dX_settle_50 : decode bX_settle 50 = .ok (.isub, 1) := by decide +kernel
theorem dX_settle_51 : decode bX_settle 51 = .ok (.aload_n 2, 1) := by decide +kernel
theorem dX_settle_52 : decode bX_settle 52 = .ok (.getfield 144, 3) := by decide +kernel
theorem dX_settle_55 : decode bX_settle 55 = .ok (.isub, 1) := by decide +kernel
theorem dX_settle_56 : decode bX_settle 56 = .ok (.iload 6, 2) := by decide +kernel
theorem dX_settle_58 : decode bX_settle 58 = .ok (.isub, 1) := by decide +kernel
theorem dX_settle_59 : decode bX_settle 59 = .ok (.istore 7, 2) := by decide +kernel
theorem dX_settle_61 : decode bX_settle 61 = .ok (.aload_n 0, 1) := by decide +kernel
theorem dX_settle_62 : decode bX_settle 62 = .ok (.dup, 1) := by decide +kernel
theorem dX_settle_63 : decode bX_settle 63 = .ok (.getfield 152, 3) := by decide +kernel
theorem dX_settle_66 : decode bX_settle 66 = .ok (.iload 7, 2) := by decide +kernel
theorem dX_settle_68 : decode bX_settle 68 = .ok (.iload 5, 2) := by decide +kernel
theorem dX_settle_70 : decode bX_settle 70 = .ok (.iadd, 1) := by decide +kernel
theorem dX_settle_71 : decode bX_settle 71 = .ok (.i2l, 1) := by decide +kernel
theorem dX_settle_72 : decode bX_settle 72 = .ok (.ladd, 1) := by decide +kernel
theorem dX_settle_73 : decode bX_settle 73 = .ok (.putfield 152, 3) := by decide +kernel
theorem dX_settle_76 : decode bX_settle 76 = .ok (.aload_n 0, 1) := by decide +kernel
theorem dX_settle_77 : decode bX_settle 77 = .ok (.dup, 1) := by decide +kernel
theorem dX_settle_78 : decode bX_settle 78 = .ok (.getfield 123, 3) := by decide +kernel
theorem dX_settle_81 : decode bX_settle 81 = .ok (.iload 4, 2) := by decide +kernel
theorem dX_settle_83 : decode bX_settle 83 = .ok (.iload 6, 2) := by decide +kernel
theorem dX_settle_85 : decode bX_settle 85 = .ok (.iadd, 1) := by decide +kernel
theorem dX_settle_86 : decode bX_settle 86 = .ok (.i2l, 1) := by decide +kernel
theorem dX_settle_87 : decode bX_settle 87 = .ok (.ladd, 1) := by decide +kernel
theorem dX_settle_88 : decode bX_settle 88 = .ok (.putfield 123, 3) := by decide +kernel
theorem dX_settle_91 : decode bX_settle 91 = .ok (.aload_n 2, 1) := by decide +kernel
theorem dX_settle_92 : decode bX_settle 92 = .ok (.iload 6, 2) := by decide +kernel
theorem dX_settle_94 : decode bX_settle 94 = .ok (.putfield 168, 3) := by decide +kernel
theorem dX_settle_97 : decode bX_settle 97 = .ok (.aload_n 2, 1) := by decide +kernel
theorem dX_settle_98 : decode bX_settle 98 = .ok (.iconst 4, 1) := by decide +kernel
theorem dX_settle_99 : decode bX_settle 99 = .ok (.putfield 85, 3) := by decide +kernel
theorem dX_settle_102 : decode bX_settle 102 = .ok (.iload 7, 2) := by decide +kernel
theorem dX_settle_104 : decode bX_settle 104 = .ok (.ireturn, 1) := by decide +kernel
set_option maxHeartbeats 4000000 in
set_option maxRecDepth 100000 in
theorem cX_settle (l : Launch) (hl9 : l.stackTraces = false) (D : va_G) (tI tJ tL : ClassId) (A : Nat → Prop) (sg ad : Nat → Nat) (n : Nat) (sL : NL) (sA : NA) (p0 : Int32) : vx_Met l yX_settle (Cond.code yX_settle bX_settle 8 (some FieldType.int) :: wNeed) { frames := 8, cells := 3, slots := 18, locals := 131 } (va_Pc [.ref (ad 0), .int p0] (GP D tI tJ tL A sg ad n sL sA)) (va_Qi (fun r (u : NL × NA) => fX_settle n sL sA p0 = (0, r, u.1, u.2)) (fun u t => GW D tI tJ tL A ad n u.1 u.2 t.heap) A) (XQ D tI tJ tL A ad n sL sA (fX_settle n sL sA p0).1) 3 18 A := by
  refine en_XG (av := [.ref (ad 0), .int p0]) (by decide) (Nat.le_of_ble_eq_true rfl) ?_
  intro p e s m below meth c hx hb hml hown hts hr hlocks hT hC H locs hG hS ls hl
  replace hl : lv_has ls 8 [(0, .ref (ad 0)), (1, .int p0)] := hl
  refine lv_aload_n hx hb dX_settle_0 rfl (lv_at hl 0 rfl) ?_
  refine lv_iload_n hx hb dX_settle_1 rfl (lv_at hl 1 rfl) ?_
  refine rcV5q (rest := []) (As := [.int p0]) (p0 := p0) (Mc := 3) (Ms := 18) hx hb hml hown hts hC hG hS hlocks hT (cX_findLot l hl9 D tI tJ tL A sg ad n sL sA p0) (recX hC hG) (gV q_288 q_290 q_p1 q_1 q_291) rfl rfl ⟨rfl, hdyX_findLot⟩ ⟨Nat.le_of_ble_eq_true rfl, Nat.le_of_ble_eq_true rfl⟩ hl.1 rfl (Nat.le_of_ble_eq_true rfl) dX_settle_2 ⟨Nat.le_of_ble_eq_true rfl, Nat.le_of_ble_eq_true rfl⟩ ⟨Nat.le_of_ble_eq_true rfl, Nat.le_of_ble_eq_true rfl⟩ (fun h => by rw [fX_settle, bndq_n h] <;> rfl) (fun i h_1 hi hp H locs hG hS => ?_)
  subst hp
  refine lv_astore_n (lv' := [(2, .ref (ad (4 * i + 11))), (0, .ref (ad 0)), (1, .int (nI i))]) hx hb dX_settle_5 rfl hl (by decide) rfl (fun ls hl => ?_)
  refine lv_aload_n hx hb dX_settle_6 rfl (lv_at hl 0 rfl) ?_
  refine lv_iconst (v := 3) hx hb dX_settle_7 (by decide) ?_
  refine rcS4 (rest := []) (As := [.ref (ad (4 * i + 11)), .int 3]) (Mc := 3) (Ms := 18) hx hb hml hown hts hC hG hS hlocks hT (cX_checkState l hl9 D tI tJ tL A sg ad n sL sA i hi 3) (gS q_297 q_298 q_1 q_299) rfl rfl ⟨rfl, hdyX_checkState⟩ ⟨Nat.le_of_ble_eq_true rfl, Nat.le_of_ble_eq_true rfl⟩ hl.1 rfl (Nat.le_of_ble_eq_true rfl) dX_settle_8 ⟨Nat.le_of_ble_eq_true rfl, Nat.le_of_ble_eq_true rfl⟩ ⟨Nat.le_of_ble_eq_true rfl, Nat.le_of_ble_eq_true rfl⟩ (fun h => by rw [fX_settle, bndq_s h_1, bnd_n h] <;> rfl) (fun h_2 H locs hG hS => ?_)
  refine lv_aload_n hx hb dX_settle_11 rfl (lv_at hl 0 rfl) ?_
  refine rl_getN (v := .int (sA (4 * i + 11) 6)) hx hb hts hown hC hG 6 hi (by decide) z_248 (rfl) dX_settle_12 ?_
  refine lv_istore_n (lv' := [(3, .int (sA (4 * i + 11) 6)), (2, .ref (ad (4 * i + 11))), (0, .ref (ad 0)), (1, .int (nI i))]) hx hb dX_settle_15 rfl hl (by decide) rfl (fun ls hl => ?_)
  refine lv_iload_n hx hb dX_settle_16 rfl (lv_at hl 0 rfl) ?_
  refine lv_aload_n hx hb dX_settle_17 rfl (lv_at hl 2 rfl) ?_
  refine lv_aload_n hx hb dX_settle_18 rfl (lv_at hl 1 rfl) ?_
  refine rl_getN (v := .int (sA (4 * i + 11) 0)) hx hb hts hown hC hG 0 hi (by decide) z_236 (rfl) dX_settle_19 ?_
  refine rcV5r (rest := [.int (sA (4 * i + 11) 6)]) (As := [.int (sA (4 * i + 11) 0)]) (Mc := 3) (Ms := 18) hx hb hml hown hts hC hG hS hlocks hT (cX_hundredthsOf l hl9 D tI tJ tL A sg ad n sL sA (sA (4 * i + 11) 0)) (recX hC hG) (gV q_386 q_388 q_p5 q_1 q_389) rfl rfl ⟨rfl, hdyX_hundredthsOf⟩ ⟨Nat.le_of_ble_eq_true rfl, Nat.le_of_ble_eq_true rfl⟩ hl.1 rfl (Nat.le_of_ble_eq_true rfl) dX_settle_22 ⟨Nat.le_of_ble_eq_true rfl, Nat.le_of_ble_eq_true rfl⟩ ⟨Nat.le_of_ble_eq_true rfl, Nat.le_of_ble_eq_true rfl⟩ (fun h => by rw [fX_settle, bndq_s h_1, bnd_0 h_2, bnd_n h] <;> rfl) (fun h_3 H locs hG hS => ?_)
  refine lv_imul hx hb dX_settle_25 ?_
  refine lv_bipush (v := 100) hx hb dX_settle_26 (by decide) ?_
  refine lv_idiv hx hb dX_settle_28 (by decide) ?_
  refine lv_istore (lv' := [(4, .int (((sA (4 * i + 11) 6) * ((fX_hundredthsOf sL sA (sA (4 * i + 11) 0)).2)) / 100)), (3, .int (sA (4 * i + 11) 6)), (2, .ref (ad (4 * i + 11))), (0, .ref (ad 0)), (1, .int (nI i))]) hx hb dX_settle_29 hl (by decide) rfl (fun ls hl => ?_)
  refine lv_aload_n hx hb dX_settle_31 rfl (lv_at hl 2 rfl) ?_
  refine rcS2 (rest := []) (As := [.ref (ad (4 * i + 11))]) hx hb hml hown hts hC hG hS (cX_shareOf l D tI tJ tL A sg ad n sL sA i hi) (gS q_390 q_391 q_1 q_392) rfl rfl ⟨rfl, hdyX_shareOf⟩ ⟨Nat.le_of_ble_eq_true rfl, Nat.le_of_ble_eq_true rfl⟩ hl.1 rfl (Nat.le_of_ble_eq_true rfl) dX_settle_32 ⟨Nat.le_of_ble_eq_true rfl, Nat.le_of_ble_eq_true rfl⟩ ?_
  refine lv_istore (lv' := [(5, .int (fX_shareOf sL sA i)), (4, .int (((sA (4 * i + 11) 6) * ((fX_hundredthsOf sL sA (sA (4 * i + 11) 0)).2)) / 100)), (3, .int (sA (4 * i + 11) 6)), (2, .ref (ad (4 * i + 11))), (0, .ref (ad 0)), (1, .int (nI i))]) hx hb dX_settle_35 hl (by decide) rfl (fun ls hl => ?_)
  refine lv_aload_n hx hb dX_settle_37 rfl (lv_at hl 4 rfl) ?_
  refine lv_aload_n hx hb dX_settle_38 rfl (lv_at hl 3 rfl) ?_
  refine rcV2 (rest := []) (As := [.ref (ad (4 * i + 11))]) hx hb hml hown hts hC hG hS (cX_interestOf l D tI tJ tL A sg ad n sL sA i hi) (recX hC hG) (gV q_397 q_399 q_p6 q_1 q_400) rfl rfl ⟨rfl, hdyX_interestOf⟩ ⟨Nat.le_of_ble_eq_true rfl, Nat.le_of_ble_eq_true rfl⟩ hl.1 rfl (Nat.le_of_ble_eq_true rfl) dX_settle_39 ⟨Nat.le_of_ble_eq_true rfl, Nat.le_of_ble_eq_true rfl⟩ ?_
  refine lv_istore (lv' := [(6, .int (fX_interestOf sL sA i)), (5, .int (fX_shareOf sL sA i)), (4, .int (((sA (4 * i + 11) 6) * ((fX_hundredthsOf sL sA (sA (4 * i + 11) 0)).2)) / 100)), (3, .int (sA (4 * i + 11) 6)), (2, .ref (ad (4 * i + 11))), (0, .ref (ad 0)), (1, .int (nI i))]) hx hb dX_settle_42 hl (by decide) rfl (fun ls hl => ?_)
  refine lv_iload_n hx hb dX_settle_44 rfl (lv_at hl 3 rfl) ?_
  refine lv_iload hx hb dX_settle_45 (lv_at hl 2 rfl) ?_
  refine lv_isub hx hb dX_settle_47 ?_
  refine lv_iload hx hb dX_settle_48 (lv_at hl 1 rfl) ?_
  refine lv_isub hx hb dX_settle_50 ?_
  refine lv_aload_n hx hb dX_settle_51 rfl (lv_at hl 4 rfl) ?_
  refine rl_getN (v := .int (sA (4 * i + 11) 10)) hx hb hts hown hC hG 10 hi (by decide) z_254 (rfl) dX_settle_52 ?_
  refine lv_isub hx hb dX_settle_55 ?_
  refine lv_iload hx hb dX_settle_56 (lv_at hl 0 rfl) ?_
  refine lv_isub hx hb dX_settle_58 ?_
  refine lv_istore (lv' := [(7, .int (((((sA (4 * i + 11) 6) - (((sA (4 * i + 11) 6) * ((fX_hundredthsOf sL sA (sA (4 * i + 11) 0)).2)) / 100)) - (fX_shareOf sL sA i)) - (sA (4 * i + 11) 10)) - (fX_interestOf sL sA i))), (6, .int (fX_interestOf sL sA i)), (5, .int (fX_shareOf sL sA i)), (4, .int (((sA (4 * i + 11) 6) * ((fX_hundredthsOf sL sA (sA (4 * i + 11) 0)).2)) / 100)), (3, .int (sA (4 * i + 11) 6)), (2, .ref (ad (4 * i + 11))), (0, .ref (ad 0)), (1, .int (nI i))]) hx hb dX_settle_59 hl (by decide) rfl (fun ls hl => ?_)
  refine lv_aload_n hx hb dX_settle_61 rfl (lv_at hl 6 rfl) ?_
  refine lv_dup hx hb dX_settle_62 rfl ?_
  refine rx_get (v := .long (sL 0 7)) hx hb hts hown hC hG 7 (by decide) q_28 (rfl) dX_settle_63 ?_
  refine lv_iload hx hb dX_settle_66 (lv_at hl 0 rfl) ?_
  refine lv_iload hx hb dX_settle_68 (lv_at hl 2 rfl) ?_
  refine lv_iadd hx hb dX_settle_70 ?_
  refine lv_i2l (v := ((((((sA (4 * i + 11) 6) - (((sA (4 * i + 11) 6) * ((fX_hundredthsOf sL sA (sA (4 * i + 11) 0)).2)) / 100)) - (fX_shareOf sL sA i)) - (sA (4 * i + 11) 10)) - (fX_interestOf sL sA i)) + (fX_shareOf sL sA i) : Int32).toInt64) hx hb dX_settle_71 rfl ?_
  refine lv_ladd hx hb dX_settle_72 ?_
  refine rx_putl hx hb hts hown hC hG hS 7 (by decide) q_28 dX_settle_73 (fun H locs hG hS => ?_)
  refine lv_aload_n hx hb dX_settle_76 rfl (lv_at hl 6 rfl) ?_
  refine lv_dup hx hb dX_settle_77 rfl ?_
  refine rx_get (v := .long (sL 0 8)) hx hb hts hown hC hG 8 (by decide) q_29 (by simp [xfs, up2, upd, up2L, vp_updL]) dX_settle_78 ?_
  refine lv_iload hx hb dX_settle_81 (lv_at hl 3 rfl) ?_
  refine lv_iload hx hb dX_settle_83 (lv_at hl 1 rfl) ?_
  refine lv_iadd hx hb dX_settle_85 ?_
  refine lv_i2l (v := ((((sA (4 * i + 11) 6) * ((fX_hundredthsOf sL sA (sA (4 * i + 11) 0)).2)) / 100) + (fX_interestOf sL sA i) : Int32).toInt64) hx hb dX_settle_86 rfl ?_
  refine lv_ladd hx hb dX_settle_87 ?_
  refine rx_putl hx hb hts hown hC hG hS 8 (by decide) q_29 dX_settle_88 (fun H locs hG hS => ?_)
  refine lv_aload_n hx hb dX_settle_91 rfl (lv_at hl 5 rfl) ?_
  refine lv_iload hx hb dX_settle_92 (lv_at hl 1 rfl) ?_
  refine rl_putN hx hb hts hown hC hG hS 12 hi (by decide) (by decide) z_256 dX_settle_94 (fun H locs hG hS => ?_)
  refine lv_aload_n hx hb dX_settle_97 rfl (lv_at hl 5 rfl) ?_
  refine lv_iconst (v := 4) hx hb dX_settle_98 (by decide) ?_
  refine rl_putN hx hb hts hown hC hG hS 4 hi (by decide) (by decide) z_244 dX_settle_99 (fun H locs hG hS => ?_)
  refine lv_iload hx hb dX_settle_102 (lv_at hl 0 rfl) ?_
  refine vx_ret ?_
  refine W.widen (k := 3) (n := 18) (Nat.le_of_ble_eq_true rfl) (Nat.le_of_ble_eq_true rfl) ?_
  exact W.iret (v := ((((sA (4 * i + 11) 6) - (((sA (4 * i + 11) 6) * ((fX_hundredthsOf sL sA (sA (4 * i + 11) 0)).2)) / 100)) - (fX_shareOf sL sA i)) - (sA (4 * i + 11) 10)) - (fX_interestOf sL sA i)) hx hb hr (fun t ht hW => ⟨⟨(((((sA (4 * i + 11) 6) - (((sA (4 * i + 11) 6) * ((fX_hundredthsOf sL sA (sA (4 * i + 11) 0)).2)) / 100)) - (fX_shareOf sL sA i)) - (sA (4 * i + 11) 10)) - (fX_interestOf sL sA i)), ((up2L (up2L sL 0 7 ((sL 0 7) + (((((((sA (4 * i + 11) 6) - (((sA (4 * i + 11) 6) * ((fX_hundredthsOf sL sA (sA (4 * i + 11) 0)).2)) / 100)) - (fX_shareOf sL sA i)) - (sA (4 * i + 11) 10)) - (fX_interestOf sL sA i)) + (fX_shareOf sL sA i) : Int32).toInt64))) 0 8 ((sL 0 8) + (((((sA (4 * i + 11) 6) * ((fX_hundredthsOf sL sA (sA (4 * i + 11) 0)).2)) / 100) + (fX_interestOf sL sA i) : Int32).toInt64))), (up2 (up2 sA (4 * i + 11) 12 (fX_interestOf sL sA i)) (4 * i + 11) 4 4)), rfl, (by rw [fX_settle, bndq_s h_1, bnd_0 h_2, bnd_0 h_3] <;> rfl), gw_at hG ht⟩, hS.F ht⟩) hS.2.2 dX_settle_104
def fX_commission (sL : NL) (sA : NA) (p0 : Int32) (p1 : Int32) : Nat × Int32 × NL × NA := bnd (fX_checkSeller p0) (bnd (fX_checkRange p1 0 50) ((0, sA 2 p0.toNatClampNeg, sL, (up2 sA 2 p0.toNatClampNeg p1))) (0, sL, sA)) (0, sL, sA)
theorem hdyX_commission : yX_commission.cls ≠ "java/lang/invoke/MethodHandle" ∧ yX_commission.cls ≠ "java/lang/invoke/VarHandle" ∧ (parseMethodDescriptor yX_commission.desc).map (fun d => d.parameters.length) = some 2 := by decide +kernel
theorem dX_commission_0 : decode bX_commission 0 = .ok (.iload_n 1, 1) := by decide +kernel
theorem dX_commission_1 : decode bX_commission 1 = .ok (.invokestatic 26, 3) := by decide +kernel
theorem dX_commission_4 : decode bX_commission 4 = .ok (.iload_n 2, 1) := by decide +kernel
theorem dX_commission_5 : decode bX_commission 5 = .ok (.iconst 0, 1) := by decide +kernel
theorem dX_commission_6 : decode bX_commission 6 = .ok (.bipush 50, 2) := by decide +kernel
theorem dX_commission_8 : decode bX_commission 8 = .ok (.invokestatic 31, 3) := by decide +kernel
theorem dX_commission_11 : decode bX_commission 11 = .ok (.aload_n 0, 1) := by decide +kernel
theorem dX_commission_12 : decode bX_commission 12 = .ok (.getfield 15, 3) := by decide +kernel
theorem dX_commission_15 : decode bX_commission 15 = .ok (.iload_n 1, 1) := by decide +kernel
theorem dX_commission_16 : decode bX_commission 16 = .ok (.iaload, 1) := by decide +kernel
theorem dX_commission_17 : decode bX_commission 17 = .ok (.istore_n 3, 1) := by decide +kernel
theorem dX_commission_18 : decode bX_commission 18 = .ok (.aload_n 0, 1) := by decide +kernel
theorem dX_commission_19 : decode bX_commission 19 = .ok (.getfield 15, 3) := by decide +kernel
theorem dX_commission_22 : decode bX_commission 22 = .ok (.iload_n 1, 1) := by decide +kernel
theorem dX_commission_23 : decode bX_commission 23 = .ok (.iload_n 2, 1) := by decide +kernel
theorem dX_commission_24 : decode bX_commission 24 = .ok (.iastore, 1) := by decide +kernel
theorem dX_commission_25 : decode bX_commission 25 = .ok (.iload_n 3, 1) := by decide +kernel
theorem dX_commission_26 : decode bX_commission 26 = .ok (.ireturn, 1) := by decide +kernel
set_option maxHeartbeats 4000000 in
set_option maxRecDepth 100000 in
theorem cX_commission (l : Launch) (hl9 : l.stackTraces = false) (D : va_G) (tI tJ tL : ClassId) (A : Nat → Prop) (sg ad : Nat → Nat) (n : Nat) (sL : NL) (sA : NA) (p0 : Int32) (p1 : Int32) : vx_Met l yX_commission (Cond.code yX_commission bX_commission 4 (some FieldType.int) :: wNeed) { frames := 7, cells := 2, slots := 12, locals := 112 } (va_Pc [.ref (ad 0), .int p0, .int p1] (GP D tI tJ tL A sg ad n sL sA)) (va_Qi (fun r (u : NL × NA) => fX_commission sL sA p0 p1 = (0, r, u.1, u.2)) (fun u t => GW D tI tJ tL A ad n u.1 u.2 t.heap) A) (XQ D tI tJ tL A ad n sL sA (fX_commission sL sA p0 p1).1) 2 12 A := by
  refine en_XG (av := [.ref (ad 0), .int p0, .int p1]) (by decide) (Nat.le_of_ble_eq_true rfl) ?_
  intro p e s m below meth c hx hb hml hown hts hr hlocks hT hC H locs hG hS ls hl
  replace hl : lv_has ls 4 [(0, .ref (ad 0)), (1, .int p0), (2, .int p1)] := hl
  refine lv_iload_n hx hb dX_commission_0 rfl (lv_at hl 1 rfl) ?_
  refine rcS4 (rest := []) (As := [.int p0]) (Mc := 2) (Ms := 12) hx hb hml hown hts hC hG hS hlocks hT (cX_checkSeller l hl9 D tI tJ tL A sg ad n sL sA p0) (gS q_54 q_55 q_1 q_56) rfl rfl ⟨rfl, hdyX_checkSeller⟩ ⟨Nat.le_of_ble_eq_true rfl, Nat.le_of_ble_eq_true rfl⟩ hl.1 rfl (Nat.le_of_ble_eq_true rfl) dX_commission_1 ⟨Nat.le_of_ble_eq_true rfl, Nat.le_of_ble_eq_true rfl⟩ ⟨Nat.le_of_ble_eq_true rfl, Nat.le_of_ble_eq_true rfl⟩ (fun h => by rw [fX_commission, bnd_n h] <;> rfl) (fun h_1 H locs hG hS => ?_)
  refine lv_iload_n hx hb dX_commission_4 rfl (lv_at hl 2 rfl) ?_
  refine lv_iconst (v := 0) hx hb dX_commission_5 (by decide) ?_
  refine lv_bipush (v := 50) hx hb dX_commission_6 (by decide) ?_
  refine rcS4 (rest := []) (As := [.int p1, .int 0, .int 50]) (Mc := 2) (Ms := 12) hx hb hml hown hts hC hG hS hlocks hT (cX_checkRange l hl9 D tI tJ tL A sg ad n sL sA p1 0 50) (gS q_125 q_126 q_1 q_127) rfl rfl ⟨rfl, hdyX_checkRange⟩ ⟨Nat.le_of_ble_eq_true rfl, Nat.le_of_ble_eq_true rfl⟩ hl.1 rfl (Nat.le_of_ble_eq_true rfl) dX_commission_8 ⟨Nat.le_of_ble_eq_true rfl, Nat.le_of_ble_eq_true rfl⟩ ⟨Nat.le_of_ble_eq_true rfl, Nat.le_of_ble_eq_true rfl⟩ (fun h => by rw [fX_commission, bnd_0 h_1, bnd_n h] <;> rfl) (fun h_2 H locs hG hS => ?_)
  refine lv_aload_n hx hb dX_commission_11 rfl (lv_at hl 0 rfl) ?_
  refine rx_get (v := .ref (ad 2)) hx hb hts hown hC hG 1 (by decide) q_22 (rfl) dX_commission_12 ?_
  refine lv_iload_n hx hb dX_commission_15 rfl (lv_at hl 1 rfl) ?_
  refine ra_ld hx hb hC hG 2 6 (by omega) (fun _ _ => rfl) (vin_seller h_1) dX_commission_16 ?_
  refine lv_istore_n (lv' := [(3, .int (sA 2 p0.toNatClampNeg)), (0, .ref (ad 0)), (1, .int p0), (2, .int p1)]) hx hb dX_commission_17 rfl hl (by decide) rfl (fun ls hl => ?_)
  refine lv_aload_n hx hb dX_commission_18 rfl (lv_at hl 1 rfl) ?_
  refine rx_get (v := .ref (ad 2)) hx hb hts hown hC hG 1 (by decide) q_22 (rfl) dX_commission_19 ?_
  refine lv_iload_n hx hb dX_commission_22 rfl (lv_at hl 2 rfl) ?_
  refine lv_iload_n hx hb dX_commission_23 rfl (lv_at hl 3 rfl) ?_
  refine ra_st hx hb hC hG hS 2 6 (by omega) (fun _ _ => rfl) (vin_seller h_1) dX_commission_24 (fun H locs hG hS => ?_)
  refine lv_iload_n hx hb dX_commission_25 rfl (lv_at hl 0 rfl) ?_
  refine vx_ret ?_
  refine W.widen (k := 2) (n := 12) (Nat.le_of_ble_eq_true rfl) (Nat.le_of_ble_eq_true rfl) ?_
  exact W.iret (v := sA 2 p0.toNatClampNeg) hx hb hr (fun t ht hW => ⟨⟨(sA 2 p0.toNatClampNeg), (sL, (up2 sA 2 p0.toNatClampNeg p1)), rfl, (by rw [fX_commission, bnd_0 h_1, bnd_0 h_2] <;> rfl), gw_at hG ht⟩, hS.F ht⟩) hS.2.2 dX_commission_26
def fX_rate (sL : NL) (sA : NA) (p0 : Int32) : Nat × Int32 × NL × NA := bnd (fX_checkRange p0 0 100) ((0, sA 0 5, sL, (up2 sA 0 5 p0))) (0, sL, sA)
theorem hdyX_rate : yX_rate.cls ≠ "java/lang/invoke/MethodHandle" ∧ yX_rate.cls ≠ "java/lang/invoke/VarHandle" ∧ (parseMethodDescriptor yX_rate.desc).map (fun d => d.parameters.length) = some 1 := by decide +kernel
theorem dX_rate_0 : decode bX_rate 0 = .ok (.iload_n 1, 1) := by decide +kernel
theorem dX_rate_1 : decode bX_rate 1 = .ok (.iconst 0, 1) := by decide +kernel
theorem dX_rate_2 : decode bX_rate 2 = .ok (.bipush 100, 2) := by decide +kernel
theorem dX_rate_4 : decode bX_rate 4 = .ok (.invokestatic 31, 3) := by decide +kernel
theorem dX_rate_7 : decode bX_rate 7 = .ok (.aload_n 0, 1) := by decide +kernel
theorem dX_rate_8 : decode bX_rate 8 = .ok (.getfield 22, 3) := by decide +kernel
theorem dX_rate_11 : decode bX_rate 11 = .ok (.istore_n 2, 1) := by decide +kernel
theorem dX_rate_12 : decode bX_rate 12 = .ok (.aload_n 0, 1) := by decide +kernel
theorem dX_rate_13 : decode bX_rate 13 = .ok (.iload_n 1, 1) := by decide +kernel
theorem dX_rate_14 : decode bX_rate 14 = .ok (.putfield 22, 3) := by decide +kernel
theorem dX_rate_17 : decode bX_rate 17 = .ok (.iload_n 2, 1) := by decide +kernel
theorem dX_rate_18 : decode bX_rate 18 = .ok (.ireturn, 1) := by decide +kernel
set_option maxHeartbeats 4000000 in
set_option maxRecDepth 100000 in
theorem cX_rate (l : Launch) (hl9 : l.stackTraces = false) (D : va_G) (tI tJ tL : ClassId) (A : Nat → Prop) (sg ad : Nat → Nat) (n : Nat) (sL : NL) (sA : NA) (p0 : Int32) : vx_Met l yX_rate (Cond.code yX_rate bX_rate 3 (some FieldType.int) :: wNeed) { frames := 7, cells := 1, slots := 6, locals := 112 } (va_Pc [.ref (ad 0), .int p0] (GP D tI tJ tL A sg ad n sL sA)) (va_Qi (fun r (u : NL × NA) => fX_rate sL sA p0 = (0, r, u.1, u.2)) (fun u t => GW D tI tJ tL A ad n u.1 u.2 t.heap) A) (XQ D tI tJ tL A ad n sL sA (fX_rate sL sA p0).1) 1 6 A := by
  refine en_XG (av := [.ref (ad 0), .int p0]) (by decide) (Nat.le_of_ble_eq_true rfl) ?_
  intro p e s m below meth c hx hb hml hown hts hr hlocks hT hC H locs hG hS ls hl
  replace hl : lv_has ls 3 [(0, .ref (ad 0)), (1, .int p0)] := hl
  refine lv_iload_n hx hb dX_rate_0 rfl (lv_at hl 1 rfl) ?_
  refine lv_iconst (v := 0) hx hb dX_rate_1 (by decide) ?_
  refine lv_bipush (v := 100) hx hb dX_rate_2 (by decide) ?_
  refine rcS4 (rest := []) (As := [.int p0, .int 0, .int 100]) (Mc := 1) (Ms := 6) hx hb hml hown hts hC hG hS hlocks hT (cX_checkRange l hl9 D tI tJ tL A sg ad n sL sA p0 0 100) (gS q_125 q_126 q_1 q_127) rfl rfl ⟨rfl, hdyX_checkRange⟩ ⟨Nat.le_of_ble_eq_true rfl, Nat.le_of_ble_eq_true rfl⟩ hl.1 rfl (Nat.le_of_ble_eq_true rfl) dX_rate_4 ⟨Nat.le_of_ble_eq_true rfl, Nat.le_of_ble_eq_true rfl⟩ ⟨Nat.le_of_ble_eq_true rfl, Nat.le_of_ble_eq_true rfl⟩ (fun h => by rw [fX_rate, bnd_n h] <;> rfl) (fun h_1 H locs hG hS => ?_)
  refine lv_aload_n hx hb dX_rate_7 rfl (lv_at hl 0 rfl) ?_
  refine rx_get (v := .int (sA 0 5)) hx hb hts hown hC hG 5 (by decide) q_26 (rfl) dX_rate_8 ?_
  refine lv_istore_n (lv' := [(2, .int (sA 0 5)), (0, .ref (ad 0)), (1, .int p0)]) hx hb dX_rate_11 rfl hl (by decide) rfl (fun ls hl => ?_)
  refine lv_aload_n hx hb dX_rate_12 rfl (lv_at hl 1 rfl) ?_
  refine lv_iload_n hx hb dX_rate_13 rfl (lv_at hl 2 rfl) ?_
  refine rx_puti hx hb hts hown hC hG hS 5 (by decide) q_26 dX_rate_14 (fun H locs hG hS => ?_)
  refine lv_iload_n hx hb dX_rate_17 rfl (lv_at hl 0 rfl) ?_
  refine vx_ret ?_
  refine W.widen (k := 1) (n := 6) (Nat.le_of_ble_eq_true rfl) (Nat.le_of_ble_eq_true rfl) ?_
  exact W.iret (v := sA 0 5) hx hb hr (fun t ht hW => ⟨⟨(sA 0 5), (sL, (up2 sA 0 5 p0)), rfl, (by rw [fX_rate, bnd_0 h_1] <;> rfl), gw_at hG ht⟩, hS.F ht⟩) hS.2.2 dX_rate_18
def fX_days (sL : NL) (sA : NA) (p0 : Int32) : Nat × Int32 × NL × NA := bnd (fX_checkRange p0 1 200) (if ((sA 0 4) + p0) ≤ 7300 then (0, (sA 0 4) + p0, sL, (up2 sA 0 4 ((sA 0 4) + p0))) else (3, 0, sL, sA)) (0, sL, sA)
theorem hdyX_days : yX_days.cls ≠ "java/lang/invoke/MethodHandle" ∧ yX_days.cls ≠ "java/lang/invoke/VarHandle" ∧ (parseMethodDescriptor yX_days.desc).map (fun d => d.parameters.length) = some 1 := by decide +kernel
theorem dX_days_0 : decode bX_days 0 = .ok (.iload_n 1, 1) := by decide +kernel
theorem dX_days_1 : decode bX_days 1 = .ok (.iconst 1, 1) := by decide +kernel
theorem dX_days_2 : decode bX_days 2 = .ok (.sipush 200, 3) := by decide +kernel
theorem dX_days_5 : decode bX_days 5 = .ok (.invokestatic 31, 3) := by decide +kernel
theorem dX_days_8 : decode bX_days 8 = .ok (.aload_n 0, 1) := by decide +kernel
theorem dX_days_9 : decode bX_days 9 = .ok (.getfield 104, 3) := by decide +kernel
theorem dX_days_12 : decode bX_days 12 = .ok (.iload_n 1, 1) := by decide +kernel
theorem dX_days_13 : decode bX_days 13 = .ok (.iadd, 1) := by decide +kernel
theorem dX_days_14 : decode bX_days 14 = .ok (.sipush 7300, 3) := by decide +kernel
theorem dX_days_17 : decode bX_days 17 = .ok (.if_icmp .le 13, 3) := by decide +kernel
theorem dX_days_20 : decode bX_days 20 = .ok (.new 41, 3) := by decide +kernel
theorem dX_days_23 : decode bX_days 23 = .ok (.dup, 1) := by decide +kernel
theorem dX_days_24 : decode bX_days 24 = .ok (.ldc 171, 2) := by decide +kernel
theorem dX_days_26 : decode bX_days 26 = .ok (.invokespecial 45, 3) := by decide +kernel
theorem dX_days_29 : decode bX_days 29 = .ok (.athrow, 1) := by decide +kernel
theorem dX_days_30 : decode bX_days 30 = .ok (.aload_n 0, 1) := by decide +kernel
theorem dX_days_31 : decode bX_days 31 = .ok (.dup, 1) := by decide +kernel
theorem dX_days_32 : decode bX_days 32 = .ok (.getfield 104, 3) := by decide +kernel
theorem dX_days_35 : decode bX_days 35 = .ok (.iload_n 1, 1) := by decide +kernel
theorem dX_days_36 : decode bX_days 36 = .ok (.iadd, 1) := by decide +kernel
theorem dX_days_37 : decode bX_days 37 = .ok (.putfield 104, 3) := by decide +kernel
theorem dX_days_40 : decode bX_days 40 = .ok (.aload_n 0, 1) := by decide +kernel
theorem dX_days_41 : decode bX_days 41 = .ok (.getfield 104, 3) := by decide +kernel
theorem dX_days_44 : decode bX_days 44 = .ok (.ireturn, 1) := by decide +kernel
set_option maxHeartbeats 4000000 in
set_option maxRecDepth 100000 in
theorem cX_days (l : Launch) (hl9 : l.stackTraces = false) (D : va_G) (tI tJ tL : ClassId) (A : Nat → Prop) (sg ad : Nat → Nat) (n : Nat) (sL : NL) (sA : NA) (p0 : Int32) : vx_Met l yX_days (Cond.code yX_days bX_days 2 (some FieldType.int) :: wNeed) { frames := 7, cells := 2, slots := 12, locals := 112 } (va_Pc [.ref (ad 0), .int p0] (GP D tI tJ tL A sg ad n sL sA)) (va_Qi (fun r (u : NL × NA) => fX_days sL sA p0 = (0, r, u.1, u.2)) (fun u t => GW D tI tJ tL A ad n u.1 u.2 t.heap) A) (XQ D tI tJ tL A ad n sL sA (fX_days sL sA p0).1) 2 12 A := by
  refine en_XG (av := [.ref (ad 0), .int p0]) (by decide) (Nat.le_of_ble_eq_true rfl) ?_
  intro p e s m below meth c hx hb hml hown hts hr hlocks hT hC H locs hG hS ls hl
  replace hl : lv_has ls 2 [(0, .ref (ad 0)), (1, .int p0)] := hl
  refine lv_iload_n hx hb dX_days_0 rfl (lv_at hl 1 rfl) ?_
  refine lv_iconst (v := 1) hx hb dX_days_1 (by decide) ?_
  refine lv_sipush (v := 200) hx hb dX_days_2 (by decide) ?_
  refine rcS4 (rest := []) (As := [.int p0, .int 1, .int 200]) (Mc := 2) (Ms := 12) hx hb hml hown hts hC hG hS hlocks hT (cX_checkRange l hl9 D tI tJ tL A sg ad n sL sA p0 1 200) (gS q_125 q_126 q_1 q_127) rfl rfl ⟨rfl, hdyX_checkRange⟩ ⟨Nat.le_of_ble_eq_true rfl, Nat.le_of_ble_eq_true rfl⟩ hl.1 rfl (Nat.le_of_ble_eq_true rfl) dX_days_5 ⟨Nat.le_of_ble_eq_true rfl, Nat.le_of_ble_eq_true rfl⟩ ⟨Nat.le_of_ble_eq_true rfl, Nat.le_of_ble_eq_true rfl⟩ (fun h => by rw [fX_days, bnd_n h] <;> rfl) (fun h_1 H locs hG hS => ?_)
  refine lv_aload_n hx hb dX_days_8 rfl (lv_at hl 0 rfl) ?_
  refine rx_get (v := .int (sA 0 4)) hx hb hts hown hC hG 4 (by decide) q_25 (rfl) dX_days_9 ?_
  refine lv_iload_n hx hb dX_days_12 rfl (lv_at hl 1 rfl) ?_
  refine lv_iadd hx hb dX_days_13 ?_
  refine lv_sipush (v := 7300) hx hb dX_days_14 (by decide) ?_
  refine lv_icmp_le (tgt := 30) hx hb dX_days_17 (by decide) (fun c_2 => ?_) (fun c_2 => ?_)
  · refine lv_aload_n hx hb dX_days_30 rfl (lv_at hl 0 rfl) ?_
    refine lv_dup hx hb dX_days_31 rfl ?_
    refine rx_get (v := .int (sA 0 4)) hx hb hts hown hC hG 4 (by decide) q_25 (rfl) dX_days_32 ?_
    refine lv_iload_n hx hb dX_days_35 rfl (lv_at hl 1 rfl) ?_
    refine lv_iadd hx hb dX_days_36 ?_
    refine rx_puti hx hb hts hown hC hG hS 4 (by decide) q_25 dX_days_37 (fun H locs hG hS => ?_)
    refine lv_aload_n hx hb dX_days_40 rfl (lv_at hl 0 rfl) ?_
    refine rx_get (v := .int ((sA 0 4) + p0)) hx hb hts hown hC hG 4 (by decide) q_25 (by simp [xfs, up2, upd, up2L, vp_updL]) dX_days_41 ?_
    refine vx_ret ?_
    refine W.widen (k := 2) (n := 12) (Nat.le_of_ble_eq_true rfl) (Nat.le_of_ble_eq_true rfl) ?_
    exact W.iret (v := (sA 0 4) + p0) hx hb hr (fun t ht hW => ⟨⟨((sA 0 4) + p0), (sL, (up2 sA 0 4 ((sA 0 4) + p0))), rfl, (by rw [fX_days, bnd_0 h_1, if_pos c_2] <;> rfl), gw_at hG ht⟩, hS.F ht⟩) hS.2.2 dX_days_44
  · exact rc_throw (text := "the last day would be behind") hx hb hts hown hC hG hS hl9 hlocks hT (Or.inr (Or.inr ⟨rfl, by rw [fX_days, bnd_0 h_1, if_neg c_2] <;> rfl⟩)) (by decide +kernel) q_190 q_8 (by decide) at_S (hl.1.trans hml.symm) dX_days_20 dX_days_23 dX_days_24 dX_days_26 dX_days_29 (Nat.le_of_ble_eq_true rfl) (Nat.le_of_ble_eq_true rfl) (Nat.le_of_ble_eq_true rfl) (Nat.le_of_ble_eq_true rfl) (Nat.le_of_ble_eq_true rfl) (Nat.le_of_ble_eq_true rfl)
def fX_state (n : Nat) (sL : NL) (sA : NA) (p0 : Int32) : Nat × Int32 × NL × NA := bndq (fX_findLot n p0) (fun i => (0, sA (4 * i + 11) 4, sL, sA)) (0, sL, sA)
theorem hdyX_state : yX_state.cls ≠ "java/lang/invoke/MethodHandle" ∧ yX_state.cls ≠ "java/lang/invoke/VarHandle" ∧ (parseMethodDescriptor yX_state.desc).map (fun d => d.parameters.length) = some 1 := by decide +kernel
theorem dX_state_0 : decode bX_state 0 = .ok (.aload_n 0, 1) := by decide +kernel
theorem dX_state_1 : decode bX_state 1 = .ok (.iload_n 1, 1) := by decide +kernel
theorem dX_state_2 : decode bX_state 2 = .ok (.invokevirtual 54, 3) := by decide +kernel
theorem dX_state_5 : decode bX_state 5 = .ok (.getfield 85, 3) := by decide +kernel
theorem dX_state_8 : decode bX_state 8 = .ok (.ireturn, 1) := by decide +kernel
set_option maxHeartbeats 4000000 in
set_option maxRecDepth 100000 in
theorem cX_state (l : Launch) (hl9 : l.stackTraces = false) (D : va_G) (tI tJ tL : ClassId) (A : Nat → Prop) (sg ad : Nat → Nat) (n : Nat) (sL : NL) (sA : NA) (p0 : Int32) : vx_Met l yX_state (Cond.code yX_state bX_state 2 (some FieldType.int) :: wNeed) { frames := 7, cells := 1, slots := 6, locals := 112 } (va_Pc [.ref (ad 0), .int p0] (GP D tI tJ tL A sg ad n sL sA)) (va_Qi (fun r (u : NL × NA) => fX_state n sL sA p0 = (0, r, u.1, u.2)) (fun u t => GW D tI tJ tL A ad n u.1 u.2 t.heap) A) (XQ D tI tJ tL A ad n sL sA (fX_state n sL sA p0).1) 1 6 A := by
  refine en_XG (av := [.ref (ad 0), .int p0]) (by decide) (Nat.le_of_ble_eq_true rfl) ?_
  intro p e s m below meth c hx hb hml hown hts hr hlocks hT hC H locs hG hS ls hl
  replace hl : lv_has ls 2 [(0, .ref (ad 0)), (1, .int p0)] := hl
  refine lv_aload_n hx hb dX_state_0 rfl (lv_at hl 0 rfl) ?_
  refine lv_iload_n hx hb dX_state_1 rfl (lv_at hl 1 rfl) ?_
  refine rcV5q (rest := []) (As := [.int p0]) (p0 := p0) (Mc := 1) (Ms := 6) hx hb hml hown hts hC hG hS hlocks hT (cX_findLot l hl9 D tI tJ tL A sg ad n sL sA p0) (recX hC hG) (gV q_288 q_290 q_p1 q_1 q_291) rfl rfl ⟨rfl, hdyX_findLot⟩ ⟨Nat.le_of_ble_eq_true rfl, Nat.le_of_ble_eq_true rfl⟩ hl.1 rfl (Nat.le_of_ble_eq_true rfl) dX_state_2 ⟨Nat.le_of_ble_eq_true rfl, Nat.le_of_ble_eq_true rfl⟩ ⟨Nat.le_of_ble_eq_true rfl, Nat.le_of_ble_eq_true rfl⟩ (fun h => by rw [fX_state, bndq_n h] <;> rfl) (fun i h_1 hi hp H locs hG hS => ?_)
  subst hp
  refine rl_getN (v := .int (sA (4 * i + 11) 4)) hx hb hts hown hC hG 4 hi (by decide) z_244 (rfl) dX_state_5 ?_
  refine vx_ret ?_
  refine W.widen (k := 1) (n := 6) (Nat.le_of_ble_eq_true rfl) (Nat.le_of_ble_eq_true rfl) ?_
  exact W.iret (v := sA (4 * i + 11) 4) hx hb hr (fun t ht hW => ⟨⟨(sA (4 * i + 11) 4), (sL, sA), rfl, (by rw [fX_state, bndq_s h_1] <;> rfl), gw_at hG ht⟩, hS.F ht⟩) hS.2.2 dX_state_8
def fX_buyerOf (n : Nat) (sL : NL) (sA : NA) (p0 : Int32) : Nat × Int32 × NL × NA := bndq (fX_findLot n p0) (fun i => (0, sA (4 * i + 11) 5, sL, sA)) (0, sL, sA)
theorem hdyX_buyerOf : yX_buyerOf.cls ≠ "java/lang/invoke/MethodHandle" ∧ yX_buyerOf.cls ≠ "java/lang/invoke/VarHandle" ∧ (parseMethodDescriptor yX_buyerOf.desc).map (fun d => d.parameters.length) = some 1 := by decide +kernel
theorem dX_buyerOf_0 : decode bX_buyerOf 0 = .ok (.aload_n 0, 1) := by decide +kernel
theorem dX_buyerOf_1 : decode bX_buyerOf 1 = .ok (.iload_n 1, 1) := by decide +kernel
theorem dX_buyerOf_2 : decode bX_buyerOf 2 = .ok (.invokevirtual 54, 3) := by decide +kernel
theorem dX_buyerOf_5 : decode bX_buyerOf 5 = .ok (.getfield 91, 3) := by decide +kernel
theorem dX_buyerOf_8 : decode bX_buyerOf 8 = .ok (.ireturn, 1) := by decide +kernel
set_option maxHeartbeats 4000000 in
set_option maxRecDepth 100000 in
theorem cX_buyerOf (l : Launch) (hl9 : l.stackTraces = false) (D : va_G) (tI tJ tL : ClassId) (A : Nat → Prop) (sg ad : Nat → Nat) (n : Nat) (sL : NL) (sA : NA) (p0 : Int32) : vx_Met l yX_buyerOf (Cond.code yX_buyerOf bX_buyerOf 2 (some FieldType.int) :: wNeed) { frames := 7, cells := 1, slots := 6, locals := 112 } (va_Pc [.ref (ad 0), .int p0] (GP D tI tJ tL A sg ad n sL sA)) (va_Qi (fun r (u : NL × NA) => fX_buyerOf n sL sA p0 = (0, r, u.1, u.2)) (fun u t => GW D tI tJ tL A ad n u.1 u.2 t.heap) A) (XQ D tI tJ tL A ad n sL sA (fX_buyerOf n sL sA p0).1) 1 6 A := by
  refine en_XG (av := [.ref (ad 0), .int p0]) (by decide) (Nat.le_of_ble_eq_true rfl) ?_
  intro p e s m below meth c hx hb hml hown hts hr hlocks hT hC H locs hG hS ls hl
  replace hl : lv_has ls 2 [(0, .ref (ad 0)), (1, .int p0)] := hl
  refine lv_aload_n hx hb dX_buyerOf_0 rfl (lv_at hl 0 rfl) ?_
  refine lv_iload_n hx hb dX_buyerOf_1 rfl (lv_at hl 1 rfl) ?_
  refine rcV5q (rest := []) (As := [.int p0]) (p0 := p0) (Mc := 1) (Ms := 6) hx hb hml hown hts hC hG hS hlocks hT (cX_findLot l hl9 D tI tJ tL A sg ad n sL sA p0) (recX hC hG) (gV q_288 q_290 q_p1 q_1 q_291) rfl rfl ⟨rfl, hdyX_findLot⟩ ⟨Nat.le_of_ble_eq_true rfl, Nat.le_of_ble_eq_true rfl⟩ hl.1 rfl (Nat.le_of_ble_eq_true rfl) dX_buyerOf_2 ⟨Nat.le_of_ble_eq_true rfl, Nat.le_of_ble_eq_true rfl⟩ ⟨Nat.le_of_ble_eq_true rfl, Nat.le_of_ble_eq_true rfl⟩ (fun h => by rw [fX_buyerOf, bndq_n h] <;> rfl) (fun i h_1 hi hp H locs hG hS => ?_)
  subst hp
  refine rl_getN (v := .int (sA (4 * i + 11) 5)) hx hb hts hown hC hG 5 hi (by decide) z_246 (rfl) dX_buyerOf_5 ?_
  refine vx_ret ?_
  refine W.widen (k := 1) (n := 6) (Nat.le_of_ble_eq_true rfl) (Nat.le_of_ble_eq_true rfl) ?_
  exact W.iret (v := sA (4 * i + 11) 5) hx hb hr (fun t ht hW => ⟨⟨(sA (4 * i + 11) 5), (sL, sA), rfl, (by rw [fX_buyerOf, bndq_s h_1] <;> rfl), gw_at hG ht⟩, hS.F ht⟩) hS.2.2 dX_buyerOf_8
def fX_price (n : Nat) (sL : NL) (sA : NA) (p0 : Int32) : Nat × Int32 × NL × NA := bndq (fX_findLot n p0) (fun i => (0, sA (4 * i + 11) 6, sL, sA)) (0, sL, sA)
theorem hdyX_price : yX_price.cls ≠ "java/lang/invoke/MethodHandle" ∧ yX_price.cls ≠ "java/lang/invoke/VarHandle" ∧ (parseMethodDescriptor yX_price.desc).map (fun d => d.parameters.length) = some 1 := by decide +kernel
theorem dX_price_0 : decode bX_price 0 = .ok (.aload_n 0, 1) := by decide +kernel
theorem dX_price_1 : decode bX_price 1 = .ok (.iload_n 1, 1) := by decide +kernel
theorem dX_price_2 : decode bX_price 2 = .ok (.invokevirtual 54, 3) := by decide +kernel
theorem dX_price_5 : decode bX_price 5 = .ok (.getfield 101, 3) := by decide +kernel
theorem dX_price_8 : decode bX_price 8 = .ok (.ireturn, 1) := by decide +kernel
set_option maxHeartbeats 4000000 in
set_option maxRecDepth 100000 in
theorem cX_price (l : Launch) (hl9 : l.stackTraces = false) (D : va_G) (tI tJ tL : ClassId) (A : Nat → Prop) (sg ad : Nat → Nat) (n : Nat) (sL : NL) (sA : NA) (p0 : Int32) : vx_Met l yX_price (Cond.code yX_price bX_price 2 (some FieldType.int) :: wNeed) { frames := 7, cells := 1, slots := 6, locals := 112 } (va_Pc [.ref (ad 0), .int p0] (GP D tI tJ tL A sg ad n sL sA)) (va_Qi (fun r (u : NL × NA) => fX_price n sL sA p0 = (0, r, u.1, u.2)) (fun u t => GW D tI tJ tL A ad n u.1 u.2 t.heap) A) (XQ D tI tJ tL A ad n sL sA (fX_price n sL sA p0).1) 1 6 A := by
  refine en_XG (av := [.ref (ad 0), .int p0]) (by decide) (Nat.le_of_ble_eq_true rfl) ?_
  intro p e s m below meth c hx hb hml hown hts hr hlocks hT hC H locs hG hS ls hl
  replace hl : lv_has ls 2 [(0, .ref (ad 0)), (1, .int p0)] := hl
  refine lv_aload_n hx hb dX_price_0 rfl (lv_at hl 0 rfl) ?_
  refine lv_iload_n hx hb dX_price_1 rfl (lv_at hl 1 rfl) ?_
  refine rcV5q (rest := []) (As := [.int p0]) (p0 := p0) (Mc := 1) (Ms := 6) hx hb hml hown hts hC hG hS hlocks hT (cX_findLot l hl9 D tI tJ tL A sg ad n sL sA p0) (recX hC hG) (gV q_288 q_290 q_p1 q_1 q_291) rfl rfl ⟨rfl, hdyX_findLot⟩ ⟨Nat.le_of_ble_eq_true rfl, Nat.le_of_ble_eq_true rfl⟩ hl.1 rfl (Nat.le_of_ble_eq_true rfl) dX_price_2 ⟨Nat.le_of_ble_eq_true rfl, Nat.le_of_ble_eq_true rfl⟩ ⟨Nat.le_of_ble_eq_true rfl, Nat.le_of_ble_eq_true rfl⟩ (fun h => by rw [fX_price, bndq_n h] <;> rfl) (fun i h_1 hi hp H locs hG hS => ?_)
  subst hp
  refine rl_getN (v := .int (sA (4 * i + 11) 6)) hx hb hts hown hC hG 6 hi (by decide) z_248 (rfl) dX_price_5 ?_
  refine vx_ret ?_
  refine W.widen (k := 1) (n := 6) (Nat.le_of_ble_eq_true rfl) (Nat.le_of_ble_eq_true rfl) ?_
  exact W.iret (v := sA (4 * i + 11) 6) hx hb hr (fun t ht hW => ⟨⟨(sA (4 * i + 11) 6), (sL, sA), rfl, (by rw [fX_price, bndq_s h_1] <;> rfl), gw_at hG ht⟩, hS.F ht⟩) hS.2.2 dX_price_8
def fX_bids (n : Nat) (sL : NL) (sA : NA) (p0 : Int32) : Nat × Int32 × NL × NA := bndq (fX_findLot n p0) (fun i => (0, sA (4 * i + 12) 2, sL, sA)) (0, sL, sA)
theorem hdyX_bids : yX_bids.cls ≠ "java/lang/invoke/MethodHandle" ∧ yX_bids.cls ≠ "java/lang/invoke/VarHandle" ∧ (parseMethodDescriptor yX_bids.desc).map (fun d => d.parameters.length) = some 1 := by decide +kernel
theorem dX_bids_0 : decode bX_bids 0 = .ok (.aload_n 0, 1) := by decide +kernel
theorem dX_bids_1 : decode bX_bids 1 = .ok (.iload_n 1, 1) := by decide +kernel
theorem dX_bids_2 : decode bX_bids 2 = .ok (.invokevirtual 54, 3) := by decide +kernel
theorem dX_bids_5 : decode bX_bids 5 = .ok (.getfield 65, 3) := by decide +kernel
theorem dX_bids_8 : decode bX_bids 8 = .ok (.getfield 110, 3) := by decide +kernel
theorem dX_bids_11 : decode bX_bids 11 = .ok (.ireturn, 1) := by decide +kernel
set_option maxHeartbeats 4000000 in
set_option maxRecDepth 100000 in
theorem cX_bids (l : Launch) (hl9 : l.stackTraces = false) (D : va_G) (tI tJ tL : ClassId) (A : Nat → Prop) (sg ad : Nat → Nat) (n : Nat) (sL : NL) (sA : NA) (p0 : Int32) : vx_Met l yX_bids (Cond.code yX_bids bX_bids 2 (some FieldType.int) :: wNeed) { frames := 7, cells := 1, slots := 6, locals := 112 } (va_Pc [.ref (ad 0), .int p0] (GP D tI tJ tL A sg ad n sL sA)) (va_Qi (fun r (u : NL × NA) => fX_bids n sL sA p0 = (0, r, u.1, u.2)) (fun u t => GW D tI tJ tL A ad n u.1 u.2 t.heap) A) (XQ D tI tJ tL A ad n sL sA (fX_bids n sL sA p0).1) 1 6 A := by
  refine en_XG (av := [.ref (ad 0), .int p0]) (by decide) (Nat.le_of_ble_eq_true rfl) ?_
  intro p e s m below meth c hx hb hml hown hts hr hlocks hT hC H locs hG hS ls hl
  replace hl : lv_has ls 2 [(0, .ref (ad 0)), (1, .int p0)] := hl
  refine lv_aload_n hx hb dX_bids_0 rfl (lv_at hl 0 rfl) ?_
  refine lv_iload_n hx hb dX_bids_1 rfl (lv_at hl 1 rfl) ?_
  refine rcV5q (rest := []) (As := [.int p0]) (p0 := p0) (Mc := 1) (Ms := 6) hx hb hml hown hts hC hG hS hlocks hT (cX_findLot l hl9 D tI tJ tL A sg ad n sL sA p0) (recX hC hG) (gV q_288 q_290 q_p1 q_1 q_291) rfl rfl ⟨rfl, hdyX_findLot⟩ ⟨Nat.le_of_ble_eq_true rfl, Nat.le_of_ble_eq_true rfl⟩ hl.1 rfl (Nat.le_of_ble_eq_true rfl) dX_bids_2 ⟨Nat.le_of_ble_eq_true rfl, Nat.le_of_ble_eq_true rfl⟩ ⟨Nat.le_of_ble_eq_true rfl, Nat.le_of_ble_eq_true rfl⟩ (fun h => by rw [fX_bids, bndq_n h] <;> rfl) (fun i h_1 hi hp H locs hG hS => ?_)
  subst hp
  refine rl_getN (v := .ref (ad (4 * i + 12))) hx hb hts hown hC hG 2 hi (by decide) z_240 (rfl) dX_bids_5 ?_
  refine ro_getN (v := .int (sA (4 * i + 12) 2)) hx hb hts hown hC hG 2 hi (by decide) z_227 (rfl) dX_bids_8 ?_
  refine vx_ret ?_
  refine W.widen (k := 1) (n := 6) (Nat.le_of_ble_eq_true rfl) (Nat.le_of_ble_eq_true rfl) ?_
  exact W.iret (v := sA (4 * i + 12) 2) hx hb hr (fun t ht hW => ⟨⟨(sA (4 * i + 12) 2), (sL, sA), rfl, (by rw [fX_bids, bndq_s h_1] <;> rfl), gw_at hG ht⟩, hS.F ht⟩) hS.2.2 dX_bids_11
def fX_fee (sL : NL) (sA : NA) (p0 : Int32) : Nat × Int32 × NL × NA := bnd (fX_checkRange p0 0 1000000) ((0, fX_feeFor p0, sL, sA)) (0, sL, sA)
theorem hdyX_fee : yX_fee.cls ≠ "java/lang/invoke/MethodHandle" ∧ yX_fee.cls ≠ "java/lang/invoke/VarHandle" ∧ (parseMethodDescriptor yX_fee.desc).map (fun d => d.parameters.length) = some 1 := by decide +kernel
theorem dX_fee_0 : decode bX_fee 0 = .ok (.iload_n 1, 1) := by decide +kernel
theorem dX_fee_1 : decode bX_fee 1 = .ok (.iconst 0, 1) := by decide +kernel
theorem dX_fee_2 : decode bX_fee 2 = .ok (.ldc 30, 2) := by decide +kernel
theorem dX_fee_4 : decode bX_fee 4 = .ok (.invokestatic 31, 3) := by decide +kernel
theorem dX_fee_7 : decode bX_fee 7 = .ok (.iload_n 1, 1) := by decide +kernel
theorem dX_fee_8 : decode bX_fee 8 = .ok (.invokestatic 116, 3) := by decide +kernel
theorem dX_fee_11 : decode bX_fee 11 = .ok (.ireturn, 1) := by decide +kernel
set_option maxHeartbeats 4000000 in
set_option maxRecDepth 100000 in
theorem cX_fee (l : Launch) (hl9 : l.stackTraces = false) (D : va_G) (tI tJ tL : ClassId) (A : Nat → Prop) (sg ad : Nat → Nat) (n : Nat) (sL : NL) (sA : NA) (p0 : Int32) : vx_Met l yX_fee (Cond.code yX_fee bX_fee 2 (some FieldType.int) :: wNeed) { frames := 7, cells := 1, slots := 6, locals := 112 } (va_Pc [.ref (ad 0), .int p0] (GP D tI tJ tL A sg ad n sL sA)) (va_Qi (fun r (u : NL × NA) => fX_fee sL sA p0 = (0, r, u.1, u.2)) (fun u t => GW D tI tJ tL A ad n u.1 u.2 t.heap) A) (XQ D tI tJ tL A ad n sL sA (fX_fee sL sA p0).1) 1 6 A := by
  refine en_XG (av := [.ref (ad 0), .int p0]) (by decide) (Nat.le_of_ble_eq_true rfl) ?_
  intro p e s m below meth c hx hb hml hown hts hr hlocks hT hC H locs hG hS ls hl
  replace hl : lv_has ls 2 [(0, .ref (ad 0)), (1, .int p0)] := hl
  refine lv_iload_n hx hb dX_fee_0 rfl (lv_at hl 1 rfl) ?_
  refine lv_iconst (v := 0) hx hb dX_fee_1 (by decide) ?_
  refine lv_ldc (v := 1000000) hx hb hown (hts _ q_186) dX_fee_2 ?_
  refine rcS4 (rest := []) (As := [.int p0, .int 0, .int 1000000]) (Mc := 1) (Ms := 6) hx hb hml hown hts hC hG hS hlocks hT (cX_checkRange l hl9 D tI tJ tL A sg ad n sL sA p0 0 1000000) (gS q_125 q_126 q_1 q_127) rfl rfl ⟨rfl, hdyX_checkRange⟩ ⟨Nat.le_of_ble_eq_true rfl, Nat.le_of_ble_eq_true rfl⟩ hl.1 rfl (Nat.le_of_ble_eq_true rfl) dX_fee_4 ⟨Nat.le_of_ble_eq_true rfl, Nat.le_of_ble_eq_true rfl⟩ ⟨Nat.le_of_ble_eq_true rfl, Nat.le_of_ble_eq_true rfl⟩ (fun h => by rw [fX_fee, bnd_n h] <;> rfl) (fun h_1 H locs hG hS => ?_)
  refine lv_iload_n hx hb dX_fee_7 rfl (lv_at hl 1 rfl) ?_
  refine rcS1 (rest := []) (As := [.int p0]) hx hb hml hown hts (cX_feeFor l p0) (gS q_349 q_350 q_1 q_351) rfl rfl ⟨rfl, hdyX_feeFor⟩ ⟨Nat.le_of_ble_eq_true rfl, Nat.le_of_ble_eq_true rfl⟩ hl.1 rfl (Nat.le_of_ble_eq_true rfl) dX_fee_8 ⟨Nat.le_of_ble_eq_true rfl, Nat.le_of_ble_eq_true rfl⟩ ?_
  refine vx_ret ?_
  refine W.widen (k := 1) (n := 6) (Nat.le_of_ble_eq_true rfl) (Nat.le_of_ble_eq_true rfl) ?_
  exact W.iret (v := fX_feeFor p0) hx hb hr (fun t ht hW => ⟨⟨(fX_feeFor p0), (sL, sA), rfl, (by rw [fX_fee, bnd_0 h_1] <;> rfl), gw_at hG ht⟩, hS.F ht⟩) hS.2.2 dX_fee_11
def fX_share (n : Nat) (sL : NL) (sA : NA) (p0 : Int32) : Nat × Int32 × NL × NA := bndq (fX_findLot n p0) (fun i => (0, fX_shareOf sL sA i, sL, sA)) (0, sL, sA)
theorem hdyX_share : yX_share.cls ≠ "java/lang/invoke/MethodHandle" ∧ yX_share.cls ≠ "java/lang/invoke/VarHandle" ∧ (parseMethodDescriptor yX_share.desc).map (fun d => d.parameters.length) = some 1 := by decide +kernel
theorem dX_share_0 : decode bX_share 0 = .ok (.aload_n 0, 1) := by decide +kernel
theorem dX_share_1 : decode bX_share 1 = .ok (.iload_n 1, 1) := by decide +kernel
theorem dX_share_2 : decode bX_share 2 = .ok (.invokevirtual 54, 3) := by decide +kernel
theorem dX_share_5 : decode bX_share 5 = .ok (.invokestatic 161, 3) := by decide +kernel
theorem dX_share_8 : decode bX_share 8 = .ok (.ireturn, 1) := by decide +kernel
set_option maxHeartbeats 4000000 in
set_option maxRecDepth 100000 in
theorem cX_share (l : Launch) (hl9 : l.stackTraces = false) (D : va_G) (tI tJ tL : ClassId) (A : Nat → Prop) (sg ad : Nat → Nat) (n : Nat) (sL : NL) (sA : NA) (p0 : Int32) : vx_Met l yX_share (Cond.code yX_share bX_share 2 (some FieldType.int) :: wNeed) { frames := 7, cells := 1, slots := 6, locals := 112 } (va_Pc [.ref (ad 0), .int p0] (GP D tI tJ tL A sg ad n sL sA)) (va_Qi (fun r (u : NL × NA) => fX_share n sL sA p0 = (0, r, u.1, u.2)) (fun u t => GW D tI tJ tL A ad n u.1 u.2 t.heap) A) (XQ D tI tJ tL A ad n sL sA (fX_share n sL sA p0).1) 1 6 A := by
  refine en_XG (av := [.ref (ad 0), .int p0]) (by decide) (Nat.le_of_ble_eq_true rfl) ?_
  intro p e s m below meth c hx hb hml hown hts hr hlocks hT hC H locs hG hS ls hl
  replace hl : lv_has ls 2 [(0, .ref (ad 0)), (1, .int p0)] := hl
  refine lv_aload_n hx hb dX_share_0 rfl (lv_at hl 0 rfl) ?_
  refine lv_iload_n hx hb dX_share_1 rfl (lv_at hl 1 rfl) ?_
  refine rcV5q (rest := []) (As := [.int p0]) (p0 := p0) (Mc := 1) (Ms := 6) hx hb hml hown hts hC hG hS hlocks hT (cX_findLot l hl9 D tI tJ tL A sg ad n sL sA p0) (recX hC hG) (gV q_288 q_290 q_p1 q_1 q_291) rfl rfl ⟨rfl, hdyX_findLot⟩ ⟨Nat.le_of_ble_eq_true rfl, Nat.le_of_ble_eq_true rfl⟩ hl.1 rfl (Nat.le_of_ble_eq_true rfl) dX_share_2 ⟨Nat.le_of_ble_eq_true rfl, Nat.le_of_ble_eq_true rfl⟩ ⟨Nat.le_of_ble_eq_true rfl, Nat.le_of_ble_eq_true rfl⟩ (fun h => by rw [fX_share, bndq_n h] <;> rfl) (fun i h_1 hi hp H locs hG hS => ?_)
  subst hp
  refine rcS2 (rest := []) (As := [.ref (ad (4 * i + 11))]) hx hb hml hown hts hC hG hS (cX_shareOf l D tI tJ tL A sg ad n sL sA i hi) (gS q_390 q_391 q_1 q_392) rfl rfl ⟨rfl, hdyX_shareOf⟩ ⟨Nat.le_of_ble_eq_true rfl, Nat.le_of_ble_eq_true rfl⟩ hl.1 rfl (Nat.le_of_ble_eq_true rfl) dX_share_5 ⟨Nat.le_of_ble_eq_true rfl, Nat.le_of_ble_eq_true rfl⟩ ?_
  refine vx_ret ?_
  refine W.widen (k := 1) (n := 6) (Nat.le_of_ble_eq_true rfl) (Nat.le_of_ble_eq_true rfl) ?_
  exact W.iret (v := fX_shareOf sL sA i) hx hb hr (fun t ht hW => ⟨⟨(fX_shareOf sL sA i), (sL, sA), rfl, (by rw [fX_share, bndq_s h_1] <;> rfl), gw_at hG ht⟩, hS.F ht⟩) hS.2.2 dX_share_8
def fX_interest (n : Nat) (sL : NL) (sA : NA) (p0 : Int32) : Nat × Int32 × NL × NA := bndq (fX_findLot n p0) (fun i => (0, fX_interestOf sL sA i, sL, sA)) (0, sL, sA)
theorem hdyX_interest : yX_interest.cls ≠ "java/lang/invoke/MethodHandle" ∧ yX_interest.cls ≠ "java/lang/invoke/VarHandle" ∧ (parseMethodDescriptor yX_interest.desc).map (fun d => d.parameters.length) = some 1 := by decide +kernel
theorem dX_interest_0 : decode bX_interest 0 = .ok (.aload_n 0, 1) := by decide +kernel
theorem dX_interest_1 : decode bX_interest 1 = .ok (.aload_n 0, 1) := by decide +kernel
theorem dX_interest_2 : decode bX_interest 2 = .ok (.iload_n 1, 1) := by decide +kernel
theorem dX_interest_3 : decode bX_interest 3 = .ok (.invokevirtual 54, 3) := by decide +kernel
theorem dX_interest_6 : decode bX_interest 6 = .ok (.invokevirtual 165, 3) := by decide +kernel
theorem dX_interest_9 : decode bX_interest 9 = .ok (.ireturn, 1) := by decide +kernel
set_option maxHeartbeats 4000000 in
set_option maxRecDepth 100000 in
theorem cX_interest (l : Launch) (hl9 : l.stackTraces = false) (D : va_G) (tI tJ tL : ClassId) (A : Nat → Prop) (sg ad : Nat → Nat) (n : Nat) (sL : NL) (sA : NA) (p0 : Int32) : vx_Met l yX_interest (Cond.code yX_interest bX_interest 2 (some FieldType.int) :: wNeed) { frames := 7, cells := 1, slots := 6, locals := 112 } (va_Pc [.ref (ad 0), .int p0] (GP D tI tJ tL A sg ad n sL sA)) (va_Qi (fun r (u : NL × NA) => fX_interest n sL sA p0 = (0, r, u.1, u.2)) (fun u t => GW D tI tJ tL A ad n u.1 u.2 t.heap) A) (XQ D tI tJ tL A ad n sL sA (fX_interest n sL sA p0).1) 1 6 A := by
  refine en_XG (av := [.ref (ad 0), .int p0]) (by decide) (Nat.le_of_ble_eq_true rfl) ?_
  intro p e s m below meth c hx hb hml hown hts hr hlocks hT hC H locs hG hS ls hl
  replace hl : lv_has ls 2 [(0, .ref (ad 0)), (1, .int p0)] := hl
  refine lv_aload_n hx hb dX_interest_0 rfl (lv_at hl 0 rfl) ?_
  refine lv_aload_n hx hb dX_interest_1 rfl (lv_at hl 0 rfl) ?_
  refine lv_iload_n hx hb dX_interest_2 rfl (lv_at hl 1 rfl) ?_
  refine rcV5q (rest := [.ref (ad 0)]) (As := [.int p0]) (p0 := p0) (Mc := 1) (Ms := 6) hx hb hml hown hts hC hG hS hlocks hT (cX_findLot l hl9 D tI tJ tL A sg ad n sL sA p0) (recX hC hG) (gV q_288 q_290 q_p1 q_1 q_291) rfl rfl ⟨rfl, hdyX_findLot⟩ ⟨Nat.le_of_ble_eq_true rfl, Nat.le_of_ble_eq_true rfl⟩ hl.1 rfl (Nat.le_of_ble_eq_true rfl) dX_interest_3 ⟨Nat.le_of_ble_eq_true rfl, Nat.le_of_ble_eq_true rfl⟩ ⟨Nat.le_of_ble_eq_true rfl, Nat.le_of_ble_eq_true rfl⟩ (fun h => by rw [fX_interest, bndq_n h] <;> rfl) (fun i h_1 hi hp H locs hG hS => ?_)
  subst hp
  refine rcV2 (rest := []) (As := [.ref (ad (4 * i + 11))]) hx hb hml hown hts hC hG hS (cX_interestOf l D tI tJ tL A sg ad n sL sA i hi) (recX hC hG) (gV q_397 q_399 q_p6 q_1 q_400) rfl rfl ⟨rfl, hdyX_interestOf⟩ ⟨Nat.le_of_ble_eq_true rfl, Nat.le_of_ble_eq_true rfl⟩ hl.1 rfl (Nat.le_of_ble_eq_true rfl) dX_interest_6 ⟨Nat.le_of_ble_eq_true rfl, Nat.le_of_ble_eq_true rfl⟩ ?_
  refine vx_ret ?_
  refine W.widen (k := 1) (n := 6) (Nat.le_of_ble_eq_true rfl) (Nat.le_of_ble_eq_true rfl) ?_
  exact W.iret (v := fX_interestOf sL sA i) hx hb hr (fun t ht hW => ⟨⟨(fX_interestOf sL sA i), (sL, sA), rfl, (by rw [fX_interest, bndq_s h_1] <;> rfl), gw_at hG ht⟩, hS.F ht⟩) hS.2.2 dX_interest_9
def fX_owes (sL : NL) (sA : NA) (p0 : Int32) : Nat × Int32 × NL × NA := bnd ((fX_owedBy sL sA p0).1) ((0, (fX_owedBy sL sA p0).2, sL, sA)) (0, sL, sA)
theorem hdyX_owes : yX_owes.cls ≠ "java/lang/invoke/MethodHandle" ∧ yX_owes.cls ≠ "java/lang/invoke/VarHandle" ∧ (parseMethodDescriptor yX_owes.desc).map (fun d => d.parameters.length) = some 1 := by decide +kernel
theorem dX_owes_0 : decode bX_owes 0 = .ok (.aload_n 0, 1) := by decide +kernel
theorem dX_owes_1 : decode bX_owes 1 = .ok (.iload_n 1, 1) := by decide +kernel
theorem dX_owes_2 : decode bX_owes 2 = .ok (.invokevirtual 136, 3) := by decide +kernel
theorem dX_owes_5 : decode bX_owes 5 = .ok (.ireturn, 1) := by decide +kernel
set_option maxHeartbeats 4000000 in
set_option maxRecDepth 100000 in
theorem cX_owes (l : Launch) (hl9 : l.stackTraces = false) (D : va_G) (tI tJ tL : ClassId) (A : Nat → Prop) (sg ad : Nat → Nat) (n : Nat) (sL : NL) (sA : NA) (p0 : Int32) : vx_Met l yX_owes (Cond.code yX_owes bX_owes 2 (some FieldType.int) :: wNeed) { frames := 8, cells := 1, slots := 6, locals := 131 } (va_Pc [.ref (ad 0), .int p0] (GP D tI tJ tL A sg ad n sL sA)) (va_Qi (fun r (u : NL × NA) => fX_owes sL sA p0 = (0, r, u.1, u.2)) (fun u t => GW D tI tJ tL A ad n u.1 u.2 t.heap) A) (XQ D tI tJ tL A ad n sL sA (fX_owes sL sA p0).1) 1 6 A := by
  refine en_XG (av := [.ref (ad 0), .int p0]) (by decide) (Nat.le_of_ble_eq_true rfl) ?_
  intro p e s m below meth c hx hb hml hown hts hr hlocks hT hC H locs hG hS ls hl
  replace hl : lv_has ls 2 [(0, .ref (ad 0)), (1, .int p0)] := hl
  refine lv_aload_n hx hb dX_owes_0 rfl (lv_at hl 0 rfl) ?_
  refine lv_iload_n hx hb dX_owes_1 rfl (lv_at hl 1 rfl) ?_
  refine rcV5r (rest := []) (As := [.int p0]) (Mc := 1) (Ms := 6) hx hb hml hown hts hC hG hS hlocks hT (cX_owedBy l hl9 D tI tJ tL A sg ad n sL sA p0) (recX hC hG) (gV q_372 q_374 q_p4 q_1 q_375) rfl rfl ⟨rfl, hdyX_owedBy⟩ ⟨Nat.le_of_ble_eq_true rfl, Nat.le_of_ble_eq_true rfl⟩ hl.1 rfl (Nat.le_of_ble_eq_true rfl) dX_owes_2 ⟨Nat.le_of_ble_eq_true rfl, Nat.le_of_ble_eq_true rfl⟩ ⟨Nat.le_of_ble_eq_true rfl, Nat.le_of_ble_eq_true rfl⟩ (fun h => by rw [fX_owes, bnd_n h] <;> rfl) (fun h_1 H locs hG hS => ?_)
  refine vx_ret ?_
  refine W.widen (k := 1) (n := 6) (Nat.le_of_ble_eq_true rfl) (Nat.le_of_ble_eq_true rfl) ?_
  exact W.iret (v := (fX_owedBy sL sA p0).2) hx hb hr (fun t ht hW => ⟨⟨((fX_owedBy sL sA p0).2), (sL, sA), rfl, (by rw [fX_owes, bnd_0 h_1] <;> rfl), gw_at hG ht⟩, hS.F ht⟩) hS.2.2 dX_owes_5
