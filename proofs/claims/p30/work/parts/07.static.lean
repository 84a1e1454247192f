theorem z_219 : (Jvm.Cond.methodLinkNest "DroitLine$Lot" (23 : Nat) ({ cls := "DroitLine$Offers", name := "<init>", desc := "()V" } : Jvm.MethodName) "DroitLine") ∈ wBad := List.mem_filter.mpr ⟨List.mem_of_getElem? (i := 226) (by decide +kernel), rfl⟩
theorem z_226 : (Jvm.Cond.fieldLinkNest "DroitLine$Lot" (40 : Nat) "DroitLine$Offers" "count" "I" "DroitLine") ∈ wBad := List.mem_filter.mpr ⟨List.mem_of_getElem? (i := 233) (by decide +kernel), rfl⟩
theorem z_227 : (Jvm.Cond.fieldLinkNest "DroitLine" (110 : Nat) "DroitLine$Offers" "count" "I" "DroitLine") ∈ wBad := List.mem_filter.mpr ⟨List.mem_of_getElem? (i := 234) (by decide +kernel), rfl⟩
theorem z_236 : (Jvm.Cond.fieldLinkNest "DroitLine" (155 : Nat) "DroitLine$Lot" "seller" "I" "DroitLine") ∈ wBad := List.mem_filter.mpr ⟨List.mem_of_getElem? (i := 243) (by decide +kernel), rfl⟩
theorem z_238 : (Jvm.Cond.fieldLinkNest "DroitLine" (209 : Nat) "DroitLine$Lot" "artist" "I" "DroitLine") ∈ wBad := List.mem_filter.mpr ⟨List.mem_of_getElem? (i := 245) (by decide +kernel), rfl⟩
theorem z_240 : (Jvm.Cond.fieldLinkNest "DroitLine" (65 : Nat) "DroitLine$Lot" "offers" "LDroitLine$Offers;" "DroitLine") ∈ wBad := List.mem_filter.mpr ⟨List.mem_of_getElem? (i := 247) (by decide +kernel), rfl⟩
theorem z_242 : (Jvm.Cond.fieldLinkNest "DroitLine" (82 : Nat) "DroitLine$Lot" "reserve" "I" "DroitLine") ∈ wBad := List.mem_filter.mpr ⟨List.mem_of_getElem? (i := 249) (by decide +kernel), rfl⟩
theorem z_244 : (Jvm.Cond.fieldLinkNest "DroitLine" (85 : Nat) "DroitLine$Lot" "state" "I" "DroitLine") ∈ wBad := List.mem_filter.mpr ⟨List.mem_of_getElem? (i := 251) (by decide +kernel), rfl⟩
theorem z_246 : (Jvm.Cond.fieldLinkNest "DroitLine" (91 : Nat) "DroitLine$Lot" "winner" "I" "DroitLine") ∈ wBad := List.mem_filter.mpr ⟨List.mem_of_getElem? (i := 253) (by decide +kernel), rfl⟩
theorem z_248 : (Jvm.Cond.fieldLinkNest "DroitLine" (101 : Nat) "DroitLine$Lot" "hammerPrice" "I" "DroitLine") ∈ wBad := List.mem_filter.mpr ⟨List.mem_of_getElem? (i := 255) (by decide +kernel), rfl⟩
theorem z_249 : (Jvm.Cond.fieldLinkNest "DroitLine" (107 : Nat) "DroitLine$Lot" "saleYear" "I" "DroitLine") ∈ wBad := List.mem_filter.mpr ⟨List.mem_of_getElem? (i := 256) (by decide +kernel), rfl⟩
theorem z_251 : (Jvm.Cond.fieldLinkNest "DroitLine" (130 : Nat) "DroitLine$Lot" "gapBuyer" "I" "DroitLine") ∈ wBad := List.mem_filter.mpr ⟨List.mem_of_getElem? (i := 258) (by decide +kernel), rfl⟩
theorem z_252 : (Jvm.Cond.fieldLinkNest "DroitLine" (133 : Nat) "DroitLine$Lot" "gapPrice" "I" "DroitLine") ∈ wBad := List.mem_filter.mpr ⟨List.mem_of_getElem? (i := 259) (by decide +kernel), rfl⟩
theorem z_254 : (Jvm.Cond.fieldLinkNest "DroitLine" (144 : Nat) "DroitLine$Lot" "advanced" "I" "DroitLine") ∈ wBad := List.mem_filter.mpr ⟨List.mem_of_getElem? (i := 261) (by decide +kernel), rfl⟩
theorem z_255 : (Jvm.Cond.fieldLinkNest "DroitLine" (149 : Nat) "DroitLine$Lot" "advanceDay" "I" "DroitLine") ∈ wBad := List.mem_filter.mpr ⟨List.mem_of_getElem? (i := 262) (by decide +kernel), rfl⟩
theorem z_256 : (Jvm.Cond.fieldLinkNest "DroitLine" (168 : Nat) "DroitLine$Lot" "interestAtSettling" "I" "DroitLine") ∈ wBad := List.mem_filter.mpr ⟨List.mem_of_getElem? (i := 263) (by decide +kernel), rfl⟩
/-- a contract over the world out of its body, the heap named -/
theorem en_G {l : Launch} {y : MethodName} {rm : Room} {av : List Value} {D : va_G} {tI tJ tL : ClassId} {A : Nat → Prop} {sg ad : Nat → Nat} {n : Nat} {sL : NL} {sA : NA} {Qc : Array Value → State → Outcome → State → Prop} {mc ms : Nat} {free : Addr → Prop} {cc : ByteArray} {maxL : Nat} {ret : Option FieldType} (hy : plainName y.cls = true) (hle : (lg_sl av).length ≤ maxL)
    (body : ∀ (p : Program) (e : Env) (s : State) (m : MethodId) (below : List Frame) (meth : Method) (c : Code), p.tables.exec = Jvm.exec → c.code = cc → c.maxLocals = maxL → s.vm.findClass y.cls = some m.cls → (∀ w ∈ wNeed, w.before av.toArray s = true) → meth.sig.returnType = ret → meth.locks = false → meth.name = y.name → GC D tI tJ tL A sg s → ∀ (H : Heap) (locs : List Loc), GW D tI tJ tL A ad n sL sA H → va_S A s.heap H locs → ∀ ls : Array Slot, lv_has ls maxL (lv_args 0 av) →
      W p l e rm s m av.toArray below meth c H locs 0 0 (MQ below Qc av.toArray s mc ms free) (F0 m 0 ls [])) : Met l y (Cond.code y cc maxL ret :: wNeed) rm (va_Pc av (GP D tI tJ tL A sg ad n sL sA)) Qc mc ms free :=
  en_M hy hle fun p e s m below meth c h1 h2 h3 h4 h5 h6 h7 h8 hP ls hl => body p e s m below meth c h1 h2 h3 h4 h5 h6 h7 h8 hP.2 s.heap [] hP.1 va_S.rf ls hl
theorem en_XG {l : Launch} {y : MethodName} {rm : Room} {av : List Value} {D : va_G} {tI tJ tL : ClassId} {A : Nat → Prop} {sg ad : Nat → Nat} {n : Nat} {sL : NL} {sA : NA} {Qc : Array Value → State → Outcome → State → Prop} {XC : String → State → State → Prop} {mc ms : Nat} {free : Addr → Prop} {cc : ByteArray} {maxL : Nat} {ret : Option FieldType} (hy : plainName y.cls = true) (hle : (lg_sl av).length ≤ maxL)
    (body : ∀ (p : Program) (e : Env) (s : State) (m : MethodId) (below : List Frame) (meth : Method) (c : Code), p.tables.exec = Jvm.exec → c.code = cc → c.maxLocals = maxL → s.vm.findClass y.cls = some m.cls → (∀ w ∈ wNeed, w.before av.toArray s = true) → meth.sig.returnType = ret → meth.locks = false → (∀ x ∈ c.exceptionTable.toList, False) → GC D tI tJ tL A sg s → ∀ (H : Heap) (locs : List Loc), GW D tI tJ tL A ad n sL sA H → va_S A s.heap H locs → ∀ ls : Array Slot, lv_has ls maxL (lv_args 0 av) →
      W p l e rm s m av.toArray below meth c H locs 0 0 (vx_MQ below Qc XC av.toArray s mc ms free) (F0 m 0 ls [])) : vx_Met l y (Cond.code y cc maxL ret :: wNeed) rm (va_Pc av (GP D tI tJ tL A sg ad n sL sA)) Qc XC mc ms free :=
  en_X hy hle fun p e s m below meth c h1 h2 h3 h4 h5 h6 h7 h8 hP ls hl => body p e s m below meth c h1 h2 h3 h4 h5 h6 h7 h8 hP.2 s.heap [] hP.1 va_S.rf ls hl
abbrev imax (x y : Int32) : Int32 := if x < y then y else x
abbrev imin (x y : Int32) : Int32 := if y < x then y else x
def bnd4 (k r : Nat) : Nat := if k = 0 then r else k
theorem bnd4_0 {k r : Nat} (h : k = 0) : bnd4 k r = r := if_pos h
theorem gw_at {D : va_G} {tI tJ tL : ClassId} {A : Nat → Prop} {ad : Nat → Nat} {n : Nat} {sL : NL} {sA : NA} {H : Heap} {t : State} (h : GW D tI tJ tL A ad n sL sA H) (ht : t.heap = H) : GW D tI tJ tL A ad n sL sA t.heap := by rw [ht]; exact h
theorem nar01 {v : Int32} (h : v = 0 ∨ v = 1) : narrow FieldType.boolean (.int v) = .int v := by
  rcases h with rfl | rfl <;> rfl
theorem bnd4_n {k r : Nat} (h : k ≠ 0) : bnd4 k r = k := if_neg h
def fX_stepOf (p0 : Int32) : Int32 := if 1000 ≤ p0 then (if 5000 ≤ p0 then (if 20000 ≤ p0 then 1000 else 500) else 100) else 50
theorem hdyX_stepOf : yX_stepOf.cls ≠ "java/lang/invoke/MethodHandle" ∧ yX_stepOf.cls ≠ "java/lang/invoke/VarHandle" ∧ (parseMethodDescriptor yX_stepOf.desc).map (fun d => d.parameters.length) = some 1 := by decide +kernel
theorem dX_stepOf_0 : decode bX_stepOf 0 = .ok (.iload_n 0, 1) := by decide +kernel
theorem dX_stepOf_1 : decode bX_stepOf 1 = .ok (.sipush 1000, 3) := by decide +kernel
theorem dX_stepOf_4 : decode bX_stepOf 4 = .ok (.if_icmp .ge 6, 3) := by decide +kernel
theorem dX_stepOf_7 : decode bX_stepOf 7 = .ok (.bipush 50, 2) := by decide +kernel
theorem dX_stepOf_9 : decode bX_stepOf 9 = .ok (.ireturn, 1) := by decide +kernel
theorem dX_stepOf_10 : decode bX_stepOf 10 = .ok (.iload_n 0, 1) := by decide +kernel
theorem dX_stepOf_11 : decode bX_stepOf 11 = .ok (.sipush 5000, 3) := by decide +kernel
theorem dX_stepOf_14 : decode bX_stepOf 14 = .ok (.if_icmp .ge 6, 3) := by decide +kernel
theorem dX_stepOf_17 : decode bX_stepOf 17 = .ok (.bipush 100, 2) := by decide +kernel
theorem dX_stepOf_19 : decode bX_stepOf 19 = .ok (.ireturn, 1) := by decide +kernel
theorem dX_stepOf_20 : decode bX_stepOf 20 = .ok (.iload_n 0, 1) := by decide +kernel
theorem dX_stepOf_21 : decode bX_stepOf 21 = .ok (.sipush 20000, 3) := by decide +kernel
theorem dX_stepOf_24 : decode bX_stepOf 24 = .ok (.if_icmp .ge 9, 3) := by decide +kernel
theorem dX_stepOf_27 : decode bX_stepOf 27 = .ok (.sipush 500, 3) := by decide +kernel
theorem dX_stepOf_30 : decode bX_stepOf 30 = .ok (.goto 6, 3) := by decide +kernel
theorem dX_stepOf_33 : decode bX_stepOf 33 = .ok (.sipush 1000, 3) := by decide +kernel
theorem dX_stepOf_36 : decode bX_stepOf 36 = .ok (.ireturn, 1) := by decide +kernel
set_option maxHeartbeats 4000000 in
set_option maxRecDepth 100000 in
theorem cX_stepOf (l : Launch) (p0 : Int32) : Met l yX_stepOf (Cond.code yX_stepOf bX_stepOf 1 (some FieldType.int) :: wNeed) { frames := 0, cells := 0, slots := 0, locals := 0 } (fun v _ => v = ([.int p0] : List Value).toArray) (vp_Si fun r => r = fX_stepOf p0) 0 0 (fun _ => False) := by
  refine en_N (av := [.int p0]) (by decide) (Nat.le_of_ble_eq_true rfl) ?_
  intro p e s m below meth c hx hb hml hown hts hr hlocks ls hl
  replace hl : lv_has ls 1 [(0, .int p0)] := hl
  refine lv_iload_n hx hb dX_stepOf_0 rfl (lv_at hl 0 rfl) ?_
  refine lv_sipush (v := 1000) hx hb dX_stepOf_1 (by decide) ?_
  refine lv_icmp_ge (tgt := 10) hx hb dX_stepOf_4 (by decide) (fun c_1 => ?_) (fun c_1 => ?_)
  · refine lv_iload_n hx hb dX_stepOf_10 rfl (lv_at hl 0 rfl) ?_
    refine lv_sipush (v := 5000) hx hb dX_stepOf_11 (by decide) ?_
    refine lv_icmp_ge (tgt := 20) hx hb dX_stepOf_14 (by decide) (fun c_2 => ?_) (fun c_2 => ?_)
    · refine lv_iload_n hx hb dX_stepOf_20 rfl (lv_at hl 0 rfl) ?_
      refine lv_sipush (v := 20000) hx hb dX_stepOf_21 (by decide) ?_
      refine lv_icmp_ge (tgt := 33) hx hb dX_stepOf_24 (by decide) (fun c_3 => ?_) (fun c_3 => ?_)
      · refine lv_sipush (v := 1000) hx hb dX_stepOf_33 (by decide) ?_
        exact W.iret (v := 1000) hx hb hr (fun t ht hW => ⟨_, rfl, (by rw [fX_stepOf, if_pos c_1, if_pos c_2, if_pos c_3] <;> rfl), ht⟩) (fun q h => nomatch h) dX_stepOf_36
      · refine lv_sipush (v := 500) hx hb dX_stepOf_27 (by decide) ?_
        refine lv_goto (tgt := 36) hx hb dX_stepOf_30 (by decide) ?_
        exact W.iret (v := 500) hx hb hr (fun t ht hW => ⟨_, rfl, (by rw [fX_stepOf, if_pos c_1, if_pos c_2, if_neg c_3] <;> rfl), ht⟩) (fun q h => nomatch h) dX_stepOf_36
    · refine lv_bipush (v := 100) hx hb dX_stepOf_17 (by decide) ?_
      exact W.iret (v := 100) hx hb hr (fun t ht hW => ⟨_, rfl, (by rw [fX_stepOf, if_pos c_1, if_neg c_2] <;> rfl), ht⟩) (fun q h => nomatch h) dX_stepOf_19
  · refine lv_bipush (v := 50) hx hb dX_stepOf_7 (by decide) ?_
    exact W.iret (v := 50) hx hb hr (fun t ht hW => ⟨_, rfl, (by rw [fX_stepOf, if_neg c_1] <;> rfl), ht⟩) (fun q h => nomatch h) dX_stepOf_9
theorem step_ne (p : Int32) : ¬ fX_stepOf p = 0 := by
  unfold fX_stepOf
  split
  · split
    · split <;> decide
    · decide
  · decide
def fX_calledAmount (p0 : Int32) : Int32 := if (fX_stepOf p0) ≤ 0 then p0 else (p0 / (fX_stepOf p0)) * (fX_stepOf p0)
theorem hdyX_calledAmount : yX_calledAmount.cls ≠ "java/lang/invoke/MethodHandle" ∧ yX_calledAmount.cls ≠ "java/lang/invoke/VarHandle" ∧ (parseMethodDescriptor yX_calledAmount.desc).map (fun d => d.parameters.length) = some 1 := by decide +kernel
theorem dX_calledAmount_0 : decode bX_calledAmount 0 = .ok (.iload_n 0, 1) := by decide +kernel
theorem dX_calledAmount_1 : decode bX_calledAmount 1 = .ok (.invokestatic 192, 3) := by decide +kernel
theorem dX_calledAmount_4 : decode bX_calledAmount 4 = .ok (.istore_n 1, 1) := by decide +kernel
theorem dX_calledAmount_5 : decode bX_calledAmount 5 = .ok (.iload_n 1, 1) := by decide +kernel
theorem dX_calledAmount_6 : decode bX_calledAmount 6 = .ok (.ifCond .le 11, 3) := by decide +kernel
theorem dX_calledAmount_9 : decode bX_calledAmount 9 = .ok (.iload_n 0, 1) := by decide +kernel
theorem dX_calledAmount_10 : decode bX_calledAmount 10 = .ok (.iload_n 1, 1) := by decide +kernel
theorem dX_calledAmount_11 : decode bX_calledAmount 11 = .ok (.idiv, 1) := by decide +kernel
theorem dX_calledAmount_12 : decode bX_calledAmount 12 = .ok (.iload_n 1, 1) := by decide +kernel
theorem dX_calledAmount_13 : decode bX_calledAmount 13 = .ok (.imul, 1) := by decide +kernel
theorem dX_calledAmount_14 : decode bX_calledAmount 14 = .ok (.goto 4, 3) := by decide +kernel
theorem dX_calledAmount_17 : decode bX_calledAmount 17 = .ok (.iload_n 0, 1) := by decide +kernel
theorem dX_calledAmount_18 : decode bX_calledAmount 18 = .ok (.ireturn, 1) := by decide +kernel
set_option maxHeartbeats 4000000 in
set_option maxRecDepth 100000 in
theorem cX_calledAmount (l : Launch) (p0 : Int32) : Met l yX_calledAmount (Cond.code yX_calledAmount bX_calledAmount 2 (some FieldType.int) :: wNeed) { frames := 1, cells := 0, slots := 0, locals := 20 } (fun v _ => v = ([.int p0] : List Value).toArray) (vp_Si fun r => r = fX_calledAmount p0) 0 0 (fun _ => False) := by
  refine en_N (av := [.int p0]) (by decide) (Nat.le_of_ble_eq_true rfl) ?_
  intro p e s m below meth c hx hb hml hown hts hr hlocks ls hl
  replace hl : lv_has ls 2 [(0, .int p0)] := hl
  refine lv_iload_n hx hb dX_calledAmount_0 rfl (lv_at hl 0 rfl) ?_
  refine rcS1 (rest := []) (As := [.int p0]) hx hb hml hown hts (cX_stepOf l p0) (gS q_210 q_211 q_1 q_212) rfl rfl ⟨rfl, hdyX_stepOf⟩ ⟨Nat.le_of_ble_eq_true rfl, Nat.le_of_ble_eq_true rfl⟩ hl.1 rfl (Nat.le_of_ble_eq_true rfl) dX_calledAmount_1 ⟨Nat.le_of_ble_eq_true rfl, Nat.le_of_ble_eq_true rfl⟩ ?_
  refine lv_istore_n (lv' := [(1, .int (fX_stepOf p0)), (0, .int p0)]) hx hb dX_calledAmount_4 rfl hl (by decide) rfl (fun ls hl => ?_)
  refine lv_iload_n hx hb dX_calledAmount_5 rfl (lv_at hl 0 rfl) ?_
  refine lv_if_le (tgt := 17) hx hb dX_calledAmount_6 (by decide) (fun c_1 => ?_) (fun c_1 => ?_)
  · refine lv_iload_n hx hb dX_calledAmount_17 rfl (lv_at hl 1 rfl) ?_
    exact W.iret (v := p0) hx hb hr (fun t ht hW => ⟨_, rfl, (by rw [fX_calledAmount, if_pos c_1] <;> rfl), ht⟩) (fun q h => nomatch h) dX_calledAmount_18
  · refine lv_iload_n hx hb dX_calledAmount_9 rfl (lv_at hl 1 rfl) ?_
    refine lv_iload_n hx hb dX_calledAmount_10 rfl (lv_at hl 0 rfl) ?_
    refine lv_idiv hx hb dX_calledAmount_11 (step_ne _) ?_
    refine lv_iload_n hx hb dX_calledAmount_12 rfl (lv_at hl 0 rfl) ?_
    refine lv_imul hx hb dX_calledAmount_13 ?_
    refine lv_goto (tgt := 18) hx hb dX_calledAmount_14 (by decide) ?_
    exact W.iret (v := (p0 / (fX_stepOf p0)) * (fX_stepOf p0)) hx hb hr (fun t ht hW => ⟨_, rfl, (by rw [fX_calledAmount, if_neg c_1] <;> rfl), ht⟩) (fun q h => nomatch h) dX_calledAmount_18
def fX_priceFor (p0 : Int32) (p1 : Int32) (p2 : Int32) : Int32 := if p2 = (-1) then (if p0 = 0 then imin 50 p1 else p0) else imin p1 (imax p0 (p2 + (fX_stepOf p2)))
theorem hdyX_priceFor : yX_priceFor.cls ≠ "java/lang/invoke/MethodHandle" ∧ yX_priceFor.cls ≠ "java/lang/invoke/VarHandle" ∧ (parseMethodDescriptor yX_priceFor.desc).map (fun d => d.parameters.length) = some 3 := by decide +kernel
theorem dX_priceFor_0 : decode bX_priceFor 0 = .ok (.iload_n 2, 1) := by decide +kernel
theorem dX_priceFor_1 : decode bX_priceFor 1 = .ok (.iconst (-1), 1) := by decide +kernel
theorem dX_priceFor_2 : decode bX_priceFor 2 = .ok (.if_icmp .ne 18, 3) := by decide +kernel
theorem dX_priceFor_5 : decode bX_priceFor 5 = .ok (.iload_n 0, 1) := by decide +kernel
theorem dX_priceFor_6 : decode bX_priceFor 6 = .ok (.ifCond .ne 12, 3) := by decide +kernel
theorem dX_priceFor_9 : decode bX_priceFor 9 = .ok (.bipush 50, 2) := by decide +kernel
theorem dX_priceFor_11 : decode bX_priceFor 11 = .ok (.iload_n 1, 1) := by decide +kernel
theorem dX_priceFor_12 : decode bX_priceFor 12 = .ok (.invokestatic 195, 3) := by decide +kernel
theorem dX_priceFor_15 : decode bX_priceFor 15 = .ok (.goto 4, 3) := by decide +kernel
theorem dX_priceFor_18 : decode bX_priceFor 18 = .ok (.iload_n 0, 1) := by decide +kernel
theorem dX_priceFor_19 : decode bX_priceFor 19 = .ok (.ireturn, 1) := by decide +kernel
theorem dX_priceFor_20 : decode bX_priceFor 20 = .ok (.iload_n 2, 1) := by decide +kernel
theorem dX_priceFor_21 : decode bX_priceFor 21 = .ok (.iload_n 2, 1) := by decide +kernel
theorem dX_priceFor_22 : decode bX_priceFor 22 = .ok (.invokestatic 192, 3) := by decide +kernel
theorem dX_priceFor_25 : decode bX_priceFor 25 = .ok (.iadd, 1) := by decide +kernel
theorem dX_priceFor_26 : decode bX_priceFor 26 = .ok (.istore_n 3, 1) := by decide +kernel
theorem dX_priceFor_27 : decode bX_priceFor 27 = .ok (.iload_n 1, 1) := by decide +kernel
theorem dX_priceFor_28 : decode bX_priceFor 28 = .ok (.iload_n 0, 1) := by decide +kernel
theorem dX_priceFor_29 : decode bX_priceFor 29 = .ok (.iload_n 3, 1) := by decide +kernel
theorem dX_priceFor_30 : decode bX_priceFor 30 = .ok (.invokestatic 201, 3) := by decide +kernel
theorem dX_priceFor_33 : decode bX_priceFor 33 = .ok (.invokestatic 195, 3) := by decide +kernel
theorem dX_priceFor_36 : decode bX_priceFor 36 = .ok (.ireturn, 1) := by decide +kernel
set_option maxHeartbeats 4000000 in
set_option maxRecDepth 100000 in
theorem cX_priceFor (l : Launch) (p0 : Int32) (p1 : Int32) (p2 : Int32) : Met l yX_priceFor (Cond.code yX_priceFor bX_priceFor 4 (some FieldType.int) :: wNeed) { frames := 1, cells := 0, slots := 0, locals := 21 } (fun v _ => v = ([.int p0, .int p1, .int p2] : List Value).toArray) (vp_Si fun r => r = fX_priceFor p0 p1 p2) 0 0 (fun _ => False) := by
  refine en_N (av := [.int p0, .int p1, .int p2]) (by decide) (Nat.le_of_ble_eq_true rfl) ?_
  intro p e s m below meth c hx hb hml hown hts hr hlocks ls hl
  replace hl : lv_has ls 4 [(0, .int p0), (1, .int p1), (2, .int p2)] := hl
  refine lv_iload_n hx hb dX_priceFor_0 rfl (lv_at hl 2 rfl) ?_
  refine lv_iconst (v := (-1)) hx hb dX_priceFor_1 (by decide) ?_
  refine lv_icmp_ne (tgt := 20) hx hb dX_priceFor_2 (by decide) (fun c_1 => ?_) (fun c_1 => ?_)
  · refine lv_iload_n hx hb dX_priceFor_20 rfl (lv_at hl 2 rfl) ?_
    refine lv_iload_n hx hb dX_priceFor_21 rfl (lv_at hl 2 rfl) ?_
    refine rcS1 (rest := [.int p2]) (As := [.int p2]) hx hb hml hown hts (cX_stepOf l p2) (gS q_210 q_211 q_1 q_212) rfl rfl ⟨rfl, hdyX_stepOf⟩ ⟨Nat.le_of_ble_eq_true rfl, Nat.le_of_ble_eq_true rfl⟩ hl.1 rfl (Nat.le_of_ble_eq_true rfl) dX_priceFor_22 ⟨Nat.le_of_ble_eq_true rfl, Nat.le_of_ble_eq_true rfl⟩ ?_
    refine lv_iadd hx hb dX_priceFor_25 ?_
    refine lv_istore_n (lv' := [(3, .int (p2 + (fX_stepOf p2))), (0, .int p0), (1, .int p1), (2, .int p2)]) hx hb dX_priceFor_26 rfl hl (by decide) rfl (fun ls hl => ?_)
    refine lv_iload_n hx hb dX_priceFor_27 rfl (lv_at hl 2 rfl) ?_
    refine lv_iload_n hx hb dX_priceFor_28 rfl (lv_at hl 1 rfl) ?_
    refine lv_iload_n hx hb dX_priceFor_29 rfl (lv_at hl 0 rfl) ?_
    refine va_mmax hx hb (by rw [hml]; exact hl.1.symm) hown (hts _ q_336) (hts _ q_310) (hts _ q_6) (hts _ q_311) (Nat.le_of_ble_eq_true rfl) (Nat.le_of_ble_eq_true rfl) (Nat.le_of_ble_eq_true rfl) (Nat.le_of_ble_eq_true rfl) dX_priceFor_30 ?_
    refine va_mmin hx hb (by rw [hml]; exact hl.1.symm) hown (hts _ q_333) (hts _ q_334) (hts _ q_6) (hts _ q_335) (Nat.le_of_ble_eq_true rfl) (Nat.le_of_ble_eq_true rfl) (Nat.le_of_ble_eq_true rfl) (Nat.le_of_ble_eq_true rfl) dX_priceFor_33 ?_
    exact W.iret (v := imin p1 (imax p0 (p2 + (fX_stepOf p2)))) hx hb hr (fun t ht hW => ⟨_, rfl, (by rw [fX_priceFor, if_neg c_1] <;> rfl), ht⟩) (fun q h => nomatch h) dX_priceFor_36
  · refine lv_iload_n hx hb dX_priceFor_5 rfl (lv_at hl 0 rfl) ?_
    refine lv_if_ne (tgt := 18) hx hb dX_priceFor_6 (by decide) (fun c_2 => ?_) (fun c_2 => ?_)
    · refine lv_iload_n hx hb dX_priceFor_18 rfl (lv_at hl 0 rfl) ?_
      exact W.iret (v := p0) hx hb hr (fun t ht hW => ⟨_, rfl, (by rw [fX_priceFor, if_pos c_1, if_neg c_2] <;> rfl), ht⟩) (fun q h => nomatch h) dX_priceFor_19
    · refine lv_bipush (v := 50) hx hb dX_priceFor_9 (by decide) ?_
      refine lv_iload_n hx hb dX_priceFor_11 rfl (lv_at hl 1 rfl) ?_
      refine va_mmin hx hb (by rw [hml]; exact hl.1.symm) hown (hts _ q_333) (hts _ q_334) (hts _ q_6) (hts _ q_335) (Nat.le_of_ble_eq_true rfl) (Nat.le_of_ble_eq_true rfl) (Nat.le_of_ble_eq_true rfl) (Nat.le_of_ble_eq_true rfl) dX_priceFor_12 ?_
      refine lv_goto (tgt := 19) hx hb dX_priceFor_15 (by decide) ?_
      exact W.iret (v := imin 50 p1) hx hb hr (fun t ht hW => ⟨_, rfl, (by rw [fX_priceFor, if_pos c_1, if_pos c_2] <;> rfl), ht⟩) (fun q h => nomatch h) dX_priceFor_19
def fX_ofBand (p0 : Int32) (p1 : Int32) (p2 : Int32) (p3 : Int32) : Int32 := ((imax 0 ((imin p0 p2) - p1)) * p3) / 100
theorem hdyX_ofBand : yX_ofBand.cls ≠ "java/lang/invoke/MethodHandle" ∧ yX_ofBand.cls ≠ "java/lang/invoke/VarHandle" ∧ (parseMethodDescriptor yX_ofBand.desc).map (fun d => d.parameters.length) = some 4 := by decide +kernel
theorem dX_ofBand_0 : decode bX_ofBand 0 = .ok (.iconst 0, 1) := by decide +kernel
theorem dX_ofBand_1 : decode bX_ofBand 1 = .ok (.iload_n 0, 1) := by decide +kernel
theorem dX_ofBand_2 : decode bX_ofBand 2 = .ok (.iload_n 2, 1) := by decide +kernel
theorem dX_ofBand_3 : decode bX_ofBand 3 = .ok (.invokestatic 195, 3) := by decide +kernel
theorem dX_ofBand_6 : decode bX_ofBand 6 = .ok (.iload_n 1, 1) := by decide +kernel
theorem dX_ofBand_7 : decode bX_ofBand 7 = .ok (.isub, 1) := by decide +kernel
theorem dX_ofBand_8 : decode bX_ofBand 8 = .ok (.invokestatic 201, 3) := by decide +kernel
theorem dX_ofBand_11 : decode bX_ofBand 11 = .ok (.iload_n 3, 1) := by decide +kernel
theorem dX_ofBand_12 : decode bX_ofBand 12 = .ok (.imul, 1) := by decide +kernel
theorem dX_ofBand_13 : decode bX_ofBand 13 = .ok (.bipush 100, 2) := by decide +kernel
theorem dX_ofBand_15 : decode bX_ofBand 15 = .ok (.idiv, 1) := by decide +kernel
theorem dX_ofBand_16 : decode bX_ofBand 16 = .ok (.ireturn, 1) := by decide +kernel
set_option maxHeartbeats 4000000 in
set_option maxRecDepth 100000 in
theorem cX_ofBand (l : Launch) (p0 : Int32) (p1 : Int32) (p2 : Int32) (p3 : Int32) : Met l yX_ofBand (Cond.code yX_ofBand bX_ofBand 4 (some FieldType.int) :: wNeed) { frames := 1, cells := 0, slots := 0, locals := 21 } (fun v _ => v = ([.int p0, .int p1, .int p2, .int p3] : List Value).toArray) (vp_Si fun r => r = fX_ofBand p0 p1 p2 p3) 0 0 (fun _ => False) := by
  refine en_N (av := [.int p0, .int p1, .int p2, .int p3]) (by decide) (Nat.le_of_ble_eq_true rfl) ?_
  intro p e s m below meth c hx hb hml hown hts hr hlocks ls hl
  replace hl : lv_has ls 4 [(0, .int p0), (1, .int p1), (2, .int p2), (3, .int p3)] := hl
  refine lv_iconst (v := 0) hx hb dX_ofBand_0 (by decide) ?_
  refine lv_iload_n hx hb dX_ofBand_1 rfl (lv_at hl 0 rfl) ?_
  refine lv_iload_n hx hb dX_ofBand_2 rfl (lv_at hl 2 rfl) ?_
  refine va_mmin hx hb (by rw [hml]; exact hl.1.symm) hown (hts _ q_333) (hts _ q_334) (hts _ q_6) (hts _ q_335) (Nat.le_of_ble_eq_true rfl) (Nat.le_of_ble_eq_true rfl) (Nat.le_of_ble_eq_true rfl) (Nat.le_of_ble_eq_true rfl) dX_ofBand_3 ?_
  refine lv_iload_n hx hb dX_ofBand_6 rfl (lv_at hl 1 rfl) ?_
  refine lv_isub hx hb dX_ofBand_7 ?_
  refine va_mmax hx hb (by rw [hml]; exact hl.1.symm) hown (hts _ q_336) (hts _ q_310) (hts _ q_6) (hts _ q_311) (Nat.le_of_ble_eq_true rfl) (Nat.le_of_ble_eq_true rfl) (Nat.le_of_ble_eq_true rfl) (Nat.le_of_ble_eq_true rfl) dX_ofBand_8 ?_
  refine lv_iload_n hx hb dX_ofBand_11 rfl (lv_at hl 3 rfl) ?_
  refine lv_imul hx hb dX_ofBand_12 ?_
  refine lv_bipush (v := 100) hx hb dX_ofBand_13 (by decide) ?_
  refine lv_idiv hx hb dX_ofBand_15 (by decide) ?_
  exact W.iret (v := ((imax 0 ((imin p0 p2) - p1)) * p3) / 100) hx hb hr (fun t ht hW => ⟨_, rfl, (by rw [fX_ofBand] <;> rfl), ht⟩) (fun q h => nomatch h) dX_ofBand_16
def fX_feeFor (p0 : Int32) : Int32 := ((fX_ofBand p0 0 10000 25) + (fX_ofBand p0 10000 50000 20)) + (fX_ofBand p0 50000 1000000 12)
theorem hdyX_feeFor : yX_feeFor.cls ≠ "java/lang/invoke/MethodHandle" ∧ yX_feeFor.cls ≠ "java/lang/invoke/VarHandle" ∧ (parseMethodDescriptor yX_feeFor.desc).map (fun d => d.parameters.length) = some 1 := by decide +kernel
theorem dX_feeFor_0 : decode bX_feeFor 0 = .ok (.iload_n 0, 1) := by decide +kernel
theorem dX_feeFor_1 : decode bX_feeFor 1 = .ok (.iconst 0, 1) := by decide +kernel
theorem dX_feeFor_2 : decode bX_feeFor 2 = .ok (.sipush 10000, 3) := by decide +kernel
theorem dX_feeFor_5 : decode bX_feeFor 5 = .ok (.bipush 25, 2) := by decide +kernel
theorem dX_feeFor_7 : decode bX_feeFor 7 = .ok (.invokestatic 204, 3) := by decide +kernel
theorem dX_feeFor_10 : decode bX_feeFor 10 = .ok (.iload_n 0, 1) := by decide +kernel
theorem dX_feeFor_11 : decode bX_feeFor 11 = .ok (.sipush 10000, 3) := by decide +kernel
theorem dX_feeFor_14 : decode bX_feeFor 14 = .ok (.ldc 208, 2) := by decide +kernel
theorem dX_feeFor_16 : decode bX_feeFor 16 = .ok (.bipush 20, 2) := by decide +kernel
theorem dX_feeFor_18 : decode bX_feeFor 18 = .ok (.invokestatic 204, 3) := by decide +kernel
theorem dX_feeFor_21 : decode bX_feeFor 21 = .ok (.iadd, 1) := by decide +kernel
theorem dX_feeFor_22 : decode bX_feeFor 22 = .ok (.iload_n 0, 1) := by decide +kernel
theorem dX_feeFor_23 : decode bX_feeFor 23 = .ok (.ldc 208, 2) := by decide +kernel
theorem dX_feeFor_25 : decode bX_feeFor 25 = .ok (.ldc 30, 2) := by decide +kernel
theorem dX_feeFor_27 : decode bX_feeFor 27 = .ok (.bipush 12, 2) := by decide +kernel
theorem dX_feeFor_29 : decode bX_feeFor 29 = .ok (.invokestatic 204, 3) := by decide +kernel
theorem dX_feeFor_32 : decode bX_feeFor 32 = .ok (.iadd, 1) := by decide +kernel
theorem dX_feeFor_33 : decode bX_feeFor 33 = .ok (.ireturn, 1) := by decide +kernel
set_option maxHeartbeats 4000000 in
set_option maxRecDepth 100000 in
theorem cX_feeFor (l : Launch) (p0 : Int32) : Met l yX_feeFor (Cond.code yX_feeFor bX_feeFor 1 (some FieldType.int) :: wNeed) { frames := 2, cells := 0, slots := 0, locals := 44 } (fun v _ => v = ([.int p0] : List Value).toArray) (vp_Si fun r => r = fX_feeFor p0) 0 0 (fun _ => False) := by
  refine en_N (av := [.int p0]) (by decide) (Nat.le_of_ble_eq_true rfl) ?_
  intro p e s m below meth c hx hb hml hown hts hr hlocks ls hl
  replace hl : lv_has ls 1 [(0, .int p0)] := hl
  refine lv_iload_n hx hb dX_feeFor_0 rfl (lv_at hl 0 rfl) ?_
  refine lv_iconst (v := 0) hx hb dX_feeFor_1 (by decide) ?_
  refine lv_sipush (v := 10000) hx hb dX_feeFor_2 (by decide) ?_
  refine lv_bipush (v := 25) hx hb dX_feeFor_5 (by decide) ?_
  refine rcS1 (rest := []) (As := [.int p0, .int 0, .int 10000, .int 25]) hx hb hml hown hts (cX_ofBand l p0 0 10000 25) (gS q_352 q_353 q_1 q_354) rfl rfl ⟨rfl, hdyX_ofBand⟩ ⟨Nat.le_of_ble_eq_true rfl, Nat.le_of_ble_eq_true rfl⟩ hl.1 rfl (Nat.le_of_ble_eq_true rfl) dX_feeFor_7 ⟨Nat.le_of_ble_eq_true rfl, Nat.le_of_ble_eq_true rfl⟩ ?_
  refine lv_iload_n hx hb dX_feeFor_10 rfl (lv_at hl 0 rfl) ?_
  refine lv_sipush (v := 10000) hx hb dX_feeFor_11 (by decide) ?_
  refine lv_ldc (v := 50000) hx hb hown (hts _ q_355) dX_feeFor_14 ?_
  refine lv_bipush (v := 20) hx hb dX_feeFor_16 (by decide) ?_
  refine rcS1 (rest := [.int (fX_ofBand p0 0 10000 25)]) (As := [.int p0, .int 10000, .int 50000, .int 20]) hx hb hml hown hts (cX_ofBand l p0 10000 50000 20) (gS q_352 q_353 q_1 q_354) rfl rfl ⟨rfl, hdyX_ofBand⟩ ⟨Nat.le_of_ble_eq_true rfl, Nat.le_of_ble_eq_true rfl⟩ hl.1 rfl (Nat.le_of_ble_eq_true rfl) dX_feeFor_18 ⟨Nat.le_of_ble_eq_true rfl, Nat.le_of_ble_eq_true rfl⟩ ?_
  refine lv_iadd hx hb dX_feeFor_21 ?_
  refine lv_iload_n hx hb dX_feeFor_22 rfl (lv_at hl 0 rfl) ?_
  refine lv_ldc (v := 50000) hx hb hown (hts _ q_355) dX_feeFor_23 ?_
  refine lv_ldc (v := 1000000) hx hb hown (hts _ q_186) dX_feeFor_25 ?_
  refine lv_bipush (v := 12) hx hb dX_feeFor_27 (by decide) ?_
  refine rcS1 (rest := [.int ((fX_ofBand p0 0 10000 25) + (fX_ofBand p0 10000 50000 20))]) (As := [.int p0, .int 50000, .int 1000000, .int 12]) hx hb hml hown hts (cX_ofBand l p0 50000 1000000 12) (gS q_352 q_353 q_1 q_354) rfl rfl ⟨rfl, hdyX_ofBand⟩ ⟨Nat.le_of_ble_eq_true rfl, Nat.le_of_ble_eq_true rfl⟩ hl.1 rfl (Nat.le_of_ble_eq_true rfl) dX_feeFor_29 ⟨Nat.le_of_ble_eq_true rfl, Nat.le_of_ble_eq_true rfl⟩ ?_
  refine lv_iadd hx hb dX_feeFor_32 ?_
  exact W.iret (v := ((fX_ofBand p0 0 10000 25) + (fX_ofBand p0 10000 50000 20)) + (fX_ofBand p0 50000 1000000 12)) hx hb hr (fun t ht hW => ⟨_, rfl, (by rw [fX_feeFor] <;> rfl), ht⟩) (fun q h => nomatch h) dX_feeFor_33
def fX_checkSeller (p0 : Int32) : Nat := if p0 < 0 then 1 else (if p0 < 6 then 0 else 1)
theorem hdyX_checkSeller : yX_checkSeller.cls ≠ "java/lang/invoke/MethodHandle" ∧ yX_checkSeller.cls ≠ "java/lang/invoke/VarHandle" ∧ (parseMethodDescriptor yX_checkSeller.desc).map (fun d => d.parameters.length) = some 1 := by decide +kernel
theorem dX_checkSeller_0 : decode bX_checkSeller 0 = .ok (.iload_n 0, 1) := by decide +kernel
theorem dX_checkSeller_1 : decode bX_checkSeller 1 = .ok (.ifCond .lt 9, 3) := by decide +kernel
theorem dX_checkSeller_4 : decode bX_checkSeller 4 = .ok (.iload_n 0, 1) := by decide +kernel
theorem dX_checkSeller_5 : decode bX_checkSeller 5 = .ok (.bipush 6, 2) := by decide +kernel
theorem dX_checkSeller_7 : decode bX_checkSeller 7 = .ok (.if_icmp .lt 13, 3) := by decide +kernel
theorem dX_checkSeller_10 : decode bX_checkSeller 10 = .ok (.new 176, 3) := by decide +kernel
theorem dX_checkSeller_13 : decode bX_checkSeller 13 = .ok (.dup, 1) := by decide +kernel
theorem dX_checkSeller_14 : decode bX_checkSeller 14 = .ok (.ldc 181, 2) := by decide +kernel
theorem dX_checkSeller_16 : decode bX_checkSeller 16 = .ok (.invokespecial 180, 3) := by decide +kernel
theorem dX_checkSeller_19 : decode bX_checkSeller 19 = .ok (.athrow, 1) := by decide +kernel
theorem dX_checkSeller_20 : decode bX_checkSeller 20 = .ok (.return_, 1) := by decide +kernel
set_option maxHeartbeats 4000000 in
set_option maxRecDepth 100000 in
theorem cX_checkSeller (l : Launch) (hl9 : l.stackTraces = false) (D : va_G) (tI tJ tL : ClassId) (A : Nat → Prop) (sg ad : Nat → Nat) (n : Nat) (sL : NL) (sA : NA) (p0 : Int32) : vx_Met l yX_checkSeller (Cond.code yX_checkSeller bX_checkSeller 1 none :: wNeed) { frames := 6, cells := 1, slots := 6, locals := 90 } (va_Pc [.int p0] (GP D tI tJ tL A sg ad n sL sA)) (va_Qv (fun _ : Unit => fX_checkSeller p0 = 0) (fun _ t => GW D tI tJ tL A ad n sL sA t.heap) A) (XQ D tI tJ tL A ad n sL sA (fX_checkSeller p0)) 1 6 A := by
  refine en_XG (av := [.int p0]) (by decide) (Nat.le_of_ble_eq_true rfl) ?_
  intro p e s m below meth c hx hb hml hown hts hr hlocks hT hC H locs hG hS ls hl
  replace hl : lv_has ls 1 [(0, .int p0)] := hl
  refine lv_iload_n hx hb dX_checkSeller_0 rfl (lv_at hl 0 rfl) ?_
  refine lv_if_lt (tgt := 10) hx hb dX_checkSeller_1 (by decide) (fun c_1 => ?_) (fun c_1 => ?_)
  · exact rc_throw (text := "no such seller") hx hb hts hown hC hG hS hl9 hlocks hT (Or.inl ⟨rfl, by rw [fX_checkSeller, if_pos c_1] <;> rfl⟩) (by decide +kernel) q_57 q_5 (by decide) at_I (hl.1.trans hml.symm) dX_checkSeller_10 dX_checkSeller_13 dX_checkSeller_14 dX_checkSeller_16 dX_checkSeller_19 (Nat.le_of_ble_eq_true rfl) (Nat.le_of_ble_eq_true rfl) (Nat.le_of_ble_eq_true rfl) (Nat.le_of_ble_eq_true rfl) (Nat.le_of_ble_eq_true rfl) (Nat.le_of_ble_eq_true rfl)
  · refine lv_iload_n hx hb dX_checkSeller_4 rfl (lv_at hl 0 rfl) ?_
    refine lv_bipush (v := 6) hx hb dX_checkSeller_5 (by decide) ?_
    refine lv_icmp_lt (tgt := 20) hx hb dX_checkSeller_7 (by decide) (fun c_2 => ?_) (fun c_2 => ?_)
    · refine vx_ret ?_
      refine W.widen (k := 1) (n := 6) (Nat.le_of_ble_eq_true rfl) (Nat.le_of_ble_eq_true rfl) ?_
      exact W.vret hx hb hr (fun t ht hW => ⟨⟨(), rfl, (by rw [fX_checkSeller, if_neg c_1, if_pos c_2] <;> rfl), gw_at hG ht⟩, hS.F ht⟩) hS.2.2 dX_checkSeller_20
    · exact rc_throw (text := "no such seller") hx hb hts hown hC hG hS hl9 hlocks hT (Or.inl ⟨rfl, by rw [fX_checkSeller, if_neg c_1, if_neg c_2] <;> rfl⟩) (by decide +kernel) q_57 q_5 (by decide) at_I (hl.1.trans hml.symm) dX_checkSeller_10 dX_checkSeller_13 dX_checkSeller_14 dX_checkSeller_16 dX_checkSeller_19 (Nat.le_of_ble_eq_true rfl) (Nat.le_of_ble_eq_true rfl) (Nat.le_of_ble_eq_true rfl) (Nat.le_of_ble_eq_true rfl) (Nat.le_of_ble_eq_true rfl) (Nat.le_of_ble_eq_true rfl)
def fX_checkBuyer (p0 : Int32) : Nat := if p0 < 0 then 1 else (if p0 < 10 then 0 else 1)
theorem hdyX_checkBuyer : yX_checkBuyer.cls ≠ "java/lang/invoke/MethodHandle" ∧ yX_checkBuyer.cls ≠ "java/lang/invoke/VarHandle" ∧ (parseMethodDescriptor yX_checkBuyer.desc).map (fun d => d.parameters.length) = some 1 := by decide +kernel
theorem dX_checkBuyer_0 : decode bX_checkBuyer 0 = .ok (.iload_n 0, 1) := by decide +kernel
theorem dX_checkBuyer_1 : decode bX_checkBuyer 1 = .ok (.ifCond .lt 9, 3) := by decide +kernel
theorem dX_checkBuyer_4 : decode bX_checkBuyer 4 = .ok (.iload_n 0, 1) := by decide +kernel
theorem dX_checkBuyer_5 : decode bX_checkBuyer 5 = .ok (.bipush 10, 2) := by decide +kernel
theorem dX_checkBuyer_7 : decode bX_checkBuyer 7 = .ok (.if_icmp .lt 13, 3) := by decide +kernel
theorem dX_checkBuyer_10 : decode bX_checkBuyer 10 = .ok (.new 176, 3) := by decide +kernel
theorem dX_checkBuyer_13 : decode bX_checkBuyer 13 = .ok (.dup, 1) := by decide +kernel
theorem dX_checkBuyer_14 : decode bX_checkBuyer 14 = .ok (.ldc 183, 2) := by decide +kernel
theorem dX_checkBuyer_16 : decode bX_checkBuyer 16 = .ok (.invokespecial 180, 3) := by decide +kernel
theorem dX_checkBuyer_19 : decode bX_checkBuyer 19 = .ok (.athrow, 1) := by decide +kernel
theorem dX_checkBuyer_20 : decode bX_checkBuyer 20 = .ok (.return_, 1) := by decide +kernel
set_option maxHeartbeats 4000000 in
set_option maxRecDepth 100000 in
theorem cX_checkBuyer (l : Launch) (hl9 : l.stackTraces = false) (D : va_G) (tI tJ tL : ClassId) (A : Nat → Prop) (sg ad : Nat → Nat) (n : Nat) (sL : NL) (sA : NA) (p0 : Int32) : vx_Met l yX_checkBuyer (Cond.code yX_checkBuyer bX_checkBuyer 1 none :: wNeed) { frames := 6, cells := 1, slots := 6, locals := 90 } (va_Pc [.int p0] (GP D tI tJ tL A sg ad n sL sA)) (va_Qv (fun _ : Unit => fX_checkBuyer p0 = 0) (fun _ t => GW D tI tJ tL A ad n sL sA t.heap) A) (XQ D tI tJ tL A ad n sL sA (fX_checkBuyer p0)) 1 6 A := by
  refine en_XG (av := [.int p0]) (by decide) (Nat.le_of_ble_eq_true rfl) ?_
  intro p e s m below meth c hx hb hml hown hts hr hlocks hT hC H locs hG hS ls hl
  replace hl : lv_has ls 1 [(0, .int p0)] := hl
  refine lv_iload_n hx hb dX_checkBuyer_0 rfl (lv_at hl 0 rfl) ?_
  refine lv_if_lt (tgt := 10) hx hb dX_checkBuyer_1 (by decide) (fun c_1 => ?_) (fun c_1 => ?_)
  · exact rc_throw (text := "no such buyer") hx hb hts hown hC hG hS hl9 hlocks hT (Or.inl ⟨rfl, by rw [fX_checkBuyer, if_pos c_1] <;> rfl⟩) (by decide +kernel) q_57 q_5 (by decide) at_I (hl.1.trans hml.symm) dX_checkBuyer_10 dX_checkBuyer_13 dX_checkBuyer_14 dX_checkBuyer_16 dX_checkBuyer_19 (Nat.le_of_ble_eq_true rfl) (Nat.le_of_ble_eq_true rfl) (Nat.le_of_ble_eq_true rfl) (Nat.le_of_ble_eq_true rfl) (Nat.le_of_ble_eq_true rfl) (Nat.le_of_ble_eq_true rfl)
  · refine lv_iload_n hx hb dX_checkBuyer_4 rfl (lv_at hl 0 rfl) ?_
    refine lv_bipush (v := 10) hx hb dX_checkBuyer_5 (by decide) ?_
    refine lv_icmp_lt (tgt := 20) hx hb dX_checkBuyer_7 (by decide) (fun c_2 => ?_) (fun c_2 => ?_)
    · refine vx_ret ?_
      refine W.widen (k := 1) (n := 6) (Nat.le_of_ble_eq_true rfl) (Nat.le_of_ble_eq_true rfl) ?_
      exact W.vret hx hb hr (fun t ht hW => ⟨⟨(), rfl, (by rw [fX_checkBuyer, if_neg c_1, if_pos c_2] <;> rfl), gw_at hG ht⟩, hS.F ht⟩) hS.2.2 dX_checkBuyer_20
    · exact rc_throw (text := "no such buyer") hx hb hts hown hC hG hS hl9 hlocks hT (Or.inl ⟨rfl, by rw [fX_checkBuyer, if_neg c_1, if_neg c_2] <;> rfl⟩) (by decide +kernel) q_57 q_5 (by decide) at_I (hl.1.trans hml.symm) dX_checkBuyer_10 dX_checkBuyer_13 dX_checkBuyer_14 dX_checkBuyer_16 dX_checkBuyer_19 (Nat.le_of_ble_eq_true rfl) (Nat.le_of_ble_eq_true rfl) (Nat.le_of_ble_eq_true rfl) (Nat.le_of_ble_eq_true rfl) (Nat.le_of_ble_eq_true rfl) (Nat.le_of_ble_eq_true rfl)
def fX_checkRange (p0 : Int32) (p1 : Int32) (p2 : Int32) : Nat := if p0 < p1 then 2 else (if p0 ≤ p2 then 0 else 2)
theorem hdyX_checkRange : yX_checkRange.cls ≠ "java/lang/invoke/MethodHandle" ∧ yX_checkRange.cls ≠ "java/lang/invoke/VarHandle" ∧ (parseMethodDescriptor yX_checkRange.desc).map (fun d => d.parameters.length) = some 3 := by decide +kernel
theorem dX_checkRange_0 : decode bX_checkRange 0 = .ok (.iload_n 0, 1) := by decide +kernel
theorem dX_checkRange_1 : decode bX_checkRange 1 = .ok (.iload_n 1, 1) := by decide +kernel
theorem dX_checkRange_2 : decode bX_checkRange 2 = .ok (.if_icmp .lt 8, 3) := by decide +kernel
theorem dX_checkRange_5 : decode bX_checkRange 5 = .ok (.iload_n 0, 1) := by decide +kernel
theorem dX_checkRange_6 : decode bX_checkRange 6 = .ok (.iload_n 2, 1) := by decide +kernel
theorem dX_checkRange_7 : decode bX_checkRange 7 = .ok (.if_icmp .le 13, 3) := by decide +kernel
theorem dX_checkRange_10 : decode bX_checkRange 10 = .ok (.new 185, 3) := by decide +kernel
theorem dX_checkRange_13 : decode bX_checkRange 13 = .ok (.dup, 1) := by decide +kernel
theorem dX_checkRange_14 : decode bX_checkRange 14 = .ok (.ldc 187, 2) := by decide +kernel
theorem dX_checkRange_16 : decode bX_checkRange 16 = .ok (.invokespecial 189, 3) := by decide +kernel
theorem dX_checkRange_19 : decode bX_checkRange 19 = .ok (.athrow, 1) := by decide +kernel
theorem dX_checkRange_20 : decode bX_checkRange 20 = .ok (.return_, 1) := by decide +kernel
set_option maxHeartbeats 4000000 in
set_option maxRecDepth 100000 in
theorem cX_checkRange (l : Launch) (hl9 : l.stackTraces = false) (D : va_G) (tI tJ tL : ClassId) (A : Nat → Prop) (sg ad : Nat → Nat) (n : Nat) (sL : NL) (sA : NA) (p0 : Int32) (p1 : Int32) (p2 : Int32) : vx_Met l yX_checkRange (Cond.code yX_checkRange bX_checkRange 3 none :: wNeed) { frames := 6, cells := 1, slots := 6, locals := 90 } (va_Pc [.int p0, .int p1, .int p2] (GP D tI tJ tL A sg ad n sL sA)) (va_Qv (fun _ : Unit => fX_checkRange p0 p1 p2 = 0) (fun _ t => GW D tI tJ tL A ad n sL sA t.heap) A) (XQ D tI tJ tL A ad n sL sA (fX_checkRange p0 p1 p2)) 1 6 A := by
  refine en_XG (av := [.int p0, .int p1, .int p2]) (by decide) (Nat.le_of_ble_eq_true rfl) ?_
  intro p e s m below meth c hx hb hml hown hts hr hlocks hT hC H locs hG hS ls hl
  replace hl : lv_has ls 3 [(0, .int p0), (1, .int p1), (2, .int p2)] := hl
  refine lv_iload_n hx hb dX_checkRange_0 rfl (lv_at hl 0 rfl) ?_
  refine lv_iload_n hx hb dX_checkRange_1 rfl (lv_at hl 1 rfl) ?_
  refine lv_icmp_lt (tgt := 10) hx hb dX_checkRange_2 (by decide) (fun c_1 => ?_) (fun c_1 => ?_)
  · exact rc_throw (text := "out of its range") hx hb hts hown hC hG hS hl9 hlocks hT (Or.inr (Or.inl ⟨rfl, by rw [fX_checkRange, if_pos c_1] <;> rfl⟩)) (by decide +kernel) q_128 q_7 (by decide) at_G (hl.1.trans hml.symm) dX_checkRange_10 dX_checkRange_13 dX_checkRange_14 dX_checkRange_16 dX_checkRange_19 (Nat.le_of_ble_eq_true rfl) (Nat.le_of_ble_eq_true rfl) (Nat.le_of_ble_eq_true rfl) (Nat.le_of_ble_eq_true rfl) (Nat.le_of_ble_eq_true rfl) (Nat.le_of_ble_eq_true rfl)
  · refine lv_iload_n hx hb dX_checkRange_5 rfl (lv_at hl 0 rfl) ?_
    refine lv_iload_n hx hb dX_checkRange_6 rfl (lv_at hl 2 rfl) ?_
    refine lv_icmp_le (tgt := 20) hx hb dX_checkRange_7 (by decide) (fun c_2 => ?_) (fun c_2 => ?_)
    · refine vx_ret ?_
      refine W.widen (k := 1) (n := 6) (Nat.le_of_ble_eq_true rfl) (Nat.le_of_ble_eq_true rfl) ?_
      exact W.vret hx hb hr (fun t ht hW => ⟨⟨(), rfl, (by rw [fX_checkRange, if_neg c_1, if_pos c_2] <;> rfl), gw_at hG ht⟩, hS.F ht⟩) hS.2.2 dX_checkRange_20
    · exact rc_throw (text := "out of its range") hx hb hts hown hC hG hS hl9 hlocks hT (Or.inr (Or.inl ⟨rfl, by rw [fX_checkRange, if_neg c_1, if_neg c_2] <;> rfl⟩)) (by decide +kernel) q_128 q_7 (by decide) at_G (hl.1.trans hml.symm) dX_checkRange_10 dX_checkRange_13 dX_checkRange_14 dX_checkRange_16 dX_checkRange_19 (Nat.le_of_ble_eq_true rfl) (Nat.le_of_ble_eq_true rfl) (Nat.le_of_ble_eq_true rfl) (Nat.le_of_ble_eq_true rfl) (Nat.le_of_ble_eq_true rfl) (Nat.le_of_ble_eq_true rfl)
def fX_checkArtist (p0 : Int32) : Nat := if p0 = (-1) then 0 else (if p0 = 0 then 0 else (bnd4 (fX_checkRange p0 1800 2000) (0)))
theorem hdyX_checkArtist : yX_checkArtist.cls ≠ "java/lang/invoke/MethodHandle" ∧ yX_checkArtist.cls ≠ "java/lang/invoke/VarHandle" ∧ (parseMethodDescriptor yX_checkArtist.desc).map (fun d => d.parameters.length) = some 1 := by decide +kernel
theorem dX_checkArtist_0 : decode bX_checkArtist 0 = .ok (.iload_n 0, 1) := by decide +kernel
theorem dX_checkArtist_1 : decode bX_checkArtist 1 = .ok (.iconst (-1), 1) := by decide +kernel
theorem dX_checkArtist_2 : decode bX_checkArtist 2 = .ok (.if_icmp .eq 17, 3) := by decide +kernel
theorem dX_checkArtist_5 : decode bX_checkArtist 5 = .ok (.iload_n 0, 1) := by decide +kernel
theorem dX_checkArtist_6 : decode bX_checkArtist 6 = .ok (.ifCond .eq 13, 3) := by decide +kernel
theorem dX_checkArtist_9 : decode bX_checkArtist 9 = .ok (.iload_n 0, 1) := by decide +kernel
theorem dX_checkArtist_10 : decode bX_checkArtist 10 = .ok (.sipush 1800, 3) := by decide +kernel
theorem dX_checkArtist_13 : decode bX_checkArtist 13 = .ok (.sipush 2000, 3) := by decide +kernel
theorem dX_checkArtist_16 : decode bX_checkArtist 16 = .ok (.invokestatic 31, 3) := by decide +kernel
theorem dX_checkArtist_19 : decode bX_checkArtist 19 = .ok (.return_, 1) := by decide +kernel
set_option maxHeartbeats 4000000 in
set_option maxRecDepth 100000 in
theorem cX_checkArtist (l : Launch) (hl9 : l.stackTraces = false) (D : va_G) (tI tJ tL : ClassId) (A : Nat → Prop) (sg ad : Nat → Nat) (n : Nat) (sL : NL) (sA : NA) (p0 : Int32) : vx_Met l yX_checkArtist (Cond.code yX_checkArtist bX_checkArtist 1 none :: wNeed) { frames := 7, cells := 1, slots := 6, locals := 112 } (va_Pc [.int p0] (GP D tI tJ tL A sg ad n sL sA)) (va_Qv (fun _ : Unit => fX_checkArtist p0 = 0) (fun _ t => GW D tI tJ tL A ad n sL sA t.heap) A) (XQ D tI tJ tL A ad n sL sA (fX_checkArtist p0)) 1 6 A := by
  refine en_XG (av := [.int p0]) (by decide) (Nat.le_of_ble_eq_true rfl) ?_
  intro p e s m below meth c hx hb hml hown hts hr hlocks hT hC H locs hG hS ls hl
  replace hl : lv_has ls 1 [(0, .int p0)] := hl
  refine lv_iload_n hx hb dX_checkArtist_0 rfl (lv_at hl 0 rfl) ?_
  refine lv_iconst (v := (-1)) hx hb dX_checkArtist_1 (by decide) ?_
  refine lv_icmp_eq (tgt := 19) hx hb dX_checkArtist_2 (by decide) (fun c_1 => ?_) (fun c_1 => ?_)
  · refine vx_ret ?_
    refine W.widen (k := 1) (n := 6) (Nat.le_of_ble_eq_true rfl) (Nat.le_of_ble_eq_true rfl) ?_
    exact W.vret hx hb hr (fun t ht hW => ⟨⟨(), rfl, (by rw [fX_checkArtist, if_pos c_1] <;> rfl), gw_at hG ht⟩, hS.F ht⟩) hS.2.2 dX_checkArtist_19
  · refine lv_iload_n hx hb dX_checkArtist_5 rfl (lv_at hl 0 rfl) ?_
    refine lv_if_eq (tgt := 19) hx hb dX_checkArtist_6 (by decide) (fun c_2 => ?_) (fun c_2 => ?_)
    · refine vx_ret ?_
      refine W.widen (k := 1) (n := 6) (Nat.le_of_ble_eq_true rfl) (Nat.le_of_ble_eq_true rfl) ?_
      exact W.vret hx hb hr (fun t ht hW => ⟨⟨(), rfl, (by rw [fX_checkArtist, if_neg c_1, if_pos c_2] <;> rfl), gw_at hG ht⟩, hS.F ht⟩) hS.2.2 dX_checkArtist_19
    · refine lv_iload_n hx hb dX_checkArtist_9 rfl (lv_at hl 0 rfl) ?_
      refine lv_sipush (v := 1800) hx hb dX_checkArtist_10 (by decide) ?_
      refine lv_sipush (v := 2000) hx hb dX_checkArtist_13 (by decide) ?_
      refine rcS4 (rest := []) (As := [.int p0, .int 1800, .int 2000]) (Mc := 1) (Ms := 6) hx hb hml hown hts hC hG hS hlocks hT (cX_checkRange l hl9 D tI tJ tL A sg ad n sL sA p0 1800 2000) (gS q_125 q_126 q_1 q_127) rfl rfl ⟨rfl, hdyX_checkRange⟩ ⟨Nat.le_of_ble_eq_true rfl, Nat.le_of_ble_eq_true rfl⟩ hl.1 rfl (Nat.le_of_ble_eq_true rfl) dX_checkArtist_16 ⟨Nat.le_of_ble_eq_true rfl, Nat.le_of_ble_eq_true rfl⟩ ⟨Nat.le_of_ble_eq_true rfl, Nat.le_of_ble_eq_true rfl⟩ (fun h => by rw [fX_checkArtist, if_neg c_1, if_neg c_2, bnd4_n h] <;> rfl) (fun h_3 H locs hG hS => ?_)
      refine vx_ret ?_
      refine W.widen (k := 1) (n := 6) (Nat.le_of_ble_eq_true rfl) (Nat.le_of_ble_eq_true rfl) ?_
      exact W.vret hx hb hr (fun t ht hW => ⟨⟨(), rfl, (by rw [fX_checkArtist, if_neg c_1, if_neg c_2, bnd4_0 h_3] <;> rfl), gw_at hG ht⟩, hS.F ht⟩) hS.2.2 dX_checkArtist_19
def fX_checkState (sL : NL) (sA : NA) (i : Nat) (p1 : Int32) : Nat := if (sA (4 * i + 11) 4) = p1 then 0 else 3
theorem hdyX_checkState : yX_checkState.cls ≠ "java/lang/invoke/MethodHandle" ∧ yX_checkState.cls ≠ "java/lang/invoke/VarHandle" ∧ (parseMethodDescriptor yX_checkState.desc).map (fun d => d.parameters.length) = some 2 := by decide +kernel
theorem dX_checkState_0 : decode bX_checkState 0 = .ok (.aload_n 0, 1) := by decide +kernel
theorem dX_checkState_1 : decode bX_checkState 1 = .ok (.getfield 85, 3) := by decide +kernel
theorem dX_checkState_4 : decode bX_checkState 4 = .ok (.iload_n 1, 1) := by decide +kernel
theorem dX_checkState_5 : decode bX_checkState 5 = .ok (.if_icmp .eq 13, 3) := by decide +kernel
theorem dX_checkState_8 : decode bX_checkState 8 = .ok (.new 41, 3) := by decide +kernel
theorem dX_checkState_11 : decode bX_checkState 11 = .ok (.dup, 1) := by decide +kernel
theorem dX_checkState_12 : decode bX_checkState 12 = .ok (.ldc 190, 2) := by decide +kernel
theorem dX_checkState_14 : decode bX_checkState 14 = .ok (.invokespecial 45, 3) := by decide +kernel
theorem dX_checkState_17 : decode bX_checkState 17 = .ok (.athrow, 1) := by decide +kernel
theorem dX_checkState_18 : decode bX_checkState 18 = .ok (.return_, 1) := by decide +kernel
set_option maxHeartbeats 4000000 in
set_option maxRecDepth 100000 in
theorem cX_checkState (l : Launch) (hl9 : l.stackTraces = false) (D : va_G) (tI tJ tL : ClassId) (A : Nat → Prop) (sg ad : Nat → Nat) (n : Nat) (sL : NL) (sA : NA) (i : Nat) (hi : i < n) (p1 : Int32) : vx_Met l yX_checkState (Cond.code yX_checkState bX_checkState 2 none :: wNeed) { frames := 6, cells := 1, slots := 6, locals := 90 } (va_Pc [.ref (ad (4 * i + 11)), .int p1] (GP D tI tJ tL A sg ad n sL sA)) (va_Qv (fun _ : Unit => fX_checkState sL sA i p1 = 0) (fun _ t => GW D tI tJ tL A ad n sL sA t.heap) A) (XQ D tI tJ tL A ad n sL sA (fX_checkState sL sA i p1)) 1 6 A := by
  refine en_XG (av := [.ref (ad (4 * i + 11)), .int p1]) (by decide) (Nat.le_of_ble_eq_true rfl) ?_
  intro p e s m below meth c hx hb hml hown hts hr hlocks hT hC H locs hG hS ls hl
  replace hl : lv_has ls 2 [(0, .ref (ad (4 * i + 11))), (1, .int p1)] := hl
  refine lv_aload_n hx hb dX_checkState_0 rfl (lv_at hl 0 rfl) ?_
  refine rl_getN (v := .int (sA (4 * i + 11) 4)) hx hb hts hown hC hG 4 hi (by decide) z_244 (rfl) dX_checkState_1 ?_
  refine lv_iload_n hx hb dX_checkState_4 rfl (lv_at hl 1 rfl) ?_
  refine lv_icmp_eq (tgt := 18) hx hb dX_checkState_5 (by decide) (fun c_1 => ?_) (fun c_1 => ?_)
  · refine vx_ret ?_
    refine W.widen (k := 1) (n := 6) (Nat.le_of_ble_eq_true rfl) (Nat.le_of_ble_eq_true rfl) ?_
    exact W.vret hx hb hr (fun t ht hW => ⟨⟨(), rfl, (by rw [fX_checkState, if_pos c_1] <;> rfl), gw_at hG ht⟩, hS.F ht⟩) hS.2.2 dX_checkState_18
  · exact rc_throw (text := "the lot is in another state") hx hb hts hown hC hG hS hl9 hlocks hT (Or.inr (Or.inr ⟨rfl, by rw [fX_checkState, if_neg c_1] <;> rfl⟩)) (by decide +kernel) q_190 q_8 (by decide) at_S (hl.1.trans hml.symm) dX_checkState_8 dX_checkState_11 dX_checkState_12 dX_checkState_14 dX_checkState_17 (Nat.le_of_ble_eq_true rfl) (Nat.le_of_ble_eq_true rfl) (Nat.le_of_ble_eq_true rfl) (Nat.le_of_ble_eq_true rfl) (Nat.le_of_ble_eq_true rfl) (Nat.le_of_ble_eq_true rfl)
