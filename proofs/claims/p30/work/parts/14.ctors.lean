theorem tyI {D : va_G} {tI tJ tL cA : ClassId} {s : State} (h : va_K D classes (tys3 tI tJ tL ++ [(cA, FieldType.int)]) s) : cA = tI := by
  have h1 : s.vm.findClass ("[" ++ FieldType.int.toString) = some tI := (h.2 0 _ rfl).2
  have h2 : s.vm.findClass ("[" ++ FieldType.int.toString) = some cA := (h.2 2 _ rfl).2
  exact Option.some.inj (h2.symm.trans h1)
theorem tyL {D : va_G} {tI tJ tL cA : ClassId} {s : State} (h : va_K D classes (tys3 tI tJ tL ++ [(cA, FieldType.object "DroitLine$Lot")]) s) : cA = tL := by
  obtain ⟨-, kA, comp, -, -, -, h1⟩ := h.2 1 _ rfl
  obtain ⟨-, kB, comp2, -, -, -, h2⟩ := h.2 2 _ rfl
  exact Option.some.inj (h2.symm.trans h1)
/-- what a constructor wants of its start -/
def CP (D : va_G) (tI tJ tL : ClassId) (w0 : va_W) (sz : Nat) (x : Bool) (U : State) : Prop := U.heap.size = sz ∧ va_P D classes w0 U.heap ∧ va_K D classes (tys3 tI tJ tL) U ∧ va_D (fun _ => True) w0 ∧ (∀ w ∈ wBad, va_Nw w U) ∧ (x = true → va_AO "DroitLine$Lot" U)
theorem CP.blind {D : va_G} {tI tJ tL : ClassId} {w0 : va_W} {sz : Nat} {x : Bool} {av : List Value} : FrameBlind (va_Pc av (CP D tI tJ tL w0 sz x)) := by
  intro a U g mk h
  obtain ⟨h0, h1, h2, h3, h4, h5, h6⟩ := h
  exact ⟨h0, h1, h2, va_K.moved (u := U) (U := U.calling g mk a) (Vm.Alike.refl U.vm) h3, h4, fun w hw => bad_same (u := U) (U := U.calling g mk a) (List.mem_filter.mp hw).2 rfl (h5 w hw), fun hx => va_AO.moved (u := U) (U := U.calling g mk a) (Vm.Alike.refl U.vm) (h6 hx)⟩

theorem hdyO_init : yO_init.cls ≠ "java/lang/invoke/MethodHandle" ∧ yO_init.cls ≠ "java/lang/invoke/VarHandle" ∧ (parseMethodDescriptor yO_init.desc).map (fun d => d.parameters.length) = some 0 := by decide +kernel
theorem dO_init_0 : decode bO_init 0 = .ok (.aload_n 0, 1) := by decide +kernel
theorem dO_init_1 : decode bO_init 1 = .ok (.invokespecial 3, 3) := by decide +kernel
theorem dO_init_4 : decode bO_init 4 = .ok (.aload_n 0, 1) := by decide +kernel
theorem dO_init_5 : decode bO_init 5 = .ok (.bipush 10, 2) := by decide +kernel
theorem dO_init_7 : decode bO_init 7 = .ok (.newarray .int, 2) := by decide +kernel
theorem dO_init_9 : decode bO_init 9 = .ok (.putfield 9, 3) := by decide +kernel
theorem dO_init_12 : decode bO_init 12 = .ok (.aload_n 0, 1) := by decide +kernel
theorem dO_init_13 : decode bO_init 13 = .ok (.bipush 10, 2) := by decide +kernel
theorem dO_init_15 : decode bO_init 15 = .ok (.newarray .int, 2) := by decide +kernel
theorem dO_init_17 : decode bO_init 17 = .ok (.putfield 15, 3) := by decide +kernel
theorem dO_init_20 : decode bO_init 20 = .ok (.return_, 1) := by decide +kernel
set_option maxHeartbeats 4000000 in
set_option maxRecDepth 100000 in
theorem cO_init (l : Launch) (D : va_G) (tI tJ tL : ClassId) (h0 sz : Nat) : Met l yO_init (Cond.code yO_init bO_init 1 none :: wNeed) { frames := 1, cells := 2, slots := 20, locals := 20 } (va_Pc [.ref h0] (CP D tI tJ tL [(h0, .inr (2, [.null, .null, .int 0]))] sz false)) (va_Qv (fun _ : Unit => True) (fun _ t => ∃ q1 q2 : Nat, va_P D classes [(h0, .inr (2, [.ref q1, .ref q2, .int 0])), (q1, .inl (tI, 10, .inl (fun _ => 0))), (q2, .inl (tI, 10, .inl (fun _ => 0)))] t.heap ∧ va_D (va_A [(h0, .inr (2, [.null, .null, .int 0]))] sz) [(h0, .inr (2, [.ref q1, .ref q2, .int 0])), (q1, .inl (tI, 10, .inl (fun _ => 0))), (q2, .inl (tI, 10, .inl (fun _ => 0)))]) (va_A [(h0, .inr (2, [.null, .null, .int 0]))] sz)) 2 20 (va_A [(h0, .inr (2, [.null, .null, .int 0]))] sz) := by
  refine en_M (av := [.ref h0]) (by decide) (Nat.le_of_ble_eq_true rfl) ?_
  intro p e s m below meth c hx hb hml hown hts hr hlocks hmname hP0 ls hl
  obtain ⟨hsz, hP, hK, hD0, hZ, hAO⟩ := hP0
  subst hsz
  have hD := hD0.self (sz := s.heap.size)
  generalize hAe : va_A [(h0, .inr (2, [.null, .null, .int 0]))] s.heap.size = A at hD ⊢
  have hA : ∀ q : Nat, s.heap.size ≤ q → A q := fun q h => by rw [← hAe]; exact Or.inr h
  have hS : va_S A s.heap s.heap [] := va_S.rf
  replace hl : lv_has ls 1 [(0, .ref h0)] := hl
  refine lv_aload_n hx hb dO_init_0 rfl (lv_at hl 0 rfl) ?_
  refine W.objInit hx hb hown (hts _ q_222) (hts _ q_17) (hts _ q_18) rfl (by rw [hml]; exact hl.1) rfl dO_init_1 (Nat.le_of_ble_eq_true rfl) (Nat.le_of_ble_eq_true rfl) ?_
  refine W.eq (g2 := F0 m 4 ls []) rfl ?_
  refine lv_aload_n hx hb dO_init_4 rfl (lv_at hl 0 rfl) ?_
  refine lv_bipush (v := 10) hx hb dO_init_5 (by decide) ?_
  refine va_newa (atype := .int) (ty := .int) (N' := 10) (a0 := (10, .inl fun _ => 0)) hx hb (hts _ q_49) rfl hK hP hD hS hA (fun _ => rfl) (by decide) rfl (by decide) (Nat.le_of_ble_eq_true rfl) (Nat.le_of_ble_eq_true rfl) dO_init_7 (fun q1 cA H hK1 hP hD hS => ?_)
  rw [tyI hK1] at hP hD
  have hP : va_P D classes [(h0, .inr (2, [.null, .null, .int 0])), (q1, .inl (tI, 10, .inl (fun _ => 0)))] H := hP
  have hD : va_D A [(h0, .inr (2, [.null, .null, .int 0])), (q1, .inl (tI, 10, .inl (fun _ => 0)))] := hD
  refine va_putF (D := D) (ci := 2) (v := .ref q1) (ty := (t_O 0)) (C := "DroitLine$Offers") (T := F_O) (N := 3) hx hb hts i_O t_O t_O_ok n_O hown hK hP hD hS 0 rfl rfl 0 (by decide) (hts _ q_223) (fun _ h9 => h9) rfl hmname rfl (by decide +kernel) rfl rfl (Nat.le_of_ble_eq_true rfl) dO_init_9 (fun H locs hP hD hS => ?_)
  have hP : va_P D classes [(h0, .inr (2, [.ref q1, .null, .int 0])), (q1, .inl (tI, 10, .inl (fun _ => 0)))] H := hP
  have hD : va_D A [(h0, .inr (2, [.ref q1, .null, .int 0])), (q1, .inl (tI, 10, .inl (fun _ => 0)))] := hD
  refine lv_aload_n hx hb dO_init_12 rfl (lv_at hl 0 rfl) ?_
  refine lv_bipush (v := 10) hx hb dO_init_13 (by decide) ?_
  refine va_newa (atype := .int) (ty := .int) (N' := 10) (a0 := (10, .inl fun _ => 0)) hx hb (hts _ q_49) rfl hK hP hD hS hA (fun _ => rfl) (by decide) rfl (by decide) (Nat.le_of_ble_eq_true rfl) (Nat.le_of_ble_eq_true rfl) dO_init_15 (fun q2 cA H hK1 hP hD hS => ?_)
  rw [tyI hK1] at hP hD
  have hP : va_P D classes [(h0, .inr (2, [.ref q1, .null, .int 0])), (q1, .inl (tI, 10, .inl (fun _ => 0))), (q2, .inl (tI, 10, .inl (fun _ => 0)))] H := hP
  have hD : va_D A [(h0, .inr (2, [.ref q1, .null, .int 0])), (q1, .inl (tI, 10, .inl (fun _ => 0))), (q2, .inl (tI, 10, .inl (fun _ => 0)))] := hD
  refine va_putF (D := D) (ci := 2) (v := .ref q2) (ty := (t_O 1)) (C := "DroitLine$Offers") (T := F_O) (N := 3) hx hb hts i_O t_O t_O_ok n_O hown hK hP hD hS 0 rfl rfl 1 (by decide) (hts _ q_224) (fun _ h9 => h9) rfl hmname rfl (by decide +kernel) rfl rfl (Nat.le_of_ble_eq_true rfl) dO_init_17 (fun H locs hP hD hS => ?_)
  have hP : va_P D classes [(h0, .inr (2, [.ref q1, .ref q2, .int 0])), (q1, .inl (tI, 10, .inl (fun _ => 0))), (q2, .inl (tI, 10, .inl (fun _ => 0)))] H := hP
  have hD : va_D A [(h0, .inr (2, [.ref q1, .ref q2, .int 0])), (q1, .inl (tI, 10, .inl (fun _ => 0))), (q2, .inl (tI, 10, .inl (fun _ => 0)))] := hD
  exact W.vret hx hb hr (fun t ht hW => ⟨⟨(), rfl, trivial, q1, q2, by rw [ht]; exact hP, hD⟩, hS.F ht⟩) hS.2.2 dO_init_20
theorem hdyL_init : yL_init.cls ≠ "java/lang/invoke/MethodHandle" ∧ yL_init.cls ≠ "java/lang/invoke/VarHandle" ∧ (parseMethodDescriptor yL_init.desc).map (fun d => d.parameters.length) = some 3 := by decide +kernel
theorem dL_init_0 : decode bL_init 0 = .ok (.aload_n 0, 1) := by decide +kernel
theorem dL_init_1 : decode bL_init 1 = .ok (.invokespecial 3, 3) := by decide +kernel
theorem dL_init_4 : decode bL_init 4 = .ok (.aload_n 0, 1) := by decide +kernel
theorem dL_init_5 : decode bL_init 5 = .ok (.iload_n 1, 1) := by decide +kernel
theorem dL_init_6 : decode bL_init 6 = .ok (.putfield 9, 3) := by decide +kernel
theorem dL_init_9 : decode bL_init 9 = .ok (.aload_n 0, 1) := by decide +kernel
theorem dL_init_10 : decode bL_init 10 = .ok (.iload_n 3, 1) := by decide +kernel
theorem dL_init_11 : decode bL_init 11 = .ok (.putfield 15, 3) := by decide +kernel
theorem dL_init_14 : decode bL_init 14 = .ok (.aload_n 0, 1) := by decide +kernel
theorem dL_init_15 : decode bL_init 15 = .ok (.iload_n 2, 1) := by decide +kernel
theorem dL_init_16 : decode bL_init 16 = .ok (.putfield 18, 3) := by decide +kernel
theorem dL_init_19 : decode bL_init 19 = .ok (.aload_n 0, 1) := by decide +kernel
theorem dL_init_20 : decode bL_init 20 = .ok (.new 21, 3) := by decide +kernel
theorem dL_init_23 : decode bL_init 23 = .ok (.dup, 1) := by decide +kernel
theorem dL_init_24 : decode bL_init 24 = .ok (.invokespecial 23, 3) := by decide +kernel
theorem dL_init_27 : decode bL_init 27 = .ok (.putfield 24, 3) := by decide +kernel
theorem dL_init_30 : decode bL_init 30 = .ok (.aload_n 0, 1) := by decide +kernel
theorem dL_init_31 : decode bL_init 31 = .ok (.iconst 0, 1) := by decide +kernel
theorem dL_init_32 : decode bL_init 32 = .ok (.putfield 28, 3) := by decide +kernel
theorem dL_init_35 : decode bL_init 35 = .ok (.aload_n 0, 1) := by decide +kernel
theorem dL_init_36 : decode bL_init 36 = .ok (.iconst (-1), 1) := by decide +kernel
theorem dL_init_37 : decode bL_init 37 = .ok (.putfield 31, 3) := by decide +kernel
theorem dL_init_40 : decode bL_init 40 = .ok (.aload_n 0, 1) := by decide +kernel
theorem dL_init_41 : decode bL_init 41 = .ok (.iconst (-1), 1) := by decide +kernel
theorem dL_init_42 : decode bL_init 42 = .ok (.putfield 34, 3) := by decide +kernel
theorem dL_init_45 : decode bL_init 45 = .ok (.aload_n 0, 1) := by decide +kernel
theorem dL_init_46 : decode bL_init 46 = .ok (.iconst (-1), 1) := by decide +kernel
theorem dL_init_47 : decode bL_init 47 = .ok (.putfield 37, 3) := by decide +kernel
theorem dL_init_50 : decode bL_init 50 = .ok (.return_, 1) := by decide +kernel
set_option maxHeartbeats 4000000 in
set_option maxRecDepth 100000 in
theorem cL_init (l : Launch) (D : va_G) (tI tJ tL : ClassId) (h0 sz : Nat) (p0 : Int32) (p1 : Int32) (p2 : Int32) : Met l yL_init (Cond.code yL_init bL_init 4 none :: wNeed) { frames := 2, cells := 3, slots := 23, locals := 40 } (va_Pc [.ref h0, .int p0, .int p1, .int p2] (CP D tI tJ tL [(h0, .inr (1, [.int 0, .int 0, .null, .int 0, .int 0, .int 0, .int 0, .int 0, .int 0, .int 0, .int 0, .int 0, .int 0]))] sz false)) (va_Qv (fun _ : Unit => True) (fun _ t => ∃ q1 q2 q3 : Nat, va_P D classes [(h0, .inr (1, [.int p0, .int p2, .ref q1, .int p1, .int 0, .int (-1), .int (-1), .int 0, .int (-1), .int 0, .int 0, .int 0, .int 0])), (q1, .inr (2, [.ref q2, .ref q3, .int 0])), (q2, .inl (tI, 10, .inl (fun _ => 0))), (q3, .inl (tI, 10, .inl (fun _ => 0)))] t.heap ∧ va_D (va_A [(h0, .inr (1, [.int 0, .int 0, .null, .int 0, .int 0, .int 0, .int 0, .int 0, .int 0, .int 0, .int 0, .int 0, .int 0]))] sz) [(h0, .inr (1, [.int p0, .int p2, .ref q1, .int p1, .int 0, .int (-1), .int (-1), .int 0, .int (-1), .int 0, .int 0, .int 0, .int 0])), (q1, .inr (2, [.ref q2, .ref q3, .int 0])), (q2, .inl (tI, 10, .inl (fun _ => 0))), (q3, .inl (tI, 10, .inl (fun _ => 0)))]) (va_A [(h0, .inr (1, [.int 0, .int 0, .null, .int 0, .int 0, .int 0, .int 0, .int 0, .int 0, .int 0, .int 0, .int 0, .int 0]))] sz)) 3 23 (va_A [(h0, .inr (1, [.int 0, .int 0, .null, .int 0, .int 0, .int 0, .int 0, .int 0, .int 0, .int 0, .int 0, .int 0, .int 0]))] sz) := by
  refine en_M (av := [.ref h0, .int p0, .int p1, .int p2]) (by decide) (Nat.le_of_ble_eq_true rfl) ?_
  intro p e s m below meth c hx hb hml hown hts hr hlocks hmname hP0 ls hl
  obtain ⟨hsz, hP, hK, hD0, hZ, hAO⟩ := hP0
  subst hsz
  have hD := hD0.self (sz := s.heap.size)
  generalize hAe : va_A [(h0, .inr (1, [.int 0, .int 0, .null, .int 0, .int 0, .int 0, .int 0, .int 0, .int 0, .int 0, .int 0, .int 0, .int 0]))] s.heap.size = A at hD ⊢
  have hA : ∀ q : Nat, s.heap.size ≤ q → A q := fun q h => by rw [← hAe]; exact Or.inr h
  have hS : va_S A s.heap s.heap [] := va_S.rf
  replace hl : lv_has ls 4 [(0, .ref h0), (1, .int p0), (2, .int p1), (3, .int p2)] := hl
  refine lv_aload_n hx hb dL_init_0 rfl (lv_at hl 0 rfl) ?_
  refine W.objInit hx hb hown (hts _ q_216) (hts _ q_17) (hts _ q_18) rfl (by rw [hml]; exact hl.1) rfl dL_init_1 (Nat.le_of_ble_eq_true rfl) (Nat.le_of_ble_eq_true rfl) ?_
  refine W.eq (g2 := F0 m 4 ls []) rfl ?_
  refine lv_aload_n hx hb dL_init_4 rfl (lv_at hl 0 rfl) ?_
  refine lv_iload_n hx hb dL_init_5 rfl (lv_at hl 1 rfl) ?_
  refine va_putF (D := D) (ci := 1) (v := .int p0) (ty := (t_L 0)) (C := "DroitLine$Lot") (T := F_L) (N := 13) hx hb hts i_L t_L t_L_ok n_L hown hK hP hD hS 0 rfl rfl 0 (by decide) (hts _ q_235) (fun _ h9 => h9) rfl hmname rfl (by decide +kernel) rfl rfl (Nat.le_of_ble_eq_true rfl) dL_init_6 (fun H locs hP hD hS => ?_)
  have hP : va_P D classes [(h0, .inr (1, [.int p0, .int 0, .null, .int 0, .int 0, .int 0, .int 0, .int 0, .int 0, .int 0, .int 0, .int 0, .int 0]))] H := hP
  have hD : va_D A [(h0, .inr (1, [.int p0, .int 0, .null, .int 0, .int 0, .int 0, .int 0, .int 0, .int 0, .int 0, .int 0, .int 0, .int 0]))] := hD
  refine lv_aload_n hx hb dL_init_9 rfl (lv_at hl 0 rfl) ?_
  refine lv_iload_n hx hb dL_init_10 rfl (lv_at hl 3 rfl) ?_
  refine va_putF (D := D) (ci := 1) (v := .int p2) (ty := (t_L 1)) (C := "DroitLine$Lot") (T := F_L) (N := 13) hx hb hts i_L t_L t_L_ok n_L hown hK hP hD hS 0 rfl rfl 1 (by decide) (hts _ q_237) (fun _ h9 => h9) rfl hmname rfl (by decide +kernel) rfl rfl (Nat.le_of_ble_eq_true rfl) dL_init_11 (fun H locs hP hD hS => ?_)
  have hP : va_P D classes [(h0, .inr (1, [.int p0, .int p2, .null, .int 0, .int 0, .int 0, .int 0, .int 0, .int 0, .int 0, .int 0, .int 0, .int 0]))] H := hP
  have hD : va_D A [(h0, .inr (1, [.int p0, .int p2, .null, .int 0, .int 0, .int 0, .int 0, .int 0, .int 0, .int 0, .int 0, .int 0, .int 0]))] := hD
  refine lv_aload_n hx hb dL_init_14 rfl (lv_at hl 0 rfl) ?_
  refine lv_iload_n hx hb dL_init_15 rfl (lv_at hl 2 rfl) ?_
  refine va_put (D := D) (ci := 1) (v := .int p1) (ty := (t_L 3)) (C := "DroitLine$Lot") (T := F_L) (N := 13) hx hb hts i_L t_L t_L_ok n_L hown hK hP hD hS 0 rfl rfl 3 (by decide) (hts _ q_241) (fun _ h9 => h9) rfl (by decide +kernel) rfl rfl (Nat.le_of_ble_eq_true rfl) dL_init_16 (fun H locs hP hD hS => ?_)
  have hP : va_P D classes [(h0, .inr (1, [.int p0, .int p2, .null, .int p1, .int 0, .int 0, .int 0, .int 0, .int 0, .int 0, .int 0, .int 0, .int 0]))] H := hP
  have hD : va_D A [(h0, .inr (1, [.int p0, .int p2, .null, .int p1, .int 0, .int 0, .int 0, .int 0, .int 0, .int 0, .int 0, .int 0, .int 0]))] := hD
  refine lv_aload_n hx hb dL_init_19 rfl (lv_at hl 0 rfl) ?_
  refine va_new (ci := 2) (fs := [.null, .null, .int 0]) (C := "DroitLine$Offers") (T := F_O) (N := 3) hx hb hts i_O t_O t_O_ok hown (hts _ q_217) (hts _ q_218) (hts _ q_10) hK hP hD hS hA rfl (fun j hj => by rcases (show j = 0 ∨ j = 1 ∨ j = 2 by omega) with rfl | rfl | rfl <;> rfl) (Nat.le_of_ble_eq_true rfl) (Nat.le_of_ble_eq_true rfl) dL_init_20 (fun q1 H hP hD hS => ?_)
  have hP : va_P D classes [(h0, .inr (1, [.int p0, .int p2, .null, .int p1, .int 0, .int 0, .int 0, .int 0, .int 0, .int 0, .int 0, .int 0, .int 0])), (q1, .inr (2, [.null, .null, .int 0]))] H := hP
  have hD : va_D A [(h0, .inr (1, [.int p0, .int p2, .null, .int p1, .int 0, .int 0, .int 0, .int 0, .int 0, .int 0, .int 0, .int 0, .int 0])), (q1, .inr (2, [.null, .null, .int 0]))] := hD
  refine lv_dup hx hb dL_init_23 rfl ?_
  have hPc := hP.sub (ws' := [(q1, .inr (2, [.null, .null, .int 0]))]) [1] rfl
  have hDc := hD.sub (ws' := [(q1, .inr (2, [.null, .null, .int 0]))]) [1] (by decide) rfl
  have hFc := va_free (wc := [(q1, .inr (2, [.null, .null, .int 0]))]) hD hS hA [1] rfl
  refine va_callv (va_runIN (As := []) (rest := [.ref q1, .ref h0]) ⟨hx, hb, hml, hown, hts⟩ (cO_init l D tI tJ tL q1 H.size) ⟨va_cnB 0 hts (gI q_221) rfl rfl rfl (hZ _ z_219) (hts _ q_10) hdyO_init ⟨Nat.le_of_ble_eq_true rfl, Nat.le_of_ble_eq_true rfl⟩, rfl, hts _ q_220⟩ ⟨CP.blind, fun U hU hW => ⟨rfl, by rw [hU], by rw [hU]; exact hPc, va_K.moved hW.alike hK, hDc.weaken (fun _ _ _ _ => trivial), fun w hw => bad_warm (List.mem_filter.mp hw).2 hW (hZ w hw), fun hx => absurd hx (by decide)⟩⟩ rfl rfl hl.1 rfl (lv_room (Nat.le_of_ble_eq_true rfl)) dL_init_24 ⟨Nat.le_of_ble_eq_true rfl, Nat.le_of_ble_eq_true rfl⟩) hS (fun q _ h => hFc q h) hFc (fun u t H1 locs ht hvm hw hB hz1 hk1 hS => ?_)
  obtain ⟨q2, q3, hP1, hD1⟩ := hB
  rw [ht] at hP1
  obtain ⟨hP, hD⟩ := va_join (wr := [(h0, .inr (1, [.int p0, .int p2, .null, .int p1, .int 0, .int 0, .int 0, .int 0, .int 0, .int 0, .int 0, .int 0, .int 0]))]) (w1 := [(q1, .inr (2, [.ref q2, .ref q3, .int 0])), (q2, .inl (tI, 10, .inl (fun _ => 0))), (q3, .inl (tI, 10, .inl (fun _ => 0)))]) hP hD [1] [0] rfl rfl (by decide) (by decide) hk1 hFc hP1 hD1
  generalize H1 = H at hP hS ⊢
  have hP : va_P D classes [(h0, .inr (1, [.int p0, .int p2, .null, .int p1, .int 0, .int 0, .int 0, .int 0, .int 0, .int 0, .int 0, .int 0, .int 0])), (q1, .inr (2, [.ref q2, .ref q3, .int 0])), (q2, .inl (tI, 10, .inl (fun _ => 0))), (q3, .inl (tI, 10, .inl (fun _ => 0)))] H := hP
  have hD : va_D A [(h0, .inr (1, [.int p0, .int p2, .null, .int p1, .int 0, .int 0, .int 0, .int 0, .int 0, .int 0, .int 0, .int 0, .int 0])), (q1, .inr (2, [.ref q2, .ref q3, .int 0])), (q2, .inl (tI, 10, .inl (fun _ => 0))), (q3, .inl (tI, 10, .inl (fun _ => 0)))] := hD
  refine va_putF (D := D) (ci := 1) (v := .ref q1) (ty := (t_L 2)) (C := "DroitLine$Lot") (T := F_L) (N := 13) hx hb hts i_L t_L t_L_ok n_L hown hK hP hD hS 0 rfl rfl 2 (by decide) (hts _ q_239) (fun _ h9 => h9) rfl hmname rfl (by decide +kernel) rfl rfl (Nat.le_of_ble_eq_true rfl) dL_init_27 (fun H locs hP hD hS => ?_)
  have hP : va_P D classes [(h0, .inr (1, [.int p0, .int p2, .ref q1, .int p1, .int 0, .int 0, .int 0, .int 0, .int 0, .int 0, .int 0, .int 0, .int 0])), (q1, .inr (2, [.ref q2, .ref q3, .int 0])), (q2, .inl (tI, 10, .inl (fun _ => 0))), (q3, .inl (tI, 10, .inl (fun _ => 0)))] H := hP
  have hD : va_D A [(h0, .inr (1, [.int p0, .int p2, .ref q1, .int p1, .int 0, .int 0, .int 0, .int 0, .int 0, .int 0, .int 0, .int 0, .int 0])), (q1, .inr (2, [.ref q2, .ref q3, .int 0])), (q2, .inl (tI, 10, .inl (fun _ => 0))), (q3, .inl (tI, 10, .inl (fun _ => 0)))] := hD
  refine lv_aload_n hx hb dL_init_30 rfl (lv_at hl 0 rfl) ?_
  refine lv_iconst (v := 0) hx hb dL_init_31 (by decide) ?_
  refine va_put (D := D) (ci := 1) (v := .int 0) (ty := (t_L 4)) (C := "DroitLine$Lot") (T := F_L) (N := 13) hx hb hts i_L t_L t_L_ok n_L hown hK hP hD hS 0 rfl rfl 4 (by decide) (hts _ q_243) (fun _ h9 => h9) rfl (by decide +kernel) rfl rfl (Nat.le_of_ble_eq_true rfl) dL_init_32 (fun H locs hP hD hS => ?_)
  have hP : va_P D classes [(h0, .inr (1, [.int p0, .int p2, .ref q1, .int p1, .int 0, .int 0, .int 0, .int 0, .int 0, .int 0, .int 0, .int 0, .int 0])), (q1, .inr (2, [.ref q2, .ref q3, .int 0])), (q2, .inl (tI, 10, .inl (fun _ => 0))), (q3, .inl (tI, 10, .inl (fun _ => 0)))] H := hP
  have hD : va_D A [(h0, .inr (1, [.int p0, .int p2, .ref q1, .int p1, .int 0, .int 0, .int 0, .int 0, .int 0, .int 0, .int 0, .int 0, .int 0])), (q1, .inr (2, [.ref q2, .ref q3, .int 0])), (q2, .inl (tI, 10, .inl (fun _ => 0))), (q3, .inl (tI, 10, .inl (fun _ => 0)))] := hD
  refine lv_aload_n hx hb dL_init_35 rfl (lv_at hl 0 rfl) ?_
  refine lv_iconst (v := (-1)) hx hb dL_init_36 (by decide) ?_
  refine va_put (D := D) (ci := 1) (v := .int (-1)) (ty := (t_L 5)) (C := "DroitLine$Lot") (T := F_L) (N := 13) hx hb hts i_L t_L t_L_ok n_L hown hK hP hD hS 0 rfl rfl 5 (by decide) (hts _ q_245) (fun _ h9 => h9) rfl (by decide +kernel) rfl rfl (Nat.le_of_ble_eq_true rfl) dL_init_37 (fun H locs hP hD hS => ?_)
  have hP : va_P D classes [(h0, .inr (1, [.int p0, .int p2, .ref q1, .int p1, .int 0, .int (-1), .int 0, .int 0, .int 0, .int 0, .int 0, .int 0, .int 0])), (q1, .inr (2, [.ref q2, .ref q3, .int 0])), (q2, .inl (tI, 10, .inl (fun _ => 0))), (q3, .inl (tI, 10, .inl (fun _ => 0)))] H := hP
  have hD : va_D A [(h0, .inr (1, [.int p0, .int p2, .ref q1, .int p1, .int 0, .int (-1), .int 0, .int 0, .int 0, .int 0, .int 0, .int 0, .int 0])), (q1, .inr (2, [.ref q2, .ref q3, .int 0])), (q2, .inl (tI, 10, .inl (fun _ => 0))), (q3, .inl (tI, 10, .inl (fun _ => 0)))] := hD
  refine lv_aload_n hx hb dL_init_40 rfl (lv_at hl 0 rfl) ?_
  refine lv_iconst (v := (-1)) hx hb dL_init_41 (by decide) ?_
  refine va_put (D := D) (ci := 1) (v := .int (-1)) (ty := (t_L 6)) (C := "DroitLine$Lot") (T := F_L) (N := 13) hx hb hts i_L t_L t_L_ok n_L hown hK hP hD hS 0 rfl rfl 6 (by decide) (hts _ q_247) (fun _ h9 => h9) rfl (by decide +kernel) rfl rfl (Nat.le_of_ble_eq_true rfl) dL_init_42 (fun H locs hP hD hS => ?_)
  have hP : va_P D classes [(h0, .inr (1, [.int p0, .int p2, .ref q1, .int p1, .int 0, .int (-1), .int (-1), .int 0, .int 0, .int 0, .int 0, .int 0, .int 0])), (q1, .inr (2, [.ref q2, .ref q3, .int 0])), (q2, .inl (tI, 10, .inl (fun _ => 0))), (q3, .inl (tI, 10, .inl (fun _ => 0)))] H := hP
  have hD : va_D A [(h0, .inr (1, [.int p0, .int p2, .ref q1, .int p1, .int 0, .int (-1), .int (-1), .int 0, .int 0, .int 0, .int 0, .int 0, .int 0])), (q1, .inr (2, [.ref q2, .ref q3, .int 0])), (q2, .inl (tI, 10, .inl (fun _ => 0))), (q3, .inl (tI, 10, .inl (fun _ => 0)))] := hD
  refine lv_aload_n hx hb dL_init_45 rfl (lv_at hl 0 rfl) ?_
  refine lv_iconst (v := (-1)) hx hb dL_init_46 (by decide) ?_
  refine va_put (D := D) (ci := 1) (v := .int (-1)) (ty := (t_L 8)) (C := "DroitLine$Lot") (T := F_L) (N := 13) hx hb hts i_L t_L t_L_ok n_L hown hK hP hD hS 0 rfl rfl 8 (by decide) (hts _ q_250) (fun _ h9 => h9) rfl (by decide +kernel) rfl rfl (Nat.le_of_ble_eq_true rfl) dL_init_47 (fun H locs hP hD hS => ?_)
  have hP : va_P D classes [(h0, .inr (1, [.int p0, .int p2, .ref q1, .int p1, .int 0, .int (-1), .int (-1), .int 0, .int (-1), .int 0, .int 0, .int 0, .int 0])), (q1, .inr (2, [.ref q2, .ref q3, .int 0])), (q2, .inl (tI, 10, .inl (fun _ => 0))), (q3, .inl (tI, 10, .inl (fun _ => 0)))] H := hP
  have hD : va_D A [(h0, .inr (1, [.int p0, .int p2, .ref q1, .int p1, .int 0, .int (-1), .int (-1), .int 0, .int (-1), .int 0, .int 0, .int 0, .int 0])), (q1, .inr (2, [.ref q2, .ref q3, .int 0])), (q2, .inl (tI, 10, .inl (fun _ => 0))), (q3, .inl (tI, 10, .inl (fun _ => 0)))] := hD
  exact W.vret hx hb hr (fun t ht hW => ⟨⟨(), rfl, trivial, q1, q2, q3, by rw [ht]; exact hP, hD⟩, hS.F ht⟩) hS.2.2 dL_init_50
theorem hdyX_init : yX_init.cls ≠ "java/lang/invoke/MethodHandle" ∧ yX_init.cls ≠ "java/lang/invoke/VarHandle" ∧ (parseMethodDescriptor yX_init.desc).map (fun d => d.parameters.length) = some 0 := by decide +kernel
theorem dX_init_0 : decode bX_init 0 = .ok (.aload_n 0, 1) := by decide +kernel
theorem dX_init_1 : decode bX_init 1 = .ok (.invokespecial 1, 3) := by decide +kernel
theorem dX_init_4 : decode bX_init 4 = .ok (.aload_n 0, 1) := by decide +kernel
theorem dX_init_5 : decode bX_init 5 = .ok (.bipush 30, 2) := by decide +kernel
theorem dX_init_7 : decode bX_init 7 = .ok (.anewarray 9, 3) := by decide +kernel
theorem dX_init_10 : decode bX_init 10 = .ok (.putfield 11, 3) := by decide +kernel
theorem dX_init_13 : decode bX_init 13 = .ok (.aload_n 0, 1) := by decide +kernel
theorem dX_init_14 : decode bX_init 14 = .ok (.bipush 6, 2) := by decide +kernel
theorem dX_init_16 : decode bX_init 16 = .ok (.newarray .int, 2) := by decide +kernel
theorem dX_init_18 : decode bX_init 18 = .ok (.putfield 15, 3) := by decide +kernel
theorem dX_init_21 : decode bX_init 21 = .ok (.aload_n 0, 1) := by decide +kernel
theorem dX_init_22 : decode bX_init 22 = .ok (.bipush 10, 2) := by decide +kernel
theorem dX_init_24 : decode bX_init 24 = .ok (.newarray .int, 2) := by decide +kernel
theorem dX_init_26 : decode bX_init 26 = .ok (.putfield 19, 3) := by decide +kernel
theorem dX_init_29 : decode bX_init 29 = .ok (.iconst 0, 1) := by decide +kernel
theorem dX_init_30 : decode bX_init 30 = .ok (.istore_n 1, 1) := by decide +kernel
theorem dX_init_31 : decode bX_init 31 = .ok (.iload_n 1, 1) := by decide +kernel
theorem dX_init_32 : decode bX_init 32 = .ok (.aload_n 0, 1) := by decide +kernel
theorem dX_init_33 : decode bX_init 33 = .ok (.getfield 15, 3) := by decide +kernel
theorem dX_init_36 : decode bX_init 36 = .ok (.arraylength, 1) := by decide +kernel
theorem dX_init_37 : decode bX_init 37 = .ok (.if_icmp .ge 17, 3) := by decide +kernel
theorem dX_init_40 : decode bX_init 40 = .ok (.aload_n 0, 1) := by decide +kernel
theorem dX_init_41 : decode bX_init 41 = .ok (.getfield 15, 3) := by decide +kernel
theorem dX_init_44 : decode bX_init 44 = .ok (.iload_n 1, 1) := by decide +kernel
theorem dX_init_45 : decode bX_init 45 = .ok (.bipush 10, 2) := by decide +kernel
theorem dX_init_47 : decode bX_init 47 = .ok (.iastore, 1) := by decide +kernel
theorem dX_init_48 : decode bX_init 48 = .ok (.iinc 1 1, 3) := by decide +kernel
theorem dX_init_51 : decode bX_init 51 = .ok (.goto (-20), 3) := by decide +kernel
theorem dX_init_54 : decode bX_init 54 = .ok (.aload_n 0, 1) := by decide +kernel
theorem dX_init_55 : decode bX_init 55 = .ok (.bipush 20, 2) := by decide +kernel
theorem dX_init_57 : decode bX_init 57 = .ok (.putfield 22, 3) := by decide +kernel
theorem dX_init_60 : decode bX_init 60 = .ok (.return_, 1) := by decide +kernel
set_option maxHeartbeats 4000000 in
set_option maxRecDepth 100000 in
theorem cX_init (l : Launch) (D : va_G) (tI tJ tL : ClassId) (h0 sz : Nat) : Met l yX_init (Cond.code yX_init bX_init 2 none :: wNeed) { frames := 1, cells := 3, slots := 46, locals := 20 } (va_Pc [.ref h0] (CP D tI tJ tL [(h0, .inr (0, [.null, .null, .null, .int 0, .int 0, .int 0, .long 0, .long 0, .long 0]))] sz true)) (va_Qv (fun _ : Unit => True) (fun _ t => ∃ q1 q2 q3 : Nat, va_P D classes [(h0, .inr (0, [.ref q1, .ref q2, .ref q3, .int 0, .int 0, .int 20, .long 0, .long 0, .long 0])), (q1, .inl (tL, 30, .inr (.inr (.inr (.inr (fun _ => none)))))), (q2, .inl (tI, 6, .inl (upd (upd (upd (upd (upd (upd (fun _ => 0) 0 10) 1 10) 2 10) 3 10) 4 10) 5 10))), (q3, .inl (tI, 10, .inl (fun _ => 0)))] t.heap ∧ va_D (va_A [(h0, .inr (0, [.null, .null, .null, .int 0, .int 0, .int 0, .long 0, .long 0, .long 0]))] sz) [(h0, .inr (0, [.ref q1, .ref q2, .ref q3, .int 0, .int 0, .int 20, .long 0, .long 0, .long 0])), (q1, .inl (tL, 30, .inr (.inr (.inr (.inr (fun _ => none)))))), (q2, .inl (tI, 6, .inl (upd (upd (upd (upd (upd (upd (fun _ => 0) 0 10) 1 10) 2 10) 3 10) 4 10) 5 10))), (q3, .inl (tI, 10, .inl (fun _ => 0)))]) (va_A [(h0, .inr (0, [.null, .null, .null, .int 0, .int 0, .int 0, .long 0, .long 0, .long 0]))] sz)) 3 46 (va_A [(h0, .inr (0, [.null, .null, .null, .int 0, .int 0, .int 0, .long 0, .long 0, .long 0]))] sz) := by
  refine en_M (av := [.ref h0]) (by decide) (Nat.le_of_ble_eq_true rfl) ?_
  intro p e s m below meth c hx hb hml hown hts hr hlocks hmname hP0 ls hl
  obtain ⟨hsz, hP, hK, hD0, hZ, hAO⟩ := hP0
  subst hsz
  have hD := hD0.self (sz := s.heap.size)
  generalize hAe : va_A [(h0, .inr (0, [.null, .null, .null, .int 0, .int 0, .int 0, .long 0, .long 0, .long 0]))] s.heap.size = A at hD ⊢
  have hA : ∀ q : Nat, s.heap.size ≤ q → A q := fun q h => by rw [← hAe]; exact Or.inr h
  have hS : va_S A s.heap s.heap [] := va_S.rf
  replace hl : lv_has ls 2 [(0, .ref h0)] := hl
  refine lv_aload_n hx hb dX_init_0 rfl (lv_at hl 0 rfl) ?_
  refine W.objInit hx hb hown (hts _ q_16) (hts _ q_17) (hts _ q_18) rfl (by rw [hml]; exact hl.1) rfl dX_init_1 (Nat.le_of_ble_eq_true rfl) (Nat.le_of_ble_eq_true rfl) ?_
  refine W.eq (g2 := F0 m 4 ls []) rfl ?_
  refine lv_aload_n hx hb dX_init_4 rfl (lv_at hl 0 rfl) ?_
  refine lv_bipush (v := 30) hx hb dX_init_5 (by decide) ?_
  refine va_newq (N' := 30) hx hb hown (hts _ q_19) (hAO rfl) hK hP hD hS hA (by decide) rfl (by decide) (Nat.le_of_ble_eq_true rfl) (Nat.le_of_ble_eq_true rfl) dX_init_7 (fun q1 cA H hK1 hP hD hS => ?_)
  rw [tyL hK1] at hP hD
  have hP : va_P D classes [(h0, .inr (0, [.null, .null, .null, .int 0, .int 0, .int 0, .long 0, .long 0, .long 0])), (q1, .inl (tL, 30, .inr (.inr (.inr (.inr (fun _ => none))))))] H := hP
  have hD : va_D A [(h0, .inr (0, [.null, .null, .null, .int 0, .int 0, .int 0, .long 0, .long 0, .long 0])), (q1, .inl (tL, 30, .inr (.inr (.inr (.inr (fun _ => none))))))] := hD
  refine va_putF (D := D) (ci := 0) (v := .ref q1) (ty := (t_X 0)) (C := "DroitLine") (T := F_X) (N := 9) hx hb hts i_X t_X t_X_ok n_X hown hK hP hD hS 0 rfl rfl 0 (by decide) (hts _ q_21) (fun _ h9 => h9) rfl hmname rfl (by decide +kernel) rfl rfl (Nat.le_of_ble_eq_true rfl) dX_init_10 (fun H locs hP hD hS => ?_)
  have hP : va_P D classes [(h0, .inr (0, [.ref q1, .null, .null, .int 0, .int 0, .int 0, .long 0, .long 0, .long 0])), (q1, .inl (tL, 30, .inr (.inr (.inr (.inr (fun _ => none))))))] H := hP
  have hD : va_D A [(h0, .inr (0, [.ref q1, .null, .null, .int 0, .int 0, .int 0, .long 0, .long 0, .long 0])), (q1, .inl (tL, 30, .inr (.inr (.inr (.inr (fun _ => none))))))] := hD
  refine lv_aload_n hx hb dX_init_13 rfl (lv_at hl 0 rfl) ?_
  refine lv_bipush (v := 6) hx hb dX_init_14 (by decide) ?_
  refine va_newa (atype := .int) (ty := .int) (N' := 6) (a0 := (6, .inl fun _ => 0)) hx hb (hts _ q_49) rfl hK hP hD hS hA (fun _ => rfl) (by decide) rfl (by decide) (Nat.le_of_ble_eq_true rfl) (Nat.le_of_ble_eq_true rfl) dX_init_16 (fun q2 cA H hK1 hP hD hS => ?_)
  rw [tyI hK1] at hP hD
  have hP : va_P D classes [(h0, .inr (0, [.ref q1, .null, .null, .int 0, .int 0, .int 0, .long 0, .long 0, .long 0])), (q1, .inl (tL, 30, .inr (.inr (.inr (.inr (fun _ => none)))))), (q2, .inl (tI, 6, .inl (fun _ => 0)))] H := hP
  have hD : va_D A [(h0, .inr (0, [.ref q1, .null, .null, .int 0, .int 0, .int 0, .long 0, .long 0, .long 0])), (q1, .inl (tL, 30, .inr (.inr (.inr (.inr (fun _ => none)))))), (q2, .inl (tI, 6, .inl (fun _ => 0)))] := hD
  refine va_putF (D := D) (ci := 0) (v := .ref q2) (ty := (t_X 1)) (C := "DroitLine") (T := F_X) (N := 9) hx hb hts i_X t_X t_X_ok n_X hown hK hP hD hS 0 rfl rfl 1 (by decide) (hts _ q_22) (fun _ h9 => h9) rfl hmname rfl (by decide +kernel) rfl rfl (Nat.le_of_ble_eq_true rfl) dX_init_18 (fun H locs hP hD hS => ?_)
  have hP : va_P D classes [(h0, .inr (0, [.ref q1, .ref q2, .null, .int 0, .int 0, .int 0, .long 0, .long 0, .long 0])), (q1, .inl (tL, 30, .inr (.inr (.inr (.inr (fun _ => none)))))), (q2, .inl (tI, 6, .inl (fun _ => 0)))] H := hP
  have hD : va_D A [(h0, .inr (0, [.ref q1, .ref q2, .null, .int 0, .int 0, .int 0, .long 0, .long 0, .long 0])), (q1, .inl (tL, 30, .inr (.inr (.inr (.inr (fun _ => none)))))), (q2, .inl (tI, 6, .inl (fun _ => 0)))] := hD
  refine lv_aload_n hx hb dX_init_21 rfl (lv_at hl 0 rfl) ?_
  refine lv_bipush (v := 10) hx hb dX_init_22 (by decide) ?_
  refine va_newa (atype := .int) (ty := .int) (N' := 10) (a0 := (10, .inl fun _ => 0)) hx hb (hts _ q_49) rfl hK hP hD hS hA (fun _ => rfl) (by decide) rfl (by decide) (Nat.le_of_ble_eq_true rfl) (Nat.le_of_ble_eq_true rfl) dX_init_24 (fun q3 cA H hK1 hP hD hS => ?_)
  rw [tyI hK1] at hP hD
  have hP : va_P D classes [(h0, .inr (0, [.ref q1, .ref q2, .null, .int 0, .int 0, .int 0, .long 0, .long 0, .long 0])), (q1, .inl (tL, 30, .inr (.inr (.inr (.inr (fun _ => none)))))), (q2, .inl (tI, 6, .inl (fun _ => 0))), (q3, .inl (tI, 10, .inl (fun _ => 0)))] H := hP
  have hD : va_D A [(h0, .inr (0, [.ref q1, .ref q2, .null, .int 0, .int 0, .int 0, .long 0, .long 0, .long 0])), (q1, .inl (tL, 30, .inr (.inr (.inr (.inr (fun _ => none)))))), (q2, .inl (tI, 6, .inl (fun _ => 0))), (q3, .inl (tI, 10, .inl (fun _ => 0)))] := hD
  refine va_putF (D := D) (ci := 0) (v := .ref q3) (ty := (t_X 2)) (C := "DroitLine") (T := F_X) (N := 9) hx hb hts i_X t_X t_X_ok n_X hown hK hP hD hS 0 rfl rfl 2 (by decide) (hts _ q_23) (fun _ h9 => h9) rfl hmname rfl (by decide +kernel) rfl rfl (Nat.le_of_ble_eq_true rfl) dX_init_26 (fun H locs hP hD hS => ?_)
  have hP : va_P D classes [(h0, .inr (0, [.ref q1, .ref q2, .ref q3, .int 0, .int 0, .int 0, .long 0, .long 0, .long 0])), (q1, .inl (tL, 30, .inr (.inr (.inr (.inr (fun _ => none)))))), (q2, .inl (tI, 6, .inl (fun _ => 0))), (q3, .inl (tI, 10, .inl (fun _ => 0)))] H := hP
  have hD : va_D A [(h0, .inr (0, [.ref q1, .ref q2, .ref q3, .int 0, .int 0, .int 0, .long 0, .long 0, .long 0])), (q1, .inl (tL, 30, .inr (.inr (.inr (.inr (fun _ => none)))))), (q2, .inl (tI, 6, .inl (fun _ => 0))), (q3, .inl (tI, 10, .inl (fun _ => 0)))] := hD
  refine lv_iconst (v := 0) hx hb dX_init_29 (by decide) ?_
  refine lv_istore_n (lv' := [(1, .int 0), (0, .ref h0)]) hx hb dX_init_30 rfl hl (by decide) rfl (fun ls hl => ?_)
  refine lv_iload_n hx hb dX_init_31 rfl (lv_at hl 0 rfl) ?_
  refine lv_aload_n hx hb dX_init_32 rfl (lv_at hl 1 rfl) ?_
  refine va_get (D := D) (ci := 0) (v := .ref q2) (C := "DroitLine") (T := F_X) (N := 9) hx hb hts i_X hown hK hP 0 rfl rfl 1 (by decide) (hts _ q_22) (fun _ h9 => h9) rfl dX_init_33 ?_
  refine va_alen hx hb hK hP 2 0 rfl rfl (v := 6) rfl dX_init_36 ?_
  refine lv_icmp_ge (tgt := 54) hx hb dX_init_37 (by decide) (fun c_1 => ?_) (fun c_1 => ?_)
  · exact absurd c_1 (by decide)
  refine lv_aload_n hx hb dX_init_40 rfl (lv_at hl 1 rfl) ?_
  refine va_get (D := D) (ci := 0) (v := .ref q2) (C := "DroitLine") (T := F_X) (N := 9) hx hb hts i_X hown hK hP 0 rfl rfl 1 (by decide) (hts _ q_22) (fun _ h9 => h9) rfl dX_init_41 ?_
  refine lv_iload_n hx hb dX_init_44 rfl (lv_at hl 0 rfl) ?_
  refine lv_bipush (v := 10) hx hb dX_init_45 (by decide) ?_
  refine va_iast hx hb hK hP hD hS 2 0 rfl rfl (by rw [vp_in_iff]; decide) dX_init_47 (fun H locs hP hD hS => ?_)
  have hP : va_P D classes [(h0, .inr (0, [.ref q1, .ref q2, .ref q3, .int 0, .int 0, .int 0, .long 0, .long 0, .long 0])), (q1, .inl (tL, 30, .inr (.inr (.inr (.inr (fun _ => none)))))), (q2, .inl (tI, 6, .inl (upd (fun _ => 0) 0 10))), (q3, .inl (tI, 10, .inl (fun _ => 0)))] H := hP
  have hD : va_D A [(h0, .inr (0, [.ref q1, .ref q2, .ref q3, .int 0, .int 0, .int 0, .long 0, .long 0, .long 0])), (q1, .inl (tL, 30, .inr (.inr (.inr (.inr (fun _ => none)))))), (q2, .inl (tI, 6, .inl (upd (fun _ => 0) 0 10))), (q3, .inl (tI, 10, .inl (fun _ => 0)))] := hD
  refine lv_iinc (v := 1) (lv' := [(1, .int 1), (0, .ref h0)]) hx hb dX_init_48 hl (k := 0) rfl (by decide) (by decide) rfl (fun ls hl => ?_)
  refine lv_goto (tgt := 31) hx hb dX_init_51 (by decide) ?_
  refine lv_iload_n hx hb dX_init_31 rfl (lv_at hl 0 rfl) ?_
  refine lv_aload_n hx hb dX_init_32 rfl (lv_at hl 1 rfl) ?_
  refine va_get (D := D) (ci := 0) (v := .ref q2) (C := "DroitLine") (T := F_X) (N := 9) hx hb hts i_X hown hK hP 0 rfl rfl 1 (by decide) (hts _ q_22) (fun _ h9 => h9) rfl dX_init_33 ?_
  refine va_alen hx hb hK hP 2 0 rfl rfl (v := 6) rfl dX_init_36 ?_
  refine lv_icmp_ge (tgt := 54) hx hb dX_init_37 (by decide) (fun c_2 => ?_) (fun c_2 => ?_)
  · exact absurd c_2 (by decide)
  refine lv_aload_n hx hb dX_init_40 rfl (lv_at hl 1 rfl) ?_
  refine va_get (D := D) (ci := 0) (v := .ref q2) (C := "DroitLine") (T := F_X) (N := 9) hx hb hts i_X hown hK hP 0 rfl rfl 1 (by decide) (hts _ q_22) (fun _ h9 => h9) rfl dX_init_41 ?_
  refine lv_iload_n hx hb dX_init_44 rfl (lv_at hl 0 rfl) ?_
  refine lv_bipush (v := 10) hx hb dX_init_45 (by decide) ?_
  refine va_iast hx hb hK hP hD hS 2 0 rfl rfl (by rw [vp_in_iff]; decide) dX_init_47 (fun H locs hP hD hS => ?_)
  have hP : va_P D classes [(h0, .inr (0, [.ref q1, .ref q2, .ref q3, .int 0, .int 0, .int 0, .long 0, .long 0, .long 0])), (q1, .inl (tL, 30, .inr (.inr (.inr (.inr (fun _ => none)))))), (q2, .inl (tI, 6, .inl (upd (upd (fun _ => 0) 0 10) 1 10))), (q3, .inl (tI, 10, .inl (fun _ => 0)))] H := hP
  have hD : va_D A [(h0, .inr (0, [.ref q1, .ref q2, .ref q3, .int 0, .int 0, .int 0, .long 0, .long 0, .long 0])), (q1, .inl (tL, 30, .inr (.inr (.inr (.inr (fun _ => none)))))), (q2, .inl (tI, 6, .inl (upd (upd (fun _ => 0) 0 10) 1 10))), (q3, .inl (tI, 10, .inl (fun _ => 0)))] := hD
  refine lv_iinc (v := 2) (lv' := [(1, .int 2), (0, .ref h0)]) hx hb dX_init_48 hl (k := 0) rfl (by decide) (by decide) rfl (fun ls hl => ?_)
  refine lv_goto (tgt := 31) hx hb dX_init_51 (by decide) ?_
  refine lv_iload_n hx hb dX_init_31 rfl (lv_at hl 0 rfl) ?_
  refine lv_aload_n hx hb dX_init_32 rfl (lv_at hl 1 rfl) ?_
  refine va_get (D := D) (ci := 0) (v := .ref q2) (C := "DroitLine") (T := F_X) (N := 9) hx hb hts i_X hown hK hP 0 rfl rfl 1 (by decide) (hts _ q_22) (fun _ h9 => h9) rfl dX_init_33 ?_
  refine va_alen hx hb hK hP 2 0 rfl rfl (v := 6) rfl dX_init_36 ?_
  refine lv_icmp_ge (tgt := 54) hx hb dX_init_37 (by decide) (fun c_3 => ?_) (fun c_3 => ?_)
  · exact absurd c_3 (by decide)
  refine lv_aload_n hx hb dX_init_40 rfl (lv_at hl 1 rfl) ?_
  refine va_get (D := D) (ci := 0) (v := .ref q2) (C := "DroitLine") (T := F_X) (N := 9) hx hb hts i_X hown hK hP 0 rfl rfl 1 (by decide) (hts _ q_22) (fun _ h9 => h9) rfl dX_init_41 ?_
  refine lv_iload_n hx hb dX_init_44 rfl (lv_at hl 0 rfl) ?_
  refine lv_bipush (v := 10) hx hb dX_init_45 (by decide) ?_
  refine va_iast hx hb hK hP hD hS 2 0 rfl rfl (by rw [vp_in_iff]; decide) dX_init_47 (fun H locs hP hD hS => ?_)
  have hP : va_P D classes [(h0, .inr (0, [.ref q1, .ref q2, .ref q3, .int 0, .int 0, .int 0, .long 0, .long 0, .long 0])), (q1, .inl (tL, 30, .inr (.inr (.inr (.inr (fun _ => none)))))), (q2, .inl (tI, 6, .inl (upd (upd (upd (fun _ => 0) 0 10) 1 10) 2 10))), (q3, .inl (tI, 10, .inl (fun _ => 0)))] H := hP
  have hD : va_D A [(h0, .inr (0, [.ref q1, .ref q2, .ref q3, .int 0, .int 0, .int 0, .long 0, .long 0, .long 0])), (q1, .inl (tL, 30, .inr (.inr (.inr (.inr (fun _ => none)))))), (q2, .inl (tI, 6, .inl (upd (upd (upd (fun _ => 0) 0 10) 1 10) 2 10))), (q3, .inl (tI, 10, .inl (fun _ => 0)))] := hD
  refine lv_iinc (v := 3) (lv' := [(1, .int 3), (0, .ref h0)]) hx hb dX_init_48 hl (k := 0) rfl (by decide) (by decide) rfl (fun ls hl => ?_)
  refine lv_goto (tgt := 31) hx hb dX_init_51 (by decide) ?_
  refine lv_iload_n hx hb dX_init_31 rfl (lv_at hl 0 rfl) ?_
  refine lv_aload_n hx hb dX_init_32 rfl (lv_at hl 1 rfl) ?_
  refine va_get (D := D) (ci := 0) (v := .ref q2) (C := "DroitLine") (T := F_X) (N := 9) hx hb hts i_X hown hK hP 0 rfl rfl 1 (by decide) (hts _ q_22) (fun _ h9 => h9) rfl dX_init_33 ?_
  refine va_alen hx hb hK hP 2 0 rfl rfl (v := 6) rfl dX_init_36 ?_
  refine lv_icmp_ge (tgt := 54) hx hb dX_init_37 (by decide) (fun c_4 => ?_) (fun c_4 => ?_)
  · exact absurd c_4 (by decide)
  refine lv_aload_n hx hb dX_init_40 rfl (lv_at hl 1 rfl) ?_
  refine va_get (D := D) (ci := 0) (v := .ref q2) (C := "DroitLine") (T := F_X) (N := 9) hx hb hts i_X hown hK hP 0 rfl rfl 1 (by decide) (hts _ q_22) (fun _ h9 => h9) rfl dX_init_41 ?_
  refine lv_iload_n hx hb dX_init_44 rfl (lv_at hl 0 rfl) ?_
  refine lv_bipush (v := 10) hx hb dX_init_45 (by decide) ?_
  refine va_iast hx hb hK hP hD hS 2 0 rfl rfl (by rw [vp_in_iff]; decide) dX_init_47 (fun H locs hP hD hS => ?_)
  have hP : va_P D classes [(h0, .inr (0, [.ref q1, .ref q2, .ref q3, .int 0, .int 0, .int 0, .long 0, .long 0, .long 0])), (q1, .inl (tL, 30, .inr (.inr (.inr (.inr (fun _ => none)))))), (q2, .inl (tI, 6, .inl (upd (upd (upd (upd (fun _ => 0) 0 10) 1 10) 2 10) 3 10))), (q3, .inl (tI, 10, .inl (fun _ => 0)))] H := hP
  have hD : va_D A [(h0, .inr (0, [.ref q1, .ref q2, .ref q3, .int 0, .int 0, .int 0, .long 0, .long 0, .long 0])), (q1, .inl (tL, 30, .inr (.inr (.inr (.inr (fun _ => none)))))), (q2, .inl (tI, 6, .inl (upd (upd (upd (upd (fun _ => 0) 0 10) 1 10) 2 10) 3 10))), (q3, .inl (tI, 10, .inl (fun _ => 0)))] := hD
  refine lv_iinc (v := 4) (lv' := [(1, .int 4), (0, .ref h0)]) hx hb dX_init_48 hl (k := 0) rfl (by decide) (by decide) rfl (fun ls hl => ?_)
  refine lv_goto (tgt := 31) hx hb dX_init_51 (by decide) ?_
  refine lv_iload_n hx hb dX_init_31 rfl (lv_at hl 0 rfl) ?_
  refine lv_aload_n hx hb dX_init_32 rfl (lv_at hl 1 rfl) ?_
  refine va_get (D := D) (ci := 0) (v := .ref q2) (C := "DroitLine") (T := F_X) (N := 9) hx hb hts i_X hown hK hP 0 rfl rfl 1 (by decide) (hts _ q_22) (fun _ h9 => h9) rfl dX_init_33 ?_
  refine va_alen hx hb hK hP 2 0 rfl rfl (v := 6) rfl dX_init_36 ?_
  refine lv_icmp_ge (tgt := 54) hx hb dX_init_37 (by decide) (fun c_5 => ?_) (fun c_5 => ?_)
  · exact absurd c_5 (by decide)
  refine lv_aload_n hx hb dX_init_40 rfl (lv_at hl 1 rfl) ?_
  refine va_get (D := D) (ci := 0) (v := .ref q2) (C := "DroitLine") (T := F_X) (N := 9) hx hb hts i_X hown hK hP 0 rfl rfl 1 (by decide) (hts _ q_22) (fun _ h9 => h9) rfl dX_init_41 ?_
  refine lv_iload_n hx hb dX_init_44 rfl (lv_at hl 0 rfl) ?_
  refine lv_bipush (v := 10) hx hb dX_init_45 (by decide) ?_
  refine va_iast hx hb hK hP hD hS 2 0 rfl rfl (by rw [vp_in_iff]; decide) dX_init_47 (fun H locs hP hD hS => ?_)
  have hP : va_P D classes [(h0, .inr (0, [.ref q1, .ref q2, .ref q3, .int 0, .int 0, .int 0, .long 0, .long 0, .long 0])), (q1, .inl (tL, 30, .inr (.inr (.inr (.inr (fun _ => none)))))), (q2, .inl (tI, 6, .inl (upd (upd (upd (upd (upd (fun _ => 0) 0 10) 1 10) 2 10) 3 10) 4 10))), (q3, .inl (tI, 10, .inl (fun _ => 0)))] H := hP
  have hD : va_D A [(h0, .inr (0, [.ref q1, .ref q2, .ref q3, .int 0, .int 0, .int 0, .long 0, .long 0, .long 0])), (q1, .inl (tL, 30, .inr (.inr (.inr (.inr (fun _ => none)))))), (q2, .inl (tI, 6, .inl (upd (upd (upd (upd (upd (fun _ => 0) 0 10) 1 10) 2 10) 3 10) 4 10))), (q3, .inl (tI, 10, .inl (fun _ => 0)))] := hD
  refine lv_iinc (v := 5) (lv' := [(1, .int 5), (0, .ref h0)]) hx hb dX_init_48 hl (k := 0) rfl (by decide) (by decide) rfl (fun ls hl => ?_)
  refine lv_goto (tgt := 31) hx hb dX_init_51 (by decide) ?_
  refine lv_iload_n hx hb dX_init_31 rfl (lv_at hl 0 rfl) ?_
  refine lv_aload_n hx hb dX_init_32 rfl (lv_at hl 1 rfl) ?_
  refine va_get (D := D) (ci := 0) (v := .ref q2) (C := "DroitLine") (T := F_X) (N := 9) hx hb hts i_X hown hK hP 0 rfl rfl 1 (by decide) (hts _ q_22) (fun _ h9 => h9) rfl dX_init_33 ?_
  refine va_alen hx hb hK hP 2 0 rfl rfl (v := 6) rfl dX_init_36 ?_
  refine lv_icmp_ge (tgt := 54) hx hb dX_init_37 (by decide) (fun c_6 => ?_) (fun c_6 => ?_)
  · exact absurd c_6 (by decide)
  refine lv_aload_n hx hb dX_init_40 rfl (lv_at hl 1 rfl) ?_
  refine va_get (D := D) (ci := 0) (v := .ref q2) (C := "DroitLine") (T := F_X) (N := 9) hx hb hts i_X hown hK hP 0 rfl rfl 1 (by decide) (hts _ q_22) (fun _ h9 => h9) rfl dX_init_41 ?_
  refine lv_iload_n hx hb dX_init_44 rfl (lv_at hl 0 rfl) ?_
  refine lv_bipush (v := 10) hx hb dX_init_45 (by decide) ?_
  refine va_iast hx hb hK hP hD hS 2 0 rfl rfl (by rw [vp_in_iff]; decide) dX_init_47 (fun H locs hP hD hS => ?_)
  have hP : va_P D classes [(h0, .inr (0, [.ref q1, .ref q2, .ref q3, .int 0, .int 0, .int 0, .long 0, .long 0, .long 0])), (q1, .inl (tL, 30, .inr (.inr (.inr (.inr (fun _ => none)))))), (q2, .inl (tI, 6, .inl (upd (upd (upd (upd (upd (upd (fun _ => 0) 0 10) 1 10) 2 10) 3 10) 4 10) 5 10))), (q3, .inl (tI, 10, .inl (fun _ => 0)))] H := hP
  have hD : va_D A [(h0, .inr (0, [.ref q1, .ref q2, .ref q3, .int 0, .int 0, .int 0, .long 0, .long 0, .long 0])), (q1, .inl (tL, 30, .inr (.inr (.inr (.inr (fun _ => none)))))), (q2, .inl (tI, 6, .inl (upd (upd (upd (upd (upd (upd (fun _ => 0) 0 10) 1 10) 2 10) 3 10) 4 10) 5 10))), (q3, .inl (tI, 10, .inl (fun _ => 0)))] := hD
  refine lv_iinc (v := 6) (lv' := [(1, .int 6), (0, .ref h0)]) hx hb dX_init_48 hl (k := 0) rfl (by decide) (by decide) rfl (fun ls hl => ?_)
  refine lv_goto (tgt := 31) hx hb dX_init_51 (by decide) ?_
  refine lv_iload_n hx hb dX_init_31 rfl (lv_at hl 0 rfl) ?_
  refine lv_aload_n hx hb dX_init_32 rfl (lv_at hl 1 rfl) ?_
  refine va_get (D := D) (ci := 0) (v := .ref q2) (C := "DroitLine") (T := F_X) (N := 9) hx hb hts i_X hown hK hP 0 rfl rfl 1 (by decide) (hts _ q_22) (fun _ h9 => h9) rfl dX_init_33 ?_
  refine va_alen hx hb hK hP 2 0 rfl rfl (v := 6) rfl dX_init_36 ?_
  refine lv_icmp_ge (tgt := 54) hx hb dX_init_37 (by decide) (fun c_7 => ?_) (fun c_7 => ?_)
  rotate_left
  · exact absurd c_7 (by decide)
  refine lv_aload_n hx hb dX_init_54 rfl (lv_at hl 1 rfl) ?_
  refine lv_bipush (v := 20) hx hb dX_init_55 (by decide) ?_
  refine va_put (D := D) (ci := 0) (v := .int 20) (ty := (t_X 5)) (C := "DroitLine") (T := F_X) (N := 9) hx hb hts i_X t_X t_X_ok n_X hown hK hP hD hS 0 rfl rfl 5 (by decide) (hts _ q_26) (fun _ h9 => h9) rfl (by decide +kernel) rfl rfl (Nat.le_of_ble_eq_true rfl) dX_init_57 (fun H locs hP hD hS => ?_)
  have hP : va_P D classes [(h0, .inr (0, [.ref q1, .ref q2, .ref q3, .int 0, .int 0, .int 20, .long 0, .long 0, .long 0])), (q1, .inl (tL, 30, .inr (.inr (.inr (.inr (fun _ => none)))))), (q2, .inl (tI, 6, .inl (upd (upd (upd (upd (upd (upd (fun _ => 0) 0 10) 1 10) 2 10) 3 10) 4 10) 5 10))), (q3, .inl (tI, 10, .inl (fun _ => 0)))] H := hP
  have hD : va_D A [(h0, .inr (0, [.ref q1, .ref q2, .ref q3, .int 0, .int 0, .int 20, .long 0, .long 0, .long 0])), (q1, .inl (tL, 30, .inr (.inr (.inr (.inr (fun _ => none)))))), (q2, .inl (tI, 6, .inl (upd (upd (upd (upd (upd (upd (fun _ => 0) 0 10) 1 10) 2 10) 3 10) 4 10) 5 10))), (q3, .inl (tI, 10, .inl (fun _ => 0)))] := hD
  exact W.vret hx hb hr (fun t ht hW => ⟨⟨(), rfl, trivial, q1, q2, q3, by rw [ht]; exact hP, hD⟩, hS.F ht⟩) hS.2.2 dX_init_60
