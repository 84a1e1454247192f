theorem tyI {D : va_G} {tI tJ tL cA : ClassId} {s : State} (h : va_K D classes (tys3 tI tJ tL ++ [(cA, FieldType.int)]) s) : cA = tI := by
  have h1 : s.vm.findClass ("[" ++ FieldType.int.toString) = some tI := (h.2 0 _ rfl).2
  have h2 : s.vm.findClass ("[" ++ FieldType.int.toString) = some cA := (h.2 3 _ rfl).2
  exact Option.some.inj (h2.symm.trans h1)
theorem tyJ {D : va_G} {tI tJ tL cA : ClassId} {s : State} (h : va_K D classes (tys3 tI tJ tL ++ [(cA, FieldType.long)]) s) : cA = tJ := by
  have h1 : s.vm.findClass ("[" ++ FieldType.long.toString) = some tJ := (h.2 1 _ rfl).2
  have h2 : s.vm.findClass ("[" ++ FieldType.long.toString) = some cA := (h.2 3 _ rfl).2
  exact Option.some.inj (h2.symm.trans h1)
theorem tyL {D : va_G} {tI tJ tL cA : ClassId} {s : State} (h : va_K D classes (tys3 tI tJ tL ++ [(cA, FieldType.object "DroitLine$Lot")]) s) : cA = tL := by
  obtain ⟨-, kA, comp, -, -, -, h1⟩ := h.2 2 _ rfl
  obtain ⟨-, kB, comp2, -, -, -, h2⟩ := h.2 3 _ rfl
  exact Option.some.inj (h2.symm.trans h1)
/-- what a constructor wants of its start -/
def CP (D : va_G) (tI tJ tL : ClassId) (w0 : va_W) (sz : Nat) (x : Bool) (U : State) : Prop := U.heap.size = sz ∧ va_P D classes w0 U.heap ∧ va_K D classes (tys3 tI tJ tL) U ∧ va_D (fun _ => True) w0 ∧ (∀ w ∈ wBad, va_Nw w U) ∧ (x = true → va_AO "DroitLine$Lot" U)
theorem CP.blind {D : va_G} {tI tJ tL : ClassId} {w0 : va_W} {sz : Nat} {x : Bool} {av : List Value} : FrameBlind (va_Pc av (CP D tI tJ tL w0 sz x)) := by
  intro a U g mk h
  obtain ⟨h0, h1, h2, h3, h4, h5, h6⟩ := h
  exact ⟨h0, h1, h2, va_K.moved (u := U) (U := U.calling g mk a) (Vm.Alike.refl U.vm) h3, h4, fun w hw => bad_same (u := U) (U := U.calling g mk a) (List.mem_filter.mp hw).2 rfl (h5 w hw), fun hx => va_AO.moved (u := U) (U := U.calling g mk a) (Vm.Alike.refl U.vm) (h6 hx)⟩

theorem hdyO_init : yO_init.cls ≠ "java/lang/invoke/MethodHandle" ∧ yO_init.cls ≠ "java/lang/invoke/VarHandle" ∧ (parseMethodDescriptor yO_init.desc).map (fun d => d.parameters.length) = some 0 := by decide +kernel
theorem dO_init_0 : decode bO_init 0 = .ok (.aload_n 0, 1) := by decide +kernel
theorem dO_init_1 : decode bO_init 1 = .ok (.invokespecial 3, 3) := by decide +kernel
theorem dO_init_4 : decode bO_init 4 = .ok (.aload_n 0, 1) := by decide +kernel
theorem dO_init_5 : decode bO_init 5 = .ok (.bipush 10, 2) := by decide +kernel
theorem dO_init_7 : decode bO_init 7 = .ok (.newarray .int, 2) := by decide +kernel
theorem dO_init_9 : decode bO_init 9 = .ok (.putfield 9, 3) := by decide +kernel
theorem dO_init_12 : decode bO_init 12 = .ok (.aload_n 0, 1) := by decide +kernel
theorem dO_init_13 : decode bO_init 13 = .ok (.bipush 10, 2) := by decide +kernel
theorem dO_init_15 : decode bO_init 15 = .ok (.newarray .int, 2) := by decide +kernel
theorem dO_init_17 : decode bO_init 17 = .ok (.putfield 15, 3) := by decide +kernel
theorem dO_init_20 : decode bO_init 20 = .ok (.return_, 1) := by decide +kernel
set_option maxHeartbeats 4000000 in
set_option maxRecDepth 100000 in
theorem cO_init (l : Launch) (D : va_G) (tI tJ tL : ClassId) (h0 sz : Nat) : Met l yO_init (Cond.code yO_init bO_init 1 none :: wNeed) { frames := 1, cells := 2, slots := 20, locals := 20 } (va_Pc [.ref h0] (CP D tI tJ tL [(h0, .inr (2, [.null, .null, .int 0]))] sz false)) (va_Qv (fun _ : Unit => True) (fun _ t => ∃ q1 q2 : Nat, va_P D classes [(h0, .inr (2, [.ref q1, .ref q2, .int 0])), (q1, .inl (tI, 10, .inl (fun _ => 0))), (q2, .inl (tI, 10, .inl (fun _ => 0)))] t.heap ∧ va_D (va_A [(h0, .inr (2, [.null, .null, .int 0]))] sz) [(h0, .inr (2, [.ref q1, .ref q2, .int 0])), (q1, .inl (tI, 10, .inl (fun _ => 0))), (q2, .inl (tI, 10, .inl (fun _ => 0)))]) (va_A [(h0, .inr (2, [.null, .null, .int 0]))] sz)) 2 20 (va_A [(h0, .inr (2, [.null, .null, .int 0]))] sz) := by
  refine en_M (av := [.ref h0]) (by decide) (Nat.le_of_ble_eq_true rfl) ?_
  intro p e s m below meth c hx hb hml hown hts hr hlocks hmname hP0 ls hl
  obtain ⟨hsz, hP, hK, hD0, hZ, hAO⟩ := hP0
  subst hsz
  have hD := hD0.self (sz := s.heap.size)
  generalize hAe : va_A [(h0, .inr (2, [.null, .null, .int 0]))] s.heap.size = A at hD ⊢
  have hA : ∀ q : Nat, s.heap.size ≤ q → A q := fun q h => by rw [← hAe]; exact Or.inr h
  have hS : va_S A s.heap s.heap [] := va_S.rf
  replace hl : lv_has ls 1 [(0, .ref h0)] := hl
  refine lv_aload_n hx hb dO_init_0 rfl (lv_at hl 0 rfl) ?_
  refine W.objInit hx hb hown (hts _ q_215) (hts _ q_18) (hts _ q_19) rfl (by rw [hml]; exact hl.1) rfl dO_init_1 (Nat.le_of_ble_eq_true rfl) (Nat.le_of_ble_eq_true rfl) ?_
  refine W.eq (g2 := F0 m 4 ls []) rfl ?_
  refine lv_aload_n hx hb dO_init_4 rfl (lv_at hl 0 rfl) ?_
  refine lv_bipush (v := 10) hx hb dO_init_5 (by decide) ?_
  refine va_newa (atype := .int) (ty := .int) (N' := 10) (a0 := (10, .inl fun _ => 0)) hx hb (hts _ q_50) rfl hK hP hD hS hA (fun _ => rfl) (by decide) rfl (by decide) (Nat.le_of_ble_eq_true rfl) (Nat.le_of_ble_eq_true rfl) dO_init_7 (fun q1 cA H hK1 hP hD hS => ?_)
  rw [tyI hK1] at hP hD
  have hP : va_P D classes [(h0, .inr (2, [.null, .null, .int 0])), (q1, .inl (tI, 10, .inl (fun _ => 0)))] H := hP
  have hD : va_D A [(h0, .inr (2, [.null, .null, .int 0])), (q1, .inl (tI, 10, .inl (fun _ => 0)))] := hD
  refine va_putF (D := D) (ci := 2) (v := .ref q1) (ty := (t_O 0)) (C := "DroitLine$Offers") (T := F_O) (N := 3) hx hb hts i_O t_O t_O_ok n_O hown hK hP hD hS 0 rfl rfl 0 (by decide) (hts _ q_216) (fun _ h9 => h9) rfl hmname rfl (by decide +kernel) rfl rfl (Nat.le_of_ble_eq_true rfl) dO_init_9 (fun H locs hP hD hS => ?_)
  have hP : va_P D classes [(h0, .inr (2, [.ref q1, .null, .int 0])), (q1, .inl (tI, 10, .inl (fun _ => 0)))] H := hP
  have hD : va_D A [(h0, .inr (2, [.ref q1, .null, .int 0])), (q1, .inl (tI, 10, .inl (fun _ => 0)))] := hD
  refine lv_aload_n hx hb dO_init_12 rfl (lv_at hl 0 rfl) ?_
  refine lv_bipush (v := 10) hx hb dO_init_13 (by decide) ?_
  refine va_newa (atype := .int) (ty := .int) (N' := 10) (a0 := (10, .inl fun _ => 0)) hx hb (hts _ q_50) rfl hK hP hD hS hA (fun _ => rfl) (by decide) rfl (by decide) (Nat.le_of_ble_eq_true rfl) (Nat.le_of_ble_eq_true rfl) dO_init_15 (fun q2 cA H hK1 hP hD hS => ?_)
  rw [tyI hK1] at hP hD
  have hP : va_P D classes [(h0, .inr (2, [.ref q1, .null, .int 0])), (q1, .inl (tI, 10, .inl (fun _ => 0))), (q2, .inl (tI, 10, .inl (fun _ => 0)))] H := hP
  have hD : va_D A [(h0, .inr (2, [.ref q1, .null, .int 0])), (q1, .inl (tI, 10, .inl (fun _ => 0))), (q2, .inl (tI, 10, .inl (fun _ => 0)))] := hD
  refine va_putF (D := D) (ci := 2) (v := .ref q2) (ty := (t_O 1)) (C := "DroitLine$Offers") (T := F_O) (N := 3) hx hb hts i_O t_O t_O_ok n_O hown hK hP hD hS 0 rfl rfl 1 (by decide) (hts _ q_217) (fun _ h9 => h9) rfl hmname rfl (by decide +kernel) rfl rfl (Nat.le_of_ble_eq_true rfl) dO_init_17 (fun H locs hP hD hS => ?_)
  have hP : va_P D classes [(h0, .inr (2, [.ref q1, .ref q2, .int 0])), (q1, .inl (tI, 10, .inl (fun _ => 0))), (q2, .inl (tI, 10, .inl (fun _ => 0)))] H := hP
  have hD : va_D A [(h0, .inr (2, [.ref q1, .ref q2, .int 0])), (q1, .inl (tI, 10, .inl (fun _ => 0))), (q2, .inl (tI, 10, .inl (fun _ => 0)))] := hD
  exact W.vret hx hb hr (fun t ht hW => ⟨⟨(), rfl, trivial, q1, q2, by rw [ht]; exact hP, hD⟩, hS.F ht⟩) hS.2.2 dO_init_20
theorem hdyL_init : yL_init.cls ≠ "java/lang/invoke/MethodHandle" ∧ yL_init.cls ≠ "java/lang/invoke/VarHandle" ∧ (parseMethodDescriptor yL_init.desc).map (fun d => d.parameters.length) = some 3 := by decide +kernel
theorem dL_init_0 : decode bL_init 0 = .ok (.aload_n 0, 1) := by decide +kernel
theorem dL_init_1 : decode bL_init 1 = .ok (.invokespecial 3, 3) := by decide +kernel
theorem dL_init_4 : decode bL_init 4 = .ok (.aload_n 0, 1) := by decide +kernel
theorem dL_init_5 : decode bL_init 5 = .ok (.iload_n 1, 1) := by decide +kernel
theorem dL_init_6 : decode bL_init 6 = .ok (.putfield 9, 3) := by decide +kernel
theorem dL_init_9 : decode bL_init 9 = .ok (.aload_n 0, 1) := by decide +kernel
theorem dL_init_10 : decode bL_init 10 = .ok (.iload_n 3, 1) := by decide +kernel
theorem dL_init_11 : decode bL_init 11 = .ok (.putfield 15, 3) := by decide +kernel
theorem dL_init_14 : decode bL_init 14 = .ok (.aload_n 0, 1) := by decide +kernel
theorem dL_init_15 : decode bL_init 15 = .ok (.iload_n 2, 1) := by decide +kernel
theorem dL_init_16 : decode bL_init 16 = .ok (.putfield 18, 3) := by decide +kernel
theorem dL_init_19 : decode bL_init 19 = .ok (.aload_n 0, 1) := by decide +kernel
theorem dL_init_20 : decode bL_init 20 = .ok (.new 21, 3) := by decide +kernel
theorem dL_init_23 : decode bL_init 23 = .ok (.dup, 1) := by decide +kernel
theorem dL_init_24 : decode bL_init 24 = .ok (.invokespecial 23, 3) := by decide +kernel
theorem dL_init_27 : decode bL_init 27 = .ok (.putfield 24, 3) := by decide +kernel
theorem dL_init_30 : decode bL_init 30 = .ok (.aload_n 0, 1) := by decide +kernel
theorem dL_init_31 : decode bL_init 31 = .ok (.iconst 0, 1) := by decide +kernel
theorem dL_init_32 : decode bL_init 32 = .ok (.putfield 28, 3) := by decide +kernel
theorem dL_init_35 : decode bL_init 35 = .ok (.aload_n 0, 1) := by decide +kernel
theorem dL_init_36 : decode bL_init 36 = .ok (.iconst (-1), 1) := by decide +kernel
theorem dL_init_37 : decode bL_init 37 = .ok (.putfield 31, 3) := by decide +kernel
theorem dL_init_40 : decode bL_init 40 = .ok (.aload_n 0, 1) := by decide +kernel
theorem dL_init_41 : decode bL_init 41 = .ok (.iconst (-1), 1) := by decide +kernel
theorem dL_init_42 : decode bL_init 42 = .ok (.putfield 34, 3) := by decide +kernel
theorem dL_init_45 : decode bL_init 45 = .ok (.aload_n 0, 1) := by decide +kernel
theorem dL_init_46 : decode bL_init 46 = .ok (.iconst (-1), 1) := by decide +kernel
theorem dL_init_47 : decode bL_init 47 = .ok (.putfield 37, 3) := by decide +kernel
theorem dL_init_50 : decode bL_init 50 = .ok (.return_, 1) := by decide +kernel
set_option maxHeartbeats 4000000 in
set_option maxRecDepth 100000 in
theorem cL_init (l : Launch) (D : va_G) (tI tJ tL : ClassId) (h0 sz : Nat) (p0 : Int32) (p1 : Int32) (p2 : Int32) : Met l yL_init (Cond.code yL_init bL_init 4 none :: wNeed) { frames := 2, cells := 3, slots := 23, locals := 40 } (va_Pc [.ref h0, .int p0, .int p1, .int p2] (CP D tI tJ tL [(h0, .inr (1, [.int 0, .int 0, .null, .int 0, .int 0, .int 0, .int 0, .int 0, .int 0, .int 0, .int 0, .int 0, .int 0]))] sz false)) (va_Qv (fun _ : Unit => True) (fun _ t => ∃ q1 q2 q3 : Nat, va_P D classes [(h0, .inr (1, [.int p0, .int p2, .ref q1, .int p1, .int 0, .int (-1), .int (-1), .int 0, .int (-1), .int 0, .int 0, .int 0, .int 0])), (q1, .inr (2, [.ref q2, .ref q3, .int 0])), (q2, .inl (tI, 10, .inl (fun _ => 0))), (q3, .inl (tI, 10, .inl (fun _ => 0)))] t.heap ∧ va_D (va_A [(h0, .inr (1, [.int 0, .int 0, .null, .int 0, .int 0, .int 0, .int 0, .int 0, .int 0, .int 0, .int 0, .int 0, .int 0]))] sz) [(h0, .inr (1, [.int p0, .int p2, .ref q1, .int p1, .int 0, .int (-1), .int (-1), .int 0, .int (-1), .int 0, .int 0, .int 0, .int 0])), (q1, .inr (2, [.ref q2, .ref q3, .int 0])), (q2, .inl (tI, 10, .inl (fun _ => 0))), (q3, .inl (tI, 10, .inl (fun _ => 0)))]) (va_A [(h0, .inr (1, [.int 0, .int 0, .null, .int 0, .int 0, .int 0, .int 0, .int 0, .int 0, .int 0, .int 0, .int 0, .int 0]))] sz)) 3 23 (va_A [(h0, .inr (1, [.int 0, .int 0, .null, .int 0, .int 0, .int 0, .int 0, .int 0, .int 0, .int 0, .int 0, .int 0, .int 0]))] sz) := by
  refine en_M (av := [.ref h0, .int p0, .int p1, .int p2]) (by decide) (Nat.le_of_ble_eq_true rfl) ?_
  intro p e s m below meth c hx hb hml hown hts hr hlocks hmname hP0 ls hl
  obtain ⟨hsz, hP, hK, hD0, hZ, hAO⟩ := hP0
  subst hsz
  have hD := hD0.self (sz := s.heap.size)
  generalize hAe : va_A [(h0, .inr (1, [.int 0, .int 0, .null, .int 0, .int 0, .int 0, .int 0, .int 0, .int 0, .int 0, .int 0, .int 0, .int 0]))] s.heap.size = A at hD ⊢
  have hA : ∀ q : Nat, s.heap.size ≤ q → A q := fun q h => by rw [← hAe]; exact Or.inr h
  have hS : va_S A s.heap s.heap [] := va_S.rf
  replace hl : lv_has ls 4 [(0, .ref h0), (1, .int p0), (2, .int p1), (3, .int p2)] := hl
  refine lv_aload_n hx hb dL_init_0 rfl (lv_at hl 0 rfl) ?_
  refine W.objInit hx hb hown (hts _ q_209) (hts _ q_18) (hts _ q_19) rfl (by rw [hml]; exact hl.1) rfl dL_init_1 (Nat.le_of_ble_eq_true rfl) (Nat.le_of_ble_eq_true rfl) ?_
  refine W.eq (g2 := F0 m 4 ls []) rfl ?_
  refine lv_aload_n hx hb dL_init_4 rfl (lv_at hl 0 rfl) ?_
  refine lv_iload_n hx hb dL_init_5 rfl (lv_at hl 1 rfl) ?_
  refine va_putF (D := D) (ci := 1) (v := .int p0) (ty := (t_L 0)) (C := "DroitLine$Lot") (T := F_L) (N := 13) hx hb hts i_L t_L t_L_ok n_L hown hK hP hD hS 0 rfl rfl 0 (by decide) (hts _ q_228) (fun _ h9 => h9) rfl hmname rfl (by decide +kernel) rfl rfl (Nat.le_of_ble_eq_true rfl) dL_init_6 (fun H locs hP hD hS => ?_)
  have hP : va_P D classes [(h0, .inr (1, [.int p0, .int 0, .null, .int 0, .int 0, .int 0, .int 0, .int 0, .int 0, .int 0, .int 0, .int 0, .int 0]))] H := hP
  have hD : va_D A [(h0, .inr (1, [.int p0, .int 0, .null, .int 0, .int 0, .int 0, .int 0, .int 0, .int 0, .int 0, .int 0, .int 0, .int 0]))] := hD
  refine lv_aload_n hx hb dL_init_9 rfl (lv_at hl 0 rfl) ?_
  refine lv_iload_n hx hb dL_init_10 rfl (lv_at hl 3 rfl) ?_
  refine va_putF (D := D) (ci := 1) (v := .int p2) (ty := (t_L 1)) (C := "DroitLine$Lot") (T := F_L) (N := 13) hx hb hts i_L t_L t_L_ok n_L hown hK hP hD hS 0 rfl rfl 1 (by decide) (hts _ q_230) (fun _ h9 => h9) rfl hmname rfl (by decide +kernel) rfl rfl (Nat.le_of_ble_eq_true rfl) dL_init_11 (fun H locs hP hD hS => ?_)
  have hP : va_P D classes [(h0, .inr (1, [.int p0, .int p2, .null, .int 0, .int 0, .int 0, .int 0, .int 0, .int 0, .int 0, .int 0, .int 0, .int 0]))] H := hP
  have hD : va_D A [(h0, .inr (1, [.int p0, .int p2, .null, .int 0, .int 0, .int 0, .int 0, .int 0, .int 0, .int 0, .int 0, .int 0, .int 0]))] := hD
  refine lv_aload_n hx hb dL_init_14 rfl (lv_at hl 0 rfl) ?_
  refine lv_iload_n hx hb dL_init_15 rfl (lv_at hl 2 rfl) ?_
  refine va_put (D := D) (ci := 1) (v := .int p1) (ty := (t_L 3)) (C := "DroitLine$Lot") (T := F_L) (N := 13) hx hb hts i_L t_L t_L_ok n_L hown hK hP hD hS 0 rfl rfl 3 (by decide) (hts _ q_234) (fun _ h9 => h9) rfl (by decide +kernel) rfl rfl (Nat.le_of_ble_eq_true rfl) dL_init_16 (fun H locs hP hD hS => ?_)
  have hP : va_P D classes [(h0, .inr (1, [.int p0, .int p2, .null, .int p1, .int 0, .int 0, .int 0, .int 0, .int 0, .int 0, .int 0, .int 0, .int 0]))] H := hP
  have hD : va_D A [(h0, .inr (1, [.int p0, .int p2, .null, .int p1, .int 0, .int 0, .int 0, .int 0, .int 0, .int 0, .int 0, .int 0, .int 0]))] := hD
  refine lv_aload_n hx hb dL_init_19 rfl (lv_at hl 0 rfl) ?_
  refine va_new (ci := 2) (fs := [.null, .null, .int 0]) (C := "DroitLine$Offers") (T := F_O) (N := 3) hx hb hts i_O t_O t_O_ok hown (hts _ q_210) (hts _ q_211) (hts _ q_10) hK hP hD hS hA rfl (fun j hj => by rcases (show j = 0 ∨ j = 1 ∨ j = 2 by omega) with rfl | rfl | rfl <;> rfl) (Nat.le_of_ble_eq_true rfl) (Nat.le_of_ble_eq_true rfl) dL_init_20 (fun q1 H hP hD hS => ?_)
  have hP : va_P D classes [(h0, .inr (1, [.int p0, .int p2, .null, .int p1, .int 0, .int 0, .int 0, .int 0, .int 0, .int 0, .int 0, .int 0, .int 0])), (q1, .inr (2, [.null, .null, .int 0]))] H := hP
  have hD : va_D A [(h0, .inr (1, [.int p0, .int p2, .null, .int p1, .int 0, .int 0, .int 0, .int 0, .int 0, .int 0, .int 0, .int 0, .int 0])), (q1, .inr (2, [.null, .null, .int 0]))] := hD
  refine lv_dup hx hb dL_init_23 rfl ?_
  have hPc := hP.sub (ws' := [(q1, .inr (2, [.null, .null, .int 0]))]) [1] rfl
  have hDc := hD.sub (ws' := [(q1, .inr (2, [.null, .null, .int 0]))]) [1] (by decide) rfl
  have hFc := va_free (wc := [(q1, .inr (2, [.null, .null, .int 0]))]) hD hS hA [1] rfl
  refine va_callv (va_runIN (As := []) (rest := [.ref q1, .ref h0]) ⟨hx, hb, hml, hown, hts⟩ (cO_init l D tI tJ tL q1 H.size) ⟨va_cnB 0 hts (gI q_214) rfl rfl rfl (hZ _ z_212) (hts _ q_10) hdyO_init ⟨Nat.le_of_ble_eq_true rfl, Nat.le_of_ble_eq_true rfl⟩, rfl, hts _ q_213⟩ ⟨CP.blind, fun U hU hW => ⟨rfl, by rw [hU], by rw [hU]; exact hPc, va_K.moved hW.alike hK, hDc.weaken (fun _ _ _ _ => trivial), fun w hw => bad_warm (List.mem_filter.mp hw).2 hW (hZ w hw), fun hx => absurd hx (by decide)⟩⟩ rfl rfl hl.1 rfl (lv_room (Nat.le_of_ble_eq_true rfl)) dL_init_24 ⟨Nat.le_of_ble_eq_true rfl, Nat.le_of_ble_eq_true rfl⟩) hS (fun q _ h => hFc q h) hFc (fun u t H1 locs ht hvm hw hB hz1 hk1 hS => ?_)
  obtain ⟨q2, q3, hP1, hD1⟩ := hB
  rw [ht] at hP1
  obtain ⟨hP, hD⟩ := va_join (wr := [(h0, .inr (1, [.int p0, .int p2, .null, .int p1, .int 0, .int 0, .int 0, .int 0, .int 0, .int 0, .int 0, .int 0, .int 0]))]) (w1 := [(q1, .inr (2, [.ref q2, .ref q3, .int 0])), (q2, .inl (tI, 10, .inl (fun _ => 0))), (q3, .inl (tI, 10, .inl (fun _ => 0)))]) hP hD [1] [0] rfl rfl (by decide) (by decide) hk1 hFc hP1 hD1
  generalize H1 = H at hP hS ⊢
  have hP : va_P D classes [(h0, .inr (1, [.int p0, .int p2, .null, .int p1, .int 0, .int 0, .int 0, .int 0, .int 0, .int 0, .int 0, .int 0, .int 0])), (q1, .inr (2, [.ref q2, .ref q3, .int 0])), (q2, .inl (tI, 10, .inl (fun _ => 0))), (q3, .inl (tI, 10, .inl (fun _ => 0)))] H := hP
  have hD : va_D A [(h0, .inr (1, [.int p0, .int p2, .null, .int p1, .int 0, .int 0, .int 0, .int 0, .int 0, .int 0, .int 0, .int 0, .int 0])), (q1, .inr (2, [.ref q2, .ref q3, .int 0])), (q2, .inl (tI, 10, .inl (fun _ => 0))), (q3, .inl (tI, 10, .inl (fun _ => 0)))] := hD
  refine va_putF (D := D) (ci := 1) (v := .ref q1) (ty := (t_L 2)) (C := "DroitLine$Lot") (T := F_L) (N := 13) hx hb hts i_L t_L t_L_ok n_L hown hK hP hD hS 0 rfl rfl 2 (by decide) (hts _ q_232) (fun _ h9 => h9) rfl hmname rfl (by decide +kernel) rfl rfl (Nat.le_of_ble_eq_true rfl) dL_init_27 (fun H locs hP hD hS => ?_)
  have hP : va_P D classes [(h0, .inr (1, [.int p0, .int p2, .ref q1, .int p1, .int 0, .int 0, .int 0, .int 0, .int 0, .int 0, .int 0, .int 0, .int 0])), (q1, .inr (2, [.ref q2, .ref q3, .int 0])), (q2, .inl (tI, 10, .inl (fun _ => 0))), (q3, .inl (tI, 10, .inl (fun _ => 0)))] H := hP
  have hD : va_D A [(h0, .inr (1, [.int p0, .int p2, .ref q1, .int p1, .int 0, .int 0, .int 0, .int 0, .int 0, .int 0, .int 0, .int 0, .int 0])), (q1, .inr (2, [.ref q2, .ref q3, .int 0])), (q2, .inl (tI, 10, .inl (fun _ => 0))), (q3, .inl (tI, 10, .inl (fun _ => 0)))] := hD
  refine lv_aload_n hx hb dL_init_30 rfl (lv_at hl 0 rfl) ?_
  refine lv_iconst (v := 0) hx hb dL_init_31 (by decide) ?_
  refine va_put (D := D) (ci := 1) (v := .int 0) (ty := (t_L 4)) (C := "DroitLine$Lot") (T := F_L) (N := 13) hx hb hts i_L t_L t_L_ok n_L hown hK hP hD hS 0 rfl rfl 4 (by decide) (hts _ q_236) (fun _ h9 => h9) rfl (by decide +kernel) rfl rfl (Nat.le_of_ble_eq_true rfl) dL_init_32 (fun H locs hP hD hS => ?_)
  have hP : va_P D classes [(h0, .inr (1, [.int p0, .int p2, .ref q1, .int p1, .int 0, .int 0, .int 0, .int 0, .int 0, .int 0, .int 0, .int 0, .int 0])), (q1, .inr (2, [.ref q2, .ref q3, .int 0])), (q2, .inl (tI, 10, .inl (fun _ => 0))), (q3, .inl (tI, 10, .inl (fun _ => 0)))] H := hP
  have hD : va_D A [(h0, .inr (1, [.int p0, .int p2, .ref q1, .int p1, .int 0, .int 0, .int 0, .int 0, .int 0, .int 0, .int 0, .int 0, .int 0])), (q1, .inr (2, [.ref q2, .ref q3, .int 0])), (q2, .inl (tI, 10, .inl (fun _ => 0))), (q3, .inl (tI, 10, .inl (fun _ => 0)))] := hD
  refine lv_aload_n hx hb dL_init_35 rfl (lv_at hl 0 rfl) ?_
  refine lv_iconst (v := (-1)) hx hb dL_init_36 (by decide) ?_
  refine va_put (D := D) (ci := 1) (v := .int (-1)) (ty := (t_L 5)) (C := "DroitLine$Lot") (T := F_L) (N := 13) hx hb hts i_L t_L t_L_ok n_L hown hK hP hD hS 0 rfl rfl 5 (by decide) (hts _ q_238) (fun _ h9 => h9) rfl (by decide +kernel) rfl rfl (Nat.le_of_ble_eq_true rfl) dL_init_37 (fun H locs hP hD hS => ?_)
  have hP : va_P D classes [(h0, .inr (1, [.int p0, .int p2, .ref q1, .int p1, .int 0, .int (-1), .int 0, .int 0, .int 0, .int 0, .int 0, .int 0, .int 0])), (q1, .inr (2, [.ref q2, .ref q3, .int 0])), (q2, .inl (tI, 10, .inl (fun _ => 0))), (q3, .inl (tI, 10, .inl (fun _ => 0)))] H := hP
  have hD : va_D A [(h0, .inr (1, [.int p0, .int p2, .ref q1, .int p1, .int 0, .int (-1), .int 0, .int 0, .int 0, .int 0, .int 0, .int 0, .int 0])), (q1, .inr (2, [.ref q2, .ref q3, .int 0])), (q2, .inl (tI, 10, .inl (fun _ => 0))), (q3, .inl (tI, 10, .inl (fun _ => 0)))] := hD
  refine lv_aload_n hx hb dL_init_40 rfl (lv_at hl 0 rfl) ?_
  refine lv_iconst (v := (-1)) hx hb dL_init_41 (by decide) ?_
  refine va_put (D := D) (ci := 1) (v := .int (-1)) (ty := (t_L 6)) (C := "DroitLine$Lot") (T := F_L) (N := 13) hx hb hts i_L t_L t_L_ok n_L hown hK hP hD hS 0 rfl rfl 6 (by decide) (hts _ q_240) (fun _ h9 => h9) rfl (by decide +kernel) rfl rfl (Nat.le_of_ble_eq_true rfl) dL_init_42 (fun H locs hP hD hS => ?_)
  have hP : va_P D classes [(h0, .inr (1, [.int p0, .int p2, .ref q1, .int p1, .int 0, .int (-1), .int (-1), .int 0, .int 0, .int 0, .int 0, .int 0, .int 0])), (q1, .inr (2, [.ref q2, .ref q3, .int 0])), (q2, .inl (tI, 10, .inl (fun _ => 0))), (q3, .inl (tI, 10, .inl (fun _ => 0)))] H := hP
  have hD : va_D A [(h0, .inr (1, [.int p0, .int p2, .ref q1, .int p1, .int 0, .int (-1), .int (-1), .int 0, .int 0, .int 0, .int 0, .int 0, .int 0])), (q1, .inr (2, [.ref q2, .ref q3, .int 0])), (q2, .inl (tI, 10, .inl (fun _ => 0))), (q3, .inl (tI, 10, .inl (fun _ => 0)))] := hD
  refine lv_aload_n hx hb dL_init_45 rfl (lv_at hl 0 rfl) ?_
  refine lv_iconst (v := (-1)) hx hb dL_init_46 (by decide) ?_
  refine va_put (D := D) (ci := 1) (v := .int (-1)) (ty := (t_L 8)) (C := "DroitLine$Lot") (T := F_L) (N := 13) hx hb hts i_L t_L t_L_ok n_L hown hK hP hD hS 0 rfl rfl 8 (by decide) (hts _ q_243) (fun _ h9 => h9) rfl (by decide +kernel) rfl rfl (Nat.le_of_ble_eq_true rfl) dL_init_47 (fun H locs hP hD hS => ?_)
  have hP : va_P D classes [(h0, .inr (1, [.int p0, .int p2, .ref q1, .int p1, .int 0, .int (-1), .int (-1), .int 0, .int (-1), .int 0, .int 0, .int 0, .int 0])), (q1, .inr (2, [.ref q2, .ref q3, .int 0])), (q2, .inl (tI, 10, .inl (fun _ => 0))), (q3, .inl (tI, 10, .inl (fun _ => 0)))] H := hP
  have hD : va_D A [(h0, .inr (1, [.int p0, .int p2, .ref q1, .int p1, .int 0, .int (-1), .int (-1), .int 0, .int (-1), .int 0, .int 0, .int 0, .int 0])), (q1, .inr (2, [.ref q2, .ref q3, .int 0])), (q2, .inl (tI, 10, .inl (fun _ => 0))), (q3, .inl (tI, 10, .inl (fun _ => 0)))] := hD
  exact W.vret hx hb hr (fun t ht hW => ⟨⟨(), rfl, trivial, q1, q2, q3, by rw [ht]; exact hP, hD⟩, hS.F ht⟩) hS.2.2 dL_init_50
theorem hdyX_init : yX_init.cls ≠ "java/lang/invoke/MethodHandle" ∧ yX_init.cls ≠ "java/lang/invoke/VarHandle" ∧ (parseMethodDescriptor yX_init.desc).map (fun d => d.parameters.length) = some 0 := by decide +kernel
theorem dX_init_0 : decode bX_init 0 = .ok (.aload_n 0, 1) := by decide +kernel
theorem dX_init_1 : decode bX_init 1 = .ok (.invokespecial 1, 3) := by decide +kernel
theorem dX_init_4 : decode bX_init 4 = .ok (.aload_n 0, 1) := by decide +kernel
theorem dX_init_5 : decode bX_init 5 = .ok (.bipush 30, 2) := by decide +kernel
theorem dX_init_7 : decode bX_init 7 = .ok (.anewarray 9, 3) := by decide +kernel
theorem dX_init_10 : decode bX_init 10 = .ok (.putfield 11, 3) := by decide +kernel
theorem dX_init_13 : decode bX_init 13 = .ok (.aload_n 0, 1) := by decide +kernel
theorem dX_init_14 : decode bX_init 14 = .ok (.bipush 6, 2) := by decide +kernel
theorem dX_init_16 : decode bX_init 16 = .ok (.newarray .int, 2) := by decide +kernel
theorem dX_init_18 : decode bX_init 18 = .ok (.putfield 15, 3) := by decide +kernel
theorem dX_init_21 : decode bX_init 21 = .ok (.aload_n 0, 1) := by decide +kernel
theorem dX_init_22 : decode bX_init 22 = .ok (.bipush 10, 2) := by decide +kernel
theorem dX_init_24 : decode bX_init 24 = .ok (.newarray .int, 2) := by decide +kernel
theorem dX_init_26 : decode bX_init 26 = .ok (.putfield 19, 3) := by decide +kernel
theorem dX_init_29 : decode bX_init 29 = .ok (.iconst 0, 1) := by decide +kernel
theorem dX_init_30 : decode bX_init 30 = .ok (.istore_n 1, 1) := by decide +kernel
theorem dX_init_31 : decode bX_init 31 = .ok (.iload_n 1, 1) := by decide +kernel
theorem dX_init_32 : decode bX_init 32 = .ok (.aload_n 0, 1) := by decide +kernel
theorem dX_init_33 : decode bX_init 33 = .ok (.getfield 15, 3) := by decide +kernel
theorem dX_init_36 : decode bX_init 36 = .ok (.arraylength, 1) := by decide +kernel
theorem dX_init_37 : decode bX_init 37 = .ok (.if_icmp .ge 17, 3) := by decide +kernel
theorem dX_init_40 : decode bX_init 40 = .ok (.aload_n 0, 1) := by decide +kernel
theorem dX_init_41 : decode bX_init 41 = .ok (.getfield 15, 3) := by decide +kernel
theorem dX_init_44 : decode bX_init 44 = .ok (.iload_n 1, 1) := by decide +kernel
theorem dX_init_45 : decode bX_init 45 = .ok (.bipush 10, 2) := by decide +kernel
theorem dX_init_47 : decode bX_init 47 = .ok (.iastore, 1) := by decide +kernel
theorem dX_init_48 : decode bX_init 48 = .ok (.iinc 1 1, 3) := by decide +kernel
theorem dX_init_51 : decode bX_init 51 = .ok (.goto (-20), 3) := by decide +kernel
theorem dX_init_54 : decode bX_init 54 = .ok (.aload_n 0, 1) := by decide +kernel
theorem dX_init_55 : decode bX_init 55 = .ok (.bipush 20, 2) := by decide +kernel
theorem dX_init_57 : decode bX_init 57 = .ok (.putfield 22, 3) := by decide +kernel
theorem dX_init_60 : decode bX_init 60 = .ok (.return_, 1) := by decide +kernel
set_option maxHeartbeats 4000000 in
set_option maxRecDepth 100000 in
theorem cX_init (l : Launch) (D : va_G) (tI tJ tL : ClassId) (h0 sz : Nat) : Met l yX_init (Cond.code yX_init bX_init 2 none :: wNeed) { frames := 1, cells := 3, slots := 46, locals := 20 } (va_Pc [.ref h0] (CP D tI tJ tL [(h0, .inr (0, [.null, .null, .null, .int 0, .int 0, .int 0, .long 0, .long 0, .long 0]))] sz true)) (va_Qv (fun _ : Unit => True) (fun _ t => ∃ q1 q2 q3 : Nat, va_P D classes [(h0, .inr (0, [.ref q1, .ref q2, .ref q3, .int 0, .int 0, .int 20, .long 0, .long 0, .long 0])), (q1, .inl (tL, 30, .inr (.inr (.inr (.inr (fun _ => none)))))), (q2, .inl (tI, 6, .inl (upd (upd (upd (upd (upd (upd (fun _ => 0) 0 10) 1 10) 2 10) 3 10) 4 10) 5 10))), (q3, .inl (tI, 10, .inl (fun _ => 0)))] t.heap ∧ va_D (va_A [(h0, .inr (0, [.null, .null, .null, .int 0, .int 0, .int 0, .long 0, .long 0, .long 0]))] sz) [(h0, .inr (0, [.ref q1, .ref q2, .ref q3, .int 0, .int 0, .int 20, .long 0, .long 0, .long 0])), (q1, .inl (tL, 30, .inr (.inr (.inr (.inr (fun _ => none)))))), (q2, .inl (tI, 6, .inl (upd (upd (upd (upd (upd (upd (fun _ => 0) 0 10) 1 10) 2 10) 3 10) 4 10) 5 10))), (q3, .inl (tI, 10, .inl (fun _ => 0)))]) (va_A [(h0, .inr (0, [.null, .null, .null, .int 0, .int 0, .int 0, .long 0, .long 0, .long 0]))] sz)) 3 46 (va_A [(h0, .inr (0, [.null, .null, .null, .int 0, .int 0, .int 0, .long 0, .long 0, .long 0]))] sz) := by
  refine en_M (av := [.ref h0]) (by decide) (Nat.le_of_ble_eq_true rfl) ?_
  intro p e s m below meth c hx hb hml hown hts hr hlocks hmname hP0 ls hl
  obtain ⟨hsz, hP, hK, hD0, hZ, hAO⟩ := hP0
  subst hsz
  have hD := hD0.self (sz := s.heap.size)
  generalize hAe : va_A [(h0, .inr (0, [.null, .null, .null, .int 0, .int 0, .int 0, .long 0, .long 0, .long 0]))] s.heap.size = A at hD ⊢
  have hA : ∀ q : Nat, s.heap.size ≤ q → A q := fun q h => by rw [← hAe]; exact Or.inr h
  have hS : va_S A s.heap s.heap [] := va_S.rf
  replace hl : lv_has ls 2 [(0, .ref h0)] := hl
  refine lv_aload_n hx hb dX_init_0 rfl (lv_at hl 0 rfl) ?_
  refine W.objInit hx hb hown (hts _ q_17) (hts _ q_18) (hts _ q_19) rfl (by rw [hml]; exact hl.1) rfl dX_init_1 (Nat.le_of_ble_eq_true rfl) (Nat.le_of_ble_eq_true rfl) ?_
  refine W.eq (g2 := F0 m 4 ls []) rfl ?_
  refine lv_aload_n hx hb dX_init_4 rfl (lv_at hl 0 rfl) ?_
  refine lv_bipush (v := 30) hx hb dX_init_5 (by decide) ?_
  refine va_newq (N' := 30) hx hb hown (hts _ q_20) (hAO rfl) hK hP hD hS hA (by decide) rfl (by decide) (Nat.le_of_ble_eq_true rfl) (Nat.le_of_ble_eq_true rfl) dX_init_7 (fun q1 cA H hK1 hP hD hS => ?_)
  rw [tyL hK1] at hP hD
  have hP : va_P D classes [(h0, .inr (0, [.null, .null, .null, .int 0, .int 0, .int 0, .long 0, .long 0, .long 0])), (q1, .inl (tL, 30, .inr (.inr (.inr (.inr (fun _ => none))))))] H := hP
  have hD : va_D A [(h0, .inr (0, [.null, .null, .null, .int 0, .int 0, .int 0, .long 0, .long 0, .long 0])), (q1, .inl (tL, 30, .inr (.inr (.inr (.inr (fun _ => none))))))] := hD
  refine va_putF (D := D) (ci := 0) (v := .ref q1) (ty := (t_X 0)) (C := "DroitLine") (T := F_X) (N := 9) hx hb hts i_X t_X t_X_ok n_X hown hK hP hD hS 0 rfl rfl 0 (by decide) (hts _ q_22) (fun _ h9 => h9) rfl hmname rfl (by decide +kernel) rfl rfl (Nat.le_of_ble_eq_true rfl) dX_init_10 (fun H locs hP hD hS => ?_)
  have hP : va_P D classes [(h0, .inr (0, [.ref q1, .null, .null, .int 0, .int 0, .int 0, .long 0, .long 0, .long 0])), (q1, .inl (tL, 30, .inr (.inr (.inr (.inr (fun _ => none))))))] H := hP
  have hD : va_D A [(h0, .inr (0, [.ref q1, .null, .null, .int 0, .int 0, .int 0, .long 0, .long 0, .long 0])), (q1, .inl (tL, 30, .inr (.inr (.inr (.inr (fun _ => none))))))] := hD
  refine lv_aload_n hx hb dX_init_13 rfl (lv_at hl 0 rfl) ?_
  refine lv_bipush (v := 6) hx hb dX_init_14 (by decide) ?_
  refine va_newa (atype := .int) (ty := .int) (N' := 6) (a0 := (6, .inl fun _ => 0)) hx hb (hts _ q_50) rfl hK hP hD hS hA (fun _ => rfl) (by decide) rfl (by decide) (Nat.le_of_ble_eq_true rfl) (Nat.le_of_ble_eq_true rfl) dX_init_16 (fun q2 cA H hK1 hP hD hS => ?_)
  rw [tyI hK1] at hP hD
  have hP : va_P D classes [(h0, .inr (0, [.ref q1, .null, .null, .int 0, .int 0, .int 0, .long 0, .long 0, .long 0])), (q1, .inl (tL, 30, .inr (.inr (.inr (.inr (fun _ => none)))))), (q2, .inl (tI, 6, .inl (fun _ => 0)))] H := hP
  have hD : va_D A [(h0, .inr (0, [.ref q1, .null, .null, .int 0, .int 0, .int 0, .long 0, .long 0, .long 0])), (q1, .inl (tL, 30, .inr (.inr (.inr (.inr (fun _ => none)))))), (q2, .inl (tI, 6, .inl (fun _ => 0)))] := hD
  refine va_putF (D := D) (ci := 0) (v := .ref q2) (ty := (t_X 1)) (C := "DroitLine") (T := F_X) (N := 9) hx hb hts i_X t_X t_X_ok n_X hown hK hP hD hS 0 rfl rfl 1 (by decide) (hts _ q_23) (fun _ h9 => h9) rfl hmname rfl (by decide +kernel) rfl rfl (Nat.le_of_ble_eq_true rfl) dX_init_18 (fun H locs hP hD hS => ?_)
  have hP : va_P D classes [(h0, .inr (0, [.ref q1, .ref q2, .null, .int 0, .int 0, .int 0, .long 0, .long 0, .long 0])), (q1, .inl (tL, 30, .inr (.inr (.inr (.inr (fun _ => none)))))), (q2, .inl (tI, 6, .inl (fun _ => 0)))] H := hP
  have hD : va_D A [(h0, .inr (0, [.ref q1, .ref q2, .null, .int 0, .int 0, .int 0, .long 0, .long 0, .long 0])), (q1, .inl (tL, 30, .inr (.inr (.inr (.inr (fun _ => none)))))), (q2, .inl (tI, 6, .inl (fun _ => 0)))] := hD
  refine lv_aload_n hx hb dX_init_21 rfl (lv_at hl 0 rfl) ?_
  refine lv_bipush (v := 10) hx hb dX_init_22 (by decide) ?_
  refine va_newa (atype := .int) (ty := .int) (N' := 10) (a0 := (10, .inl fun _ => 0)) hx hb (hts _ q_50) rfl hK hP hD hS hA (fun _ => rfl) (by decide) rfl (by decide) (Nat.le_of_ble_eq_true rfl) (Nat.le_of_ble_eq_true rfl) dX_init_24 (fun q3 cA H hK1 hP hD hS => ?_)
  rw [tyI hK1] at hP hD
  have hP : va_P D classes [(h0, .inr (0, [.ref q1, .ref q2, .null, .int 0, .int 0, .int 0, .long 0, .long 0, .long 0])), (q1, .inl (tL, 30, .inr (.inr (.inr (.inr (fun _ => none)))))), (q2, .inl (tI, 6, .inl (fun _ => 0))), (q3, .inl (tI, 10, .inl (fun _ => 0)))] H := hP
  have hD : va_D A [(h0, .inr (0, [.ref q1, .ref q2, .null, .int 0, .int 0, .int 0, .long 0, .long 0, .long 0])), (q1, .inl (tL, 30, .inr (.inr (.inr (.inr (fun _ => none)))))), (q2, .inl (tI, 6, .inl (fun _ => 0))), (q3, .inl (tI, 10, .inl (fun _ => 0)))] := hD
  refine va_putF (D := D) (ci := 0) (v := .ref q3) (ty := (t_X 2)) (C := "DroitLine") (T := F_X) (N := 9) hx hb hts i_X t_X t_X_ok n_X hown hK hP hD hS 0 rfl rfl 2 (by decide) (hts _ q_24) (fun _ h9 => h9) rfl hmname rfl (by decide +kernel) rfl rfl (Nat.le_of_ble_eq_true rfl) dX_init_26 (fun H locs hP hD hS => ?_)
  have hP : va_P D classes [(h0, .inr (0, [.ref q1, .ref q2, .ref q3, .int 0, .int 0, .int 0, .long 0, .long 0, .long 0])), (q1, .inl (tL, 30, .inr (.inr (.inr (.inr (fun _ => none)))))), (q2, .inl (tI, 6, .inl (fun _ => 0))), (q3, .inl (tI, 10, .inl (fun _ => 0)))] H := hP
  have hD : va_D A [(h0, .inr (0, [.ref q1, .ref q2, .ref q3, .int 0, .int 0, .int 0, .long 0, .long 0, .long 0])), (q1, .inl (tL, 30, .inr (.inr (.inr (.inr (fun _ => none)))))), (q2, .inl (tI, 6, .inl (fun _ => 0))), (q3, .inl (tI, 10, .inl (fun _ => 0)))] := hD
  refine lv_iconst (v := 0) hx hb dX_init_29 (by decide) ?_
  refine lv_istore_n (lv' := [(1, .int 0), (0, .ref h0)]) hx hb dX_init_30 rfl hl (by decide) rfl (fun ls hl => ?_)
  refine lv_iload_n hx hb dX_init_31 rfl (lv_at hl 0 rfl) ?_
  refine lv_aload_n hx hb dX_init_32 rfl (lv_at hl 1 rfl) ?_
  refine va_get (D := D) (ci := 0) (v := .ref q2) (C := "DroitLine") (T := F_X) (N := 9) hx hb hts i_X hown hK hP 0 rfl rfl 1 (by decide) (hts _ q_23) (fun _ h9 => h9) rfl dX_init_33 ?_
  refine va_alen hx hb hK hP 2 0 rfl rfl (v := 6) rfl dX_init_36 ?_
  refine lv_icmp_ge (tgt := 54) hx hb dX_init_37 (by decide) (fun c_1 => ?_) (fun c_1 => ?_)
  · exact absurd c_1 (by decide)
  refine lv_aload_n hx hb dX_init_40 rfl (lv_at hl 1 rfl) ?_
  refine va_get (D := D) (ci := 0) (v := .ref q2) (C := "DroitLine") (T := F_X) (N := 9) hx hb hts i_X hown hK hP 0 rfl rfl 1 (by decide) (hts _ q_23) (fun _ h9 => h9) rfl dX_init_41 ?_
  refine lv_iload_n hx hb dX_init_44 rfl (lv_at hl 0 rfl) ?_
  refine lv_bipush (v := 10) hx hb dX_init_45 (by decide) ?_
  refine va_iast hx hb hK hP hD hS 2 0 rfl rfl (by rw [vp_in_iff]; decide) dX_init_47 (fun H locs hP hD hS => ?_)
  have hP : va_P D classes [(h0, .inr (0, [.ref q1, .ref q2, .ref q3, .int 0, .int 0, .int 0, .long 0, .long 0, .long 0])), (q1, .inl (tL, 30, .inr (.inr (.inr (.inr (fun _ => none)))))), (q2, .inl (tI, 6, .inl (upd (fun _ => 0) 0 10))), (q3, .inl (tI, 10, .inl (fun _ => 0)))] H := hP
  have hD : va_D A [(h0, .inr (0, [.ref q1, .ref q2, .ref q3, .int 0, .int 0, .int 0, .long 0, .long 0, .long 0])), (q1, .inl (tL, 30, .inr (.inr (.inr (.inr (fun _ => none)))))), (q2, .inl (tI, 6, .inl (upd (fun _ => 0) 0 10))), (q3, .inl (tI, 10, .inl (fun _ => 0)))] := hD
  refine lv_iinc (v := 1) (lv' := [(1, .int 1), (0, .ref h0)]) hx hb dX_init_48 hl (k := 0) rfl (by decide) (by decide) rfl (fun ls hl => ?_)
  refine lv_goto (tgt := 31) hx hb dX_init_51 (by decide) ?_
  refine lv_iload_n hx hb dX_init_31 rfl (lv_at hl 0 rfl) ?_
  refine lv_aload_n hx hb dX_init_32 rfl (lv_at hl 1 rfl) ?_
  refine va_get (D := D) (ci := 0) (v := .ref q2) (C := "DroitLine") (T := F_X) (N := 9) hx hb hts i_X hown hK hP 0 rfl rfl 1 (by decide) (hts _ q_23) (fun _ h9 => h9) rfl dX_init_33 ?_
  refine va_alen hx hb hK hP 2 0 rfl rfl (v := 6) rfl dX_init_36 ?_
  refine lv_icmp_ge (tgt := 54) hx hb dX_init_37 (by decide) (fun c_2 => ?_) (fun c_2 => ?_)
  · exact absurd c_2 (by decide)
  refine lv_aload_n hx hb dX_init_40 rfl (lv_at hl 1 rfl) ?_
  refine va_get (D := D) (ci := 0) (v := .ref q2) (C := "DroitLine") (T := F_X) (N := 9) hx hb hts i_X hown hK hP 0 rfl rfl 1 (by decide) (hts _ q_23) (fun _ h9 => h9) rfl dX_init_41 ?_
  refine lv_iload_n hx hb dX_init_44 rfl (lv_at hl 0 rfl) ?_
  refine lv_bipush (v := 10) hx hb dX_init_45 (by decide) ?_
  refine va_iast hx hb hK hP hD hS 2 0 rfl rfl (by rw [vp_in_iff]; decide) dX_init_47 (fun H locs hP hD hS => ?_)
  have hP : va_P D classes [(h0, .inr (0, [.ref q1, .ref q2, .ref q3, .int 0, .int 0, .int 0, .long 0, .long 0, .long 0])), (q1, .inl (tL, 30, .inr (.inr (.inr (.inr (fun _ => none)))))), (q2, .inl (tI, 6, .inl (upd (upd (fun _ => 0) 0 10) 1 10))), (q3, .inl (tI, 10, .inl (fun _ => 0)))] H := hP
  have hD : va_D A [(h0, .inr (0, [.ref q1, .ref q2, .ref q3, .int 0, .int 0, .int 0, .long 0, .long 0, .long 0])), (q1, .inl (tL, 30, .inr (.inr (.inr (.inr (fun _ => none)))))), (q2, .inl (tI, 6, .inl (upd (upd (fun _ => 0) 0 10) 1 10))), (q3, .inl (tI, 10, .inl (fun _ => 0)))] := hD
  refine lv_iinc (v := 2) (lv' := [(1, .int 2), (0, .ref h0)]) hx hb dX_init_48 hl (k := 0) rfl (by decide) (by decide) rfl (fun ls hl => ?_)
  refine lv_goto (tgt := 31) hx hb dX_init_51 (by decide) ?_
  refine lv_iload_n hx hb dX_init_31 rfl (lv_at hl 0 rfl) ?_
  refine lv_aload_n hx hb dX_init_32 rfl (lv_at hl 1 rfl) ?_
  refine va_get (D := D) (ci := 0) (v := .ref q2) (C := "DroitLine") (T := F_X) (N := 9) hx hb hts i_X hown hK hP 0 rfl rfl 1 (by decide) (hts _ q_23) (fun _ h9 => h9) rfl dX_init_33 ?_
  refine va_alen hx hb hK hP 2 0 rfl rfl (v := 6) rfl dX_init_36 ?_
  refine lv_icmp_ge (tgt := 54) hx hb dX_init_37 (by decide) (fun c_3 => ?_) (fun c_3 => ?_)
  · exact absurd c_3 (by decide)
  refine lv_aload_n hx hb dX_init_40 rfl (lv_at hl 1 rfl) ?_
  refine va_get (D := D) (ci := 0) (v := .ref q2) (C := "DroitLine") (T := F_X) (N := 9) hx hb hts i_X hown hK hP 0 rfl rfl 1 (by decide) (hts _ q_23) (fun _ h9 => h9) rfl dX_init_41 ?_
  refine lv_iload_n hx hb dX_init_44 rfl (lv_at hl 0 rfl) ?_
  refine lv_bipush (v := 10) hx hb dX_init_45 (by decide) ?_
  refine va_iast hx hb hK hP hD hS 2 0 rfl rfl (by rw [vp_in_iff]; decide) dX_init_47 (fun H locs hP hD hS => ?_)
  have hP : va_P D classes [(h0, .inr (0, [.ref q1, .ref q2, .ref q3, .int 0, .int 0, .int 0, .long 0, .long 0, .long 0])), (q1, .inl (tL, 30, .inr (.inr (.inr (.inr (fun _ => none)))))), (q2, .inl (tI, 6, .inl (upd (upd (upd (fun _ => 0) 0 10) 1 10) 2 10))), (q3, .inl (tI, 10, .inl (fun _ => 0)))] H := hP
  have hD : va_D A [(h0, .inr (0, [.ref q1, .ref q2, .ref q3, .int 0, .int 0, .int 0, .long 0, .long 0, .long 0])), (q1, .inl (tL, 30, .inr (.inr (.inr (.inr (fun _ => none)))))), (q2, .inl (tI, 6, .inl (upd (upd (upd (fun _ => 0) 0 10) 1 10) 2 10))), (q3, .inl (tI, 10, .inl (fun _ => 0)))] := hD
  refine lv_iinc (v := 3) (lv' := [(1, .int 3), (0, .ref h0)]) hx hb dX_init_48 hl (k := 0) rfl (by decide) (by decide) rfl (fun ls hl => ?_)
  refine lv_goto (tgt := 31) hx hb dX_init_51 (by decide) ?_
  refine lv_iload_n hx hb dX_init_31 rfl (lv_at hl 0 rfl) ?_
  refine lv_aload_n hx hb dX_init_32 rfl (lv_at hl 1 rfl) ?_
  refine va_get (D := D) (ci := 0) (v := .ref q2) (C := "DroitLine") (T := F_X) (N := 9) hx hb hts i_X hown hK hP 0 rfl rfl 1 (by decide) (hts _ q_23) (fun _ h9 => h9) rfl dX_init_33 ?_
  refine va_alen hx hb hK hP 2 0 rfl rfl (v := 6) rfl dX_init_36 ?_
  refine lv_icmp_ge (tgt := 54) hx hb dX_init_37 (by decide) (fun c_4 => ?_) (fun c_4 => ?_)
  · exact absurd c_4 (by decide)
  refine lv_aload_n hx hb dX_init_40 rfl (lv_at hl 1 rfl) ?_
  refine va_get (D := D) (ci := 0) (v := .ref q2) (C := "DroitLine") (T := F_X) (N := 9) hx hb hts i_X hown hK hP 0 rfl rfl 1 (by decide) (hts _ q_23) (fun _ h9 => h9) rfl dX_init_41 ?_
  refine lv_iload_n hx hb dX_init_44 rfl (lv_at hl 0 rfl) ?_
  refine lv_bipush (v := 10) hx hb dX_init_45 (by decide) ?_
  refine va_iast hx hb hK hP hD hS 2 0 rfl rfl (by rw [vp_in_iff]; decide) dX_init_47 (fun H locs hP hD hS => ?_)
  have hP : va_P D classes [(h0, .inr (0, [.ref q1, .ref q2, .ref q3, .int 0, .int 0, .int 0, .long 0, .long 0, .long 0])), (q1, .inl (tL, 30, .inr (.inr (.inr (.inr (fun _ => none)))))), (q2, .inl (tI, 6, .inl (upd (upd (upd (upd (fun _ => 0) 0 10) 1 10) 2 10) 3 10))), (q3, .inl (tI, 10, .inl (fun _ => 0)))] H := hP
  have hD : va_D A [(h0, .inr (0, [.ref q1, .ref q2, .ref q3, .int 0, .int 0, .int 0, .long 0, .long 0, .long 0])), (q1, .inl (tL, 30, .inr (.inr (.inr (.inr (fun _ => none)))))), (q2, .inl (tI, 6, .inl (upd (upd (upd (upd (fun _ => 0) 0 10) 1 10) 2 10) 3 10))), (q3, .inl (tI, 10, .inl (fun _ => 0)))] := hD
  refine lv_iinc (v := 4) (lv' := [(1, .int 4), (0, .ref h0)]) hx hb dX_init_48 hl (k := 0) rfl (by decide) (by decide) rfl (fun ls hl => ?_)
  refine lv_goto (tgt := 31) hx hb dX_init_51 (by decide) ?_
  refine lv_iload_n hx hb dX_init_31 rfl (lv_at hl 0 rfl) ?_
  refine lv_aload_n hx hb dX_init_32 rfl (lv_at hl 1 rfl) ?_
  refine va_get (D := D) (ci := 0) (v := .ref q2) (C := "DroitLine") (T := F_X) (N := 9) hx hb hts i_X hown hK hP 0 rfl rfl 1 (by decide) (hts _ q_23) (fun _ h9 => h9) rfl dX_init_33 ?_
  refine va_alen hx hb hK hP 2 0 rfl rfl (v := 6) rfl dX_init_36 ?_
  refine lv_icmp_ge (tgt := 54) hx hb dX_init_37 (by decide) (fun c_5 => ?_) (fun c_5 => ?_)
  · exact absurd c_5 (by decide)
  refine lv_aload_n hx hb dX_init_40 rfl (lv_at hl 1 rfl) ?_
  refine va_get (D := D) (ci := 0) (v := .ref q2) (C := "DroitLine") (T := F_X) (N := 9) hx hb hts i_X hown hK hP 0 rfl rfl 1 (by decide) (hts _ q_23) (fun _ h9 => h9) rfl dX_init_41 ?_
  refine lv_iload_n hx hb dX_init_44 rfl (lv_at hl 0 rfl) ?_
  refine lv_bipush (v := 10) hx hb dX_init_45 (by decide) ?_
  refine va_iast hx hb hK hP hD hS 2 0 rfl rfl (by rw [vp_in_iff]; decide) dX_init_47 (fun H locs hP hD hS => ?_)
  have hP : va_P D classes [(h0, .inr (0, [.ref q1, .ref q2, .ref q3, .int 0, .int 0, .int 0, .long 0, .long 0, .long 0])), (q1, .inl (tL, 30, .inr (.inr (.inr (.inr (fun _ => none)))))), (q2, .inl (tI, 6, .inl (upd (upd (upd (upd (upd (fun _ => 0) 0 10) 1 10) 2 10) 3 10) 4 10))), (q3, .inl (tI, 10, .inl (fun _ => 0)))] H := hP
  have hD : va_D A [(h0, .inr (0, [.ref q1, .ref q2, .ref q3, .int 0, .int 0, .int 0, .long 0, .long 0, .long 0])), (q1, .inl (tL, 30, .inr (.inr (.inr (.inr (fun _ => none)))))), (q2, .inl (tI, 6, .inl (upd (upd (upd (upd (upd (fun _ => 0) 0 10) 1 10) 2 10) 3 10) 4 10))), (q3, .inl (tI, 10, .inl (fun _ => 0)))] := hD
  refine lv_iinc (v := 5) (lv' := [(1, .int 5), (0, .ref h0)]) hx hb dX_init_48 hl (k := 0) rfl (by decide) (by decide) rfl (fun ls hl => ?_)
  refine lv_goto (tgt := 31) hx hb dX_init_51 (by decide) ?_
  refine lv_iload_n hx hb dX_init_31 rfl (lv_at hl 0 rfl) ?_
  refine lv_aload_n hx hb dX_init_32 rfl (lv_at hl 1 rfl) ?_
  refine va_get (D := D) (ci := 0) (v := .ref q2) (C := "DroitLine") (T := F_X) (N := 9) hx hb hts i_X hown hK hP 0 rfl rfl 1 (by decide) (hts _ q_23) (fun _ h9 => h9) rfl dX_init_33 ?_
  refine va_alen hx hb hK hP 2 0 rfl rfl (v := 6) rfl dX_init_36 ?_
  refine lv_icmp_ge (tgt := 54) hx hb dX_init_37 (by decide) (fun c_6 => ?_) (fun c_6 => ?_)
  · exact absurd c_6 (by decide)
  refine lv_aload_n hx hb dX_init_40 rfl (lv_at hl 1 rfl) ?_
  refine va_get (D := D) (ci := 0) (v := .ref q2) (C := "DroitLine") (T := F_X) (N := 9) hx hb hts i_X hown hK hP 0 rfl rfl 1 (by decide) (hts _ q_23) (fun _ h9 => h9) rfl dX_init_41 ?_
  refine lv_iload_n hx hb dX_init_44 rfl (lv_at hl 0 rfl) ?_
  refine lv_bipush (v := 10) hx hb dX_init_45 (by decide) ?_
  refine va_iast hx hb hK hP hD hS 2 0 rfl rfl (by rw [vp_in_iff]; decide) dX_init_47 (fun H locs hP hD hS => ?_)
  have hP : va_P D classes [(h0, .inr (0, [.ref q1, .ref q2, .ref q3, .int 0, .int 0, .int 0, .long 0, .long 0, .long 0])), (q1, .inl (tL, 30, .inr (.inr (.inr (.inr (fun _ => none)))))), (q2, .inl (tI, 6, .inl (upd (upd (upd (upd (upd (upd (fun _ => 0) 0 10) 1 10) 2 10) 3 10) 4 10) 5 10))), (q3, .inl (tI, 10, .inl (fun _ => 0)))] H := hP
  have hD : va_D A [(h0, .inr (0, [.ref q1, .ref q2, .ref q3, .int 0, .int 0, .int 0, .long 0, .long 0, .long 0])), (q1, .inl (tL, 30, .inr (.inr (.inr (.inr (fun _ => none)))))), (q2, .inl (tI, 6, .inl (upd (upd (upd (upd (upd (upd (fun _ => 0) 0 10) 1 10) 2 10) 3 10) 4 10) 5 10))), (q3, .inl (tI, 10, .inl (fun _ => 0)))] := hD
  refine lv_iinc (v := 6) (lv' := [(1, .int 6), (0, .ref h0)]) hx hb dX_init_48 hl (k := 0) rfl (by decide) (by decide) rfl (fun ls hl => ?_)
  refine lv_goto (tgt := 31) hx hb dX_init_51 (by decide) ?_
  refine lv_iload_n hx hb dX_init_31 rfl (lv_at hl 0 rfl) ?_
  refine lv_aload_n hx hb dX_init_32 rfl (lv_at hl 1 rfl) ?_
  refine va_get (D := D) (ci := 0) (v := .ref q2) (C := "DroitLine") (T := F_X) (N := 9) hx hb hts i_X hown hK hP 0 rfl rfl 1 (by decide) (hts _ q_23) (fun _ h9 => h9) rfl dX_init_33 ?_
  refine va_alen hx hb hK hP 2 0 rfl rfl (v := 6) rfl dX_init_36 ?_
  refine lv_icmp_ge (tgt := 54) hx hb dX_init_37 (by decide) (fun c_7 => ?_) (fun c_7 => ?_)
  rotate_left
  · exact absurd c_7 (by decide)
  refine lv_aload_n hx hb dX_init_54 rfl (lv_at hl 1 rfl) ?_
  refine lv_bipush (v := 20) hx hb dX_init_55 (by decide) ?_
  refine va_put (D := D) (ci := 0) (v := .int 20) (ty := (t_X 5)) (C := "DroitLine") (T := F_X) (N := 9) hx hb hts i_X t_X t_X_ok n_X hown hK hP hD hS 0 rfl rfl 5 (by decide) (hts _ q_27) (fun _ h9 => h9) rfl (by decide +kernel) rfl rfl (Nat.le_of_ble_eq_true rfl) dX_init_57 (fun H locs hP hD hS => ?_)
  have hP : va_P D classes [(h0, .inr (0, [.ref q1, .ref q2, .ref q3, .int 0, .int 0, .int 20, .long 0, .long 0, .long 0])), (q1, .inl (tL, 30, .inr (.inr (.inr (.inr (fun _ => none)))))), (q2, .inl (tI, 6, .inl (upd (upd (upd (upd (upd (upd (fun _ => 0) 0 10) 1 10) 2 10) 3 10) 4 10) 5 10))), (q3, .inl (tI, 10, .inl (fun _ => 0)))] H := hP
  have hD : va_D A [(h0, .inr (0, [.ref q1, .ref q2, .ref q3, .int 0, .int 0, .int 20, .long 0, .long 0, .long 0])), (q1, .inl (tL, 30, .inr (.inr (.inr (.inr (fun _ => none)))))), (q2, .inl (tI, 6, .inl (upd (upd (upd (upd (upd (upd (fun _ => 0) 0 10) 1 10) 2 10) 3 10) 4 10) 5 10))), (q3, .inl (tI, 10, .inl (fun _ => 0)))] := hD
  exact W.vret hx hb hr (fun t ht hW => ⟨⟨(), rfl, trivial, q1, q2, q3, by rw [ht]; exact hP, hD⟩, hS.F ht⟩) hS.2.2 dX_init_60
theorem hdyM_init : yM_init.cls ≠ "java/lang/invoke/MethodHandle" ∧ yM_init.cls ≠ "java/lang/invoke/VarHandle" ∧ (parseMethodDescriptor yM_init.desc).map (fun d => d.parameters.length) = some 0 := by decide +kernel
theorem dM_init_0 : decode bM_init 0 = .ok (.aload_n 0, 1) := by decide +kernel
theorem dM_init_1 : decode bM_init 1 = .ok (.invokespecial 1, 3) := by decide +kernel
theorem dM_init_4 : decode bM_init 4 = .ok (.aload_n 0, 1) := by decide +kernel
theorem dM_init_5 : decode bM_init 5 = .ok (.bipush 30, 2) := by decide +kernel
theorem dM_init_7 : decode bM_init 7 = .ok (.newarray .int, 2) := by decide +kernel
theorem dM_init_9 : decode bM_init 9 = .ok (.putfield 7, 3) := by decide +kernel
theorem dM_init_12 : decode bM_init 12 = .ok (.aload_n 0, 1) := by decide +kernel
theorem dM_init_13 : decode bM_init 13 = .ok (.bipush 30, 2) := by decide +kernel
theorem dM_init_15 : decode bM_init 15 = .ok (.newarray .int, 2) := by decide +kernel
theorem dM_init_17 : decode bM_init 17 = .ok (.putfield 13, 3) := by decide +kernel
theorem dM_init_20 : decode bM_init 20 = .ok (.aload_n 0, 1) := by decide +kernel
theorem dM_init_21 : decode bM_init 21 = .ok (.bipush 30, 2) := by decide +kernel
theorem dM_init_23 : decode bM_init 23 = .ok (.newarray .int, 2) := by decide +kernel
theorem dM_init_25 : decode bM_init 25 = .ok (.putfield 16, 3) := by decide +kernel
theorem dM_init_28 : decode bM_init 28 = .ok (.aload_n 0, 1) := by decide +kernel
theorem dM_init_29 : decode bM_init 29 = .ok (.bipush 30, 2) := by decide +kernel
theorem dM_init_31 : decode bM_init 31 = .ok (.newarray .int, 2) := by decide +kernel
theorem dM_init_33 : decode bM_init 33 = .ok (.putfield 19, 3) := by decide +kernel
theorem dM_init_36 : decode bM_init 36 = .ok (.aload_n 0, 1) := by decide +kernel
theorem dM_init_37 : decode bM_init 37 = .ok (.bipush 30, 2) := by decide +kernel
theorem dM_init_39 : decode bM_init 39 = .ok (.newarray .int, 2) := by decide +kernel
theorem dM_init_41 : decode bM_init 41 = .ok (.putfield 22, 3) := by decide +kernel
theorem dM_init_44 : decode bM_init 44 = .ok (.aload_n 0, 1) := by decide +kernel
theorem dM_init_45 : decode bM_init 45 = .ok (.bipush 30, 2) := by decide +kernel
theorem dM_init_47 : decode bM_init 47 = .ok (.newarray .int, 2) := by decide +kernel
theorem dM_init_49 : decode bM_init 49 = .ok (.putfield 25, 3) := by decide +kernel
theorem dM_init_52 : decode bM_init 52 = .ok (.aload_n 0, 1) := by decide +kernel
theorem dM_init_53 : decode bM_init 53 = .ok (.bipush 30, 2) := by decide +kernel
theorem dM_init_55 : decode bM_init 55 = .ok (.newarray .int, 2) := by decide +kernel
theorem dM_init_57 : decode bM_init 57 = .ok (.putfield 28, 3) := by decide +kernel
theorem dM_init_60 : decode bM_init 60 = .ok (.aload_n 0, 1) := by decide +kernel
theorem dM_init_61 : decode bM_init 61 = .ok (.sipush 300, 3) := by decide +kernel
theorem dM_init_64 : decode bM_init 64 = .ok (.newarray .int, 2) := by decide +kernel
theorem dM_init_66 : decode bM_init 66 = .ok (.putfield 31, 3) := by decide +kernel
theorem dM_init_69 : decode bM_init 69 = .ok (.aload_n 0, 1) := by decide +kernel
theorem dM_init_70 : decode bM_init 70 = .ok (.sipush 300, 3) := by decide +kernel
theorem dM_init_73 : decode bM_init 73 = .ok (.newarray .int, 2) := by decide +kernel
theorem dM_init_75 : decode bM_init 75 = .ok (.putfield 34, 3) := by decide +kernel
theorem dM_init_78 : decode bM_init 78 = .ok (.aload_n 0, 1) := by decide +kernel
theorem dM_init_79 : decode bM_init 79 = .ok (.bipush 30, 2) := by decide +kernel
theorem dM_init_81 : decode bM_init 81 = .ok (.newarray .int, 2) := by decide +kernel
theorem dM_init_83 : decode bM_init 83 = .ok (.putfield 37, 3) := by decide +kernel
theorem dM_init_86 : decode bM_init 86 = .ok (.aload_n 0, 1) := by decide +kernel
theorem dM_init_87 : decode bM_init 87 = .ok (.bipush 30, 2) := by decide +kernel
theorem dM_init_89 : decode bM_init 89 = .ok (.newarray .int, 2) := by decide +kernel
theorem dM_init_91 : decode bM_init 91 = .ok (.putfield 40, 3) := by decide +kernel
theorem dM_init_94 : decode bM_init 94 = .ok (.aload_n 0, 1) := by decide +kernel
theorem dM_init_95 : decode bM_init 95 = .ok (.bipush 30, 2) := by decide +kernel
theorem dM_init_97 : decode bM_init 97 = .ok (.newarray .int, 2) := by decide +kernel
theorem dM_init_99 : decode bM_init 99 = .ok (.putfield 43, 3) := by decide +kernel
theorem dM_init_102 : decode bM_init 102 = .ok (.aload_n 0, 1) := by decide +kernel
theorem dM_init_103 : decode bM_init 103 = .ok (.bipush 30, 2) := by decide +kernel
theorem dM_init_105 : decode bM_init 105 = .ok (.newarray .int, 2) := by decide +kernel
theorem dM_init_107 : decode bM_init 107 = .ok (.putfield 46, 3) := by decide +kernel
theorem dM_init_110 : decode bM_init 110 = .ok (.aload_n 0, 1) := by decide +kernel
theorem dM_init_111 : decode bM_init 111 = .ok (.bipush 30, 2) := by decide +kernel
theorem dM_init_113 : decode bM_init 113 = .ok (.newarray .int, 2) := by decide +kernel
theorem dM_init_115 : decode bM_init 115 = .ok (.putfield 49, 3) := by decide +kernel
theorem dM_init_118 : decode bM_init 118 = .ok (.aload_n 0, 1) := by decide +kernel
theorem dM_init_119 : decode bM_init 119 = .ok (.bipush 10, 2) := by decide +kernel
theorem dM_init_121 : decode bM_init 121 = .ok (.newarray .int, 2) := by decide +kernel
theorem dM_init_123 : decode bM_init 123 = .ok (.putfield 52, 3) := by decide +kernel
theorem dM_init_126 : decode bM_init 126 = .ok (.aload_n 0, 1) := by decide +kernel
theorem dM_init_127 : decode bM_init 127 = .ok (.bipush 6, 2) := by decide +kernel
theorem dM_init_129 : decode bM_init 129 = .ok (.newarray .int, 2) := by decide +kernel
theorem dM_init_131 : decode bM_init 131 = .ok (.putfield 55, 3) := by decide +kernel
theorem dM_init_134 : decode bM_init 134 = .ok (.iconst 0, 1) := by decide +kernel
theorem dM_init_135 : decode bM_init 135 = .ok (.istore_n 1, 1) := by decide +kernel
theorem dM_init_136 : decode bM_init 136 = .ok (.iload_n 1, 1) := by decide +kernel
theorem dM_init_137 : decode bM_init 137 = .ok (.bipush 6, 2) := by decide +kernel
theorem dM_init_139 : decode bM_init 139 = .ok (.if_icmp .ge 17, 3) := by decide +kernel
theorem dM_init_142 : decode bM_init 142 = .ok (.aload_n 0, 1) := by decide +kernel
theorem dM_init_143 : decode bM_init 143 = .ok (.getfield 55, 3) := by decide +kernel
theorem dM_init_146 : decode bM_init 146 = .ok (.iload_n 1, 1) := by decide +kernel
theorem dM_init_147 : decode bM_init 147 = .ok (.bipush 10, 2) := by decide +kernel
theorem dM_init_149 : decode bM_init 149 = .ok (.iastore, 1) := by decide +kernel
theorem dM_init_150 : decode bM_init 150 = .ok (.iinc 1 1, 3) := by decide +kernel
theorem dM_init_153 : decode bM_init 153 = .ok (.goto (-17), 3) := by decide +kernel
theorem dM_init_156 : decode bM_init 156 = .ok (.aload_n 0, 1) := by decide +kernel
theorem dM_init_157 : decode bM_init 157 = .ok (.bipush 20, 2) := by decide +kernel
theorem dM_init_159 : decode bM_init 159 = .ok (.putfield 58, 3) := by decide +kernel
theorem dM_init_162 : decode bM_init 162 = .ok (.return_, 1) := by decide +kernel
set_option maxHeartbeats 4000000 in
set_option maxRecDepth 100000 in
theorem cM_init (l : Launch) (D : va_G) (tI tJ tL : ClassId) (h0 sz : Nat) : Met l yM_init (Cond.code yM_init bM_init 2 none :: wNeed) { frames := 1, cells := 16, slots := 976, locals := 20 } (va_Pc [.ref h0] (CP D tI tJ tL [(h0, .inr (3, [.int 0, .null, .null, .null, .null, .null, .null, .null, .null, .null, .int 0, .null, .null, .null, .null, .null, .null, .null, .int 0, .int 0, .long 0, .long 0, .long 0, .int 0]))] sz false)) (va_Qv (fun _ : Unit => True) (fun _ t => ∃ q1 q2 q3 q4 q5 q6 q7 q8 q9 q10 q11 q12 q13 q14 q15 q16 : Nat, va_P D classes [(h0, .inr (3, [.int 0, .ref q1, .ref q2, .ref q3, .ref q4, .ref q5, .ref q6, .ref q7, .ref q8, .ref q9, .int 0, .ref q10, .ref q11, .ref q12, .ref q13, .ref q14, .ref q15, .ref q16, .int 20, .int 0, .long 0, .long 0, .long 0, .int 0])), (q1, .inl (tI, 30, .inl (fun _ => 0))), (q2, .inl (tI, 30, .inl (fun _ => 0))), (q3, .inl (tI, 30, .inl (fun _ => 0))), (q4, .inl (tI, 30, .inl (fun _ => 0))), (q5, .inl (tI, 30, .inl (fun _ => 0))), (q6, .inl (tI, 30, .inl (fun _ => 0))), (q7, .inl (tI, 30, .inl (fun _ => 0))), (q8, .inl (tI, 300, .inl (fun _ => 0))), (q9, .inl (tI, 300, .inl (fun _ => 0))), (q10, .inl (tI, 30, .inl (fun _ => 0))), (q11, .inl (tI, 30, .inl (fun _ => 0))), (q12, .inl (tI, 30, .inl (fun _ => 0))), (q13, .inl (tI, 30, .inl (fun _ => 0))), (q14, .inl (tI, 30, .inl (fun _ => 0))), (q15, .inl (tI, 10, .inl (fun _ => 0))), (q16, .inl (tI, 6, .inl (upd (upd (upd (upd (upd (upd (fun _ => 0) 0 10) 1 10) 2 10) 3 10) 4 10) 5 10)))] t.heap ∧ va_D (va_A [(h0, .inr (3, [.int 0, .null, .null, .null, .null, .null, .null, .null, .null, .null, .int 0, .null, .null, .null, .null, .null, .null, .null, .int 0, .int 0, .long 0, .long 0, .long 0, .int 0]))] sz) [(h0, .inr (3, [.int 0, .ref q1, .ref q2, .ref q3, .ref q4, .ref q5, .ref q6, .ref q7, .ref q8, .ref q9, .int 0, .ref q10, .ref q11, .ref q12, .ref q13, .ref q14, .ref q15, .ref q16, .int 20, .int 0, .long 0, .long 0, .long 0, .int 0])), (q1, .inl (tI, 30, .inl (fun _ => 0))), (q2, .inl (tI, 30, .inl (fun _ => 0))), (q3, .inl (tI, 30, .inl (fun _ => 0))), (q4, .inl (tI, 30, .inl (fun _ => 0))), (q5, .inl (tI, 30, .inl (fun _ => 0))), (q6, .inl (tI, 30, .inl (fun _ => 0))), (q7, .inl (tI, 30, .inl (fun _ => 0))), (q8, .inl (tI, 300, .inl (fun _ => 0))), (q9, .inl (tI, 300, .inl (fun _ => 0))), (q10, .inl (tI, 30, .inl (fun _ => 0))), (q11, .inl (tI, 30, .inl (fun _ => 0))), (q12, .inl (tI, 30, .inl (fun _ => 0))), (q13, .inl (tI, 30, .inl (fun _ => 0))), (q14, .inl (tI, 30, .inl (fun _ => 0))), (q15, .inl (tI, 10, .inl (fun _ => 0))), (q16, .inl (tI, 6, .inl (upd (upd (upd (upd (upd (upd (fun _ => 0) 0 10) 1 10) 2 10) 3 10) 4 10) 5 10)))]) (va_A [(h0, .inr (3, [.int 0, .null, .null, .null, .null, .null, .null, .null, .null, .null, .int 0, .null, .null, .null, .null, .null, .null, .null, .int 0, .int 0, .long 0, .long 0, .long 0, .int 0]))] sz)) 16 976 (va_A [(h0, .inr (3, [.int 0, .null, .null, .null, .null, .null, .null, .null, .null, .null, .int 0, .null, .null, .null, .null, .null, .null, .null, .int 0, .int 0, .long 0, .long 0, .long 0, .int 0]))] sz) := by
  refine en_M (av := [.ref h0]) (by decide) (Nat.le_of_ble_eq_true rfl) ?_
  intro p e s m below meth c hx hb hml hown hts hr hlocks hmname hP0 ls hl
  obtain ⟨hsz, hP, hK, hD0, hZ, hAO⟩ := hP0
  subst hsz
  have hD := hD0.self (sz := s.heap.size)
  generalize hAe : va_A [(h0, .inr (3, [.int 0, .null, .null, .null, .null, .null, .null, .null, .null, .null, .int 0, .null, .null, .null, .null, .null, .null, .null, .int 0, .int 0, .long 0, .long 0, .long 0, .int 0]))] s.heap.size = A at hD ⊢
  have hA : ∀ q : Nat, s.heap.size ≤ q → A q := fun q h => by rw [← hAe]; exact Or.inr h
  have hS : va_S A s.heap s.heap [] := va_S.rf
  replace hl : lv_has ls 2 [(0, .ref h0)] := hl
  refine lv_aload_n hx hb dM_init_0 rfl (lv_at hl 0 rfl) ?_
  refine W.objInit hx hb hown (hts _ q_509) (hts _ q_18) (hts _ q_19) rfl (by rw [hml]; exact hl.1) rfl dM_init_1 (Nat.le_of_ble_eq_true rfl) (Nat.le_of_ble_eq_true rfl) ?_
  refine W.eq (g2 := F0 m 4 ls []) rfl ?_
  refine lv_aload_n hx hb dM_init_4 rfl (lv_at hl 0 rfl) ?_
  refine lv_bipush (v := 30) hx hb dM_init_5 (by decide) ?_
  refine va_newa (atype := .int) (ty := .int) (N' := 30) (a0 := (30, .inl fun _ => 0)) hx hb (hts _ q_50) rfl hK hP hD hS hA (fun _ => rfl) (by decide) rfl (by decide) (Nat.le_of_ble_eq_true rfl) (Nat.le_of_ble_eq_true rfl) dM_init_7 (fun q1 cA H hK1 hP hD hS => ?_)
  rw [tyI hK1] at hP hD
  have hP : va_P D classes [(h0, .inr (3, [.int 0, .null, .null, .null, .null, .null, .null, .null, .null, .null, .int 0, .null, .null, .null, .null, .null, .null, .null, .int 0, .int 0, .long 0, .long 0, .long 0, .int 0])), (q1, .inl (tI, 30, .inl (fun _ => 0)))] H := hP
  have hD : va_D A [(h0, .inr (3, [.int 0, .null, .null, .null, .null, .null, .null, .null, .null, .null, .int 0, .null, .null, .null, .null, .null, .null, .null, .int 0, .int 0, .long 0, .long 0, .long 0, .int 0])), (q1, .inl (tI, 30, .inl (fun _ => 0)))] := hD
  refine va_putF (D := D) (ci := 3) (v := .ref q1) (ty := (t_M 1)) (C := "DroitLineModel") (T := F_M) (N := 24) hx hb hts i_M t_M t_M_ok n_M hown hK hP hD hS 0 rfl rfl 1 (by decide) (hts _ q_511) (fun _ h9 => h9) rfl hmname rfl (by decide +kernel) rfl rfl (Nat.le_of_ble_eq_true rfl) dM_init_9 (fun H locs hP hD hS => ?_)
  have hP : va_P D classes [(h0, .inr (3, [.int 0, .ref q1, .null, .null, .null, .null, .null, .null, .null, .null, .int 0, .null, .null, .null, .null, .null, .null, .null, .int 0, .int 0, .long 0, .long 0, .long 0, .int 0])), (q1, .inl (tI, 30, .inl (fun _ => 0)))] H := hP
  have hD : va_D A [(h0, .inr (3, [.int 0, .ref q1, .null, .null, .null, .null, .null, .null, .null, .null, .int 0, .null, .null, .null, .null, .null, .null, .null, .int 0, .int 0, .long 0, .long 0, .long 0, .int 0])), (q1, .inl (tI, 30, .inl (fun _ => 0)))] := hD
  refine lv_aload_n hx hb dM_init_12 rfl (lv_at hl 0 rfl) ?_
  refine lv_bipush (v := 30) hx hb dM_init_13 (by decide) ?_
  refine va_newa (atype := .int) (ty := .int) (N' := 30) (a0 := (30, .inl fun _ => 0)) hx hb (hts _ q_50) rfl hK hP hD hS hA (fun _ => rfl) (by decide) rfl (by decide) (Nat.le_of_ble_eq_true rfl) (Nat.le_of_ble_eq_true rfl) dM_init_15 (fun q2 cA H hK1 hP hD hS => ?_)
  rw [tyI hK1] at hP hD
  have hP : va_P D classes [(h0, .inr (3, [.int 0, .ref q1, .null, .null, .null, .null, .null, .null, .null, .null, .int 0, .null, .null, .null, .null, .null, .null, .null, .int 0, .int 0, .long 0, .long 0, .long 0, .int 0])), (q1, .inl (tI, 30, .inl (fun _ => 0))), (q2, .inl (tI, 30, .inl (fun _ => 0)))] H := hP
  have hD : va_D A [(h0, .inr (3, [.int 0, .ref q1, .null, .null, .null, .null, .null, .null, .null, .null, .int 0, .null, .null, .null, .null, .null, .null, .null, .int 0, .int 0, .long 0, .long 0, .long 0, .int 0])), (q1, .inl (tI, 30, .inl (fun _ => 0))), (q2, .inl (tI, 30, .inl (fun _ => 0)))] := hD
  refine va_putF (D := D) (ci := 3) (v := .ref q2) (ty := (t_M 2)) (C := "DroitLineModel") (T := F_M) (N := 24) hx hb hts i_M t_M t_M_ok n_M hown hK hP hD hS 0 rfl rfl 2 (by decide) (hts _ q_512) (fun _ h9 => h9) rfl hmname rfl (by decide +kernel) rfl rfl (Nat.le_of_ble_eq_true rfl) dM_init_17 (fun H locs hP hD hS => ?_)
  have hP : va_P D classes [(h0, .inr (3, [.int 0, .ref q1, .ref q2, .null, .null, .null, .null, .null, .null, .null, .int 0, .null, .null, .null, .null, .null, .null, .null, .int 0, .int 0, .long 0, .long 0, .long 0, .int 0])), (q1, .inl (tI, 30, .inl (fun _ => 0))), (q2, .inl (tI, 30, .inl (fun _ => 0)))] H := hP
  have hD : va_D A [(h0, .inr (3, [.int 0, .ref q1, .ref q2, .null, .null, .null, .null, .null, .null, .null, .int 0, .null, .null, .null, .null, .null, .null, .null, .int 0, .int 0, .long 0, .long 0, .long 0, .int 0])), (q1, .inl (tI, 30, .inl (fun _ => 0))), (q2, .inl (tI, 30, .inl (fun _ => 0)))] := hD
  refine lv_aload_n hx hb dM_init_20 rfl (lv_at hl 0 rfl) ?_
  refine lv_bipush (v := 30) hx hb dM_init_21 (by decide) ?_
  refine va_newa (atype := .int) (ty := .int) (N' := 30) (a0 := (30, .inl fun _ => 0)) hx hb (hts _ q_50) rfl hK hP hD hS hA (fun _ => rfl) (by decide) rfl (by decide) (Nat.le_of_ble_eq_true rfl) (Nat.le_of_ble_eq_true rfl) dM_init_23 (fun q3 cA H hK1 hP hD hS => ?_)
  rw [tyI hK1] at hP hD
  have hP : va_P D classes [(h0, .inr (3, [.int 0, .ref q1, .ref q2, .null, .null, .null, .null, .null, .null, .null, .int 0, .null, .null, .null, .null, .null, .null, .null, .int 0, .int 0, .long 0, .long 0, .long 0, .int 0])), (q1, .inl (tI, 30, .inl (fun _ => 0))), (q2, .inl (tI, 30, .inl (fun _ => 0))), (q3, .inl (tI, 30, .inl (fun _ => 0)))] H := hP
  have hD : va_D A [(h0, .inr (3, [.int 0, .ref q1, .ref q2, .null, .null, .null, .null, .null, .null, .null, .int 0, .null, .null, .null, .null, .null, .null, .null, .int 0, .int 0, .long 0, .long 0, .long 0, .int 0])), (q1, .inl (tI, 30, .inl (fun _ => 0))), (q2, .inl (tI, 30, .inl (fun _ => 0))), (q3, .inl (tI, 30, .inl (fun _ => 0)))] := hD
  refine va_putF (D := D) (ci := 3) (v := .ref q3) (ty := (t_M 3)) (C := "DroitLineModel") (T := F_M) (N := 24) hx hb hts i_M t_M t_M_ok n_M hown hK hP hD hS 0 rfl rfl 3 (by decide) (hts _ q_513) (fun _ h9 => h9) rfl hmname rfl (by decide +kernel) rfl rfl (Nat.le_of_ble_eq_true rfl) dM_init_25 (fun H locs hP hD hS => ?_)
  have hP : va_P D classes [(h0, .inr (3, [.int 0, .ref q1, .ref q2, .ref q3, .null, .null, .null, .null, .null, .null, .int 0, .null, .null, .null, .null, .null, .null, .null, .int 0, .int 0, .long 0, .long 0, .long 0, .int 0])), (q1, .inl (tI, 30, .inl (fun _ => 0))), (q2, .inl (tI, 30, .inl (fun _ => 0))), (q3, .inl (tI, 30, .inl (fun _ => 0)))] H := hP
  have hD : va_D A [(h0, .inr (3, [.int 0, .ref q1, .ref q2, .ref q3, .null, .null, .null, .null, .null, .null, .int 0, .null, .null, .null, .null, .null, .null, .null, .int 0, .int 0, .long 0, .long 0, .long 0, .int 0])), (q1, .inl (tI, 30, .inl (fun _ => 0))), (q2, .inl (tI, 30, .inl (fun _ => 0))), (q3, .inl (tI, 30, .inl (fun _ => 0)))] := hD
  refine lv_aload_n hx hb dM_init_28 rfl (lv_at hl 0 rfl) ?_
  refine lv_bipush (v := 30) hx hb dM_init_29 (by decide) ?_
  refine va_newa (atype := .int) (ty := .int) (N' := 30) (a0 := (30, .inl fun _ => 0)) hx hb (hts _ q_50) rfl hK hP hD hS hA (fun _ => rfl) (by decide) rfl (by decide) (Nat.le_of_ble_eq_true rfl) (Nat.le_of_ble_eq_true rfl) dM_init_31 (fun q4 cA H hK1 hP hD hS => ?_)
  rw [tyI hK1] at hP hD
  have hP : va_P D classes [(h0, .inr (3, [.int 0, .ref q1, .ref q2, .ref q3, .null, .null, .null, .null, .null, .null, .int 0, .null, .null, .null, .null, .null, .null, .null, .int 0, .int 0, .long 0, .long 0, .long 0, .int 0])), (q1, .inl (tI, 30, .inl (fun _ => 0))), (q2, .inl (tI, 30, .inl (fun _ => 0))), (q3, .inl (tI, 30, .inl (fun _ => 0))), (q4, .inl (tI, 30, .inl (fun _ => 0)))] H := hP
  have hD : va_D A [(h0, .inr (3, [.int 0, .ref q1, .ref q2, .ref q3, .null, .null, .null, .null, .null, .null, .int 0, .null, .null, .null, .null, .null, .null, .null, .int 0, .int 0, .long 0, .long 0, .long 0, .int 0])), (q1, .inl (tI, 30, .inl (fun _ => 0))), (q2, .inl (tI, 30, .inl (fun _ => 0))), (q3, .inl (tI, 30, .inl (fun _ => 0))), (q4, .inl (tI, 30, .inl (fun _ => 0)))] := hD
  refine va_putF (D := D) (ci := 3) (v := .ref q4) (ty := (t_M 4)) (C := "DroitLineModel") (T := F_M) (N := 24) hx hb hts i_M t_M t_M_ok n_M hown hK hP hD hS 0 rfl rfl 4 (by decide) (hts _ q_514) (fun _ h9 => h9) rfl hmname rfl (by decide +kernel) rfl rfl (Nat.le_of_ble_eq_true rfl) dM_init_33 (fun H locs hP hD hS => ?_)
  have hP : va_P D classes [(h0, .inr (3, [.int 0, .ref q1, .ref q2, .ref q3, .ref q4, .null, .null, .null, .null, .null, .int 0, .null, .null, .null, .null, .null, .null, .null, .int 0, .int 0, .long 0, .long 0, .long 0, .int 0])), (q1, .inl (tI, 30, .inl (fun _ => 0))), (q2, .inl (tI, 30, .inl (fun _ => 0))), (q3, .inl (tI, 30, .inl (fun _ => 0))), (q4, .inl (tI, 30, .inl (fun _ => 0)))] H := hP
  have hD : va_D A [(h0, .inr (3, [.int 0, .ref q1, .ref q2, .ref q3, .ref q4, .null, .null, .null, .null, .null, .int 0, .null, .null, .null, .null, .null, .null, .null, .int 0, .int 0, .long 0, .long 0, .long 0, .int 0])), (q1, .inl (tI, 30, .inl (fun _ => 0))), (q2, .inl (tI, 30, .inl (fun _ => 0))), (q3, .inl (tI, 30, .inl (fun _ => 0))), (q4, .inl (tI, 30, .inl (fun _ => 0)))] := hD
  refine lv_aload_n hx hb dM_init_36 rfl (lv_at hl 0 rfl) ?_
  refine lv_bipush (v := 30) hx hb dM_init_37 (by decide) ?_
  refine va_newa (atype := .int) (ty := .int) (N' := 30) (a0 := (30, .inl fun _ => 0)) hx hb (hts _ q_50) rfl hK hP hD hS hA (fun _ => rfl) (by decide) rfl (by decide) (Nat.le_of_ble_eq_true rfl) (Nat.le_of_ble_eq_true rfl) dM_init_39 (fun q5 cA H hK1 hP hD hS => ?_)
  rw [tyI hK1] at hP hD
  have hP : va_P D classes [(h0, .inr (3, [.int 0, .ref q1, .ref q2, .ref q3, .ref q4, .null, .null, .null, .null, .null, .int 0, .null, .null, .null, .null, .null, .null, .null, .int 0, .int 0, .long 0, .long 0, .long 0, .int 0])), (q1, .inl (tI, 30, .inl (fun _ => 0))), (q2, .inl (tI, 30, .inl (fun _ => 0))), (q3, .inl (tI, 30, .inl (fun _ => 0))), (q4, .inl (tI, 30, .inl (fun _ => 0))), (q5, .inl (tI, 30, .inl (fun _ => 0)))] H := hP
  have hD : va_D A [(h0, .inr (3, [.int 0, .ref q1, .ref q2, .ref q3, .ref q4, .null, .null, .null, .null, .null, .int 0, .null, .null, .null, .null, .null, .null, .null, .int 0, .int 0, .long 0, .long 0, .long 0, .int 0])), (q1, .inl (tI, 30, .inl (fun _ => 0))), (q2, .inl (tI, 30, .inl (fun _ => 0))), (q3, .inl (tI, 30, .inl (fun _ => 0))), (q4, .inl (tI, 30, .inl (fun _ => 0))), (q5, .inl (tI, 30, .inl (fun _ => 0)))] := hD
  refine va_putF (D := D) (ci := 3) (v := .ref q5) (ty := (t_M 5)) (C := "DroitLineModel") (T := F_M) (N := 24) hx hb hts i_M t_M t_M_ok n_M hown hK hP hD hS 0 rfl rfl 5 (by decide) (hts _ q_515) (fun _ h9 => h9) rfl hmname rfl (by decide +kernel) rfl rfl (Nat.le_of_ble_eq_true rfl) dM_init_41 (fun H locs hP hD hS => ?_)
  have hP : va_P D classes [(h0, .inr (3, [.int 0, .ref q1, .ref q2, .ref q3, .ref q4, .ref q5, .null, .null, .null, .null, .int 0, .null, .null, .null, .null, .null, .null, .null, .int 0, .int 0, .long 0, .long 0, .long 0, .int 0])), (q1, .inl (tI, 30, .inl (fun _ => 0))), (q2, .inl (tI, 30, .inl (fun _ => 0))), (q3, .inl (tI, 30, .inl (fun _ => 0))), (q4, .inl (tI, 30, .inl (fun _ => 0))), (q5, .inl (tI, 30, .inl (fun _ => 0)))] H := hP
  have hD : va_D A [(h0, .inr (3, [.int 0, .ref q1, .ref q2, .ref q3, .ref q4, .ref q5, .null, .null, .null, .null, .int 0, .null, .null, .null, .null, .null, .null, .null, .int 0, .int 0, .long 0, .long 0, .long 0, .int 0])), (q1, .inl (tI, 30, .inl (fun _ => 0))), (q2, .inl (tI, 30, .inl (fun _ => 0))), (q3, .inl (tI, 30, .inl (fun _ => 0))), (q4, .inl (tI, 30, .inl (fun _ => 0))), (q5, .inl (tI, 30, .inl (fun _ => 0)))] := hD
  refine lv_aload_n hx hb dM_init_44 rfl (lv_at hl 0 rfl) ?_
  refine lv_bipush (v := 30) hx hb dM_init_45 (by decide) ?_
  refine va_newa (atype := .int) (ty := .int) (N' := 30) (a0 := (30, .inl fun _ => 0)) hx hb (hts _ q_50) rfl hK hP hD hS hA (fun _ => rfl) (by decide) rfl (by decide) (Nat.le_of_ble_eq_true rfl) (Nat.le_of_ble_eq_true rfl) dM_init_47 (fun q6 cA H hK1 hP hD hS => ?_)
  rw [tyI hK1] at hP hD
  have hP : va_P D classes [(h0, .inr (3, [.int 0, .ref q1, .ref q2, .ref q3, .ref q4, .ref q5, .null, .null, .null, .null, .int 0, .null, .null, .null, .null, .null, .null, .null, .int 0, .int 0, .long 0, .long 0, .long 0, .int 0])), (q1, .inl (tI, 30, .inl (fun _ => 0))), (q2, .inl (tI, 30, .inl (fun _ => 0))), (q3, .inl (tI, 30, .inl (fun _ => 0))), (q4, .inl (tI, 30, .inl (fun _ => 0))), (q5, .inl (tI, 30, .inl (fun _ => 0))), (q6, .inl (tI, 30, .inl (fun _ => 0)))] H := hP
  have hD : va_D A [(h0, .inr (3, [.int 0, .ref q1, .ref q2, .ref q3, .ref q4, .ref q5, .null, .null, .null, .null, .int 0, .null, .null, .null, .null, .null, .null, .null, .int 0, .int 0, .long 0, .long 0, .long 0, .int 0])), (q1, .inl (tI, 30, .inl (fun _ => 0))), (q2, .inl (tI, 30, .inl (fun _ => 0))), (q3, .inl (tI, 30, .inl (fun _ => 0))), (q4, .inl (tI, 30, .inl (fun _ => 0))), (q5, .inl (tI, 30, .inl (fun _ => 0))), (q6, .inl (tI, 30, .inl (fun _ => 0)))] := hD
  refine va_putF (D := D) (ci := 3) (v := .ref q6) (ty := (t_M 6)) (C := "DroitLineModel") (T := F_M) (N := 24) hx hb hts i_M t_M t_M_ok n_M hown hK hP hD hS 0 rfl rfl 6 (by decide) (hts _ q_516) (fun _ h9 => h9) rfl hmname rfl (by decide +kernel) rfl rfl (Nat.le_of_ble_eq_true rfl) dM_init_49 (fun H locs hP hD hS => ?_)
  have hP : va_P D classes [(h0, .inr (3, [.int 0, .ref q1, .ref q2, .ref q3, .ref q4, .ref q5, .ref q6, .null, .null, .null, .int 0, .null, .null, .null, .null, .null, .null, .null, .int 0, .int 0, .long 0, .long 0, .long 0, .int 0])), (q1, .inl (tI, 30, .inl (fun _ => 0))), (q2, .inl (tI, 30, .inl (fun _ => 0))), (q3, .inl (tI, 30, .inl (fun _ => 0))), (q4, .inl (tI, 30, .inl (fun _ => 0))), (q5, .inl (tI, 30, .inl (fun _ => 0))), (q6, .inl (tI, 30, .inl (fun _ => 0)))] H := hP
  have hD : va_D A [(h0, .inr (3, [.int 0, .ref q1, .ref q2, .ref q3, .ref q4, .ref q5, .ref q6, .null, .null, .null, .int 0, .null, .null, .null, .null, .null, .null, .null, .int 0, .int 0, .long 0, .long 0, .long 0, .int 0])), (q1, .inl (tI, 30, .inl (fun _ => 0))), (q2, .inl (tI, 30, .inl (fun _ => 0))), (q3, .inl (tI, 30, .inl (fun _ => 0))), (q4, .inl (tI, 30, .inl (fun _ => 0))), (q5, .inl (tI, 30, .inl (fun _ => 0))), (q6, .inl (tI, 30, .inl (fun _ => 0)))] := hD
  refine lv_aload_n hx hb dM_init_52 rfl (lv_at hl 0 rfl) ?_
  refine lv_bipush (v := 30) hx hb dM_init_53 (by decide) ?_
  refine va_newa (atype := .int) (ty := .int) (N' := 30) (a0 := (30, .inl fun _ => 0)) hx hb (hts _ q_50) rfl hK hP hD hS hA (fun _ => rfl) (by decide) rfl (by decide) (Nat.le_of_ble_eq_true rfl) (Nat.le_of_ble_eq_true rfl) dM_init_55 (fun q7 cA H hK1 hP hD hS => ?_)
  rw [tyI hK1] at hP hD
  have hP : va_P D classes [(h0, .inr (3, [.int 0, .ref q1, .ref q2, .ref q3, .ref q4, .ref q5, .ref q6, .null, .null, .null, .int 0, .null, .null, .null, .null, .null, .null, .null, .int 0, .int 0, .long 0, .long 0, .long 0, .int 0])), (q1, .inl (tI, 30, .inl (fun _ => 0))), (q2, .inl (tI, 30, .inl (fun _ => 0))), (q3, .inl (tI, 30, .inl (fun _ => 0))), (q4, .inl (tI, 30, .inl (fun _ => 0))), (q5, .inl (tI, 30, .inl (fun _ => 0))), (q6, .inl (tI, 30, .inl (fun _ => 0))), (q7, .inl (tI, 30, .inl (fun _ => 0)))] H := hP
  have hD : va_D A [(h0, .inr (3, [.int 0, .ref q1, .ref q2, .ref q3, .ref q4, .ref q5, .ref q6, .null, .null, .null, .int 0, .null, .null, .null, .null, .null, .null, .null, .int 0, .int 0, .long 0, .long 0, .long 0, .int 0])), (q1, .inl (tI, 30, .inl (fun _ => 0))), (q2, .inl (tI, 30, .inl (fun _ => 0))), (q3, .inl (tI, 30, .inl (fun _ => 0))), (q4, .inl (tI, 30, .inl (fun _ => 0))), (q5, .inl (tI, 30, .inl (fun _ => 0))), (q6, .inl (tI, 30, .inl (fun _ => 0))), (q7, .inl (tI, 30, .inl (fun _ => 0)))] := hD
  refine va_putF (D := D) (ci := 3) (v := .ref q7) (ty := (t_M 7)) (C := "DroitLineModel") (T := F_M) (N := 24) hx hb hts i_M t_M t_M_ok n_M hown hK hP hD hS 0 rfl rfl 7 (by decide) (hts _ q_517) (fun _ h9 => h9) rfl hmname rfl (by decide +kernel) rfl rfl (Nat.le_of_ble_eq_true rfl) dM_init_57 (fun H locs hP hD hS => ?_)
  have hP : va_P D classes [(h0, .inr (3, [.int 0, .ref q1, .ref q2, .ref q3, .ref q4, .ref q5, .ref q6, .ref q7, .null, .null, .int 0, .null, .null, .null, .null, .null, .null, .null, .int 0, .int 0, .long 0, .long 0, .long 0, .int 0])), (q1, .inl (tI, 30, .inl (fun _ => 0))), (q2, .inl (tI, 30, .inl (fun _ => 0))), (q3, .inl (tI, 30, .inl (fun _ => 0))), (q4, .inl (tI, 30, .inl (fun _ => 0))), (q5, .inl (tI, 30, .inl (fun _ => 0))), (q6, .inl (tI, 30, .inl (fun _ => 0))), (q7, .inl (tI, 30, .inl (fun _ => 0)))] H := hP
  have hD : va_D A [(h0, .inr (3, [.int 0, .ref q1, .ref q2, .ref q3, .ref q4, .ref q5, .ref q6, .ref q7, .null, .null, .int 0, .null, .null, .null, .null, .null, .null, .null, .int 0, .int 0, .long 0, .long 0, .long 0, .int 0])), (q1, .inl (tI, 30, .inl (fun _ => 0))), (q2, .inl (tI, 30, .inl (fun _ => 0))), (q3, .inl (tI, 30, .inl (fun _ => 0))), (q4, .inl (tI, 30, .inl (fun _ => 0))), (q5, .inl (tI, 30, .inl (fun _ => 0))), (q6, .inl (tI, 30, .inl (fun _ => 0))), (q7, .inl (tI, 30, .inl (fun _ => 0)))] := hD
  refine lv_aload_n hx hb dM_init_60 rfl (lv_at hl 0 rfl) ?_
  refine lv_sipush (v := 300) hx hb dM_init_61 (by decide) ?_
  refine va_newa (atype := .int) (ty := .int) (N' := 300) (a0 := (300, .inl fun _ => 0)) hx hb (hts _ q_50) rfl hK hP hD hS hA (fun _ => rfl) (by decide) rfl (by decide) (Nat.le_of_ble_eq_true rfl) (Nat.le_of_ble_eq_true rfl) dM_init_64 (fun q8 cA H hK1 hP hD hS => ?_)
  rw [tyI hK1] at hP hD
  have hP : va_P D classes [(h0, .inr (3, [.int 0, .ref q1, .ref q2, .ref q3, .ref q4, .ref q5, .ref q6, .ref q7, .null, .null, .int 0, .null, .null, .null, .null, .null, .null, .null, .int 0, .int 0, .long 0, .long 0, .long 0, .int 0])), (q1, .inl (tI, 30, .inl (fun _ => 0))), (q2, .inl (tI, 30, .inl (fun _ => 0))), (q3, .inl (tI, 30, .inl (fun _ => 0))), (q4, .inl (tI, 30, .inl (fun _ => 0))), (q5, .inl (tI, 30, .inl (fun _ => 0))), (q6, .inl (tI, 30, .inl (fun _ => 0))), (q7, .inl (tI, 30, .inl (fun _ => 0))), (q8, .inl (tI, 300, .inl (fun _ => 0)))] H := hP
  have hD : va_D A [(h0, .inr (3, [.int 0, .ref q1, .ref q2, .ref q3, .ref q4, .ref q5, .ref q6, .ref q7, .null, .null, .int 0, .null, .null, .null, .null, .null, .null, .null, .int 0, .int 0, .long 0, .long 0, .long 0, .int 0])), (q1, .inl (tI, 30, .inl (fun _ => 0))), (q2, .inl (tI, 30, .inl (fun _ => 0))), (q3, .inl (tI, 30, .inl (fun _ => 0))), (q4, .inl (tI, 30, .inl (fun _ => 0))), (q5, .inl (tI, 30, .inl (fun _ => 0))), (q6, .inl (tI, 30, .inl (fun _ => 0))), (q7, .inl (tI, 30, .inl (fun _ => 0))), (q8, .inl (tI, 300, .inl (fun _ => 0)))] := hD
  refine va_putF (D := D) (ci := 3) (v := .ref q8) (ty := (t_M 8)) (C := "DroitLineModel") (T := F_M) (N := 24) hx hb hts i_M t_M t_M_ok n_M hown hK hP hD hS 0 rfl rfl 8 (by decide) (hts _ q_518) (fun _ h9 => h9) rfl hmname rfl (by decide +kernel) rfl rfl (Nat.le_of_ble_eq_true rfl) dM_init_66 (fun H locs hP hD hS => ?_)
  have hP : va_P D classes [(h0, .inr (3, [.int 0, .ref q1, .ref q2, .ref q3, .ref q4, .ref q5, .ref q6, .ref q7, .ref q8, .null, .int 0, .null, .null, .null, .null, .null, .null, .null, .int 0, .int 0, .long 0, .long 0, .long 0, .int 0])), (q1, .inl (tI, 30, .inl (fun _ => 0))), (q2, .inl (tI, 30, .inl (fun _ => 0))), (q3, .inl (tI, 30, .inl (fun _ => 0))), (q4, .inl (tI, 30, .inl (fun _ => 0))), (q5, .inl (tI, 30, .inl (fun _ => 0))), (q6, .inl (tI, 30, .inl (fun _ => 0))), (q7, .inl (tI, 30, .inl (fun _ => 0))), (q8, .inl (tI, 300, .inl (fun _ => 0)))] H := hP
  have hD : va_D A [(h0, .inr (3, [.int 0, .ref q1, .ref q2, .ref q3, .ref q4, .ref q5, .ref q6, .ref q7, .ref q8, .null, .int 0, .null, .null, .null, .null, .null, .null, .null, .int 0, .int 0, .long 0, .long 0, .long 0, .int 0])), (q1, .inl (tI, 30, .inl (fun _ => 0))), (q2, .inl (tI, 30, .inl (fun _ => 0))), (q3, .inl (tI, 30, .inl (fun _ => 0))), (q4, .inl (tI, 30, .inl (fun _ => 0))), (q5, .inl (tI, 30, .inl (fun _ => 0))), (q6, .inl (tI, 30, .inl (fun _ => 0))), (q7, .inl (tI, 30, .inl (fun _ => 0))), (q8, .inl (tI, 300, .inl (fun _ => 0)))] := hD
  refine lv_aload_n hx hb dM_init_69 rfl (lv_at hl 0 rfl) ?_
  refine lv_sipush (v := 300) hx hb dM_init_70 (by decide) ?_
  refine va_newa (atype := .int) (ty := .int) (N' := 300) (a0 := (300, .inl fun _ => 0)) hx hb (hts _ q_50) rfl hK hP hD hS hA (fun _ => rfl) (by decide) rfl (by decide) (Nat.le_of_ble_eq_true rfl) (Nat.le_of_ble_eq_true rfl) dM_init_73 (fun q9 cA H hK1 hP hD hS => ?_)
  rw [tyI hK1] at hP hD
  have hP : va_P D classes [(h0, .inr (3, [.int 0, .ref q1, .ref q2, .ref q3, .ref q4, .ref q5, .ref q6, .ref q7, .ref q8, .null, .int 0, .null, .null, .null, .null, .null, .null, .null, .int 0, .int 0, .long 0, .long 0, .long 0, .int 0])), (q1, .inl (tI, 30, .inl (fun _ => 0))), (q2, .inl (tI, 30, .inl (fun _ => 0))), (q3, .inl (tI, 30, .inl (fun _ => 0))), (q4, .inl (tI, 30, .inl (fun _ => 0))), (q5, .inl (tI, 30, .inl (fun _ => 0))), (q6, .inl (tI, 30, .inl (fun _ => 0))), (q7, .inl (tI, 30, .inl (fun _ => 0))), (q8, .inl (tI, 300, .inl (fun _ => 0))), (q9, .inl (tI, 300, .inl (fun _ => 0)))] H := hP
  have hD : va_D A [(h0, .inr (3, [.int 0, .ref q1, .ref q2, .ref q3, .ref q4, .ref q5, .ref q6, .ref q7, .ref q8, .null, .int 0, .null, .null, .null, .null, .null, .null, .null, .int 0, .int 0, .long 0, .long 0, .long 0, .int 0])), (q1, .inl (tI, 30, .inl (fun _ => 0))), (q2, .inl (tI, 30, .inl (fun _ => 0))), (q3, .inl (tI, 30, .inl (fun _ => 0))), (q4, .inl (tI, 30, .inl (fun _ => 0))), (q5, .inl (tI, 30, .inl (fun _ => 0))), (q6, .inl (tI, 30, .inl (fun _ => 0))), (q7, .inl (tI, 30, .inl (fun _ => 0))), (q8, .inl (tI, 300, .inl (fun _ => 0))), (q9, .inl (tI, 300, .inl (fun _ => 0)))] := hD
  refine va_putF (D := D) (ci := 3) (v := .ref q9) (ty := (t_M 9)) (C := "DroitLineModel") (T := F_M) (N := 24) hx hb hts i_M t_M t_M_ok n_M hown hK hP hD hS 0 rfl rfl 9 (by decide) (hts _ q_519) (fun _ h9 => h9) rfl hmname rfl (by decide +kernel) rfl rfl (Nat.le_of_ble_eq_true rfl) dM_init_75 (fun H locs hP hD hS => ?_)
  have hP : va_P D classes [(h0, .inr (3, [.int 0, .ref q1, .ref q2, .ref q3, .ref q4, .ref q5, .ref q6, .ref q7, .ref q8, .ref q9, .int 0, .null, .null, .null, .null, .null, .null, .null, .int 0, .int 0, .long 0, .long 0, .long 0, .int 0])), (q1, .inl (tI, 30, .inl (fun _ => 0))), (q2, .inl (tI, 30, .inl (fun _ => 0))), (q3, .inl (tI, 30, .inl (fun _ => 0))), (q4, .inl (tI, 30, .inl (fun _ => 0))), (q5, .inl (tI, 30, .inl (fun _ => 0))), (q6, .inl (tI, 30, .inl (fun _ => 0))), (q7, .inl (tI, 30, .inl (fun _ => 0))), (q8, .inl (tI, 300, .inl (fun _ => 0))), (q9, .inl (tI, 300, .inl (fun _ => 0)))] H := hP
  have hD : va_D A [(h0, .inr (3, [.int 0, .ref q1, .ref q2, .ref q3, .ref q4, .ref q5, .ref q6, .ref q7, .ref q8, .ref q9, .int 0, .null, .null, .null, .null, .null, .null, .null, .int 0, .int 0, .long 0, .long 0, .long 0, .int 0])), (q1, .inl (tI, 30, .inl (fun _ => 0))), (q2, .inl (tI, 30, .inl (fun _ => 0))), (q3, .inl (tI, 30, .inl (fun _ => 0))), (q4, .inl (tI, 30, .inl (fun _ => 0))), (q5, .inl (tI, 30, .inl (fun _ => 0))), (q6, .inl (tI, 30, .inl (fun _ => 0))), (q7, .inl (tI, 30, .inl (fun _ => 0))), (q8, .inl (tI, 300, .inl (fun _ => 0))), (q9, .inl (tI, 300, .inl (fun _ => 0)))] := hD
  refine lv_aload_n hx hb dM_init_78 rfl (lv_at hl 0 rfl) ?_
  refine lv_bipush (v := 30) hx hb dM_init_79 (by decide) ?_
  refine va_newa (atype := .int) (ty := .int) (N' := 30) (a0 := (30, .inl fun _ => 0)) hx hb (hts _ q_50) rfl hK hP hD hS hA (fun _ => rfl) (by decide) rfl (by decide) (Nat.le_of_ble_eq_true rfl) (Nat.le_of_ble_eq_true rfl) dM_init_81 (fun q10 cA H hK1 hP hD hS => ?_)
  rw [tyI hK1] at hP hD
  have hP : va_P D classes [(h0, .inr (3, [.int 0, .ref q1, .ref q2, .ref q3, .ref q4, .ref q5, .ref q6, .ref q7, .ref q8, .ref q9, .int 0, .null, .null, .null, .null, .null, .null, .null, .int 0, .int 0, .long 0, .long 0, .long 0, .int 0])), (q1, .inl (tI, 30, .inl (fun _ => 0))), (q2, .inl (tI, 30, .inl (fun _ => 0))), (q3, .inl (tI, 30, .inl (fun _ => 0))), (q4, .inl (tI, 30, .inl (fun _ => 0))), (q5, .inl (tI, 30, .inl (fun _ => 0))), (q6, .inl (tI, 30, .inl (fun _ => 0))), (q7, .inl (tI, 30, .inl (fun _ => 0))), (q8, .inl (tI, 300, .inl (fun _ => 0))), (q9, .inl (tI, 300, .inl (fun _ => 0))), (q10, .inl (tI, 30, .inl (fun _ => 0)))] H := hP
  have hD : va_D A [(h0, .inr (3, [.int 0, .ref q1, .ref q2, .ref q3, .ref q4, .ref q5, .ref q6, .ref q7, .ref q8, .ref q9, .int 0, .null, .null, .null, .null, .null, .null, .null, .int 0, .int 0, .long 0, .long 0, .long 0, .int 0])), (q1, .inl (tI, 30, .inl (fun _ => 0))), (q2, .inl (tI, 30, .inl (fun _ => 0))), (q3, .inl (tI, 30, .inl (fun _ => 0))), (q4, .inl (tI, 30, .inl (fun _ => 0))), (q5, .inl (tI, 30, .inl (fun _ => 0))), (q6, .inl (tI, 30, .inl (fun _ => 0))), (q7, .inl (tI, 30, .inl (fun _ => 0))), (q8, .inl (tI, 300, .inl (fun _ => 0))), (q9, .inl (tI, 300, .inl (fun _ => 0))), (q10, .inl (tI, 30, .inl (fun _ => 0)))] := hD
  refine va_putF (D := D) (ci := 3) (v := .ref q10) (ty := (t_M 11)) (C := "DroitLineModel") (T := F_M) (N := 24) hx hb hts i_M t_M t_M_ok n_M hown hK hP hD hS 0 rfl rfl 11 (by decide) (hts _ q_521) (fun _ h9 => h9) rfl hmname rfl (by decide +kernel) rfl rfl (Nat.le_of_ble_eq_true rfl) dM_init_83 (fun H locs hP hD hS => ?_)
  have hP : va_P D classes [(h0, .inr (3, [.int 0, .ref q1, .ref q2, .ref q3, .ref q4, .ref q5, .ref q6, .ref q7, .ref q8, .ref q9, .int 0, .ref q10, .null, .null, .null, .null, .null, .null, .int 0, .int 0, .long 0, .long 0, .long 0, .int 0])), (q1, .inl (tI, 30, .inl (fun _ => 0))), (q2, .inl (tI, 30, .inl (fun _ => 0))), (q3, .inl (tI, 30, .inl (fun _ => 0))), (q4, .inl (tI, 30, .inl (fun _ => 0))), (q5, .inl (tI, 30, .inl (fun _ => 0))), (q6, .inl (tI, 30, .inl (fun _ => 0))), (q7, .inl (tI, 30, .inl (fun _ => 0))), (q8, .inl (tI, 300, .inl (fun _ => 0))), (q9, .inl (tI, 300, .inl (fun _ => 0))), (q10, .inl (tI, 30, .inl (fun _ => 0)))] H := hP
  have hD : va_D A [(h0, .inr (3, [.int 0, .ref q1, .ref q2, .ref q3, .ref q4, .ref q5, .ref q6, .ref q7, .ref q8, .ref q9, .int 0, .ref q10, .null, .null, .null, .null, .null, .null, .int 0, .int 0, .long 0, .long 0, .long 0, .int 0])), (q1, .inl (tI, 30, .inl (fun _ => 0))), (q2, .inl (tI, 30, .inl (fun _ => 0))), (q3, .inl (tI, 30, .inl (fun _ => 0))), (q4, .inl (tI, 30, .inl (fun _ => 0))), (q5, .inl (tI, 30, .inl (fun _ => 0))), (q6, .inl (tI, 30, .inl (fun _ => 0))), (q7, .inl (tI, 30, .inl (fun _ => 0))), (q8, .inl (tI, 300, .inl (fun _ => 0))), (q9, .inl (tI, 300, .inl (fun _ => 0))), (q10, .inl (tI, 30, .inl (fun _ => 0)))] := hD
  refine lv_aload_n hx hb dM_init_86 rfl (lv_at hl 0 rfl) ?_
  refine lv_bipush (v := 30) hx hb dM_init_87 (by decide) ?_
  refine va_newa (atype := .int) (ty := .int) (N' := 30) (a0 := (30, .inl fun _ => 0)) hx hb (hts _ q_50) rfl hK hP hD hS hA (fun _ => rfl) (by decide) rfl (by decide) (Nat.le_of_ble_eq_true rfl) (Nat.le_of_ble_eq_true rfl) dM_init_89 (fun q11 cA H hK1 hP hD hS => ?_)
  rw [tyI hK1] at hP hD
  have hP : va_P D classes [(h0, .inr (3, [.int 0, .ref q1, .ref q2, .ref q3, .ref q4, .ref q5, .ref q6, .ref q7, .ref q8, .ref q9, .int 0, .ref q10, .null, .null, .null, .null, .null, .null, .int 0, .int 0, .long 0, .long 0, .long 0, .int 0])), (q1, .inl (tI, 30, .inl (fun _ => 0))), (q2, .inl (tI, 30, .inl (fun _ => 0))), (q3, .inl (tI, 30, .inl (fun _ => 0))), (q4, .inl (tI, 30, .inl (fun _ => 0))), (q5, .inl (tI, 30, .inl (fun _ => 0))), (q6, .inl (tI, 30, .inl (fun _ => 0))), (q7, .inl (tI, 30, .inl (fun _ => 0))), (q8, .inl (tI, 300, .inl (fun _ => 0))), (q9, .inl (tI, 300, .inl (fun _ => 0))), (q10, .inl (tI, 30, .inl (fun _ => 0))), (q11, .inl (tI, 30, .inl (fun _ => 0)))] H := hP
  have hD : va_D A [(h0, .inr (3, [.int 0, .ref q1, .ref q2, .ref q3, .ref q4, .ref q5, .ref q6, .ref q7, .ref q8, .ref q9, .int 0, .ref q10, .null, .null, .null, .null, .null, .null, .int 0, .int 0, .long 0, .long 0, .long 0, .int 0])), (q1, .inl (tI, 30, .inl (fun _ => 0))), (q2, .inl (tI, 30, .inl (fun _ => 0))), (q3, .inl (tI, 30, .inl (fun _ => 0))), (q4, .inl (tI, 30, .inl (fun _ => 0))), (q5, .inl (tI, 30, .inl (fun _ => 0))), (q6, .inl (tI, 30, .inl (fun _ => 0))), (q7, .inl (tI, 30, .inl (fun _ => 0))), (q8, .inl (tI, 300, .inl (fun _ => 0))), (q9, .inl (tI, 300, .inl (fun _ => 0))), (q10, .inl (tI, 30, .inl (fun _ => 0))), (q11, .inl (tI, 30, .inl (fun _ => 0)))] := hD
  refine va_putF (D := D) (ci := 3) (v := .ref q11) (ty := (t_M 12)) (C := "DroitLineModel") (T := F_M) (N := 24) hx hb hts i_M t_M t_M_ok n_M hown hK hP hD hS 0 rfl rfl 12 (by decide) (hts _ q_522) (fun _ h9 => h9) rfl hmname rfl (by decide +kernel) rfl rfl (Nat.le_of_ble_eq_true rfl) dM_init_91 (fun H locs hP hD hS => ?_)
  have hP : va_P D classes [(h0, .inr (3, [.int 0, .ref q1, .ref q2, .ref q3, .ref q4, .ref q5, .ref q6, .ref q7, .ref q8, .ref q9, .int 0, .ref q10, .ref q11, .null, .null, .null, .null, .null, .int 0, .int 0, .long 0, .long 0, .long 0, .int 0])), (q1, .inl (tI, 30, .inl (fun _ => 0))), (q2, .inl (tI, 30, .inl (fun _ => 0))), (q3, .inl (tI, 30, .inl (fun _ => 0))), (q4, .inl (tI, 30, .inl (fun _ => 0))), (q5, .inl (tI, 30, .inl (fun _ => 0))), (q6, .inl (tI, 30, .inl (fun _ => 0))), (q7, .inl (tI, 30, .inl (fun _ => 0))), (q8, .inl (tI, 300, .inl (fun _ => 0))), (q9, .inl (tI, 300, .inl (fun _ => 0))), (q10, .inl (tI, 30, .inl (fun _ => 0))), (q11, .inl (tI, 30, .inl (fun _ => 0)))] H := hP
  have hD : va_D A [(h0, .inr (3, [.int 0, .ref q1, .ref q2, .ref q3, .ref q4, .ref q5, .ref q6, .ref q7, .ref q8, .ref q9, .int 0, .ref q10, .ref q11, .null, .null, .null, .null, .null, .int 0, .int 0, .long 0, .long 0, .long 0, .int 0])), (q1, .inl (tI, 30, .inl (fun _ => 0))), (q2, .inl (tI, 30, .inl (fun _ => 0))), (q3, .inl (tI, 30, .inl (fun _ => 0))), (q4, .inl (tI, 30, .inl (fun _ => 0))), (q5, .inl (tI, 30, .inl (fun _ => 0))), (q6, .inl (tI, 30, .inl (fun _ => 0))), (q7, .inl (tI, 30, .inl (fun _ => 0))), (q8, .inl (tI, 300, .inl (fun _ => 0))), (q9, .inl (tI, 300, .inl (fun _ => 0))), (q10, .inl (tI, 30, .inl (fun _ => 0))), (q11, .inl (tI, 30, .inl (fun _ => 0)))] := hD
  refine lv_aload_n hx hb dM_init_94 rfl (lv_at hl 0 rfl) ?_
  refine lv_bipush (v := 30) hx hb dM_init_95 (by decide) ?_
  refine va_newa (atype := .int) (ty := .int) (N' := 30) (a0 := (30, .inl fun _ => 0)) hx hb (hts _ q_50) rfl hK hP hD hS hA (fun _ => rfl) (by decide) rfl (by decide) (Nat.le_of_ble_eq_true rfl) (Nat.le_of_ble_eq_true rfl) dM_init_97 (fun q12 cA H hK1 hP hD hS => ?_)
  rw [tyI hK1] at hP hD
  have hP : va_P D classes [(h0, .inr (3, [.int 0, .ref q1, .ref q2, .ref q3, .ref q4, .ref q5, .ref q6, .ref q7, .ref q8, .ref q9, .int 0, .ref q10, .ref q11, .null, .null, .null, .null, .null, .int 0, .int 0, .long 0, .long 0, .long 0, .int 0])), (q1, .inl (tI, 30, .inl (fun _ => 0))), (q2, .inl (tI, 30, .inl (fun _ => 0))), (q3, .inl (tI, 30, .inl (fun _ => 0))), (q4, .inl (tI, 30, .inl (fun _ => 0))), (q5, .inl (tI, 30, .inl (fun _ => 0))), (q6, .inl (tI, 30, .inl (fun _ => 0))), (q7, .inl (tI, 30, .inl (fun _ => 0))), (q8, .inl (tI, 300, .inl (fun _ => 0))), (q9, .inl (tI, 300, .inl (fun _ => 0))), (q10, .inl (tI, 30, .inl (fun _ => 0))), (q11, .inl (tI, 30, .inl (fun _ => 0))), (q12, .inl (tI, 30, .inl (fun _ => 0)))] H := hP
  have hD : va_D A [(h0, .inr (3, [.int 0, .ref q1, .ref q2, .ref q3, .ref q4, .ref q5, .ref q6, .ref q7, .ref q8, .ref q9, .int 0, .ref q10, .ref q11, .null, .null, .null, .null, .null, .int 0, .int 0, .long 0, .long 0, .long 0, .int 0])), (q1, .inl (tI, 30, .inl (fun _ => 0))), (q2, .inl (tI, 30, .inl (fun _ => 0))), (q3, .inl (tI, 30, .inl (fun _ => 0))), (q4, .inl (tI, 30, .inl (fun _ => 0))), (q5, .inl (tI, 30, .inl (fun _ => 0))), (q6, .inl (tI, 30, .inl (fun _ => 0))), (q7, .inl (tI, 30, .inl (fun _ => 0))), (q8, .inl (tI, 300, .inl (fun _ => 0))), (q9, .inl (tI, 300, .inl (fun _ => 0))), (q10, .inl (tI, 30, .inl (fun _ => 0))), (q11, .inl (tI, 30, .inl (fun _ => 0))), (q12, .inl (tI, 30, .inl (fun _ => 0)))] := hD
  refine va_putF (D := D) (ci := 3) (v := .ref q12) (ty := (t_M 13)) (C := "DroitLineModel") (T := F_M) (N := 24) hx hb hts i_M t_M t_M_ok n_M hown hK hP hD hS 0 rfl rfl 13 (by decide) (hts _ q_523) (fun _ h9 => h9) rfl hmname rfl (by decide +kernel) rfl rfl (Nat.le_of_ble_eq_true rfl) dM_init_99 (fun H locs hP hD hS => ?_)
  have hP : va_P D classes [(h0, .inr (3, [.int 0, .ref q1, .ref q2, .ref q3, .ref q4, .ref q5, .ref q6, .ref q7, .ref q8, .ref q9, .int 0, .ref q10, .ref q11, .ref q12, .null, .null, .null, .null, .int 0, .int 0, .long 0, .long 0, .long 0, .int 0])), (q1, .inl (tI, 30, .inl (fun _ => 0))), (q2, .inl (tI, 30, .inl (fun _ => 0))), (q3, .inl (tI, 30, .inl (fun _ => 0))), (q4, .inl (tI, 30, .inl (fun _ => 0))), (q5, .inl (tI, 30, .inl (fun _ => 0))), (q6, .inl (tI, 30, .inl (fun _ => 0))), (q7, .inl (tI, 30, .inl (fun _ => 0))), (q8, .inl (tI, 300, .inl (fun _ => 0))), (q9, .inl (tI, 300, .inl (fun _ => 0))), (q10, .inl (tI, 30, .inl (fun _ => 0))), (q11, .inl (tI, 30, .inl (fun _ => 0))), (q12, .inl (tI, 30, .inl (fun _ => 0)))] H := hP
  have hD : va_D A [(h0, .inr (3, [.int 0, .ref q1, .ref q2, .ref q3, .ref q4, .ref q5, .ref q6, .ref q7, .ref q8, .ref q9, .int 0, .ref q10, .ref q11, .ref q12, .null, .null, .null, .null, .int 0, .int 0, .long 0, .long 0, .long 0, .int 0])), (q1, .inl (tI, 30, .inl (fun _ => 0))), (q2, .inl (tI, 30, .inl (fun _ => 0))), (q3, .inl (tI, 30, .inl (fun _ => 0))), (q4, .inl (tI, 30, .inl (fun _ => 0))), (q5, .inl (tI, 30, .inl (fun _ => 0))), (q6, .inl (tI, 30, .inl (fun _ => 0))), (q7, .inl (tI, 30, .inl (fun _ => 0))), (q8, .inl (tI, 300, .inl (fun _ => 0))), (q9, .inl (tI, 300, .inl (fun _ => 0))), (q10, .inl (tI, 30, .inl (fun _ => 0))), (q11, .inl (tI, 30, .inl (fun _ => 0))), (q12, .inl (tI, 30, .inl (fun _ => 0)))] := hD
  refine lv_aload_n hx hb dM_init_102 rfl (lv_at hl 0 rfl) ?_
  refine lv_bipush (v := 30) hx hb dM_init_103 (by decide) ?_
  refine va_newa (atype := .int) (ty := .int) (N' := 30) (a0 := (30, .inl fun _ => 0)) hx hb (hts _ q_50) rfl hK hP hD hS hA (fun _ => rfl) (by decide) rfl (by decide) (Nat.le_of_ble_eq_true rfl) (Nat.le_of_ble_eq_true rfl) dM_init_105 (fun q13 cA H hK1 hP hD hS => ?_)
  rw [tyI hK1] at hP hD
  have hP : va_P D classes [(h0, .inr (3, [.int 0, .ref q1, .ref q2, .ref q3, .ref q4, .ref q5, .ref q6, .ref q7, .ref q8, .ref q9, .int 0, .ref q10, .ref q11, .ref q12, .null, .null, .null, .null, .int 0, .int 0, .long 0, .long 0, .long 0, .int 0])), (q1, .inl (tI, 30, .inl (fun _ => 0))), (q2, .inl (tI, 30, .inl (fun _ => 0))), (q3, .inl (tI, 30, .inl (fun _ => 0))), (q4, .inl (tI, 30, .inl (fun _ => 0))), (q5, .inl (tI, 30, .inl (fun _ => 0))), (q6, .inl (tI, 30, .inl (fun _ => 0))), (q7, .inl (tI, 30, .inl (fun _ => 0))), (q8, .inl (tI, 300, .inl (fun _ => 0))), (q9, .inl (tI, 300, .inl (fun _ => 0))), (q10, .inl (tI, 30, .inl (fun _ => 0))), (q11, .inl (tI, 30, .inl (fun _ => 0))), (q12, .inl (tI, 30, .inl (fun _ => 0))), (q13, .inl (tI, 30, .inl (fun _ => 0)))] H := hP
  have hD : va_D A [(h0, .inr (3, [.int 0, .ref q1, .ref q2, .ref q3, .ref q4, .ref q5, .ref q6, .ref q7, .ref q8, .ref q9, .int 0, .ref q10, .ref q11, .ref q12, .null, .null, .null, .null, .int 0, .int 0, .long 0, .long 0, .long 0, .int 0])), (q1, .inl (tI, 30, .inl (fun _ => 0))), (q2, .inl (tI, 30, .inl (fun _ => 0))), (q3, .inl (tI, 30, .inl (fun _ => 0))), (q4, .inl (tI, 30, .inl (fun _ => 0))), (q5, .inl (tI, 30, .inl (fun _ => 0))), (q6, .inl (tI, 30, .inl (fun _ => 0))), (q7, .inl (tI, 30, .inl (fun _ => 0))), (q8, .inl (tI, 300, .inl (fun _ => 0))), (q9, .inl (tI, 300, .inl (fun _ => 0))), (q10, .inl (tI, 30, .inl (fun _ => 0))), (q11, .inl (tI, 30, .inl (fun _ => 0))), (q12, .inl (tI, 30, .inl (fun _ => 0))), (q13, .inl (tI, 30, .inl (fun _ => 0)))] := hD
  refine va_putF (D := D) (ci := 3) (v := .ref q13) (ty := (t_M 14)) (C := "DroitLineModel") (T := F_M) (N := 24) hx hb hts i_M t_M t_M_ok n_M hown hK hP hD hS 0 rfl rfl 14 (by decide) (hts _ q_524) (fun _ h9 => h9) rfl hmname rfl (by decide +kernel) rfl rfl (Nat.le_of_ble_eq_true rfl) dM_init_107 (fun H locs hP hD hS => ?_)
  have hP : va_P D classes [(h0, .inr (3, [.int 0, .ref q1, .ref q2, .ref q3, .ref q4, .ref q5, .ref q6, .ref q7, .ref q8, .ref q9, .int 0, .ref q10, .ref q11, .ref q12, .ref q13, .null, .null, .null, .int 0, .int 0, .long 0, .long 0, .long 0, .int 0])), (q1, .inl (tI, 30, .inl (fun _ => 0))), (q2, .inl (tI, 30, .inl (fun _ => 0))), (q3, .inl (tI, 30, .inl (fun _ => 0))), (q4, .inl (tI, 30, .inl (fun _ => 0))), (q5, .inl (tI, 30, .inl (fun _ => 0))), (q6, .inl (tI, 30, .inl (fun _ => 0))), (q7, .inl (tI, 30, .inl (fun _ => 0))), (q8, .inl (tI, 300, .inl (fun _ => 0))), (q9, .inl (tI, 300, .inl (fun _ => 0))), (q10, .inl (tI, 30, .inl (fun _ => 0))), (q11, .inl (tI, 30, .inl (fun _ => 0))), (q12, .inl (tI, 30, .inl (fun _ => 0))), (q13, .inl (tI, 30, .inl (fun _ => 0)))] H := hP
  have hD : va_D A [(h0, .inr (3, [.int 0, .ref q1, .ref q2, .ref q3, .ref q4, .ref q5, .ref q6, .ref q7, .ref q8, .ref q9, .int 0, .ref q10, .ref q11, .ref q12, .ref q13, .null, .null, .null, .int 0, .int 0, .long 0, .long 0, .long 0, .int 0])), (q1, .inl (tI, 30, .inl (fun _ => 0))), (q2, .inl (tI, 30, .inl (fun _ => 0))), (q3, .inl (tI, 30, .inl (fun _ => 0))), (q4, .inl (tI, 30, .inl (fun _ => 0))), (q5, .inl (tI, 30, .inl (fun _ => 0))), (q6, .inl (tI, 30, .inl (fun _ => 0))), (q7, .inl (tI, 30, .inl (fun _ => 0))), (q8, .inl (tI, 300, .inl (fun _ => 0))), (q9, .inl (tI, 300, .inl (fun _ => 0))), (q10, .inl (tI, 30, .inl (fun _ => 0))), (q11, .inl (tI, 30, .inl (fun _ => 0))), (q12, .inl (tI, 30, .inl (fun _ => 0))), (q13, .inl (tI, 30, .inl (fun _ => 0)))] := hD
  refine lv_aload_n hx hb dM_init_110 rfl (lv_at hl 0 rfl) ?_
  refine lv_bipush (v := 30) hx hb dM_init_111 (by decide) ?_
  refine va_newa (atype := .int) (ty := .int) (N' := 30) (a0 := (30, .inl fun _ => 0)) hx hb (hts _ q_50) rfl hK hP hD hS hA (fun _ => rfl) (by decide) rfl (by decide) (Nat.le_of_ble_eq_true rfl) (Nat.le_of_ble_eq_true rfl) dM_init_113 (fun q14 cA H hK1 hP hD hS => ?_)
  rw [tyI hK1] at hP hD
  have hP : va_P D classes [(h0, .inr (3, [.int 0, .ref q1, .ref q2, .ref q3, .ref q4, .ref q5, .ref q6, .ref q7, .ref q8, .ref q9, .int 0, .ref q10, .ref q11, .ref q12, .ref q13, .null, .null, .null, .int 0, .int 0, .long 0, .long 0, .long 0, .int 0])), (q1, .inl (tI, 30, .inl (fun _ => 0))), (q2, .inl (tI, 30, .inl (fun _ => 0))), (q3, .inl (tI, 30, .inl (fun _ => 0))), (q4, .inl (tI, 30, .inl (fun _ => 0))), (q5, .inl (tI, 30, .inl (fun _ => 0))), (q6, .inl (tI, 30, .inl (fun _ => 0))), (q7, .inl (tI, 30, .inl (fun _ => 0))), (q8, .inl (tI, 300, .inl (fun _ => 0))), (q9, .inl (tI, 300, .inl (fun _ => 0))), (q10, .inl (tI, 30, .inl (fun _ => 0))), (q11, .inl (tI, 30, .inl (fun _ => 0))), (q12, .inl (tI, 30, .inl (fun _ => 0))), (q13, .inl (tI, 30, .inl (fun _ => 0))), (q14, .inl (tI, 30, .inl (fun _ => 0)))] H := hP
  have hD : va_D A [(h0, .inr (3, [.int 0, .ref q1, .ref q2, .ref q3, .ref q4, .ref q5, .ref q6, .ref q7, .ref q8, .ref q9, .int 0, .ref q10, .ref q11, .ref q12, .ref q13, .null, .null, .null, .int 0, .int 0, .long 0, .long 0, .long 0, .int 0])), (q1, .inl (tI, 30, .inl (fun _ => 0))), (q2, .inl (tI, 30, .inl (fun _ => 0))), (q3, .inl (tI, 30, .inl (fun _ => 0))), (q4, .inl (tI, 30, .inl (fun _ => 0))), (q5, .inl (tI, 30, .inl (fun _ => 0))), (q6, .inl (tI, 30, .inl (fun _ => 0))), (q7, .inl (tI, 30, .inl (fun _ => 0))), (q8, .inl (tI, 300, .inl (fun _ => 0))), (q9, .inl (tI, 300, .inl (fun _ => 0))), (q10, .inl (tI, 30, .inl (fun _ => 0))), (q11, .inl (tI, 30, .inl (fun _ => 0))), (q12, .inl (tI, 30, .inl (fun _ => 0))), (q13, .inl (tI, 30, .inl (fun _ => 0))), (q14, .inl (tI, 30, .inl (fun _ => 0)))] := hD
  refine va_putF (D := D) (ci := 3) (v := .ref q14) (ty := (t_M 15)) (C := "DroitLineModel") (T := F_M) (N := 24) hx hb hts i_M t_M t_M_ok n_M hown hK hP hD hS 0 rfl rfl 15 (by decide) (hts _ q_525) (fun _ h9 => h9) rfl hmname rfl (by decide +kernel) rfl rfl (Nat.le_of_ble_eq_true rfl) dM_init_115 (fun H locs hP hD hS => ?_)
  have hP : va_P D classes [(h0, .inr (3, [.int 0, .ref q1, .ref q2, .ref q3, .ref q4, .ref q5, .ref q6, .ref q7, .ref q8, .ref q9, .int 0, .ref q10, .ref q11, .ref q12, .ref q13, .ref q14, .null, .null, .int 0, .int 0, .long 0, .long 0, .long 0, .int 0])), (q1, .inl (tI, 30, .inl (fun _ => 0))), (q2, .inl (tI, 30, .inl (fun _ => 0))), (q3, .inl (tI, 30, .inl (fun _ => 0))), (q4, .inl (tI, 30, .inl (fun _ => 0))), (q5, .inl (tI, 30, .inl (fun _ => 0))), (q6, .inl (tI, 30, .inl (fun _ => 0))), (q7, .inl (tI, 30, .inl (fun _ => 0))), (q8, .inl (tI, 300, .inl (fun _ => 0))), (q9, .inl (tI, 300, .inl (fun _ => 0))), (q10, .inl (tI, 30, .inl (fun _ => 0))), (q11, .inl (tI, 30, .inl (fun _ => 0))), (q12, .inl (tI, 30, .inl (fun _ => 0))), (q13, .inl (tI, 30, .inl (fun _ => 0))), (q14, .inl (tI, 30, .inl (fun _ => 0)))] H := hP
  have hD : va_D A [(h0, .inr (3, [.int 0, .ref q1, .ref q2, .ref q3, .ref q4, .ref q5, .ref q6, .ref q7, .ref q8, .ref q9, .int 0, .ref q10, .ref q11, .ref q12, .ref q13, .ref q14, .null, .null, .int 0, .int 0, .long 0, .long 0, .long 0, .int 0])), (q1, .inl (tI, 30, .inl (fun _ => 0))), (q2, .inl (tI, 30, .inl (fun _ => 0))), (q3, .inl (tI, 30, .inl (fun _ => 0))), (q4, .inl (tI, 30, .inl (fun _ => 0))), (q5, .inl (tI, 30, .inl (fun _ => 0))), (q6, .inl (tI, 30, .inl (fun _ => 0))), (q7, .inl (tI, 30, .inl (fun _ => 0))), (q8, .inl (tI, 300, .inl (fun _ => 0))), (q9, .inl (tI, 300, .inl (fun _ => 0))), (q10, .inl (tI, 30, .inl (fun _ => 0))), (q11, .inl (tI, 30, .inl (fun _ => 0))), (q12, .inl (tI, 30, .inl (fun _ => 0))), (q13, .inl (tI, 30, .inl (fun _ => 0))), (q14, .inl (tI, 30, .inl (fun _ => 0)))] := hD
  refine lv_aload_n hx hb dM_init_118 rfl (lv_at hl 0 rfl) ?_
  refine lv_bipush (v := 10) hx hb dM_init_119 (by decide) ?_
  refine va_newa (atype := .int) (ty := .int) (N' := 10) (a0 := (10, .inl fun _ => 0)) hx hb (hts _ q_50) rfl hK hP hD hS hA (fun _ => rfl) (by decide) rfl (by decide) (Nat.le_of_ble_eq_true rfl) (Nat.le_of_ble_eq_true rfl) dM_init_121 (fun q15 cA H hK1 hP hD hS => ?_)
  rw [tyI hK1] at hP hD
  have hP : va_P D classes [(h0, .inr (3, [.int 0, .ref q1, .ref q2, .ref q3, .ref q4, .ref q5, .ref q6, .ref q7, .ref q8, .ref q9, .int 0, .ref q10, .ref q11, .ref q12, .ref q13, .ref q14, .null, .null, .int 0, .int 0, .long 0, .long 0, .long 0, .int 0])), (q1, .inl (tI, 30, .inl (fun _ => 0))), (q2, .inl (tI, 30, .inl (fun _ => 0))), (q3, .inl (tI, 30, .inl (fun _ => 0))), (q4, .inl (tI, 30, .inl (fun _ => 0))), (q5, .inl (tI, 30, .inl (fun _ => 0))), (q6, .inl (tI, 30, .inl (fun _ => 0))), (q7, .inl (tI, 30, .inl (fun _ => 0))), (q8, .inl (tI, 300, .inl (fun _ => 0))), (q9, .inl (tI, 300, .inl (fun _ => 0))), (q10, .inl (tI, 30, .inl (fun _ => 0))), (q11, .inl (tI, 30, .inl (fun _ => 0))), (q12, .inl (tI, 30, .inl (fun _ => 0))), (q13, .inl (tI, 30, .inl (fun _ => 0))), (q14, .inl (tI, 30, .inl (fun _ => 0))), (q15, .inl (tI, 10, .inl (fun _ => 0)))] H := hP
  have hD : va_D A [(h0, .inr (3, [.int 0, .ref q1, .ref q2, .ref q3, .ref q4, .ref q5, .ref q6, .ref q7, .ref q8, .ref q9, .int 0, .ref q10, .ref q11, .ref q12, .ref q13, .ref q14, .null, .null, .int 0, .int 0, .long 0, .long 0, .long 0, .int 0])), (q1, .inl (tI, 30, .inl (fun _ => 0))), (q2, .inl (tI, 30, .inl (fun _ => 0))), (q3, .inl (tI, 30, .inl (fun _ => 0))), (q4, .inl (tI, 30, .inl (fun _ => 0))), (q5, .inl (tI, 30, .inl (fun _ => 0))), (q6, .inl (tI, 30, .inl (fun _ => 0))), (q7, .inl (tI, 30, .inl (fun _ => 0))), (q8, .inl (tI, 300, .inl (fun _ => 0))), (q9, .inl (tI, 300, .inl (fun _ => 0))), (q10, .inl (tI, 30, .inl (fun _ => 0))), (q11, .inl (tI, 30, .inl (fun _ => 0))), (q12, .inl (tI, 30, .inl (fun _ => 0))), (q13, .inl (tI, 30, .inl (fun _ => 0))), (q14, .inl (tI, 30, .inl (fun _ => 0))), (q15, .inl (tI, 10, .inl (fun _ => 0)))] := hD
  refine va_putF (D := D) (ci := 3) (v := .ref q15) (ty := (t_M 16)) (C := "DroitLineModel") (T := F_M) (N := 24) hx hb hts i_M t_M t_M_ok n_M hown hK hP hD hS 0 rfl rfl 16 (by decide) (hts _ q_526) (fun _ h9 => h9) rfl hmname rfl (by decide +kernel) rfl rfl (Nat.le_of_ble_eq_true rfl) dM_init_123 (fun H locs hP hD hS => ?_)
  have hP : va_P D classes [(h0, .inr (3, [.int 0, .ref q1, .ref q2, .ref q3, .ref q4, .ref q5, .ref q6, .ref q7, .ref q8, .ref q9, .int 0, .ref q10, .ref q11, .ref q12, .ref q13, .ref q14, .ref q15, .null, .int 0, .int 0, .long 0, .long 0, .long 0, .int 0])), (q1, .inl (tI, 30, .inl (fun _ => 0))), (q2, .inl (tI, 30, .inl (fun _ => 0))), (q3, .inl (tI, 30, .inl (fun _ => 0))), (q4, .inl (tI, 30, .inl (fun _ => 0))), (q5, .inl (tI, 30, .inl (fun _ => 0))), (q6, .inl (tI, 30, .inl (fun _ => 0))), (q7, .inl (tI, 30, .inl (fun _ => 0))), (q8, .inl (tI, 300, .inl (fun _ => 0))), (q9, .inl (tI, 300, .inl (fun _ => 0))), (q10, .inl (tI, 30, .inl (fun _ => 0))), (q11, .inl (tI, 30, .inl (fun _ => 0))), (q12, .inl (tI, 30, .inl (fun _ => 0))), (q13, .inl (tI, 30, .inl (fun _ => 0))), (q14, .inl (tI, 30, .inl (fun _ => 0))), (q15, .inl (tI, 10, .inl (fun _ => 0)))] H := hP
  have hD : va_D A [(h0, .inr (3, [.int 0, .ref q1, .ref q2, .ref q3, .ref q4, .ref q5, .ref q6, .ref q7, .ref q8, .ref q9, .int 0, .ref q10, .ref q11, .ref q12, .ref q13, .ref q14, .ref q15, .null, .int 0, .int 0, .long 0, .long 0, .long 0, .int 0])), (q1, .inl (tI, 30, .inl (fun _ => 0))), (q2, .inl (tI, 30, .inl (fun _ => 0))), (q3, .inl (tI, 30, .inl (fun _ => 0))), (q4, .inl (tI, 30, .inl (fun _ => 0))), (q5, .inl (tI, 30, .inl (fun _ => 0))), (q6, .inl (tI, 30, .inl (fun _ => 0))), (q7, .inl (tI, 30, .inl (fun _ => 0))), (q8, .inl (tI, 300, .inl (fun _ => 0))), (q9, .inl (tI, 300, .inl (fun _ => 0))), (q10, .inl (tI, 30, .inl (fun _ => 0))), (q11, .inl (tI, 30, .inl (fun _ => 0))), (q12, .inl (tI, 30, .inl (fun _ => 0))), (q13, .inl (tI, 30, .inl (fun _ => 0))), (q14, .inl (tI, 30, .inl (fun _ => 0))), (q15, .inl (tI, 10, .inl (fun _ => 0)))] := hD
  refine lv_aload_n hx hb dM_init_126 rfl (lv_at hl 0 rfl) ?_
  refine lv_bipush (v := 6) hx hb dM_init_127 (by decide) ?_
  refine va_newa (atype := .int) (ty := .int) (N' := 6) (a0 := (6, .inl fun _ => 0)) hx hb (hts _ q_50) rfl hK hP hD hS hA (fun _ => rfl) (by decide) rfl (by decide) (Nat.le_of_ble_eq_true rfl) (Nat.le_of_ble_eq_true rfl) dM_init_129 (fun q16 cA H hK1 hP hD hS => ?_)
  rw [tyI hK1] at hP hD
  have hP : va_P D classes [(h0, .inr (3, [.int 0, .ref q1, .ref q2, .ref q3, .ref q4, .ref q5, .ref q6, .ref q7, .ref q8, .ref q9, .int 0, .ref q10, .ref q11, .ref q12, .ref q13, .ref q14, .ref q15, .null, .int 0, .int 0, .long 0, .long 0, .long 0, .int 0])), (q1, .inl (tI, 30, .inl (fun _ => 0))), (q2, .inl (tI, 30, .inl (fun _ => 0))), (q3, .inl (tI, 30, .inl (fun _ => 0))), (q4, .inl (tI, 30, .inl (fun _ => 0))), (q5, .inl (tI, 30, .inl (fun _ => 0))), (q6, .inl (tI, 30, .inl (fun _ => 0))), (q7, .inl (tI, 30, .inl (fun _ => 0))), (q8, .inl (tI, 300, .inl (fun _ => 0))), (q9, .inl (tI, 300, .inl (fun _ => 0))), (q10, .inl (tI, 30, .inl (fun _ => 0))), (q11, .inl (tI, 30, .inl (fun _ => 0))), (q12, .inl (tI, 30, .inl (fun _ => 0))), (q13, .inl (tI, 30, .inl (fun _ => 0))), (q14, .inl (tI, 30, .inl (fun _ => 0))), (q15, .inl (tI, 10, .inl (fun _ => 0))), (q16, .inl (tI, 6, .inl (fun _ => 0)))] H := hP
  have hD : va_D A [(h0, .inr (3, [.int 0, .ref q1, .ref q2, .ref q3, .ref q4, .ref q5, .ref q6, .ref q7, .ref q8, .ref q9, .int 0, .ref q10, .ref q11, .ref q12, .ref q13, .ref q14, .ref q15, .null, .int 0, .int 0, .long 0, .long 0, .long 0, .int 0])), (q1, .inl (tI, 30, .inl (fun _ => 0))), (q2, .inl (tI, 30, .inl (fun _ => 0))), (q3, .inl (tI, 30, .inl (fun _ => 0))), (q4, .inl (tI, 30, .inl (fun _ => 0))), (q5, .inl (tI, 30, .inl (fun _ => 0))), (q6, .inl (tI, 30, .inl (fun _ => 0))), (q7, .inl (tI, 30, .inl (fun _ => 0))), (q8, .inl (tI, 300, .inl (fun _ => 0))), (q9, .inl (tI, 300, .inl (fun _ => 0))), (q10, .inl (tI, 30, .inl (fun _ => 0))), (q11, .inl (tI, 30, .inl (fun _ => 0))), (q12, .inl (tI, 30, .inl (fun _ => 0))), (q13, .inl (tI, 30, .inl (fun _ => 0))), (q14, .inl (tI, 30, .inl (fun _ => 0))), (q15, .inl (tI, 10, .inl (fun _ => 0))), (q16, .inl (tI, 6, .inl (fun _ => 0)))] := hD
  refine va_putF (D := D) (ci := 3) (v := .ref q16) (ty := (t_M 17)) (C := "DroitLineModel") (T := F_M) (N := 24) hx hb hts i_M t_M t_M_ok n_M hown hK hP hD hS 0 rfl rfl 17 (by decide) (hts _ q_527) (fun _ h9 => h9) rfl hmname rfl (by decide +kernel) rfl rfl (Nat.le_of_ble_eq_true rfl) dM_init_131 (fun H locs hP hD hS => ?_)
  have hP : va_P D classes [(h0, .inr (3, [.int 0, .ref q1, .ref q2, .ref q3, .ref q4, .ref q5, .ref q6, .ref q7, .ref q8, .ref q9, .int 0, .ref q10, .ref q11, .ref q12, .ref q13, .ref q14, .ref q15, .ref q16, .int 0, .int 0, .long 0, .long 0, .long 0, .int 0])), (q1, .inl (tI, 30, .inl (fun _ => 0))), (q2, .inl (tI, 30, .inl (fun _ => 0))), (q3, .inl (tI, 30, .inl (fun _ => 0))), (q4, .inl (tI, 30, .inl (fun _ => 0))), (q5, .inl (tI, 30, .inl (fun _ => 0))), (q6, .inl (tI, 30, .inl (fun _ => 0))), (q7, .inl (tI, 30, .inl (fun _ => 0))), (q8, .inl (tI, 300, .inl (fun _ => 0))), (q9, .inl (tI, 300, .inl (fun _ => 0))), (q10, .inl (tI, 30, .inl (fun _ => 0))), (q11, .inl (tI, 30, .inl (fun _ => 0))), (q12, .inl (tI, 30, .inl (fun _ => 0))), (q13, .inl (tI, 30, .inl (fun _ => 0))), (q14, .inl (tI, 30, .inl (fun _ => 0))), (q15, .inl (tI, 10, .inl (fun _ => 0))), (q16, .inl (tI, 6, .inl (fun _ => 0)))] H := hP
  have hD : va_D A [(h0, .inr (3, [.int 0, .ref q1, .ref q2, .ref q3, .ref q4, .ref q5, .ref q6, .ref q7, .ref q8, .ref q9, .int 0, .ref q10, .ref q11, .ref q12, .ref q13, .ref q14, .ref q15, .ref q16, .int 0, .int 0, .long 0, .long 0, .long 0, .int 0])), (q1, .inl (tI, 30, .inl (fun _ => 0))), (q2, .inl (tI, 30, .inl (fun _ => 0))), (q3, .inl (tI, 30, .inl (fun _ => 0))), (q4, .inl (tI, 30, .inl (fun _ => 0))), (q5, .inl (tI, 30, .inl (fun _ => 0))), (q6, .inl (tI, 30, .inl (fun _ => 0))), (q7, .inl (tI, 30, .inl (fun _ => 0))), (q8, .inl (tI, 300, .inl (fun _ => 0))), (q9, .inl (tI, 300, .inl (fun _ => 0))), (q10, .inl (tI, 30, .inl (fun _ => 0))), (q11, .inl (tI, 30, .inl (fun _ => 0))), (q12, .inl (tI, 30, .inl (fun _ => 0))), (q13, .inl (tI, 30, .inl (fun _ => 0))), (q14, .inl (tI, 30, .inl (fun _ => 0))), (q15, .inl (tI, 10, .inl (fun _ => 0))), (q16, .inl (tI, 6, .inl (fun _ => 0)))] := hD
  refine lv_iconst (v := 0) hx hb dM_init_134 (by decide) ?_
  refine lv_istore_n (lv' := [(1, .int 0), (0, .ref h0)]) hx hb dM_init_135 rfl hl (by decide) rfl (fun ls hl => ?_)
  refine lv_iload_n hx hb dM_init_136 rfl (lv_at hl 0 rfl) ?_
  refine lv_bipush (v := 6) hx hb dM_init_137 (by decide) ?_
  refine lv_icmp_ge (tgt := 156) hx hb dM_init_139 (by decide) (fun c_1 => ?_) (fun c_1 => ?_)
  · exact absurd c_1 (by decide)
  refine lv_aload_n hx hb dM_init_142 rfl (lv_at hl 1 rfl) ?_
  refine va_get (D := D) (ci := 3) (v := .ref q16) (C := "DroitLineModel") (T := F_M) (N := 24) hx hb hts i_M hown hK hP 0 rfl rfl 17 (by decide) (hts _ q_527) (fun _ h9 => h9) rfl dM_init_143 ?_
  refine lv_iload_n hx hb dM_init_146 rfl (lv_at hl 0 rfl) ?_
  refine lv_bipush (v := 10) hx hb dM_init_147 (by decide) ?_
  refine va_iast hx hb hK hP hD hS 16 0 rfl rfl (by rw [vp_in_iff]; decide) dM_init_149 (fun H locs hP hD hS => ?_)
  have hP : va_P D classes [(h0, .inr (3, [.int 0, .ref q1, .ref q2, .ref q3, .ref q4, .ref q5, .ref q6, .ref q7, .ref q8, .ref q9, .int 0, .ref q10, .ref q11, .ref q12, .ref q13, .ref q14, .ref q15, .ref q16, .int 0, .int 0, .long 0, .long 0, .long 0, .int 0])), (q1, .inl (tI, 30, .inl (fun _ => 0))), (q2, .inl (tI, 30, .inl (fun _ => 0))), (q3, .inl (tI, 30, .inl (fun _ => 0))), (q4, .inl (tI, 30, .inl (fun _ => 0))), (q5, .inl (tI, 30, .inl (fun _ => 0))), (q6, .inl (tI, 30, .inl (fun _ => 0))), (q7, .inl (tI, 30, .inl (fun _ => 0))), (q8, .inl (tI, 300, .inl (fun _ => 0))), (q9, .inl (tI, 300, .inl (fun _ => 0))), (q10, .inl (tI, 30, .inl (fun _ => 0))), (q11, .inl (tI, 30, .inl (fun _ => 0))), (q12, .inl (tI, 30, .inl (fun _ => 0))), (q13, .inl (tI, 30, .inl (fun _ => 0))), (q14, .inl (tI, 30, .inl (fun _ => 0))), (q15, .inl (tI, 10, .inl (fun _ => 0))), (q16, .inl (tI, 6, .inl (upd (fun _ => 0) 0 10)))] H := hP
  have hD : va_D A [(h0, .inr (3, [.int 0, .ref q1, .ref q2, .ref q3, .ref q4, .ref q5, .ref q6, .ref q7, .ref q8, .ref q9, .int 0, .ref q10, .ref q11, .ref q12, .ref q13, .ref q14, .ref q15, .ref q16, .int 0, .int 0, .long 0, .long 0, .long 0, .int 0])), (q1, .inl (tI, 30, .inl (fun _ => 0))), (q2, .inl (tI, 30, .inl (fun _ => 0))), (q3, .inl (tI, 30, .inl (fun _ => 0))), (q4, .inl (tI, 30, .inl (fun _ => 0))), (q5, .inl (tI, 30, .inl (fun _ => 0))), (q6, .inl (tI, 30, .inl (fun _ => 0))), (q7, .inl (tI, 30, .inl (fun _ => 0))), (q8, .inl (tI, 300, .inl (fun _ => 0))), (q9, .inl (tI, 300, .inl (fun _ => 0))), (q10, .inl (tI, 30, .inl (fun _ => 0))), (q11, .inl (tI, 30, .inl (fun _ => 0))), (q12, .inl (tI, 30, .inl (fun _ => 0))), (q13, .inl (tI, 30, .inl (fun _ => 0))), (q14, .inl (tI, 30, .inl (fun _ => 0))), (q15, .inl (tI, 10, .inl (fun _ => 0))), (q16, .inl (tI, 6, .inl (upd (fun _ => 0) 0 10)))] := hD
  refine lv_iinc (v := 1) (lv' := [(1, .int 1), (0, .ref h0)]) hx hb dM_init_150 hl (k := 0) rfl (by decide) (by decide) rfl (fun ls hl => ?_)
  refine lv_goto (tgt := 136) hx hb dM_init_153 (by decide) ?_
  refine lv_iload_n hx hb dM_init_136 rfl (lv_at hl 0 rfl) ?_
  refine lv_bipush (v := 6) hx hb dM_init_137 (by decide) ?_
  refine lv_icmp_ge (tgt := 156) hx hb dM_init_139 (by decide) (fun c_2 => ?_) (fun c_2 => ?_)
  · exact absurd c_2 (by decide)
  refine lv_aload_n hx hb dM_init_142 rfl (lv_at hl 1 rfl) ?_
  refine va_get (D := D) (ci := 3) (v := .ref q16) (C := "DroitLineModel") (T := F_M) (N := 24) hx hb hts i_M hown hK hP 0 rfl rfl 17 (by decide) (hts _ q_527) (fun _ h9 => h9) rfl dM_init_143 ?_
  refine lv_iload_n hx hb dM_init_146 rfl (lv_at hl 0 rfl) ?_
  refine lv_bipush (v := 10) hx hb dM_init_147 (by decide) ?_
  refine va_iast hx hb hK hP hD hS 16 0 rfl rfl (by rw [vp_in_iff]; decide) dM_init_149 (fun H locs hP hD hS => ?_)
  have hP : va_P D classes [(h0, .inr (3, [.int 0, .ref q1, .ref q2, .ref q3, .ref q4, .ref q5, .ref q6, .ref q7, .ref q8, .ref q9, .int 0, .ref q10, .ref q11, .ref q12, .ref q13, .ref q14, .ref q15, .ref q16, .int 0, .int 0, .long 0, .long 0, .long 0, .int 0])), (q1, .inl (tI, 30, .inl (fun _ => 0))), (q2, .inl (tI, 30, .inl (fun _ => 0))), (q3, .inl (tI, 30, .inl (fun _ => 0))), (q4, .inl (tI, 30, .inl (fun _ => 0))), (q5, .inl (tI, 30, .inl (fun _ => 0))), (q6, .inl (tI, 30, .inl (fun _ => 0))), (q7, .inl (tI, 30, .inl (fun _ => 0))), (q8, .inl (tI, 300, .inl (fun _ => 0))), (q9, .inl (tI, 300, .inl (fun _ => 0))), (q10, .inl (tI, 30, .inl (fun _ => 0))), (q11, .inl (tI, 30, .inl (fun _ => 0))), (q12, .inl (tI, 30, .inl (fun _ => 0))), (q13, .inl (tI, 30, .inl (fun _ => 0))), (q14, .inl (tI, 30, .inl (fun _ => 0))), (q15, .inl (tI, 10, .inl (fun _ => 0))), (q16, .inl (tI, 6, .inl (upd (upd (fun _ => 0) 0 10) 1 10)))] H := hP
  have hD : va_D A [(h0, .inr (3, [.int 0, .ref q1, .ref q2, .ref q3, .ref q4, .ref q5, .ref q6, .ref q7, .ref q8, .ref q9, .int 0, .ref q10, .ref q11, .ref q12, .ref q13, .ref q14, .ref q15, .ref q16, .int 0, .int 0, .long 0, .long 0, .long 0, .int 0])), (q1, .inl (tI, 30, .inl (fun _ => 0))), (q2, .inl (tI, 30, .inl (fun _ => 0))), (q3, .inl (tI, 30, .inl (fun _ => 0))), (q4, .inl (tI, 30, .inl (fun _ => 0))), (q5, .inl (tI, 30, .inl (fun _ => 0))), (q6, .inl (tI, 30, .inl (fun _ => 0))), (q7, .inl (tI, 30, .inl (fun _ => 0))), (q8, .inl (tI, 300, .inl (fun _ => 0))), (q9, .inl (tI, 300, .inl (fun _ => 0))), (q10, .inl (tI, 30, .inl (fun _ => 0))), (q11, .inl (tI, 30, .inl (fun _ => 0))), (q12, .inl (tI, 30, .inl (fun _ => 0))), (q13, .inl (tI, 30, .inl (fun _ => 0))), (q14, .inl (tI, 30, .inl (fun _ => 0))), (q15, .inl (tI, 10, .inl (fun _ => 0))), (q16, .inl (tI, 6, .inl (upd (upd (fun _ => 0) 0 10) 1 10)))] := hD
  refine lv_iinc (v := 2) (lv' := [(1, .int 2), (0, .ref h0)]) hx hb dM_init_150 hl (k := 0) rfl (by decide) (by decide) rfl (fun ls hl => ?_)
  refine lv_goto (tgt := 136) hx hb dM_init_153 (by decide) ?_
  refine lv_iload_n hx hb dM_init_136 rfl (lv_at hl 0 rfl) ?_
  refine lv_bipush (v := 6) hx hb dM_init_137 (by decide) ?_
  refine lv_icmp_ge (tgt := 156) hx hb dM_init_139 (by decide) (fun c_3 => ?_) (fun c_3 => ?_)
  · exact absurd c_3 (by decide)
  refine lv_aload_n hx hb dM_init_142 rfl (lv_at hl 1 rfl) ?_
  refine va_get (D := D) (ci := 3) (v := .ref q16) (C := "DroitLineModel") (T := F_M) (N := 24) hx hb hts i_M hown hK hP 0 rfl rfl 17 (by decide) (hts _ q_527) (fun _ h9 => h9) rfl dM_init_143 ?_
  refine lv_iload_n hx hb dM_init_146 rfl (lv_at hl 0 rfl) ?_
  refine lv_bipush (v := 10) hx hb dM_init_147 (by decide) ?_
  refine va_iast hx hb hK hP hD hS 16 0 rfl rfl (by rw [vp_in_iff]; decide) dM_init_149 (fun H locs hP hD hS => ?_)
  have hP : va_P D classes [(h0, .inr (3, [.int 0, .ref q1, .ref q2, .ref q3, .ref q4, .ref q5, .ref q6, .ref q7, .ref q8, .ref q9, .int 0, .ref q10, .ref q11, .ref q12, .ref q13, .ref q14, .ref q15, .ref q16, .int 0, .int 0, .long 0, .long 0, .long 0, .int 0])), (q1, .inl (tI, 30, .inl (fun _ => 0))), (q2, .inl (tI, 30, .inl (fun _ => 0))), (q3, .inl (tI, 30, .inl (fun _ => 0))), (q4, .inl (tI, 30, .inl (fun _ => 0))), (q5, .inl (tI, 30, .inl (fun _ => 0))), (q6, .inl (tI, 30, .inl (fun _ => 0))), (q7, .inl (tI, 30, .inl (fun _ => 0))), (q8, .inl (tI, 300, .inl (fun _ => 0))), (q9, .inl (tI, 300, .inl (fun _ => 0))), (q10, .inl (tI, 30, .inl (fun _ => 0))), (q11, .inl (tI, 30, .inl (fun _ => 0))), (q12, .inl (tI, 30, .inl (fun _ => 0))), (q13, .inl (tI, 30, .inl (fun _ => 0))), (q14, .inl (tI, 30, .inl (fun _ => 0))), (q15, .inl (tI, 10, .inl (fun _ => 0))), (q16, .inl (tI, 6, .inl (upd (upd (upd (fun _ => 0) 0 10) 1 10) 2 10)))] H := hP
  have hD : va_D A [(h0, .inr (3, [.int 0, .ref q1, .ref q2, .ref q3, .ref q4, .ref q5, .ref q6, .ref q7, .ref q8, .ref q9, .int 0, .ref q10, .ref q11, .ref q12, .ref q13, .ref q14, .ref q15, .ref q16, .int 0, .int 0, .long 0, .long 0, .long 0, .int 0])), (q1, .inl (tI, 30, .inl (fun _ => 0))), (q2, .inl (tI, 30, .inl (fun _ => 0))), (q3, .inl (tI, 30, .inl (fun _ => 0))), (q4, .inl (tI, 30, .inl (fun _ => 0))), (q5, .inl (tI, 30, .inl (fun _ => 0))), (q6, .inl (tI, 30, .inl (fun _ => 0))), (q7, .inl (tI, 30, .inl (fun _ => 0))), (q8, .inl (tI, 300, .inl (fun _ => 0))), (q9, .inl (tI, 300, .inl (fun _ => 0))), (q10, .inl (tI, 30, .inl (fun _ => 0))), (q11, .inl (tI, 30, .inl (fun _ => 0))), (q12, .inl (tI, 30, .inl (fun _ => 0))), (q13, .inl (tI, 30, .inl (fun _ => 0))), (q14, .inl (tI, 30, .inl (fun _ => 0))), (q15, .inl (tI, 10, .inl (fun _ => 0))), (q16, .inl (tI, 6, .inl (upd (upd (upd (fun _ => 0) 0 10) 1 10) 2 10)))] := hD
  refine lv_iinc (v := 3) (lv' := [(1, .int 3), (0, .ref h0)]) hx hb dM_init_150 hl (k := 0) rfl (by decide) (by decide) rfl (fun ls hl => ?_)
  refine lv_goto (tgt := 136) hx hb dM_init_153 (by decide) ?_
  refine lv_iload_n hx hb dM_init_136 rfl (lv_at hl 0 rfl) ?_
  refine lv_bipush (v := 6) hx hb dM_init_137 (by decide) ?_
  refine lv_icmp_ge (tgt := 156) hx hb dM_init_139 (by decide) (fun c_4 => ?_) (fun c_4 => ?_)
  · exact absurd c_4 (by decide)
  refine lv_aload_n hx hb dM_init_142 rfl (lv_at hl 1 rfl) ?_
  refine va_get (D := D) (ci := 3) (v := .ref q16) (C := "DroitLineModel") (T := F_M) (N := 24) hx hb hts i_M hown hK hP 0 rfl rfl 17 (by decide) (hts _ q_527) (fun _ h9 => h9) rfl dM_init_143 ?_
  refine lv_iload_n hx hb dM_init_146 rfl (lv_at hl 0 rfl) ?_
  refine lv_bipush (v := 10) hx hb dM_init_147 (by decide) ?_
  refine va_iast hx hb hK hP hD hS 16 0 rfl rfl (by rw [vp_in_iff]; decide) dM_init_149 (fun H locs hP hD hS => ?_)
  have hP : va_P D classes [(h0, .inr (3, [.int 0, .ref q1, .ref q2, .ref q3, .ref q4, .ref q5, .ref q6, .ref q7, .ref q8, .ref q9, .int 0, .ref q10, .ref q11, .ref q12, .ref q13, .ref q14, .ref q15, .ref q16, .int 0, .int 0, .long 0, .long 0, .long 0, .int 0])), (q1, .inl (tI, 30, .inl (fun _ => 0))), (q2, .inl (tI, 30, .inl (fun _ => 0))), (q3, .inl (tI, 30, .inl (fun _ => 0))), (q4, .inl (tI, 30, .inl (fun _ => 0))), (q5, .inl (tI, 30, .inl (fun _ => 0))), (q6, .inl (tI, 30, .inl (fun _ => 0))), (q7, .inl (tI, 30, .inl (fun _ => 0))), (q8, .inl (tI, 300, .inl (fun _ => 0))), (q9, .inl (tI, 300, .inl (fun _ => 0))), (q10, .inl (tI, 30, .inl (fun _ => 0))), (q11, .inl (tI, 30, .inl (fun _ => 0))), (q12, .inl (tI, 30, .inl (fun _ => 0))), (q13, .inl (tI, 30, .inl (fun _ => 0))), (q14, .inl (tI, 30, .inl (fun _ => 0))), (q15, .inl (tI, 10, .inl (fun _ => 0))), (q16, .inl (tI, 6, .inl (upd (upd (upd (upd (fun _ => 0) 0 10) 1 10) 2 10) 3 10)))] H := hP
  have hD : va_D A [(h0, .inr (3, [.int 0, .ref q1, .ref q2, .ref q3, .ref q4, .ref q5, .ref q6, .ref q7, .ref q8, .ref q9, .int 0, .ref q10, .ref q11, .ref q12, .ref q13, .ref q14, .ref q15, .ref q16, .int 0, .int 0, .long 0, .long 0, .long 0, .int 0])), (q1, .inl (tI, 30, .inl (fun _ => 0))), (q2, .inl (tI, 30, .inl (fun _ => 0))), (q3, .inl (tI, 30, .inl (fun _ => 0))), (q4, .inl (tI, 30, .inl (fun _ => 0))), (q5, .inl (tI, 30, .inl (fun _ => 0))), (q6, .inl (tI, 30, .inl (fun _ => 0))), (q7, .inl (tI, 30, .inl (fun _ => 0))), (q8, .inl (tI, 300, .inl (fun _ => 0))), (q9, .inl (tI, 300, .inl (fun _ => 0))), (q10, .inl (tI, 30, .inl (fun _ => 0))), (q11, .inl (tI, 30, .inl (fun _ => 0))), (q12, .inl (tI, 30, .inl (fun _ => 0))), (q13, .inl (tI, 30, .inl (fun _ => 0))), (q14, .inl (tI, 30, .inl (fun _ => 0))), (q15, .inl (tI, 10, .inl (fun _ => 0))), (q16, .inl (tI, 6, .inl (upd (upd (upd (upd (fun _ => 0) 0 10) 1 10) 2 10) 3 10)))] := hD
  refine lv_iinc (v := 4) (lv' := [(1, .int 4), (0, .ref h0)]) hx hb dM_init_150 hl (k := 0) rfl (by decide) (by decide) rfl (fun ls hl => ?_)
  refine lv_goto (tgt := 136) hx hb dM_init_153 (by decide) ?_
  refine lv_iload_n hx hb dM_init_136 rfl (lv_at hl 0 rfl) ?_
  refine lv_bipush (v := 6) hx hb dM_init_137 (by decide) ?_
  refine lv_icmp_ge (tgt := 156) hx hb dM_init_139 (by decide) (fun c_5 => ?_) (fun c_5 => ?_)
  · exact absurd c_5 (by decide)
  refine lv_aload_n hx hb dM_init_142 rfl (lv_at hl 1 rfl) ?_
  refine va_get (D := D) (ci := 3) (v := .ref q16) (C := "DroitLineModel") (T := F_M) (N := 24) hx hb hts i_M hown hK hP 0 rfl rfl 17 (by decide) (hts _ q_527) (fun _ h9 => h9) rfl dM_init_143 ?_
  refine lv_iload_n hx hb dM_init_146 rfl (lv_at hl 0 rfl) ?_
  refine lv_bipush (v := 10) hx hb dM_init_147 (by decide) ?_
  refine va_iast hx hb hK hP hD hS 16 0 rfl rfl (by rw [vp_in_iff]; decide) dM_init_149 (fun H locs hP hD hS => ?_)
  have hP : va_P D classes [(h0, .inr (3, [.int 0, .ref q1, .ref q2, .ref q3, .ref q4, .ref q5, .ref q6, .ref q7, .ref q8, .ref q9, .int 0, .ref q10, .ref q11, .ref q12, .ref q13, .ref q14, .ref q15, .ref q16, .int 0, .int 0, .long 0, .long 0, .long 0, .int 0])), (q1, .inl (tI, 30, .inl (fun _ => 0))), (q2, .inl (tI, 30, .inl (fun _ => 0))), (q3, .inl (tI, 30, .inl (fun _ => 0))), (q4, .inl (tI, 30, .inl (fun _ => 0))), (q5, .inl (tI, 30, .inl (fun _ => 0))), (q6, .inl (tI, 30, .inl (fun _ => 0))), (q7, .inl (tI, 30, .inl (fun _ => 0))), (q8, .inl (tI, 300, .inl (fun _ => 0))), (q9, .inl (tI, 300, .inl (fun _ => 0))), (q10, .inl (tI, 30, .inl (fun _ => 0))), (q11, .inl (tI, 30, .inl (fun _ => 0))), (q12, .inl (tI, 30, .inl (fun _ => 0))), (q13, .inl (tI, 30, .inl (fun _ => 0))), (q14, .inl (tI, 30, .inl (fun _ => 0))), (q15, .inl (tI, 10, .inl (fun _ => 0))), (q16, .inl (tI, 6, .inl (upd (upd (upd (upd (upd (fun _ => 0) 0 10) 1 10) 2 10) 3 10) 4 10)))] H := hP
  have hD : va_D A [(h0, .inr (3, [.int 0, .ref q1, .ref q2, .ref q3, .ref q4, .ref q5, .ref q6, .ref q7, .ref q8, .ref q9, .int 0, .ref q10, .ref q11, .ref q12, .ref q13, .ref q14, .ref q15, .ref q16, .int 0, .int 0, .long 0, .long 0, .long 0, .int 0])), (q1, .inl (tI, 30, .inl (fun _ => 0))), (q2, .inl (tI, 30, .inl (fun _ => 0))), (q3, .inl (tI, 30, .inl (fun _ => 0))), (q4, .inl (tI, 30, .inl (fun _ => 0))), (q5, .inl (tI, 30, .inl (fun _ => 0))), (q6, .inl (tI, 30, .inl (fun _ => 0))), (q7, .inl (tI, 30, .inl (fun _ => 0))), (q8, .inl (tI, 300, .inl (fun _ => 0))), (q9, .inl (tI, 300, .inl (fun _ => 0))), (q10, .inl (tI, 30, .inl (fun _ => 0))), (q11, .inl (tI, 30, .inl (fun _ => 0))), (q12, .inl (tI, 30, .inl (fun _ => 0))), (q13, .inl (tI, 30, .inl (fun _ => 0))), (q14, .inl (tI, 30, .inl (fun _ => 0))), (q15, .inl (tI, 10, .inl (fun _ => 0))), (q16, .inl (tI, 6, .inl (upd (upd (upd (upd (upd (fun _ => 0) 0 10) 1 10) 2 10) 3 10) 4 10)))] := hD
  refine lv_iinc (v := 5) (lv' := [(1, .int 5), (0, .ref h0)]) hx hb dM_init_150 hl (k := 0) rfl (by decide) (by decide) rfl (fun ls hl => ?_)
  refine lv_goto (tgt := 136) hx hb dM_init_153 (by decide) ?_
  refine lv_iload_n hx hb dM_init_136 rfl (lv_at hl 0 rfl) ?_
  refine lv_bipush (v := 6) hx hb dM_init_137 (by decide) ?_
  refine lv_icmp_ge (tgt := 156) hx hb dM_init_139 (by decide) (fun c_6 => ?_) (fun c_6 => ?_)
  · exact absurd c_6 (by decide)
  refine lv_aload_n hx hb dM_init_142 rfl (lv_at hl 1 rfl) ?_
  refine va_get (D := D) (ci := 3) (v := .ref q16) (C := "DroitLineModel") (T := F_M) (N := 24) hx hb hts i_M hown hK hP 0 rfl rfl 17 (by decide) (hts _ q_527) (fun _ h9 => h9) rfl dM_init_143 ?_
  refine lv_iload_n hx hb dM_init_146 rfl (lv_at hl 0 rfl) ?_
  refine lv_bipush (v := 10) hx hb dM_init_147 (by decide) ?_
  refine va_iast hx hb hK hP hD hS 16 0 rfl rfl (by rw [vp_in_iff]; decide) dM_init_149 (fun H locs hP hD hS => ?_)
  have hP : va_P D classes [(h0, .inr (3, [.int 0, .ref q1, .ref q2, .ref q3, .ref q4, .ref q5, .ref q6, .ref q7, .ref q8, .ref q9, .int 0, .ref q10, .ref q11, .ref q12, .ref q13, .ref q14, .ref q15, .ref q16, .int 0, .int 0, .long 0, .long 0, .long 0, .int 0])), (q1, .inl (tI, 30, .inl (fun _ => 0))), (q2, .inl (tI, 30, .inl (fun _ => 0))), (q3, .inl (tI, 30, .inl (fun _ => 0))), (q4, .inl (tI, 30, .inl (fun _ => 0))), (q5, .inl (tI, 30, .inl (fun _ => 0))), (q6, .inl (tI, 30, .inl (fun _ => 0))), (q7, .inl (tI, 30, .inl (fun _ => 0))), (q8, .inl (tI, 300, .inl (fun _ => 0))), (q9, .inl (tI, 300, .inl (fun _ => 0))), (q10, .inl (tI, 30, .inl (fun _ => 0))), (q11, .inl (tI, 30, .inl (fun _ => 0))), (q12, .inl (tI, 30, .inl (fun _ => 0))), (q13, .inl (tI, 30, .inl (fun _ => 0))), (q14, .inl (tI, 30, .inl (fun _ => 0))), (q15, .inl (tI, 10, .inl (fun _ => 0))), (q16, .inl (tI, 6, .inl (upd (upd (upd (upd (upd (upd (fun _ => 0) 0 10) 1 10) 2 10) 3 10) 4 10) 5 10)))] H := hP
  have hD : va_D A [(h0, .inr (3, [.int 0, .ref q1, .ref q2, .ref q3, .ref q4, .ref q5, .ref q6, .ref q7, .ref q8, .ref q9, .int 0, .ref q10, .ref q11, .ref q12, .ref q13, .ref q14, .ref q15, .ref q16, .int 0, .int 0, .long 0, .long 0, .long 0, .int 0])), (q1, .inl (tI, 30, .inl (fun _ => 0))), (q2, .inl (tI, 30, .inl (fun _ => 0))), (q3, .inl (tI, 30, .inl (fun _ => 0))), (q4, .inl (tI, 30, .inl (fun _ => 0))), (q5, .inl (tI, 30, .inl (fun _ => 0))), (q6, .inl (tI, 30, .inl (fun _ => 0))), (q7, .inl (tI, 30, .inl (fun _ => 0))), (q8, .inl (tI, 300, .inl (fun _ => 0))), (q9, .inl (tI, 300, .inl (fun _ => 0))), (q10, .inl (tI, 30, .inl (fun _ => 0))), (q11, .inl (tI, 30, .inl (fun _ => 0))), (q12, .inl (tI, 30, .inl (fun _ => 0))), (q13, .inl (tI, 30, .inl (fun _ => 0))), (q14, .inl (tI, 30, .inl (fun _ => 0))), (q15, .inl (tI, 10, .inl (fun _ => 0))), (q16, .inl (tI, 6, .inl (upd (upd (upd (upd (upd (upd (fun _ => 0) 0 10) 1 10) 2 10) 3 10) 4 10) 5 10)))] := hD
  refine lv_iinc (v := 6) (lv' := [(1, .int 6), (0, .ref h0)]) hx hb dM_init_150 hl (k := 0) rfl (by decide) (by decide) rfl (fun ls hl => ?_)
  refine lv_goto (tgt := 136) hx hb dM_init_153 (by decide) ?_
  refine lv_iload_n hx hb dM_init_136 rfl (lv_at hl 0 rfl) ?_
  refine lv_bipush (v := 6) hx hb dM_init_137 (by decide) ?_
  refine lv_icmp_ge (tgt := 156) hx hb dM_init_139 (by decide) (fun c_7 => ?_) (fun c_7 => ?_)
  rotate_left
  · exact absurd c_7 (by decide)
  refine lv_aload_n hx hb dM_init_156 rfl (lv_at hl 1 rfl) ?_
  refine lv_bipush (v := 20) hx hb dM_init_157 (by decide) ?_
  refine va_put (D := D) (ci := 3) (v := .int 20) (ty := (t_M 18)) (C := "DroitLineModel") (T := F_M) (N := 24) hx hb hts i_M t_M t_M_ok n_M hown hK hP hD hS 0 rfl rfl 18 (by decide) (hts _ q_528) (fun _ h9 => h9) rfl (by decide +kernel) rfl rfl (Nat.le_of_ble_eq_true rfl) dM_init_159 (fun H locs hP hD hS => ?_)
  have hP : va_P D classes [(h0, .inr (3, [.int 0, .ref q1, .ref q2, .ref q3, .ref q4, .ref q5, .ref q6, .ref q7, .ref q8, .ref q9, .int 0, .ref q10, .ref q11, .ref q12, .ref q13, .ref q14, .ref q15, .ref q16, .int 20, .int 0, .long 0, .long 0, .long 0, .int 0])), (q1, .inl (tI, 30, .inl (fun _ => 0))), (q2, .inl (tI, 30, .inl (fun _ => 0))), (q3, .inl (tI, 30, .inl (fun _ => 0))), (q4, .inl (tI, 30, .inl (fun _ => 0))), (q5, .inl (tI, 30, .inl (fun _ => 0))), (q6, .inl (tI, 30, .inl (fun _ => 0))), (q7, .inl (tI, 30, .inl (fun _ => 0))), (q8, .inl (tI, 300, .inl (fun _ => 0))), (q9, .inl (tI, 300, .inl (fun _ => 0))), (q10, .inl (tI, 30, .inl (fun _ => 0))), (q11, .inl (tI, 30, .inl (fun _ => 0))), (q12, .inl (tI, 30, .inl (fun _ => 0))), (q13, .inl (tI, 30, .inl (fun _ => 0))), (q14, .inl (tI, 30, .inl (fun _ => 0))), (q15, .inl (tI, 10, .inl (fun _ => 0))), (q16, .inl (tI, 6, .inl (upd (upd (upd (upd (upd (upd (fun _ => 0) 0 10) 1 10) 2 10) 3 10) 4 10) 5 10)))] H := hP
  have hD : va_D A [(h0, .inr (3, [.int 0, .ref q1, .ref q2, .ref q3, .ref q4, .ref q5, .ref q6, .ref q7, .ref q8, .ref q9, .int 0, .ref q10, .ref q11, .ref q12, .ref q13, .ref q14, .ref q15, .ref q16, .int 20, .int 0, .long 0, .long 0, .long 0, .int 0])), (q1, .inl (tI, 30, .inl (fun _ => 0))), (q2, .inl (tI, 30, .inl (fun _ => 0))), (q3, .inl (tI, 30, .inl (fun _ => 0))), (q4, .inl (tI, 30, .inl (fun _ => 0))), (q5, .inl (tI, 30, .inl (fun _ => 0))), (q6, .inl (tI, 30, .inl (fun _ => 0))), (q7, .inl (tI, 30, .inl (fun _ => 0))), (q8, .inl (tI, 300, .inl (fun _ => 0))), (q9, .inl (tI, 300, .inl (fun _ => 0))), (q10, .inl (tI, 30, .inl (fun _ => 0))), (q11, .inl (tI, 30, .inl (fun _ => 0))), (q12, .inl (tI, 30, .inl (fun _ => 0))), (q13, .inl (tI, 30, .inl (fun _ => 0))), (q14, .inl (tI, 30, .inl (fun _ => 0))), (q15, .inl (tI, 10, .inl (fun _ => 0))), (q16, .inl (tI, 6, .inl (upd (upd (upd (upd (upd (upd (fun _ => 0) 0 10) 1 10) 2 10) 3 10) 4 10) 5 10)))] := hD
  exact W.vret hx hb hr (fun t ht hW => ⟨⟨(), rfl, trivial, q1, q2, q3, q4, q5, q6, q7, q8, q9, q10, q11, q12, q13, q14, q15, q16, by rw [ht]; exact hP, hD⟩, hS.F ht⟩) hS.2.2 dM_init_162
