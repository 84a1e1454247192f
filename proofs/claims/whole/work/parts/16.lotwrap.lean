section G6
variable {p : Program} {l : Launch} {e : Env} {R : Room} {s : State} {m : MethodId} {args : Array Value} {below : List Frame} {meth : Method} {c : Code} {H : Heap} {locs : List Loc} {cells slots : Nat} {Q : State → Prop}
variable {D : va_G} {tI tJ tL : ClassId} {A : Nat → Prop} {sg ad : Nat → Nat} {n : Nat} {sL : NL} {sA : NA}
variable {cc : ByteArray} {pc : Nat} {ls : Array Slot} {rest st0 : List Value}
theorem rcV5L {y : MethodName} {bytes : ByteArray} {maxL nL index b mc ms k : Nat} {ret : Option FieldType} {rm : Room} {own : String} {As : List Value} {sA2 : NA} (hx : p.tables.exec = Jvm.exec) (hb : c.code = cc) (hml : c.maxLocals = nL) (hown : s.vm.findClass own = some m.cls) (hts : ∀ w ∈ wNeed, w.before args s = true) (hC : GC D tI tJ tL A sg s) (hG : GW D tI tJ tL A ad n sL sA H) (hS : va_S A s.heap H locs)
    (hM : vx_Met l y (Cond.code y bytes maxL ret :: wNeed) rm (va_Pc (.ref b :: As) (GP D tI tJ tL A sg ad n sL sA)) (va_Qi (fun r (ad2 : Nat → Nat) => k = 0 ∧ r = nI n ∧ ∀ j, j < 4 * n + 22 → ad2 j = ad j) (fun ad2 t => GW D tI tJ tL A ad2 (n + 1) sL sA2 t.heap) A) (XQ D tI tJ tL A ad n sL sA k) mc ms A) (hrec : ∃ cell : Cell, H[b]? = some cell ∧ cell.vm.isStatics = false ∧ s.vm.findClass y.cls = some cell.cls) (hg : GoodIn wNeed (wsV own index y.cls y (Cond.code y bytes maxL ret :: wNeed))) (hrc : rm.cells = mc) (hrs : rm.slots = ms)
    (hd : y.cls = y.cls ∧ y.cls ≠ "java/lang/invoke/MethodHandle" ∧ y.cls ≠ "java/lang/invoke/VarHandle" ∧ (parseMethodDescriptor y.desc).map (fun d => d.parameters.length) = some As.length) (hR : rm.frames + 1 ≤ R.frames ∧ 8 + (maxL + 11) + rm.locals ≤ R.locals)
    (hsz : ls.size = nL) (hst : st0 = As.reverse ++ .ref b :: rest) (hr8 : (rest.map fun v => v.category).sum ≤ 8) (hdg : decode cc pc = .ok (.invokevirtual index, 3)) (hf : cells + mc ≤ R.cells ∧ slots + ms ≤ R.slots)
    (kx : ∀ (E : String) (ce : Cell) (q9 : Addr) (H1 : Heap) (locs1 : List Loc), XE E k → GW D tI tJ tL A ad n sL sA H1 → va_S A s.heap H1 locs1 → H1[q9]? = some ce → ce.vm = .none → s.vm.findClass E = some ce.cls → vx_W p l e R s m args below meth c H1 locs1 (cells + mc) (slots + ms) Q (F0 m pc ls rest) q9)
    (kk : k = 0 → ∀ (ad2 : Nat → Nat), (∀ j, j < 4 * n + 22 → ad2 j = ad j) → ∀ (H1 : Heap) (locs1 : List Loc), GW D tI tJ tL A ad2 (n + 1) sL sA2 H1 → va_S A s.heap H1 locs1 → W p l e R s m args below meth c H1 locs1 (cells + mc) (slots + ms) Q (F0 m (pc + 3) ls (.int (nI n) :: rest))) : W p l e R s m args below meth c H locs cells slots Q (F0 m pc ls st0) := by
  refine vx_calli (rest := rest) (vx_runV (As := As) (b := b) ⟨hx, hb, hml, hown, hts⟩ hM (cwV As.length hts hg rfl hrc hrs hd hR) ⟨GP.blind, hrec, fun U hU hW => ⟨rfl, GP.call hC hG hS hU hW⟩⟩ rfl rfl hsz hst (lv_room hr8) hdg hf) hS (fun _ _ h => h) (fun _ h => h) (fun _ _ h => h) ?_ ?_
  · intro E ce q9 u t H1 locs1 ht hvm hp hB hz1 hk1 hS1 g1 g2 g3
    subst ht
    exact kx E ce q9 _ _ hB.1 hB.2 hS1 g1 g2 g3
  · intro r ad2 t H1 locs1 ht hvm hp hB hz1 hk1 hS1
    subst ht
    obtain ⟨h1, rfl, h3⟩ := hp
    exact kk h1 ad2 h3 _ _ hB hS1
end G6
/-- what the law's own 'lot' does: its code, or the world with one lot more -/
def lotRel (k c : Nat) (r : Int32) (ad : Nat → Nat) (n : Nat) (sL : NL) (sA sA2 : NA) (u : (Nat → Nat) × Nat × NL × NA) : Prop :=
  (c = 0 ∧ r = 0 ∧ u.2 = (n + 1, up2L sL 4 0 (nI n).toInt64, sA2) ∧ ∀ j, j < k → u.1 j = ad j) ∨ (c ≠ 0 ∧ r = nI c ∧ u = (ad, n, sL, sA))
theorem hdyW_lot : yW_lot.cls ≠ "java/lang/invoke/MethodHandle" ∧ yW_lot.cls ≠ "java/lang/invoke/VarHandle" ∧ (parseMethodDescriptor yW_lot.desc).map (fun d => d.parameters.length) = some 5 := by decide +kernel
theorem dW_lot_0 : decode bW_lot 0 = .ok (.aload 4, 2) := by decide +kernel
theorem dW_lot_2 : decode bW_lot 2 = .ok (.iconst 0, 1) := by decide +kernel
theorem dW_lot_3 : decode bW_lot 3 = .ok (.aload_n 0, 1) := by decide +kernel
theorem dW_lot_4 : decode bW_lot 4 = .ok (.iload_n 1, 1) := by decide +kernel
theorem dW_lot_5 : decode bW_lot 5 = .ok (.iload_n 2, 1) := by decide +kernel
theorem dW_lot_6 : decode bW_lot 6 = .ok (.iload_n 3, 1) := by decide +kernel
theorem dW_lot_7 : decode bW_lot 7 = .ok (.invokevirtual 7, 3) := by decide +kernel
theorem dW_lot_10 : decode bW_lot 10 = .ok (.i2l, 1) := by decide +kernel
theorem dW_lot_11 : decode bW_lot 11 = .ok (.lastore, 1) := by decide +kernel
theorem dW_lot_12 : decode bW_lot 12 = .ok (.goto 15, 3) := by decide +kernel
theorem dW_lot_15 : decode bW_lot 15 = .ok (.astore 5, 2) := by decide +kernel
theorem dW_lot_17 : decode bW_lot 17 = .ok (.iconst 1, 1) := by decide +kernel
theorem dW_lot_18 : decode bW_lot 18 = .ok (.ireturn, 1) := by decide +kernel
theorem dW_lot_19 : decode bW_lot 19 = .ok (.astore 5, 2) := by decide +kernel
theorem dW_lot_21 : decode bW_lot 21 = .ok (.iconst 2, 1) := by decide +kernel
theorem dW_lot_22 : decode bW_lot 22 = .ok (.ireturn, 1) := by decide +kernel
theorem dW_lot_23 : decode bW_lot 23 = .ok (.astore 5, 2) := by decide +kernel
theorem dW_lot_25 : decode bW_lot 25 = .ok (.iconst 3, 1) := by decide +kernel
theorem dW_lot_26 : decode bW_lot 26 = .ok (.ireturn, 1) := by decide +kernel
theorem dW_lot_27 : decode bW_lot 27 = .ok (.iconst 0, 1) := by decide +kernel
theorem dW_lot_28 : decode bW_lot 28 = .ok (.ireturn, 1) := by decide +kernel
set_option maxHeartbeats 4000000 in
set_option maxRecDepth 100000 in
theorem cW_lot (l : Launch) (hl9 : l.stackTraces = false) (D : va_G) (tI tJ tL : ClassId) (A : Nat → Prop) (sg ad : Nat → Nat) (n : Nat) (sL : NL) (sA : NA) (p0 p1 p2 : Int32) (hn30 : n ≤ 30) (hln : sA 0 3 = nI n) : Met l yW_lot (Cond.codeWith yW_lot bW_lot 6 (some FieldType.int) [(0, 12, 15, 13), (0, 12, 19, 15), (0, 12, 23, 17)] :: wNeed) { frames := 9, cells := 7, slots := 54, locals := 156 } (va_Pc [.ref (ad 0), .int p0, .int p1, .int p2, .ref (ad 4)] (GP D tI tJ tL A sg ad n sL sA)) (va_Qi (fun r u => lotRel (4 * n + 22) (fX_lot sL sA p0 p1 p2) r ad n sL sA (up2 (newlot sA n p0 (fX_calledAmount p1) p2) 0 3 (sA 0 3 + 1)) u) (fun u t => GW D tI tJ tL A u.1 u.2.1 u.2.2.1 u.2.2.2 t.heap) A) 7 54 A := by
  refine en_W (av := [.ref (ad 0), .int p0, .int p1, .int p2, .ref (ad 4)]) (by decide) (Nat.le_of_ble_eq_true rfl) ?_
  intro p e s m below meth c hx hb hml hown hts hr hlocks hTab hC H locs hG hS ls hl
  replace hl : lv_has ls 6 [(0, .ref (ad 0)), (1, .int p0), (2, .int p1), (3, .int p2), (4, .ref (ad 4))] := hl
  refine lv_aload hx hb dW_lot_0 (lv_at hl 4 rfl) ?_
  refine lv_iconst (v := 0) hx hb dW_lot_2 (by decide) ?_
  refine lv_aload_n hx hb dW_lot_3 rfl (lv_at hl 0 rfl) ?_
  refine lv_iload_n hx hb dW_lot_4 rfl (lv_at hl 1 rfl) ?_
  refine lv_iload_n hx hb dW_lot_5 rfl (lv_at hl 2 rfl) ?_
  refine lv_iload_n hx hb dW_lot_6 rfl (lv_at hl 3 rfl) ?_
  refine rcV5L (rest := [.int 0, .ref (ad 4)]) (As := [.int p0, .int p1, .int p2]) hx hb hml hown hts hC hG hS (cX_lot l hl9 D tI tJ tL A sg ad n sL sA p0 p1 p2 hn30 hln) (recX hC hG) (gV q_85 q_86 q_87 q_1 q_88) rfl rfl ⟨rfl, hdyX_lot⟩ ⟨Nat.le_of_ble_eq_true rfl, Nat.le_of_ble_eq_true rfl⟩ hl.1 rfl (Nat.le_of_ble_eq_true rfl) dW_lot_7 ⟨Nat.le_of_ble_eq_true rfl, Nat.le_of_ble_eq_true rfl⟩ (fun E ce q9 H locs hE hG hS g1 g2 g3 => ?_) (fun h_0 ad2 had H locs hG hS => ?_)
  · rcases hE with ⟨rfl, h_1⟩ | ⟨rfl, h_1⟩ | ⟨rfl, h_1⟩
    · refine vx_catch (name := "java/lang/IndexOutOfBoundsException") (E := XI) hown [] (⟨0, 12, 15, 13⟩ : ExceptionTableEntry) [(⟨0, 12, 19, 15⟩ : ExceptionTableEntry), (⟨0, 12, 23, 17⟩ : ExceptionTableEntry)] (by rw [hTab]; rfl) (List.forall_mem_nil _) rfl (by decide) (hts _ q_82) (va_Nw.use rfl (hC.2.2.2.2.2.1 _ zc_1)) g1 g2 g3 ?_
      refine lv_astore (lv' := [(5, .ref q9), (0, .ref (ad 0)), (1, .int p0), (2, .int p1), (3, .int p2), (4, .ref (ad 4))]) hx hb dW_lot_15 hl (by decide) rfl (fun ls hl => ?_)
      refine lv_iconst (v := 1) hx hb dW_lot_17 (by decide) ?_
      refine W.widen (k := 7) (n := 54) (Nat.le_of_ble_eq_true rfl) (Nat.le_of_ble_eq_true rfl) ?_
      exact W.iret (v := 1) hx hb hr (fun t ht hW => ⟨⟨1, (ad, n, sL, sA), rfl, Or.inr ⟨by rw [h_1]; decide, by rw [h_1]; rfl, rfl⟩, gw_at hG ht⟩, hS.F ht⟩) hS.2.2 dW_lot_18
    · refine vx_catch (name := "java/lang/IllegalArgumentException") (E := XG) hown [(⟨0, 12, 15, 13⟩ : ExceptionTableEntry)] (⟨0, 12, 19, 15⟩ : ExceptionTableEntry) [(⟨0, 12, 23, 17⟩ : ExceptionTableEntry)] (by rw [hTab]; rfl) ((List.forall_mem_cons.mpr ⟨Or.inr ⟨by decide, "java/lang/IndexOutOfBoundsException", hts _ q_82, hC.2.2.2.2.2.2 (XG, XI) (by decide)⟩, List.forall_mem_nil _⟩)) rfl (by decide) (hts _ q_83) (va_Nw.use rfl (hC.2.2.2.2.2.1 _ zc_2)) g1 g2 g3 ?_
      refine lv_astore (lv' := [(5, .ref q9), (0, .ref (ad 0)), (1, .int p0), (2, .int p1), (3, .int p2), (4, .ref (ad 4))]) hx hb dW_lot_19 hl (by decide) rfl (fun ls hl => ?_)
      refine lv_iconst (v := 2) hx hb dW_lot_21 (by decide) ?_
      refine W.widen (k := 7) (n := 54) (Nat.le_of_ble_eq_true rfl) (Nat.le_of_ble_eq_true rfl) ?_
      exact W.iret (v := 2) hx hb hr (fun t ht hW => ⟨⟨2, (ad, n, sL, sA), rfl, Or.inr ⟨by rw [h_1]; decide, by rw [h_1]; rfl, rfl⟩, gw_at hG ht⟩, hS.F ht⟩) hS.2.2 dW_lot_22
    · refine vx_catch (name := "java/lang/IllegalStateException") (E := XS) hown [(⟨0, 12, 15, 13⟩ : ExceptionTableEntry), (⟨0, 12, 19, 15⟩ : ExceptionTableEntry)] (⟨0, 12, 23, 17⟩ : ExceptionTableEntry) [] (by rw [hTab]; rfl) ((List.forall_mem_cons.mpr ⟨Or.inr ⟨by decide, "java/lang/IndexOutOfBoundsException", hts _ q_82, hC.2.2.2.2.2.2 (XS, XI) (by decide)⟩, (List.forall_mem_cons.mpr ⟨Or.inr ⟨by decide, "java/lang/IllegalArgumentException", hts _ q_83, hC.2.2.2.2.2.2 (XS, XG) (by decide)⟩, List.forall_mem_nil _⟩)⟩)) rfl (by decide) (hts _ q_84) (va_Nw.use rfl (hC.2.2.2.2.2.1 _ zc_3)) g1 g2 g3 ?_
      refine lv_astore (lv' := [(5, .ref q9), (0, .ref (ad 0)), (1, .int p0), (2, .int p1), (3, .int p2), (4, .ref (ad 4))]) hx hb dW_lot_23 hl (by decide) rfl (fun ls hl => ?_)
      refine lv_iconst (v := 3) hx hb dW_lot_25 (by decide) ?_
      refine W.widen (k := 7) (n := 54) (Nat.le_of_ble_eq_true rfl) (Nat.le_of_ble_eq_true rfl) ?_
      exact W.iret (v := 3) hx hb hr (fun t ht hW => ⟨⟨3, (ad, n, sL, sA), rfl, Or.inr ⟨by rw [h_1]; decide, by rw [h_1]; rfl, rfl⟩, gw_at hG ht⟩, hS.F ht⟩) hS.2.2 dW_lot_26
  · refine lv_i2l (v := (nI n).toInt64) hx hb dW_lot_10 rfl ?_
    refine W.eq (g2 := F0 m 11 ls [.long (nI n).toInt64, .int 0, .ref (ad2 4)]) (by rw [had 4 (by omega)]) ?_
    refine rt_st hx hb hC hG hS dW_lot_11 (fun H locs hG hS => ?_)
    refine lv_goto (tgt := 27) hx hb dW_lot_12 (by decide) ?_
    refine lv_iconst (v := 0) hx hb dW_lot_27 (by decide) ?_
    refine W.widen (k := 7) (n := 54) (Nat.le_of_ble_eq_true rfl) (Nat.le_of_ble_eq_true rfl) ?_
    exact W.iret (v := 0) hx hb hr (fun t ht hW => ⟨⟨0, (ad2, n + 1, up2L sL 4 0 (nI n).toInt64, (up2 (newlot sA n p0 (fX_calledAmount p1) p2) 0 3 (sA 0 3 + 1))), rfl, Or.inl ⟨h_0, rfl, rfl, had⟩, gw_at hG ht⟩, hS.F ht⟩) hS.2.2 dW_lot_28
