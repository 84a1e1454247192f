theorem en_W {l : Launch} {y : MethodName} {rm : Room} {av : List Value} {D : va_G} {tI tJ tL : ClassId} {A : Nat → Prop} {sg ad : Nat → Nat} {n : Nat} {sL : NL} {sA : NA} {Qc : Array Value → State → Outcome → State → Prop} {mc ms : Nat} {free : Addr → Prop} {cc : ByteArray} {maxL : Nat} {ret : Option FieldType} {hh : List (Nat × Nat × Nat × Nat)} (hy : plainName y.cls = true) (hle : (lg_sl av).length ≤ maxL)
    (body : ∀ (p : Program) (e : Env) (s : State) (m : MethodId) (below : List Frame) (meth : Method) (c : Code), p.tables.exec = Jvm.exec → c.code = cc → c.maxLocals = maxL → s.vm.findClass y.cls = some m.cls → (∀ w ∈ wNeed, w.before av.toArray s = true) → meth.sig.returnType = ret → meth.locks = false → c.exceptionTable.toList = tableOf hh → GC D tI tJ tL A sg s → ∀ (H : Heap) (locs : List Loc), GW D tI tJ tL A ad n sL sA H → va_S A s.heap H locs → ∀ ls : Array Slot, lv_has ls maxL (lv_args 0 av) →
      W p l e rm s m av.toArray below meth c H locs 0 0 (MQ below Qc av.toArray s mc ms free) (F0 m 0 ls [])) : Met l y (Cond.codeWith y cc maxL ret hh :: wNeed) rm (va_Pc av (GP D tI tJ tL A sg ad n sL sA)) Qc mc ms free := by
  refine va_MetW (cc := cc) (maxL := maxL) (ret := ret) (hh := hh) hy rfl ?_
  intro p e s m args below meth c s₁ B hml hv
  obtain ⟨rfl, hP⟩ := hv
  have hts := atoms_spec (ws := Cond.codeWith y cc maxL ret hh :: wNeed) B.pre
  rw [lg_entry_eq]
  exact body p e s m below meth c B.exec B.bytes hml (findClass_of_methodNamed B.named) (fun w hw => hts w (List.mem_cons_of_mem _ hw)) B.returns B.notSynchronized (vx_table (x := y) B (hts _ List.mem_cons_self)) hP.2 s.heap [] hP.1 va_S.rf _ (lv_entry av hle)
def wrapR (F : Nat × Int32 × NL × NA) (k1 k2 k3 : Int32) (sL : NL) (sA : NA) : Int32 × NL × NA := if F.1 = 0 then (0, up2L F.2.2.1 4 0 (F.2.1).toInt64, F.2.2.2) else if F.1 = 1 then (k1, sL, sA) else if F.1 = 2 then (k2, sL, sA) else (k3, sL, sA)
theorem wrapR_0 {F : Nat × Int32 × NL × NA} {k1 k2 k3 : Int32} {sL : NL} {sA : NA} (h : F.1 = 0) : wrapR F k1 k2 k3 sL sA = (0, up2L F.2.2.1 4 0 (F.2.1).toInt64, F.2.2.2) := if_pos h
theorem wrapR_1 {F : Nat × Int32 × NL × NA} {k1 k2 k3 : Int32} {sL : NL} {sA : NA} (h : F.1 = 1) : wrapR F k1 k2 k3 sL sA = (k1, sL, sA) := by unfold wrapR; rw [if_neg (by omega), if_pos h]
theorem wrapR_2 {F : Nat × Int32 × NL × NA} {k1 k2 k3 : Int32} {sL : NL} {sA : NA} (h : F.1 = 2) : wrapR F k1 k2 k3 sL sA = (k2, sL, sA) := by unfold wrapR; rw [if_neg (by omega), if_neg (by omega), if_pos h]
theorem wrapR_3 {F : Nat × Int32 × NL × NA} {k1 k2 k3 : Int32} {sL : NL} {sA : NA} (h : F.1 = 3) : wrapR F k1 k2 k3 sL sA = (k3, sL, sA) := by unfold wrapR; rw [if_neg (by omega), if_neg (by omega), if_neg (by omega)]
theorem bnd_ne {k c : Nat} {α : Type} {r : Nat × α} {z : α} (h1 : k ≠ c) (h2 : r.1 ≠ c) : (bnd k r z).1 ≠ c := by
  unfold bnd; split
  · exact h2
  · exact h1
theorem bndq_ne {c : Nat} {α : Type} {k : Option Nat} {r : Nat → Nat × α} {z : α} (h1 : 1 ≠ c) (h2 : ∀ i, (r i).1 ≠ c) : (bndq k r z).1 ≠ c := by
  cases k with
  | none => exact h1
  | some i => exact h2 i
theorem ite_ne {P : Prop} [Decidable P] {c : Nat} {α : Type} {x y : Nat × α} (h1 : x.1 ≠ c) (h2 : y.1 ≠ c) : (if P then x else y).1 ≠ c := by
  split
  · exact h1
  · exact h2
theorem seller_ne {p : Int32} {c : Nat} (h0 : 0 ≠ c) (h1 : 1 ≠ c) : fX_checkSeller p ≠ c := by unfold fX_checkSeller; (repeat' split) <;> assumption
theorem buyer_ne {p : Int32} {c : Nat} (h0 : 0 ≠ c) (h1 : 1 ≠ c) : fX_checkBuyer p ≠ c := by unfold fX_checkBuyer; (repeat' split) <;> assumption
theorem range_ne {p a b : Int32} {c : Nat} (h0 : 0 ≠ c) (h1 : 2 ≠ c) : fX_checkRange p a b ≠ c := by unfold fX_checkRange; (repeat' split) <;> assumption
theorem state_ne {sL : NL} {sA : NA} {i : Nat} {p : Int32} {c : Nat} (h0 : 0 ≠ c) (h1 : 3 ≠ c) : fX_checkState sL sA i p ≠ c := by unfold fX_checkState; (repeat' split) <;> assumption
theorem hund_ne {sL : NL} {sA : NA} {p : Int32} {c : Nat} (h0 : 0 ≠ c) (h1 : 1 ≠ c) : (fX_hundredthsOf sL sA p).1 ≠ c := by rw [fX_hundredthsOf]; exact bnd_ne (seller_ne h0 h1) h0
theorem owedBy_ne {sL : NL} {sA : NA} {p : Int32} {c : Nat} (h0 : 0 ≠ c) (h1 : 1 ≠ c) : (fX_owedBy sL sA p).1 ≠ c := by rw [fX_owedBy]; exact bnd_ne (buyer_ne h0 h1) h0
section G5
variable {p : Program} {l : Launch} {e : Env} {R : Room} {s : State} {m : MethodId} {args : Array Value} {below : List Frame} {meth : Method} {c : Code} {H : Heap} {locs : List Loc} {cells slots : Nat} {Q : State → Prop}
variable {D : va_G} {tI tJ tL : ClassId} {A : Nat → Prop} {sg ad : Nat → Nat} {n : Nat} {sL : NL} {sA : NA}
variable {cc : ByteArray} {pc : Nat} {ls : Array Slot} {rest st0 : List Value}
/-- a call of the class out of a method that catches -/
theorem rcV5w {y : MethodName} {bytes : ByteArray} {maxL nL index b mc ms : Nat} {ret : Option FieldType} {rm : Room} {own : String} {As : List Value} {F : Nat × Int32 × NL × NA} (hx : p.tables.exec = Jvm.exec) (hb : c.code = cc) (hml : c.maxLocals = nL) (hown : s.vm.findClass own = some m.cls) (hts : ∀ w ∈ wNeed, w.before args s = true) (hC : GC D tI tJ tL A sg s) (hG : GW D tI tJ tL A ad n sL sA H) (hS : va_S A s.heap H locs)
    (hM : vx_Met l y (Cond.code y bytes maxL ret :: wNeed) rm (va_Pc (.ref b :: As) (GP D tI tJ tL A sg ad n sL sA)) (va_Qi (fun r (u : NL × NA) => F = (0, r, u.1, u.2)) (fun u t => GW D tI tJ tL A ad n u.1 u.2 t.heap) A) (XQ D tI tJ tL A ad n sL sA F.1) mc ms A) (hrec : ∃ cell : Cell, H[b]? = some cell ∧ cell.vm.isStatics = false ∧ s.vm.findClass y.cls = some cell.cls) (hg : GoodIn wNeed (wsV own index y.cls y (Cond.code y bytes maxL ret :: wNeed))) (hrc : rm.cells = mc) (hrs : rm.slots = ms)
    (hd : y.cls = y.cls ∧ y.cls ≠ "java/lang/invoke/MethodHandle" ∧ y.cls ≠ "java/lang/invoke/VarHandle" ∧ (parseMethodDescriptor y.desc).map (fun d => d.parameters.length) = some As.length) (hR : rm.frames + 1 ≤ R.frames ∧ 8 + (maxL + 11) + rm.locals ≤ R.locals)
    (hsz : ls.size = nL) (hst : st0 = As.reverse ++ .ref b :: rest) (hr8 : (rest.map fun v => v.category).sum ≤ 8) (hdg : decode cc pc = .ok (.invokevirtual index, 3)) (hf : cells + mc ≤ R.cells ∧ slots + ms ≤ R.slots)
    (kx : ∀ (E : String) (ce : Cell) (q9 : Addr) (H1 : Heap) (locs1 : List Loc), XE E F.1 → GW D tI tJ tL A ad n sL sA H1 → va_S A s.heap H1 locs1 → H1[q9]? = some ce → ce.vm = .none → s.vm.findClass E = some ce.cls → vx_W p l e R s m args below meth c H1 locs1 (cells + mc) (slots + ms) Q (F0 m pc ls rest) q9)
    (kk : F.1 = 0 → ∀ (H1 : Heap) (locs1 : List Loc), GW D tI tJ tL A ad n F.2.2.1 F.2.2.2 H1 → va_S A s.heap H1 locs1 → W p l e R s m args below meth c H1 locs1 (cells + mc) (slots + ms) Q (F0 m (pc + 3) ls (.int F.2.1 :: rest))) : W p l e R s m args below meth c H locs cells slots Q (F0 m pc ls st0) := by
  refine vx_calli (rest := rest) (vx_runV (As := As) (b := b) ⟨hx, hb, hml, hown, hts⟩ hM (cwV As.length hts hg rfl hrc hrs hd hR) ⟨GP.blind, hrec, fun U hU hW => ⟨rfl, GP.call hC hG hS hU hW⟩⟩ rfl rfl hsz hst (lv_room hr8) hdg hf) hS (fun _ _ h => h) (fun _ h => h) (fun _ _ h => h) ?_ ?_
  · intro E ce q9 u t H1 locs1 ht hvm hp hB hz1 hk1 hS1 g1 g2 g3
    subst ht
    exact kx E ce q9 _ _ hB.1 hB.2 hS1 g1 g2 g3
  · intro r u t H1 locs1 ht hvm hp hB hz1 hk1 hS1
    subst ht
    subst hp
    exact kk rfl _ _ hB hS1
end G5
theorem zc_1 : (Jvm.Cond.castable "java/lang/IndexOutOfBoundsException" "java/lang/IndexOutOfBoundsException") ∈ wBad := List.mem_filter.mpr ⟨List.mem_of_getElem? (i := 109) (by decide +kernel), rfl⟩
theorem zc_2 : (Jvm.Cond.castable "java/lang/IllegalArgumentException" "java/lang/IllegalArgumentException") ∈ wBad := List.mem_filter.mpr ⟨List.mem_of_getElem? (i := 181) (by decide +kernel), rfl⟩
theorem zc_3 : (Jvm.Cond.castable "java/lang/IllegalStateException" "java/lang/IllegalStateException") ∈ wBad := List.mem_filter.mpr ⟨List.mem_of_getElem? (i := 200) (by decide +kernel), rfl⟩
def fW_bid (n : Nat) (sL : NL) (sA : NA) (p1 : Int32) (p2 : Int32) (p3 : Int32) : Int32 × NL × NA := wrapR (fX_bid n sL sA p1 p2 p3) 1 2 3 sL sA
theorem hdyW_bid : yW_bid.cls ≠ "java/lang/invoke/MethodHandle" ∧ yW_bid.cls ≠ "java/lang/invoke/VarHandle" ∧ (parseMethodDescriptor yW_bid.desc).map (fun d => d.parameters.length) = some 5 := by decide +kernel
theorem dW_bid_0 : decode bW_bid 0 = .ok (.aload 4, 2) := by decide +kernel
theorem dW_bid_2 : decode bW_bid 2 = .ok (.iconst 0, 1) := by decide +kernel
theorem dW_bid_3 : decode bW_bid 3 = .ok (.aload_n 0, 1) := by decide +kernel
theorem dW_bid_4 : decode bW_bid 4 = .ok (.iload_n 1, 1) := by decide +kernel
theorem dW_bid_5 : decode bW_bid 5 = .ok (.iload_n 2, 1) := by decide +kernel
theorem dW_bid_6 : decode bW_bid 6 = .ok (.iload_n 3, 1) := by decide +kernel
theorem dW_bid_7 : decode bW_bid 7 = .ok (.invokevirtual 19, 3) := by decide +kernel
theorem dW_bid_10 : decode bW_bid 10 = .ok (.i2l, 1) := by decide +kernel
theorem dW_bid_11 : decode bW_bid 11 = .ok (.lastore, 1) := by decide +kernel
theorem dW_bid_12 : decode bW_bid 12 = .ok (.goto 15, 3) := by decide +kernel
theorem dW_bid_15 : decode bW_bid 15 = .ok (.astore 5, 2) := by decide +kernel
theorem dW_bid_17 : decode bW_bid 17 = .ok (.iconst 1, 1) := by decide +kernel
theorem dW_bid_18 : decode bW_bid 18 = .ok (.ireturn, 1) := by decide +kernel
theorem dW_bid_19 : decode bW_bid 19 = .ok (.astore 5, 2) := by decide +kernel
theorem dW_bid_21 : decode bW_bid 21 = .ok (.iconst 2, 1) := by decide +kernel
theorem dW_bid_22 : decode bW_bid 22 = .ok (.ireturn, 1) := by decide +kernel
theorem dW_bid_23 : decode bW_bid 23 = .ok (.astore 5, 2) := by decide +kernel
theorem dW_bid_25 : decode bW_bid 25 = .ok (.iconst 3, 1) := by decide +kernel
theorem dW_bid_26 : decode bW_bid 26 = .ok (.ireturn, 1) := by decide +kernel
theorem dW_bid_27 : decode bW_bid 27 = .ok (.iconst 0, 1) := by decide +kernel
theorem dW_bid_28 : decode bW_bid 28 = .ok (.ireturn, 1) := by decide +kernel
set_option maxHeartbeats 4000000 in
set_option maxRecDepth 100000 in
theorem cW_bid (l : Launch) (hl9 : l.stackTraces = false) (D : va_G) (tI tJ tL : ClassId) (A : Nat → Prop) (sg ad : Nat → Nat) (n : Nat) (sL : NL) (sA : NA) (p1 : Int32) (p2 : Int32) (p3 : Int32) (hcnt : ∀ i, i < n → ∃ cn : Nat, cn ≤ 10 ∧ sA (4 * i + 23) 2 = nI cn) : Met l yW_bid (Cond.codeWith yW_bid bW_bid 6 (some FieldType.int) [(0, 12, 15, 13), (0, 12, 19, 15), (0, 12, 23, 17)] :: wNeed) { frames := 8, cells := 4, slots := 24, locals := 137 } (va_Pc [.ref (ad 0), .int p1, .int p2, .int p3, .ref (ad 4)] (GP D tI tJ tL A sg ad n sL sA)) (va_Qi (fun r (u : NL × NA) => fW_bid n sL sA p1 p2 p3 = (r, u.1, u.2)) (fun u t => GW D tI tJ tL A ad n u.1 u.2 t.heap) A) 4 24 A := by
  refine en_W (av := [.ref (ad 0), .int p1, .int p2, .int p3, .ref (ad 4)]) (by decide) (Nat.le_of_ble_eq_true rfl) ?_
  intro p e s m below meth c hx hb hml hown hts hr hlocks hTab hC H locs hG hS ls hl
  replace hl : lv_has ls 6 [(0, .ref (ad 0)), (1, .int p1), (2, .int p2), (3, .int p3), (4, .ref (ad 4))] := hl
  refine lv_aload hx hb dW_bid_0 (lv_at hl 4 rfl) ?_
  refine lv_iconst (v := 0) hx hb dW_bid_2 (by decide) ?_
  refine lv_aload_n hx hb dW_bid_3 rfl (lv_at hl 0 rfl) ?_
  refine lv_iload_n hx hb dW_bid_4 rfl (lv_at hl 1 rfl) ?_
  refine lv_iload_n hx hb dW_bid_5 rfl (lv_at hl 2 rfl) ?_
  refine lv_iload_n hx hb dW_bid_6 rfl (lv_at hl 3 rfl) ?_
  refine rcV5w (rest := [.int 0, .ref (ad 4)]) (As := [.int p1, .int p2, .int p3]) hx hb hml hown hts hC hG hS (cX_bid l hl9 D tI tJ tL A sg ad n sL sA p1 p2 p3 hcnt) (recX hC hG) (gV q_280 q_281 q_282 q_1 q_283) rfl rfl ⟨rfl, hdyX_bid⟩ ⟨Nat.le_of_ble_eq_true rfl, Nat.le_of_ble_eq_true rfl⟩ hl.1 rfl (Nat.le_of_ble_eq_true rfl) dW_bid_7 ⟨Nat.le_of_ble_eq_true rfl, Nat.le_of_ble_eq_true rfl⟩ (fun E ce q9 H locs hE hG hS g1 g2 g3 => ?_) (fun h_0 H locs hG hS => ?_)
  · rcases hE with ⟨rfl, h_1⟩ | ⟨rfl, h_1⟩ | ⟨rfl, h_1⟩
    · refine vx_catch (name := "java/lang/IndexOutOfBoundsException") (E := XI) hown [] (⟨0, 12, 15, 13⟩ : ExceptionTableEntry) [(⟨0, 12, 19, 15⟩ : ExceptionTableEntry), (⟨0, 12, 23, 17⟩ : ExceptionTableEntry)] (by rw [hTab]; rfl) (List.forall_mem_nil _) rfl (by decide) (hts _ q_82) (va_Nw.use rfl (hC.2.2.2.2.2.1 _ zc_1)) g1 g2 g3 ?_
      refine lv_astore (lv' := [(5, .ref q9), (0, .ref (ad 0)), (1, .int p1), (2, .int p2), (3, .int p3), (4, .ref (ad 4))]) hx hb dW_bid_15 hl (by decide) rfl (fun ls hl => ?_)
      refine lv_iconst (v := 1) hx hb dW_bid_17 (by decide) ?_
      refine W.widen (k := 4) (n := 24) (Nat.le_of_ble_eq_true rfl) (Nat.le_of_ble_eq_true rfl) ?_
      exact W.iret (v := 1) hx hb hr (fun t ht hW => ⟨⟨1, (sL, sA), rfl, (by rw [fW_bid, wrapR_1 h_1] <;> rfl), gw_at hG ht⟩, hS.F ht⟩) hS.2.2 dW_bid_18
    · refine vx_catch (name := "java/lang/IllegalArgumentException") (E := XG) hown [(⟨0, 12, 15, 13⟩ : ExceptionTableEntry)] (⟨0, 12, 19, 15⟩ : ExceptionTableEntry) [(⟨0, 12, 23, 17⟩ : ExceptionTableEntry)] (by rw [hTab]; rfl) ((List.forall_mem_cons.mpr ⟨Or.inr ⟨by decide, "java/lang/IndexOutOfBoundsException", hts _ q_82, hC.2.2.2.2.2.2 (XG, XI) (by decide)⟩, List.forall_mem_nil _⟩)) rfl (by decide) (hts _ q_83) (va_Nw.use rfl (hC.2.2.2.2.2.1 _ zc_2)) g1 g2 g3 ?_
      refine lv_astore (lv' := [(5, .ref q9), (0, .ref (ad 0)), (1, .int p1), (2, .int p2), (3, .int p3), (4, .ref (ad 4))]) hx hb dW_bid_19 hl (by decide) rfl (fun ls hl => ?_)
      refine lv_iconst (v := 2) hx hb dW_bid_21 (by decide) ?_
      refine W.widen (k := 4) (n := 24) (Nat.le_of_ble_eq_true rfl) (Nat.le_of_ble_eq_true rfl) ?_
      exact W.iret (v := 2) hx hb hr (fun t ht hW => ⟨⟨2, (sL, sA), rfl, (by rw [fW_bid, wrapR_2 h_1] <;> rfl), gw_at hG ht⟩, hS.F ht⟩) hS.2.2 dW_bid_22
    · refine vx_catch (name := "java/lang/IllegalStateException") (E := XS) hown [(⟨0, 12, 15, 13⟩ : ExceptionTableEntry), (⟨0, 12, 19, 15⟩ : ExceptionTableEntry)] (⟨0, 12, 23, 17⟩ : ExceptionTableEntry) [] (by rw [hTab]; rfl) ((List.forall_mem_cons.mpr ⟨Or.inr ⟨by decide, "java/lang/IndexOutOfBoundsException", hts _ q_82, hC.2.2.2.2.2.2 (XS, XI) (by decide)⟩, (List.forall_mem_cons.mpr ⟨Or.inr ⟨by decide, "java/lang/IllegalArgumentException", hts _ q_83, hC.2.2.2.2.2.2 (XS, XG) (by decide)⟩, List.forall_mem_nil _⟩)⟩)) rfl (by decide) (hts _ q_84) (va_Nw.use rfl (hC.2.2.2.2.2.1 _ zc_3)) g1 g2 g3 ?_
      refine lv_astore (lv' := [(5, .ref q9), (0, .ref (ad 0)), (1, .int p1), (2, .int p2), (3, .int p3), (4, .ref (ad 4))]) hx hb dW_bid_23 hl (by decide) rfl (fun ls hl => ?_)
      refine lv_iconst (v := 3) hx hb dW_bid_25 (by decide) ?_
      refine W.widen (k := 4) (n := 24) (Nat.le_of_ble_eq_true rfl) (Nat.le_of_ble_eq_true rfl) ?_
      exact W.iret (v := 3) hx hb hr (fun t ht hW => ⟨⟨3, (sL, sA), rfl, (by rw [fW_bid, wrapR_3 h_1] <;> rfl), gw_at hG ht⟩, hS.F ht⟩) hS.2.2 dW_bid_26
  · refine lv_i2l (v := ((fX_bid n sL sA p1 p2 p3).2.1 : Int32).toInt64) hx hb dW_bid_10 rfl ?_
    refine rt_st hx hb hC hG hS dW_bid_11 (fun H locs hG hS => ?_)
    refine lv_goto (tgt := 27) hx hb dW_bid_12 (by decide) ?_
    refine lv_iconst (v := 0) hx hb dW_bid_27 (by decide) ?_
    refine W.widen (k := 4) (n := 24) (Nat.le_of_ble_eq_true rfl) (Nat.le_of_ble_eq_true rfl) ?_
    exact W.iret (v := 0) hx hb hr (fun t ht hW => ⟨⟨0, ((up2L ((fX_bid n sL sA p1 p2 p3).2.2.1) 4 0 (((fX_bid n sL sA p1 p2 p3).2.1 : Int32).toInt64)), (fX_bid n sL sA p1 p2 p3).2.2.2), rfl, (by rw [fW_bid, wrapR_0 h_0] <;> rfl), gw_at hG ht⟩, hS.F ht⟩) hS.2.2 dW_bid_28
theorem nX_hammer_2 (n : Nat) (sL : NL) (sA : NA) (p1 : Int32) : (fX_hammer n sL sA p1).1 ≠ 2 := by
  unfold fX_hammer
  repeat' first | exact show (0 : Nat) ≠ 2 by decide | exact show (1 : Nat) ≠ 2 by decide | exact show (3 : Nat) ≠ 2 by decide | exact seller_ne (by decide) (by decide) | exact buyer_ne (by decide) (by decide) | exact range_ne (by decide) (by decide) | exact state_ne (by decide) (by decide) | exact hund_ne (by decide) (by decide) | exact owedBy_ne (by decide) (by decide) | refine bndq_ne (by decide) (fun i => ?_) | refine bnd_ne ?_ ?_ | refine ite_ne ?_ ?_
def fW_hammer (n : Nat) (sL : NL) (sA : NA) (p1 : Int32) : Int32 × NL × NA := wrapR (fX_hammer n sL sA p1) 1 0 2 sL sA
theorem hdyW_hammer : yW_hammer.cls ≠ "java/lang/invoke/MethodHandle" ∧ yW_hammer.cls ≠ "java/lang/invoke/VarHandle" ∧ (parseMethodDescriptor yW_hammer.desc).map (fun d => d.parameters.length) = some 3 := by decide +kernel
theorem dW_hammer_0 : decode bW_hammer 0 = .ok (.aload_n 2, 1) := by decide +kernel
theorem dW_hammer_1 : decode bW_hammer 1 = .ok (.iconst 0, 1) := by decide +kernel
theorem dW_hammer_2 : decode bW_hammer 2 = .ok (.aload_n 0, 1) := by decide +kernel
theorem dW_hammer_3 : decode bW_hammer 3 = .ok (.iload_n 1, 1) := by decide +kernel
theorem dW_hammer_4 : decode bW_hammer 4 = .ok (.invokevirtual 22, 3) := by decide +kernel
theorem dW_hammer_7 : decode bW_hammer 7 = .ok (.i2l, 1) := by decide +kernel
theorem dW_hammer_8 : decode bW_hammer 8 = .ok (.lastore, 1) := by decide +kernel
theorem dW_hammer_9 : decode bW_hammer 9 = .ok (.goto 9, 3) := by decide +kernel
theorem dW_hammer_12 : decode bW_hammer 12 = .ok (.astore_n 3, 1) := by decide +kernel
theorem dW_hammer_13 : decode bW_hammer 13 = .ok (.iconst 1, 1) := by decide +kernel
theorem dW_hammer_14 : decode bW_hammer 14 = .ok (.ireturn, 1) := by decide +kernel
theorem dW_hammer_15 : decode bW_hammer 15 = .ok (.astore_n 3, 1) := by decide +kernel
theorem dW_hammer_16 : decode bW_hammer 16 = .ok (.iconst 2, 1) := by decide +kernel
theorem dW_hammer_17 : decode bW_hammer 17 = .ok (.ireturn, 1) := by decide +kernel
theorem dW_hammer_18 : decode bW_hammer 18 = .ok (.iconst 0, 1) := by decide +kernel
theorem dW_hammer_19 : decode bW_hammer 19 = .ok (.ireturn, 1) := by decide +kernel
set_option maxHeartbeats 4000000 in
set_option maxRecDepth 100000 in
theorem cW_hammer (l : Launch) (hl9 : l.stackTraces = false) (D : va_G) (tI tJ tL : ClassId) (A : Nat → Prop) (sg ad : Nat → Nat) (n : Nat) (sL : NL) (sA : NA) (p1 : Int32) (hcnt : ∀ i, i < n → ∃ cn : Nat, cn ≤ 10 ∧ sA (4 * i + 23) 2 = nI cn) : Met l yW_hammer (Cond.codeWith yW_hammer bW_hammer 4 (some FieldType.int) [(0, 9, 12, 13), (0, 9, 15, 17)] :: wNeed) { frames := 8, cells := 2, slots := 12, locals := 137 } (va_Pc [.ref (ad 0), .int p1, .ref (ad 4)] (GP D tI tJ tL A sg ad n sL sA)) (va_Qi (fun r (u : NL × NA) => fW_hammer n sL sA p1 = (r, u.1, u.2)) (fun u t => GW D tI tJ tL A ad n u.1 u.2 t.heap) A) 2 12 A := by
  refine en_W (av := [.ref (ad 0), .int p1, .ref (ad 4)]) (by decide) (Nat.le_of_ble_eq_true rfl) ?_
  intro p e s m below meth c hx hb hml hown hts hr hlocks hTab hC H locs hG hS ls hl
  replace hl : lv_has ls 4 [(0, .ref (ad 0)), (1, .int p1), (2, .ref (ad 4))] := hl
  refine lv_aload_n hx hb dW_hammer_0 rfl (lv_at hl 2 rfl) ?_
  refine lv_iconst (v := 0) hx hb dW_hammer_1 (by decide) ?_
  refine lv_aload_n hx hb dW_hammer_2 rfl (lv_at hl 0 rfl) ?_
  refine lv_iload_n hx hb dW_hammer_3 rfl (lv_at hl 1 rfl) ?_
  refine rcV5w (rest := [.int 0, .ref (ad 4)]) (As := [.int p1]) hx hb hml hown hts hC hG hS (cX_hammer l hl9 D tI tJ tL A sg ad n sL sA p1 hcnt) (recX hC hG) (gV q_311 q_312 q_313 q_1 q_314) rfl rfl ⟨rfl, hdyX_hammer⟩ ⟨Nat.le_of_ble_eq_true rfl, Nat.le_of_ble_eq_true rfl⟩ hl.1 rfl (Nat.le_of_ble_eq_true rfl) dW_hammer_4 ⟨Nat.le_of_ble_eq_true rfl, Nat.le_of_ble_eq_true rfl⟩ (fun E ce q9 H locs hE hG hS g1 g2 g3 => ?_) (fun h_0 H locs hG hS => ?_)
  · rcases hE with ⟨rfl, h_1⟩ | ⟨rfl, h_1⟩ | ⟨rfl, h_1⟩
    · refine vx_catch (name := "java/lang/IndexOutOfBoundsException") (E := XI) hown [] (⟨0, 9, 12, 13⟩ : ExceptionTableEntry) [(⟨0, 9, 15, 17⟩ : ExceptionTableEntry)] (by rw [hTab]; rfl) (List.forall_mem_nil _) rfl (by decide) (hts _ q_82) (va_Nw.use rfl (hC.2.2.2.2.2.1 _ zc_1)) g1 g2 g3 ?_
      refine lv_astore_n (lv' := [(3, .ref q9), (0, .ref (ad 0)), (1, .int p1), (2, .ref (ad 4))]) hx hb dW_hammer_12 rfl hl (by decide) rfl (fun ls hl => ?_)
      refine lv_iconst (v := 1) hx hb dW_hammer_13 (by decide) ?_
      refine W.widen (k := 2) (n := 12) (Nat.le_of_ble_eq_true rfl) (Nat.le_of_ble_eq_true rfl) ?_
      exact W.iret (v := 1) hx hb hr (fun t ht hW => ⟨⟨1, (sL, sA), rfl, (by rw [fW_hammer, wrapR_1 h_1] <;> rfl), gw_at hG ht⟩, hS.F ht⟩) hS.2.2 dW_hammer_14
    · exact absurd h_1 (nX_hammer_2 n sL sA p1)
    · refine vx_catch (name := "java/lang/IllegalStateException") (E := XS) hown [(⟨0, 9, 12, 13⟩ : ExceptionTableEntry)] (⟨0, 9, 15, 17⟩ : ExceptionTableEntry) [] (by rw [hTab]; rfl) ((List.forall_mem_cons.mpr ⟨Or.inr ⟨by decide, "java/lang/IndexOutOfBoundsException", hts _ q_82, hC.2.2.2.2.2.2 (XS, XI) (by decide)⟩, List.forall_mem_nil _⟩)) rfl (by decide) (hts _ q_84) (va_Nw.use rfl (hC.2.2.2.2.2.1 _ zc_3)) g1 g2 g3 ?_
      refine lv_astore_n (lv' := [(3, .ref q9), (0, .ref (ad 0)), (1, .int p1), (2, .ref (ad 4))]) hx hb dW_hammer_15 rfl hl (by decide) rfl (fun ls hl => ?_)
      refine lv_iconst (v := 2) hx hb dW_hammer_16 (by decide) ?_
      refine W.widen (k := 2) (n := 12) (Nat.le_of_ble_eq_true rfl) (Nat.le_of_ble_eq_true rfl) ?_
      exact W.iret (v := 2) hx hb hr (fun t ht hW => ⟨⟨2, (sL, sA), rfl, (by rw [fW_hammer, wrapR_3 h_1] <;> rfl), gw_at hG ht⟩, hS.F ht⟩) hS.2.2 dW_hammer_17
  · refine lv_i2l (v := ((fX_hammer n sL sA p1).2.1 : Int32).toInt64) hx hb dW_hammer_7 rfl ?_
    refine rt_st hx hb hC hG hS dW_hammer_8 (fun H locs hG hS => ?_)
    refine lv_goto (tgt := 18) hx hb dW_hammer_9 (by decide) ?_
    refine lv_iconst (v := 0) hx hb dW_hammer_18 (by decide) ?_
    refine W.widen (k := 2) (n := 12) (Nat.le_of_ble_eq_true rfl) (Nat.le_of_ble_eq_true rfl) ?_
    exact W.iret (v := 0) hx hb hr (fun t ht hW => ⟨⟨0, ((up2L ((fX_hammer n sL sA p1).2.2.1) 4 0 (((fX_hammer n sL sA p1).2.1 : Int32).toInt64)), (fX_hammer n sL sA p1).2.2.2), rfl, (by rw [fW_hammer, wrapR_0 h_0] <;> rfl), gw_at hG ht⟩, hS.F ht⟩) hS.2.2 dW_hammer_19
def fW_again (n : Nat) (sL : NL) (sA : NA) (p1 : Int32) (p2 : Int32) : Int32 × NL × NA := wrapR (fX_again n sL sA p1 p2) 1 2 3 sL sA
theorem hdyW_again : yW_again.cls ≠ "java/lang/invoke/MethodHandle" ∧ yW_again.cls ≠ "java/lang/invoke/VarHandle" ∧ (parseMethodDescriptor yW_again.desc).map (fun d => d.parameters.length) = some 4 := by decide +kernel
theorem dW_again_0 : decode bW_again 0 = .ok (.aload_n 3, 1) := by decide +kernel
theorem dW_again_1 : decode bW_again 1 = .ok (.iconst 0, 1) := by decide +kernel
theorem dW_again_2 : decode bW_again 2 = .ok (.aload_n 0, 1) := by decide +kernel
theorem dW_again_3 : decode bW_again 3 = .ok (.iload_n 1, 1) := by decide +kernel
theorem dW_again_4 : decode bW_again 4 = .ok (.iload_n 2, 1) := by decide +kernel
theorem dW_again_5 : decode bW_again 5 = .ok (.invokevirtual 26, 3) := by decide +kernel
theorem dW_again_8 : decode bW_again 8 = .ok (.i2l, 1) := by decide +kernel
theorem dW_again_9 : decode bW_again 9 = .ok (.lastore, 1) := by decide +kernel
theorem dW_again_10 : decode bW_again 10 = .ok (.goto 15, 3) := by decide +kernel
theorem dW_again_13 : decode bW_again 13 = .ok (.astore 4, 2) := by decide +kernel
theorem dW_again_15 : decode bW_again 15 = .ok (.iconst 1, 1) := by decide +kernel
theorem dW_again_16 : decode bW_again 16 = .ok (.ireturn, 1) := by decide +kernel
theorem dW_again_17 : decode bW_again 17 = .ok (.astore 4, 2) := by decide +kernel
theorem dW_again_19 : decode bW_again 19 = .ok (.iconst 2, 1) := by decide +kernel
theorem dW_again_20 : decode bW_again 20 = .ok (.ireturn, 1) := by decide +kernel
theorem dW_again_21 : decode bW_again 21 = .ok (.astore 4, 2) := by decide +kernel
theorem dW_again_23 : decode bW_again 23 = .ok (.iconst 3, 1) := by decide +kernel
theorem dW_again_24 : decode bW_again 24 = .ok (.ireturn, 1) := by decide +kernel
theorem dW_again_25 : decode bW_again 25 = .ok (.iconst 0, 1) := by decide +kernel
theorem dW_again_26 : decode bW_again 26 = .ok (.ireturn, 1) := by decide +kernel
set_option maxHeartbeats 4000000 in
set_option maxRecDepth 100000 in
theorem cW_again (l : Launch) (hl9 : l.stackTraces = false) (D : va_G) (tI tJ tL : ClassId) (A : Nat → Prop) (sg ad : Nat → Nat) (n : Nat) (sL : NL) (sA : NA) (p1 : Int32) (p2 : Int32) : Met l yW_again (Cond.codeWith yW_again bW_again 5 (some FieldType.int) [(0, 10, 13, 13), (0, 10, 17, 15), (0, 10, 21, 17)] :: wNeed) { frames := 8, cells := 3, slots := 18, locals := 136 } (va_Pc [.ref (ad 0), .int p1, .int p2, .ref (ad 4)] (GP D tI tJ tL A sg ad n sL sA)) (va_Qi (fun r (u : NL × NA) => fW_again n sL sA p1 p2 = (r, u.1, u.2)) (fun u t => GW D tI tJ tL A ad n u.1 u.2 t.heap) A) 3 18 A := by
  refine en_W (av := [.ref (ad 0), .int p1, .int p2, .ref (ad 4)]) (by decide) (Nat.le_of_ble_eq_true rfl) ?_
  intro p e s m below meth c hx hb hml hown hts hr hlocks hTab hC H locs hG hS ls hl
  replace hl : lv_has ls 5 [(0, .ref (ad 0)), (1, .int p1), (2, .int p2), (3, .ref (ad 4))] := hl
  refine lv_aload_n hx hb dW_again_0 rfl (lv_at hl 3 rfl) ?_
  refine lv_iconst (v := 0) hx hb dW_again_1 (by decide) ?_
  refine lv_aload_n hx hb dW_again_2 rfl (lv_at hl 0 rfl) ?_
  refine lv_iload_n hx hb dW_again_3 rfl (lv_at hl 1 rfl) ?_
  refine lv_iload_n hx hb dW_again_4 rfl (lv_at hl 2 rfl) ?_
  refine rcV5w (rest := [.int 0, .ref (ad 4)]) (As := [.int p1, .int p2]) hx hb hml hown hts hC hG hS (cX_again l hl9 D tI tJ tL A sg ad n sL sA p1 p2) (recX hC hG) (gV q_339 q_340 q_341 q_1 q_342) rfl rfl ⟨rfl, hdyX_again⟩ ⟨Nat.le_of_ble_eq_true rfl, Nat.le_of_ble_eq_true rfl⟩ hl.1 rfl (Nat.le_of_ble_eq_true rfl) dW_again_5 ⟨Nat.le_of_ble_eq_true rfl, Nat.le_of_ble_eq_true rfl⟩ (fun E ce q9 H locs hE hG hS g1 g2 g3 => ?_) (fun h_0 H locs hG hS => ?_)
  · rcases hE with ⟨rfl, h_1⟩ | ⟨rfl, h_1⟩ | ⟨rfl, h_1⟩
    · refine vx_catch (name := "java/lang/IndexOutOfBoundsException") (E := XI) hown [] (⟨0, 10, 13, 13⟩ : ExceptionTableEntry) [(⟨0, 10, 17, 15⟩ : ExceptionTableEntry), (⟨0, 10, 21, 17⟩ : ExceptionTableEntry)] (by rw [hTab]; rfl) (List.forall_mem_nil _) rfl (by decide) (hts _ q_82) (va_Nw.use rfl (hC.2.2.2.2.2.1 _ zc_1)) g1 g2 g3 ?_
      refine lv_astore (lv' := [(4, .ref q9), (0, .ref (ad 0)), (1, .int p1), (2, .int p2), (3, .ref (ad 4))]) hx hb dW_again_13 hl (by decide) rfl (fun ls hl => ?_)
      refine lv_iconst (v := 1) hx hb dW_again_15 (by decide) ?_
      refine W.widen (k := 3) (n := 18) (Nat.le_of_ble_eq_true rfl) (Nat.le_of_ble_eq_true rfl) ?_
      exact W.iret (v := 1) hx hb hr (fun t ht hW => ⟨⟨1, (sL, sA), rfl, (by rw [fW_again, wrapR_1 h_1] <;> rfl), gw_at hG ht⟩, hS.F ht⟩) hS.2.2 dW_again_16
    · refine vx_catch (name := "java/lang/IllegalArgumentException") (E := XG) hown [(⟨0, 10, 13, 13⟩ : ExceptionTableEntry)] (⟨0, 10, 17, 15⟩ : ExceptionTableEntry) [(⟨0, 10, 21, 17⟩ : ExceptionTableEntry)] (by rw [hTab]; rfl) ((List.forall_mem_cons.mpr ⟨Or.inr ⟨by decide, "java/lang/IndexOutOfBoundsException", hts _ q_82, hC.2.2.2.2.2.2 (XG, XI) (by decide)⟩, List.forall_mem_nil _⟩)) rfl (by decide) (hts _ q_83) (va_Nw.use rfl (hC.2.2.2.2.2.1 _ zc_2)) g1 g2 g3 ?_
      refine lv_astore (lv' := [(4, .ref q9), (0, .ref (ad 0)), (1, .int p1), (2, .int p2), (3, .ref (ad 4))]) hx hb dW_again_17 hl (by decide) rfl (fun ls hl => ?_)
      refine lv_iconst (v := 2) hx hb dW_again_19 (by decide) ?_
      refine W.widen (k := 3) (n := 18) (Nat.le_of_ble_eq_true rfl) (Nat.le_of_ble_eq_true rfl) ?_
      exact W.iret (v := 2) hx hb hr (fun t ht hW => ⟨⟨2, (sL, sA), rfl, (by rw [fW_again, wrapR_2 h_1] <;> rfl), gw_at hG ht⟩, hS.F ht⟩) hS.2.2 dW_again_20
    · refine vx_catch (name := "java/lang/IllegalStateException") (E := XS) hown [(⟨0, 10, 13, 13⟩ : ExceptionTableEntry), (⟨0, 10, 17, 15⟩ : ExceptionTableEntry)] (⟨0, 10, 21, 17⟩ : ExceptionTableEntry) [] (by rw [hTab]; rfl) ((List.forall_mem_cons.mpr ⟨Or.inr ⟨by decide, "java/lang/IndexOutOfBoundsException", hts _ q_82, hC.2.2.2.2.2.2 (XS, XI) (by decide)⟩, (List.forall_mem_cons.mpr ⟨Or.inr ⟨by decide, "java/lang/IllegalArgumentException", hts _ q_83, hC.2.2.2.2.2.2 (XS, XG) (by decide)⟩, List.forall_mem_nil _⟩)⟩)) rfl (by decide) (hts _ q_84) (va_Nw.use rfl (hC.2.2.2.2.2.1 _ zc_3)) g1 g2 g3 ?_
      refine lv_astore (lv' := [(4, .ref q9), (0, .ref (ad 0)), (1, .int p1), (2, .int p2), (3, .ref (ad 4))]) hx hb dW_again_21 hl (by decide) rfl (fun ls hl => ?_)
      refine lv_iconst (v := 3) hx hb dW_again_23 (by decide) ?_
      refine W.widen (k := 3) (n := 18) (Nat.le_of_ble_eq_true rfl) (Nat.le_of_ble_eq_true rfl) ?_
      exact W.iret (v := 3) hx hb hr (fun t ht hW => ⟨⟨3, (sL, sA), rfl, (by rw [fW_again, wrapR_3 h_1] <;> rfl), gw_at hG ht⟩, hS.F ht⟩) hS.2.2 dW_again_24
  · refine lv_i2l (v := ((fX_again n sL sA p1 p2).2.1 : Int32).toInt64) hx hb dW_again_8 rfl ?_
    refine rt_st hx hb hC hG hS dW_again_9 (fun H locs hG hS => ?_)
    refine lv_goto (tgt := 25) hx hb dW_again_10 (by decide) ?_
    refine lv_iconst (v := 0) hx hb dW_again_25 (by decide) ?_
    refine W.widen (k := 3) (n := 18) (Nat.le_of_ble_eq_true rfl) (Nat.le_of_ble_eq_true rfl) ?_
    exact W.iret (v := 0) hx hb hr (fun t ht hW => ⟨⟨0, ((up2L ((fX_again n sL sA p1 p2).2.2.1) 4 0 (((fX_again n sL sA p1 p2).2.1 : Int32).toInt64)), (fX_again n sL sA p1 p2).2.2.2), rfl, (by rw [fW_again, wrapR_0 h_0] <;> rfl), gw_at hG ht⟩, hS.F ht⟩) hS.2.2 dW_again_26
theorem nX_callOf_1 (sL : NL) (sA : NA) (p1 : Int32) : (fX_callOf sL sA p1).1 ≠ 1 := by
  unfold fX_callOf
  repeat' first | exact show (0 : Nat) ≠ 1 by decide | exact show (2 : Nat) ≠ 1 by decide | exact show (3 : Nat) ≠ 1 by decide | exact seller_ne (by decide) (by decide) | exact buyer_ne (by decide) (by decide) | exact range_ne (by decide) (by decide) | exact state_ne (by decide) (by decide) | exact hund_ne (by decide) (by decide) | exact owedBy_ne (by decide) (by decide) | refine bndq_ne (by decide) (fun i => ?_) | refine bnd_ne ?_ ?_ | refine ite_ne ?_ ?_
theorem nX_callOf_3 (sL : NL) (sA : NA) (p1 : Int32) : (fX_callOf sL sA p1).1 ≠ 3 := by
  unfold fX_callOf
  repeat' first | exact show (0 : Nat) ≠ 3 by decide | exact show (1 : Nat) ≠ 3 by decide | exact show (2 : Nat) ≠ 3 by decide | exact seller_ne (by decide) (by decide) | exact buyer_ne (by decide) (by decide) | exact range_ne (by decide) (by decide) | exact state_ne (by decide) (by decide) | exact hund_ne (by decide) (by decide) | exact owedBy_ne (by decide) (by decide) | refine bndq_ne (by decide) (fun i => ?_) | refine bnd_ne ?_ ?_ | refine ite_ne ?_ ?_
def fW_callOf (sL : NL) (sA : NA) (p1 : Int32) : Int32 × NL × NA := wrapR (fX_callOf sL sA p1) 0 1 0 sL sA
theorem hdyW_callOf : yW_callOf.cls ≠ "java/lang/invoke/MethodHandle" ∧ yW_callOf.cls ≠ "java/lang/invoke/VarHandle" ∧ (parseMethodDescriptor yW_callOf.desc).map (fun d => d.parameters.length) = some 3 := by decide +kernel
theorem dW_callOf_0 : decode bW_callOf 0 = .ok (.aload_n 2, 1) := by decide +kernel
theorem dW_callOf_1 : decode bW_callOf 1 = .ok (.iconst 0, 1) := by decide +kernel
theorem dW_callOf_2 : decode bW_callOf 2 = .ok (.aload_n 0, 1) := by decide +kernel
theorem dW_callOf_3 : decode bW_callOf 3 = .ok (.iload_n 1, 1) := by decide +kernel
theorem dW_callOf_4 : decode bW_callOf 4 = .ok (.invokevirtual 30, 3) := by decide +kernel
theorem dW_callOf_7 : decode bW_callOf 7 = .ok (.i2l, 1) := by decide +kernel
theorem dW_callOf_8 : decode bW_callOf 8 = .ok (.lastore, 1) := by decide +kernel
theorem dW_callOf_9 : decode bW_callOf 9 = .ok (.goto 6, 3) := by decide +kernel
theorem dW_callOf_12 : decode bW_callOf 12 = .ok (.astore_n 3, 1) := by decide +kernel
theorem dW_callOf_13 : decode bW_callOf 13 = .ok (.iconst 1, 1) := by decide +kernel
theorem dW_callOf_14 : decode bW_callOf 14 = .ok (.ireturn, 1) := by decide +kernel
theorem dW_callOf_15 : decode bW_callOf 15 = .ok (.iconst 0, 1) := by decide +kernel
theorem dW_callOf_16 : decode bW_callOf 16 = .ok (.ireturn, 1) := by decide +kernel
set_option maxHeartbeats 4000000 in
set_option maxRecDepth 100000 in
theorem cW_callOf (l : Launch) (hl9 : l.stackTraces = false) (D : va_G) (tI tJ tL : ClassId) (A : Nat → Prop) (sg ad : Nat → Nat) (n : Nat) (sL : NL) (sA : NA) (p1 : Int32) : Met l yW_callOf (Cond.codeWith yW_callOf bW_callOf 4 (some FieldType.int) [(0, 9, 12, 15)] :: wNeed) { frames := 8, cells := 1, slots := 6, locals := 133 } (va_Pc [.ref (ad 0), .int p1, .ref (ad 4)] (GP D tI tJ tL A sg ad n sL sA)) (va_Qi (fun r (u : NL × NA) => fW_callOf sL sA p1 = (r, u.1, u.2)) (fun u t => GW D tI tJ tL A ad n u.1 u.2 t.heap) A) 1 6 A := by
  refine en_W (av := [.ref (ad 0), .int p1, .ref (ad 4)]) (by decide) (Nat.le_of_ble_eq_true rfl) ?_
  intro p e s m below meth c hx hb hml hown hts hr hlocks hTab hC H locs hG hS ls hl
  replace hl : lv_has ls 4 [(0, .ref (ad 0)), (1, .int p1), (2, .ref (ad 4))] := hl
  refine lv_aload_n hx hb dW_callOf_0 rfl (lv_at hl 2 rfl) ?_
  refine lv_iconst (v := 0) hx hb dW_callOf_1 (by decide) ?_
  refine lv_aload_n hx hb dW_callOf_2 rfl (lv_at hl 0 rfl) ?_
  refine lv_iload_n hx hb dW_callOf_3 rfl (lv_at hl 1 rfl) ?_
  refine rcV5w (rest := [.int 0, .ref (ad 4)]) (As := [.int p1]) hx hb hml hown hts hC hG hS (cX_callOf l hl9 D tI tJ tL A sg ad n sL sA p1) (recX hC hG) (gV q_350 q_351 q_352 q_1 q_353) rfl rfl ⟨rfl, hdyX_callOf⟩ ⟨Nat.le_of_ble_eq_true rfl, Nat.le_of_ble_eq_true rfl⟩ hl.1 rfl (Nat.le_of_ble_eq_true rfl) dW_callOf_4 ⟨Nat.le_of_ble_eq_true rfl, Nat.le_of_ble_eq_true rfl⟩ (fun E ce q9 H locs hE hG hS g1 g2 g3 => ?_) (fun h_0 H locs hG hS => ?_)
  · rcases hE with ⟨rfl, h_1⟩ | ⟨rfl, h_1⟩ | ⟨rfl, h_1⟩
    · exact absurd h_1 (nX_callOf_1 sL sA p1)
    · refine vx_catch (name := "java/lang/IllegalArgumentException") (E := XG) hown [] (⟨0, 9, 12, 15⟩ : ExceptionTableEntry) [] (by rw [hTab]; rfl) (List.forall_mem_nil _) rfl (by decide) (hts _ q_83) (va_Nw.use rfl (hC.2.2.2.2.2.1 _ zc_2)) g1 g2 g3 ?_
      refine lv_astore_n (lv' := [(3, .ref q9), (0, .ref (ad 0)), (1, .int p1), (2, .ref (ad 4))]) hx hb dW_callOf_12 rfl hl (by decide) rfl (fun ls hl => ?_)
      refine lv_iconst (v := 1) hx hb dW_callOf_13 (by decide) ?_
      refine W.widen (k := 1) (n := 6) (Nat.le_of_ble_eq_true rfl) (Nat.le_of_ble_eq_true rfl) ?_
      exact W.iret (v := 1) hx hb hr (fun t ht hW => ⟨⟨1, (sL, sA), rfl, (by rw [fW_callOf, wrapR_2 h_1] <;> rfl), gw_at hG ht⟩, hS.F ht⟩) hS.2.2 dW_callOf_14
    · exact absurd h_1 (nX_callOf_3 sL sA p1)
  · refine lv_i2l (v := ((fX_callOf sL sA p1).2.1 : Int32).toInt64) hx hb dW_callOf_7 rfl ?_
    refine rt_st hx hb hC hG hS dW_callOf_8 (fun H locs hG hS => ?_)
    refine lv_goto (tgt := 15) hx hb dW_callOf_9 (by decide) ?_
    refine lv_iconst (v := 0) hx hb dW_callOf_15 (by decide) ?_
    refine W.widen (k := 1) (n := 6) (Nat.le_of_ble_eq_true rfl) (Nat.le_of_ble_eq_true rfl) ?_
    exact W.iret (v := 0) hx hb hr (fun t ht hW => ⟨⟨0, ((up2L ((fX_callOf sL sA p1).2.2.1) 4 0 (((fX_callOf sL sA p1).2.1 : Int32).toInt64)), (fX_callOf sL sA p1).2.2.2), rfl, (by rw [fW_callOf, wrapR_0 h_0] <;> rfl), gw_at hG ht⟩, hS.F ht⟩) hS.2.2 dW_callOf_16
theorem nX_pay_2 (n : Nat) (sL : NL) (sA : NA) (p1 : Int32) : (fX_pay n sL sA p1).1 ≠ 2 := by
  unfold fX_pay
  repeat' first | exact show (0 : Nat) ≠ 2 by decide | exact show (1 : Nat) ≠ 2 by decide | exact show (3 : Nat) ≠ 2 by decide | exact seller_ne (by decide) (by decide) | exact buyer_ne (by decide) (by decide) | exact range_ne (by decide) (by decide) | exact state_ne (by decide) (by decide) | exact hund_ne (by decide) (by decide) | exact owedBy_ne (by decide) (by decide) | refine bndq_ne (by decide) (fun i => ?_) | refine bnd_ne ?_ ?_ | refine ite_ne ?_ ?_
def fW_pay (n : Nat) (sL : NL) (sA : NA) (p1 : Int32) : Int32 × NL × NA := wrapR (fX_pay n sL sA p1) 1 0 2 sL sA
theorem hdyW_pay : yW_pay.cls ≠ "java/lang/invoke/MethodHandle" ∧ yW_pay.cls ≠ "java/lang/invoke/VarHandle" ∧ (parseMethodDescriptor yW_pay.desc).map (fun d => d.parameters.length) = some 3 := by decide +kernel
theorem dW_pay_0 : decode bW_pay 0 = .ok (.aload_n 2, 1) := by decide +kernel
theorem dW_pay_1 : decode bW_pay 1 = .ok (.iconst 0, 1) := by decide +kernel
theorem dW_pay_2 : decode bW_pay 2 = .ok (.aload_n 0, 1) := by decide +kernel
theorem dW_pay_3 : decode bW_pay 3 = .ok (.iload_n 1, 1) := by decide +kernel
theorem dW_pay_4 : decode bW_pay 4 = .ok (.invokevirtual 33, 3) := by decide +kernel
theorem dW_pay_7 : decode bW_pay 7 = .ok (.i2l, 1) := by decide +kernel
theorem dW_pay_8 : decode bW_pay 8 = .ok (.lastore, 1) := by decide +kernel
theorem dW_pay_9 : decode bW_pay 9 = .ok (.goto 9, 3) := by decide +kernel
theorem dW_pay_12 : decode bW_pay 12 = .ok (.astore_n 3, 1) := by decide +kernel
theorem dW_pay_13 : decode bW_pay 13 = .ok (.iconst 1, 1) := by decide +kernel
theorem dW_pay_14 : decode bW_pay 14 = .ok (.ireturn, 1) := by decide +kernel
theorem dW_pay_15 : decode bW_pay 15 = .ok (.astore_n 3, 1) := by decide +kernel
theorem dW_pay_16 : decode bW_pay 16 = .ok (.iconst 2, 1) := by decide +kernel
theorem dW_pay_17 : decode bW_pay 17 = .ok (.ireturn, 1) := by decide +kernel
theorem dW_pay_18 : decode bW_pay 18 = .ok (.iconst 0, 1) := by decide +kernel
theorem dW_pay_19 : decode bW_pay 19 = .ok (.ireturn, 1) := by decide +kernel
set_option maxHeartbeats 4000000 in
set_option maxRecDepth 100000 in
theorem cW_pay (l : Launch) (hl9 : l.stackTraces = false) (D : va_G) (tI tJ tL : ClassId) (A : Nat → Prop) (sg ad : Nat → Nat) (n : Nat) (sL : NL) (sA : NA) (p1 : Int32) (hgap : ∀ i, i < n → sA (4 * i + 22) 8 = (-1) ∨ fX_checkBuyer (sA (4 * i + 22) 8) = 0) : Met l yW_pay (Cond.codeWith yW_pay bW_pay 4 (some FieldType.int) [(0, 9, 12, 13), (0, 9, 15, 17)] :: wNeed) { frames := 10, cells := 3, slots := 18, locals := 176 } (va_Pc [.ref (ad 0), .int p1, .ref (ad 4)] (GP D tI tJ tL A sg ad n sL sA)) (va_Qi (fun r (u : NL × NA) => fW_pay n sL sA p1 = (r, u.1, u.2)) (fun u t => GW D tI tJ tL A ad n u.1 u.2 t.heap) A) 3 18 A := by
  refine en_W (av := [.ref (ad 0), .int p1, .ref (ad 4)]) (by decide) (Nat.le_of_ble_eq_true rfl) ?_
  intro p e s m below meth c hx hb hml hown hts hr hlocks hTab hC H locs hG hS ls hl
  replace hl : lv_has ls 4 [(0, .ref (ad 0)), (1, .int p1), (2, .ref (ad 4))] := hl
  refine lv_aload_n hx hb dW_pay_0 rfl (lv_at hl 2 rfl) ?_
  refine lv_iconst (v := 0) hx hb dW_pay_1 (by decide) ?_
  refine lv_aload_n hx hb dW_pay_2 rfl (lv_at hl 0 rfl) ?_
  refine lv_iload_n hx hb dW_pay_3 rfl (lv_at hl 1 rfl) ?_
  refine rcV5w (rest := [.int 0, .ref (ad 4)]) (As := [.int p1]) hx hb hml hown hts hC hG hS (cX_pay l hl9 D tI tJ tL A sg ad n sL sA p1 hgap) (recX hC hG) (gV q_357 q_358 q_359 q_1 q_360) rfl rfl ⟨rfl, hdyX_pay⟩ ⟨Nat.le_of_ble_eq_true rfl, Nat.le_of_ble_eq_true rfl⟩ hl.1 rfl (Nat.le_of_ble_eq_true rfl) dW_pay_4 ⟨Nat.le_of_ble_eq_true rfl, Nat.le_of_ble_eq_true rfl⟩ (fun E ce q9 H locs hE hG hS g1 g2 g3 => ?_) (fun h_0 H locs hG hS => ?_)
  · rcases hE with ⟨rfl, h_1⟩ | ⟨rfl, h_1⟩ | ⟨rfl, h_1⟩
    · refine vx_catch (name := "java/lang/IndexOutOfBoundsException") (E := XI) hown [] (⟨0, 9, 12, 13⟩ : ExceptionTableEntry) [(⟨0, 9, 15, 17⟩ : ExceptionTableEntry)] (by rw [hTab]; rfl) (List.forall_mem_nil _) rfl (by decide) (hts _ q_82) (va_Nw.use rfl (hC.2.2.2.2.2.1 _ zc_1)) g1 g2 g3 ?_
      refine lv_astore_n (lv' := [(3, .ref q9), (0, .ref (ad 0)), (1, .int p1), (2, .ref (ad 4))]) hx hb dW_pay_12 rfl hl (by decide) rfl (fun ls hl => ?_)
      refine lv_iconst (v := 1) hx hb dW_pay_13 (by decide) ?_
      refine W.widen (k := 3) (n := 18) (Nat.le_of_ble_eq_true rfl) (Nat.le_of_ble_eq_true rfl) ?_
      exact W.iret (v := 1) hx hb hr (fun t ht hW => ⟨⟨1, (sL, sA), rfl, (by rw [fW_pay, wrapR_1 h_1] <;> rfl), gw_at hG ht⟩, hS.F ht⟩) hS.2.2 dW_pay_14
    · exact absurd h_1 (nX_pay_2 n sL sA p1)
    · refine vx_catch (name := "java/lang/IllegalStateException") (E := XS) hown [(⟨0, 9, 12, 13⟩ : ExceptionTableEntry)] (⟨0, 9, 15, 17⟩ : ExceptionTableEntry) [] (by rw [hTab]; rfl) ((List.forall_mem_cons.mpr ⟨Or.inr ⟨by decide, "java/lang/IndexOutOfBoundsException", hts _ q_82, hC.2.2.2.2.2.2 (XS, XI) (by decide)⟩, List.forall_mem_nil _⟩)) rfl (by decide) (hts _ q_84) (va_Nw.use rfl (hC.2.2.2.2.2.1 _ zc_3)) g1 g2 g3 ?_
      refine lv_astore_n (lv' := [(3, .ref q9), (0, .ref (ad 0)), (1, .int p1), (2, .ref (ad 4))]) hx hb dW_pay_15 rfl hl (by decide) rfl (fun ls hl => ?_)
      refine lv_iconst (v := 2) hx hb dW_pay_16 (by decide) ?_
      refine W.widen (k := 3) (n := 18) (Nat.le_of_ble_eq_true rfl) (Nat.le_of_ble_eq_true rfl) ?_
      exact W.iret (v := 2) hx hb hr (fun t ht hW => ⟨⟨2, (sL, sA), rfl, (by rw [fW_pay, wrapR_3 h_1] <;> rfl), gw_at hG ht⟩, hS.F ht⟩) hS.2.2 dW_pay_17
  · refine lv_i2l (v := ((fX_pay n sL sA p1).2.1 : Int32).toInt64) hx hb dW_pay_7 rfl ?_
    refine rt_st hx hb hC hG hS dW_pay_8 (fun H locs hG hS => ?_)
    refine lv_goto (tgt := 18) hx hb dW_pay_9 (by decide) ?_
    refine lv_iconst (v := 0) hx hb dW_pay_18 (by decide) ?_
    refine W.widen (k := 3) (n := 18) (Nat.le_of_ble_eq_true rfl) (Nat.le_of_ble_eq_true rfl) ?_
    exact W.iret (v := 0) hx hb hr (fun t ht hW => ⟨⟨0, ((up2L ((fX_pay n sL sA p1).2.2.1) 4 0 (((fX_pay n sL sA p1).2.1 : Int32).toInt64)), (fX_pay n sL sA p1).2.2.2), rfl, (by rw [fW_pay, wrapR_0 h_0] <;> rfl), gw_at hG ht⟩, hS.F ht⟩) hS.2.2 dW_pay_19
theorem nX_defaults_2 (n : Nat) (sL : NL) (sA : NA) (p1 : Int32) : (fX_defaults n sL sA p1).1 ≠ 2 := by
  unfold fX_defaults
  repeat' first | exact show (0 : Nat) ≠ 2 by decide | exact show (1 : Nat) ≠ 2 by decide | exact show (3 : Nat) ≠ 2 by decide | exact seller_ne (by decide) (by decide) | exact buyer_ne (by decide) (by decide) | exact range_ne (by decide) (by decide) | exact state_ne (by decide) (by decide) | exact hund_ne (by decide) (by decide) | exact owedBy_ne (by decide) (by decide) | refine bndq_ne (by decide) (fun i => ?_) | refine bnd_ne ?_ ?_ | refine ite_ne ?_ ?_
def fW_defaults (n : Nat) (sL : NL) (sA : NA) (p1 : Int32) : Int32 × NL × NA := wrapR (fX_defaults n sL sA p1) 1 0 2 sL sA
theorem hdyW_defaults : yW_defaults.cls ≠ "java/lang/invoke/MethodHandle" ∧ yW_defaults.cls ≠ "java/lang/invoke/VarHandle" ∧ (parseMethodDescriptor yW_defaults.desc).map (fun d => d.parameters.length) = some 3 := by decide +kernel
theorem dW_defaults_0 : decode bW_defaults 0 = .ok (.aload_n 2, 1) := by decide +kernel
theorem dW_defaults_1 : decode bW_defaults 1 = .ok (.iconst 0, 1) := by decide +kernel
theorem dW_defaults_2 : decode bW_defaults 2 = .ok (.aload_n 0, 1) := by decide +kernel
theorem dW_defaults_3 : decode bW_defaults 3 = .ok (.iload_n 1, 1) := by decide +kernel
theorem dW_defaults_4 : decode bW_defaults 4 = .ok (.invokevirtual 36, 3) := by decide +kernel
theorem dW_defaults_7 : decode bW_defaults 7 = .ok (.i2l, 1) := by decide +kernel
theorem dW_defaults_8 : decode bW_defaults 8 = .ok (.lastore, 1) := by decide +kernel
theorem dW_defaults_9 : decode bW_defaults 9 = .ok (.goto 9, 3) := by decide +kernel
theorem dW_defaults_12 : decode bW_defaults 12 = .ok (.astore_n 3, 1) := by decide +kernel
theorem dW_defaults_13 : decode bW_defaults 13 = .ok (.iconst 1, 1) := by decide +kernel
theorem dW_defaults_14 : decode bW_defaults 14 = .ok (.ireturn, 1) := by decide +kernel
theorem dW_defaults_15 : decode bW_defaults 15 = .ok (.astore_n 3, 1) := by decide +kernel
theorem dW_defaults_16 : decode bW_defaults 16 = .ok (.iconst 2, 1) := by decide +kernel
theorem dW_defaults_17 : decode bW_defaults 17 = .ok (.ireturn, 1) := by decide +kernel
theorem dW_defaults_18 : decode bW_defaults 18 = .ok (.iconst 0, 1) := by decide +kernel
theorem dW_defaults_19 : decode bW_defaults 19 = .ok (.ireturn, 1) := by decide +kernel
set_option maxHeartbeats 4000000 in
set_option maxRecDepth 100000 in
theorem cW_defaults (l : Launch) (hl9 : l.stackTraces = false) (D : va_G) (tI tJ tL : ClassId) (A : Nat → Prop) (sg ad : Nat → Nat) (n : Nat) (sL : NL) (sA : NA) (p1 : Int32) : Met l yW_defaults (Cond.codeWith yW_defaults bW_defaults 4 (some FieldType.int) [(0, 9, 12, 13), (0, 9, 15, 17)] :: wNeed) { frames := 8, cells := 2, slots := 12, locals := 135 } (va_Pc [.ref (ad 0), .int p1, .ref (ad 4)] (GP D tI tJ tL A sg ad n sL sA)) (va_Qi (fun r (u : NL × NA) => fW_defaults n sL sA p1 = (r, u.1, u.2)) (fun u t => GW D tI tJ tL A ad n u.1 u.2 t.heap) A) 2 12 A := by
  refine en_W (av := [.ref (ad 0), .int p1, .ref (ad 4)]) (by decide) (Nat.le_of_ble_eq_true rfl) ?_
  intro p e s m below meth c hx hb hml hown hts hr hlocks hTab hC H locs hG hS ls hl
  replace hl : lv_has ls 4 [(0, .ref (ad 0)), (1, .int p1), (2, .ref (ad 4))] := hl
  refine lv_aload_n hx hb dW_defaults_0 rfl (lv_at hl 2 rfl) ?_
  refine lv_iconst (v := 0) hx hb dW_defaults_1 (by decide) ?_
  refine lv_aload_n hx hb dW_defaults_2 rfl (lv_at hl 0 rfl) ?_
  refine lv_iload_n hx hb dW_defaults_3 rfl (lv_at hl 1 rfl) ?_
  refine rcV5w (rest := [.int 0, .ref (ad 4)]) (As := [.int p1]) hx hb hml hown hts hC hG hS (cX_defaults l hl9 D tI tJ tL A sg ad n sL sA p1) (recX hC hG) (gV q_379 q_380 q_381 q_1 q_382) rfl rfl ⟨rfl, hdyX_defaults⟩ ⟨Nat.le_of_ble_eq_true rfl, Nat.le_of_ble_eq_true rfl⟩ hl.1 rfl (Nat.le_of_ble_eq_true rfl) dW_defaults_4 ⟨Nat.le_of_ble_eq_true rfl, Nat.le_of_ble_eq_true rfl⟩ (fun E ce q9 H locs hE hG hS g1 g2 g3 => ?_) (fun h_0 H locs hG hS => ?_)
  · rcases hE with ⟨rfl, h_1⟩ | ⟨rfl, h_1⟩ | ⟨rfl, h_1⟩
    · refine vx_catch (name := "java/lang/IndexOutOfBoundsException") (E := XI) hown [] (⟨0, 9, 12, 13⟩ : ExceptionTableEntry) [(⟨0, 9, 15, 17⟩ : ExceptionTableEntry)] (by rw [hTab]; rfl) (List.forall_mem_nil _) rfl (by decide) (hts _ q_82) (va_Nw.use rfl (hC.2.2.2.2.2.1 _ zc_1)) g1 g2 g3 ?_
      refine lv_astore_n (lv' := [(3, .ref q9), (0, .ref (ad 0)), (1, .int p1), (2, .ref (ad 4))]) hx hb dW_defaults_12 rfl hl (by decide) rfl (fun ls hl => ?_)
      refine lv_iconst (v := 1) hx hb dW_defaults_13 (by decide) ?_
      refine W.widen (k := 2) (n := 12) (Nat.le_of_ble_eq_true rfl) (Nat.le_of_ble_eq_true rfl) ?_
      exact W.iret (v := 1) hx hb hr (fun t ht hW => ⟨⟨1, (sL, sA), rfl, (by rw [fW_defaults, wrapR_1 h_1] <;> rfl), gw_at hG ht⟩, hS.F ht⟩) hS.2.2 dW_defaults_14
    · exact absurd h_1 (nX_defaults_2 n sL sA p1)
    · refine vx_catch (name := "java/lang/IllegalStateException") (E := XS) hown [(⟨0, 9, 12, 13⟩ : ExceptionTableEntry)] (⟨0, 9, 15, 17⟩ : ExceptionTableEntry) [] (by rw [hTab]; rfl) ((List.forall_mem_cons.mpr ⟨Or.inr ⟨by decide, "java/lang/IndexOutOfBoundsException", hts _ q_82, hC.2.2.2.2.2.2 (XS, XI) (by decide)⟩, List.forall_mem_nil _⟩)) rfl (by decide) (hts _ q_84) (va_Nw.use rfl (hC.2.2.2.2.2.1 _ zc_3)) g1 g2 g3 ?_
      refine lv_astore_n (lv' := [(3, .ref q9), (0, .ref (ad 0)), (1, .int p1), (2, .ref (ad 4))]) hx hb dW_defaults_15 rfl hl (by decide) rfl (fun ls hl => ?_)
      refine lv_iconst (v := 2) hx hb dW_defaults_16 (by decide) ?_
      refine W.widen (k := 2) (n := 12) (Nat.le_of_ble_eq_true rfl) (Nat.le_of_ble_eq_true rfl) ?_
      exact W.iret (v := 2) hx hb hr (fun t ht hW => ⟨⟨2, (sL, sA), rfl, (by rw [fW_defaults, wrapR_3 h_1] <;> rfl), gw_at hG ht⟩, hS.F ht⟩) hS.2.2 dW_defaults_17
  · refine lv_i2l (v := ((fX_defaults n sL sA p1).2.1 : Int32).toInt64) hx hb dW_defaults_7 rfl ?_
    refine rt_st hx hb hC hG hS dW_defaults_8 (fun H locs hG hS => ?_)
    refine lv_goto (tgt := 18) hx hb dW_defaults_9 (by decide) ?_
    refine lv_iconst (v := 0) hx hb dW_defaults_18 (by decide) ?_
    refine W.widen (k := 2) (n := 12) (Nat.le_of_ble_eq_true rfl) (Nat.le_of_ble_eq_true rfl) ?_
    exact W.iret (v := 0) hx hb hr (fun t ht hW => ⟨⟨0, ((up2L ((fX_defaults n sL sA p1).2.2.1) 4 0 (((fX_defaults n sL sA p1).2.1 : Int32).toInt64)), (fX_defaults n sL sA p1).2.2.2), rfl, (by rw [fW_defaults, wrapR_0 h_0] <;> rfl), gw_at hG ht⟩, hS.F ht⟩) hS.2.2 dW_defaults_19
theorem nX_payGaps_2 (sL : NL) (sA : NA) (p1 : Int32) : (fX_payGaps sL sA p1).1 ≠ 2 := by
  unfold fX_payGaps
  repeat' first | exact show (0 : Nat) ≠ 2 by decide | exact show (1 : Nat) ≠ 2 by decide | exact show (3 : Nat) ≠ 2 by decide | exact seller_ne (by decide) (by decide) | exact buyer_ne (by decide) (by decide) | exact range_ne (by decide) (by decide) | exact state_ne (by decide) (by decide) | exact hund_ne (by decide) (by decide) | exact owedBy_ne (by decide) (by decide) | refine bndq_ne (by decide) (fun i => ?_) | refine bnd_ne ?_ ?_ | refine ite_ne ?_ ?_
def fW_payGaps (sL : NL) (sA : NA) (p1 : Int32) : Int32 × NL × NA := wrapR (fX_payGaps sL sA p1) 1 0 2 sL sA
theorem hdyW_payGaps : yW_payGaps.cls ≠ "java/lang/invoke/MethodHandle" ∧ yW_payGaps.cls ≠ "java/lang/invoke/VarHandle" ∧ (parseMethodDescriptor yW_payGaps.desc).map (fun d => d.parameters.length) = some 3 := by decide +kernel
theorem dW_payGaps_0 : decode bW_payGaps 0 = .ok (.aload_n 2, 1) := by decide +kernel
theorem dW_payGaps_1 : decode bW_payGaps 1 = .ok (.iconst 0, 1) := by decide +kernel
theorem dW_payGaps_2 : decode bW_payGaps 2 = .ok (.aload_n 0, 1) := by decide +kernel
theorem dW_payGaps_3 : decode bW_payGaps 3 = .ok (.iload_n 1, 1) := by decide +kernel
theorem dW_payGaps_4 : decode bW_payGaps 4 = .ok (.invokevirtual 39, 3) := by decide +kernel
theorem dW_payGaps_7 : decode bW_payGaps 7 = .ok (.i2l, 1) := by decide +kernel
theorem dW_payGaps_8 : decode bW_payGaps 8 = .ok (.lastore, 1) := by decide +kernel
theorem dW_payGaps_9 : decode bW_payGaps 9 = .ok (.goto 9, 3) := by decide +kernel
theorem dW_payGaps_12 : decode bW_payGaps 12 = .ok (.astore_n 3, 1) := by decide +kernel
theorem dW_payGaps_13 : decode bW_payGaps 13 = .ok (.iconst 1, 1) := by decide +kernel
theorem dW_payGaps_14 : decode bW_payGaps 14 = .ok (.ireturn, 1) := by decide +kernel
theorem dW_payGaps_15 : decode bW_payGaps 15 = .ok (.astore_n 3, 1) := by decide +kernel
theorem dW_payGaps_16 : decode bW_payGaps 16 = .ok (.iconst 2, 1) := by decide +kernel
theorem dW_payGaps_17 : decode bW_payGaps 17 = .ok (.ireturn, 1) := by decide +kernel
theorem dW_payGaps_18 : decode bW_payGaps 18 = .ok (.iconst 0, 1) := by decide +kernel
theorem dW_payGaps_19 : decode bW_payGaps 19 = .ok (.ireturn, 1) := by decide +kernel
set_option maxHeartbeats 4000000 in
set_option maxRecDepth 100000 in
theorem cW_payGaps (l : Launch) (hl9 : l.stackTraces = false) (D : va_G) (tI tJ tL : ClassId) (A : Nat → Prop) (sg ad : Nat → Nat) (n : Nat) (sL : NL) (sA : NA) (p1 : Int32) : Met l yW_payGaps (Cond.codeWith yW_payGaps bW_payGaps 4 (some FieldType.int) [(0, 9, 12, 13), (0, 9, 15, 17)] :: wNeed) { frames := 9, cells := 2, slots := 12, locals := 154 } (va_Pc [.ref (ad 0), .int p1, .ref (ad 4)] (GP D tI tJ tL A sg ad n sL sA)) (va_Qi (fun r (u : NL × NA) => fW_payGaps sL sA p1 = (r, u.1, u.2)) (fun u t => GW D tI tJ tL A ad n u.1 u.2 t.heap) A) 2 12 A := by
  refine en_W (av := [.ref (ad 0), .int p1, .ref (ad 4)]) (by decide) (Nat.le_of_ble_eq_true rfl) ?_
  intro p e s m below meth c hx hb hml hown hts hr hlocks hTab hC H locs hG hS ls hl
  replace hl : lv_has ls 4 [(0, .ref (ad 0)), (1, .int p1), (2, .ref (ad 4))] := hl
  refine lv_aload_n hx hb dW_payGaps_0 rfl (lv_at hl 2 rfl) ?_
  refine lv_iconst (v := 0) hx hb dW_payGaps_1 (by decide) ?_
  refine lv_aload_n hx hb dW_payGaps_2 rfl (lv_at hl 0 rfl) ?_
  refine lv_iload_n hx hb dW_payGaps_3 rfl (lv_at hl 1 rfl) ?_
  refine rcV5w (rest := [.int 0, .ref (ad 4)]) (As := [.int p1]) hx hb hml hown hts hC hG hS (cX_payGaps l hl9 D tI tJ tL A sg ad n sL sA p1) (recX hC hG) (gV q_386 q_387 q_388 q_1 q_389) rfl rfl ⟨rfl, hdyX_payGaps⟩ ⟨Nat.le_of_ble_eq_true rfl, Nat.le_of_ble_eq_true rfl⟩ hl.1 rfl (Nat.le_of_ble_eq_true rfl) dW_payGaps_4 ⟨Nat.le_of_ble_eq_true rfl, Nat.le_of_ble_eq_true rfl⟩ (fun E ce q9 H locs hE hG hS g1 g2 g3 => ?_) (fun h_0 H locs hG hS => ?_)
  · rcases hE with ⟨rfl, h_1⟩ | ⟨rfl, h_1⟩ | ⟨rfl, h_1⟩
    · refine vx_catch (name := "java/lang/IndexOutOfBoundsException") (E := XI) hown [] (⟨0, 9, 12, 13⟩ : ExceptionTableEntry) [(⟨0, 9, 15, 17⟩ : ExceptionTableEntry)] (by rw [hTab]; rfl) (List.forall_mem_nil _) rfl (by decide) (hts _ q_82) (va_Nw.use rfl (hC.2.2.2.2.2.1 _ zc_1)) g1 g2 g3 ?_
      refine lv_astore_n (lv' := [(3, .ref q9), (0, .ref (ad 0)), (1, .int p1), (2, .ref (ad 4))]) hx hb dW_payGaps_12 rfl hl (by decide) rfl (fun ls hl => ?_)
      refine lv_iconst (v := 1) hx hb dW_payGaps_13 (by decide) ?_
      refine W.widen (k := 2) (n := 12) (Nat.le_of_ble_eq_true rfl) (Nat.le_of_ble_eq_true rfl) ?_
      exact W.iret (v := 1) hx hb hr (fun t ht hW => ⟨⟨1, (sL, sA), rfl, (by rw [fW_payGaps, wrapR_1 h_1] <;> rfl), gw_at hG ht⟩, hS.F ht⟩) hS.2.2 dW_payGaps_14
    · exact absurd h_1 (nX_payGaps_2 sL sA p1)
    · refine vx_catch (name := "java/lang/IllegalStateException") (E := XS) hown [(⟨0, 9, 12, 13⟩ : ExceptionTableEntry)] (⟨0, 9, 15, 17⟩ : ExceptionTableEntry) [] (by rw [hTab]; rfl) ((List.forall_mem_cons.mpr ⟨Or.inr ⟨by decide, "java/lang/IndexOutOfBoundsException", hts _ q_82, hC.2.2.2.2.2.2 (XS, XI) (by decide)⟩, List.forall_mem_nil _⟩)) rfl (by decide) (hts _ q_84) (va_Nw.use rfl (hC.2.2.2.2.2.1 _ zc_3)) g1 g2 g3 ?_
      refine lv_astore_n (lv' := [(3, .ref q9), (0, .ref (ad 0)), (1, .int p1), (2, .ref (ad 4))]) hx hb dW_payGaps_15 rfl hl (by decide) rfl (fun ls hl => ?_)
      refine lv_iconst (v := 2) hx hb dW_payGaps_16 (by decide) ?_
      refine W.widen (k := 2) (n := 12) (Nat.le_of_ble_eq_true rfl) (Nat.le_of_ble_eq_true rfl) ?_
      exact W.iret (v := 2) hx hb hr (fun t ht hW => ⟨⟨2, (sL, sA), rfl, (by rw [fW_payGaps, wrapR_3 h_1] <;> rfl), gw_at hG ht⟩, hS.F ht⟩) hS.2.2 dW_payGaps_17
  · refine lv_i2l (v := ((fX_payGaps sL sA p1).2.1 : Int32).toInt64) hx hb dW_payGaps_7 rfl ?_
    refine rt_st hx hb hC hG hS dW_payGaps_8 (fun H locs hG hS => ?_)
    refine lv_goto (tgt := 18) hx hb dW_payGaps_9 (by decide) ?_
    refine lv_iconst (v := 0) hx hb dW_payGaps_18 (by decide) ?_
    refine W.widen (k := 2) (n := 12) (Nat.le_of_ble_eq_true rfl) (Nat.le_of_ble_eq_true rfl) ?_
    exact W.iret (v := 0) hx hb hr (fun t ht hW => ⟨⟨0, ((up2L ((fX_payGaps sL sA p1).2.2.1) 4 0 (((fX_payGaps sL sA p1).2.1 : Int32).toInt64)), (fX_payGaps sL sA p1).2.2.2), rfl, (by rw [fW_payGaps, wrapR_0 h_0] <;> rfl), gw_at hG ht⟩, hS.F ht⟩) hS.2.2 dW_payGaps_19
def fW_advance (n : Nat) (sL : NL) (sA : NA) (p1 : Int32) (p2 : Int32) : Int32 × NL × NA := wrapR (fX_advance n sL sA p1 p2) 1 2 3 sL sA
theorem hdyW_advance : yW_advance.cls ≠ "java/lang/invoke/MethodHandle" ∧ yW_advance.cls ≠ "java/lang/invoke/VarHandle" ∧ (parseMethodDescriptor yW_advance.desc).map (fun d => d.parameters.length) = some 4 := by decide +kernel
theorem dW_advance_0 : decode bW_advance 0 = .ok (.aload_n 3, 1) := by decide +kernel
theorem dW_advance_1 : decode bW_advance 1 = .ok (.iconst 0, 1) := by decide +kernel
theorem dW_advance_2 : decode bW_advance 2 = .ok (.aload_n 0, 1) := by decide +kernel
theorem dW_advance_3 : decode bW_advance 3 = .ok (.iload_n 1, 1) := by decide +kernel
theorem dW_advance_4 : decode bW_advance 4 = .ok (.iload_n 2, 1) := by decide +kernel
theorem dW_advance_5 : decode bW_advance 5 = .ok (.invokevirtual 42, 3) := by decide +kernel
theorem dW_advance_8 : decode bW_advance 8 = .ok (.i2l, 1) := by decide +kernel
theorem dW_advance_9 : decode bW_advance 9 = .ok (.lastore, 1) := by decide +kernel
theorem dW_advance_10 : decode bW_advance 10 = .ok (.goto 15, 3) := by decide +kernel
theorem dW_advance_13 : decode bW_advance 13 = .ok (.astore 4, 2) := by decide +kernel
theorem dW_advance_15 : decode bW_advance 15 = .ok (.iconst 1, 1) := by decide +kernel
theorem dW_advance_16 : decode bW_advance 16 = .ok (.ireturn, 1) := by decide +kernel
theorem dW_advance_17 : decode bW_advance 17 = .ok (.astore 4, 2) := by decide +kernel
theorem dW_advance_19 : decode bW_advance 19 = .ok (.iconst 2, 1) := by decide +kernel
theorem dW_advance_20 : decode bW_advance 20 = .ok (.ireturn, 1) := by decide +kernel
theorem dW_advance_21 : decode bW_advance 21 = .ok (.astore 4, 2) := by decide +kernel
theorem dW_advance_23 : decode bW_advance 23 = .ok (.iconst 3, 1) := by decide +kernel
theorem dW_advance_24 : decode bW_advance 24 = .ok (.ireturn, 1) := by decide +kernel
theorem dW_advance_25 : decode bW_advance 25 = .ok (.iconst 0, 1) := by decide +kernel
theorem dW_advance_26 : decode bW_advance 26 = .ok (.ireturn, 1) := by decide +kernel
set_option maxHeartbeats 4000000 in
set_option maxRecDepth 100000 in
theorem cW_advance (l : Launch) (hl9 : l.stackTraces = false) (D : va_G) (tI tJ tL : ClassId) (A : Nat → Prop) (sg ad : Nat → Nat) (n : Nat) (sL : NL) (sA : NA) (p1 : Int32) (p2 : Int32) : Met l yW_advance (Cond.codeWith yW_advance bW_advance 5 (some FieldType.int) [(0, 10, 13, 13), (0, 10, 17, 15), (0, 10, 21, 17)] :: wNeed) { frames := 8, cells := 3, slots := 18, locals := 136 } (va_Pc [.ref (ad 0), .int p1, .int p2, .ref (ad 4)] (GP D tI tJ tL A sg ad n sL sA)) (va_Qi (fun r (u : NL × NA) => fW_advance n sL sA p1 p2 = (r, u.1, u.2)) (fun u t => GW D tI tJ tL A ad n u.1 u.2 t.heap) A) 3 18 A := by
  refine en_W (av := [.ref (ad 0), .int p1, .int p2, .ref (ad 4)]) (by decide) (Nat.le_of_ble_eq_true rfl) ?_
  intro p e s m below meth c hx hb hml hown hts hr hlocks hTab hC H locs hG hS ls hl
  replace hl : lv_has ls 5 [(0, .ref (ad 0)), (1, .int p1), (2, .int p2), (3, .ref (ad 4))] := hl
  refine lv_aload_n hx hb dW_advance_0 rfl (lv_at hl 3 rfl) ?_
  refine lv_iconst (v := 0) hx hb dW_advance_1 (by decide) ?_
  refine lv_aload_n hx hb dW_advance_2 rfl (lv_at hl 0 rfl) ?_
  refine lv_iload_n hx hb dW_advance_3 rfl (lv_at hl 1 rfl) ?_
  refine lv_iload_n hx hb dW_advance_4 rfl (lv_at hl 2 rfl) ?_
  refine rcV5w (rest := [.int 0, .ref (ad 4)]) (As := [.int p1, .int p2]) hx hb hml hown hts hC hG hS (cX_advance l hl9 D tI tJ tL A sg ad n sL sA p1 p2) (recX hC hG) (gV q_398 q_399 q_400 q_1 q_401) rfl rfl ⟨rfl, hdyX_advance⟩ ⟨Nat.le_of_ble_eq_true rfl, Nat.le_of_ble_eq_true rfl⟩ hl.1 rfl (Nat.le_of_ble_eq_true rfl) dW_advance_5 ⟨Nat.le_of_ble_eq_true rfl, Nat.le_of_ble_eq_true rfl⟩ (fun E ce q9 H locs hE hG hS g1 g2 g3 => ?_) (fun h_0 H locs hG hS => ?_)
  · rcases hE with ⟨rfl, h_1⟩ | ⟨rfl, h_1⟩ | ⟨rfl, h_1⟩
    · refine vx_catch (name := "java/lang/IndexOutOfBoundsException") (E := XI) hown [] (⟨0, 10, 13, 13⟩ : ExceptionTableEntry) [(⟨0, 10, 17, 15⟩ : ExceptionTableEntry), (⟨0, 10, 21, 17⟩ : ExceptionTableEntry)] (by rw [hTab]; rfl) (List.forall_mem_nil _) rfl (by decide) (hts _ q_82) (va_Nw.use rfl (hC.2.2.2.2.2.1 _ zc_1)) g1 g2 g3 ?_
      refine lv_astore (lv' := [(4, .ref q9), (0, .ref (ad 0)), (1, .int p1), (2, .int p2), (3, .ref (ad 4))]) hx hb dW_advance_13 hl (by decide) rfl (fun ls hl => ?_)
      refine lv_iconst (v := 1) hx hb dW_advance_15 (by decide) ?_
      refine W.widen (k := 3) (n := 18) (Nat.le_of_ble_eq_true rfl) (Nat.le_of_ble_eq_true rfl) ?_
      exact W.iret (v := 1) hx hb hr (fun t ht hW => ⟨⟨1, (sL, sA), rfl, (by rw [fW_advance, wrapR_1 h_1] <;> rfl), gw_at hG ht⟩, hS.F ht⟩) hS.2.2 dW_advance_16
    · refine vx_catch (name := "java/lang/IllegalArgumentException") (E := XG) hown [(⟨0, 10, 13, 13⟩ : ExceptionTableEntry)] (⟨0, 10, 17, 15⟩ : ExceptionTableEntry) [(⟨0, 10, 21, 17⟩ : ExceptionTableEntry)] (by rw [hTab]; rfl) ((List.forall_mem_cons.mpr ⟨Or.inr ⟨by decide, "java/lang/IndexOutOfBoundsException", hts _ q_82, hC.2.2.2.2.2.2 (XG, XI) (by decide)⟩, List.forall_mem_nil _⟩)) rfl (by decide) (hts _ q_83) (va_Nw.use rfl (hC.2.2.2.2.2.1 _ zc_2)) g1 g2 g3 ?_
      refine lv_astore (lv' := [(4, .ref q9), (0, .ref (ad 0)), (1, .int p1), (2, .int p2), (3, .ref (ad 4))]) hx hb dW_advance_17 hl (by decide) rfl (fun ls hl => ?_)
      refine lv_iconst (v := 2) hx hb dW_advance_19 (by decide) ?_
      refine W.widen (k := 3) (n := 18) (Nat.le_of_ble_eq_true rfl) (Nat.le_of_ble_eq_true rfl) ?_
      exact W.iret (v := 2) hx hb hr (fun t ht hW => ⟨⟨2, (sL, sA), rfl, (by rw [fW_advance, wrapR_2 h_1] <;> rfl), gw_at hG ht⟩, hS.F ht⟩) hS.2.2 dW_advance_20
    · refine vx_catch (name := "java/lang/IllegalStateException") (E := XS) hown [(⟨0, 10, 13, 13⟩ : ExceptionTableEntry), (⟨0, 10, 17, 15⟩ : ExceptionTableEntry)] (⟨0, 10, 21, 17⟩ : ExceptionTableEntry) [] (by rw [hTab]; rfl) ((List.forall_mem_cons.mpr ⟨Or.inr ⟨by decide, "java/lang/IndexOutOfBoundsException", hts _ q_82, hC.2.2.2.2.2.2 (XS, XI) (by decide)⟩, (List.forall_mem_cons.mpr ⟨Or.inr ⟨by decide, "java/lang/IllegalArgumentException", hts _ q_83, hC.2.2.2.2.2.2 (XS, XG) (by decide)⟩, List.forall_mem_nil _⟩)⟩)) rfl (by decide) (hts _ q_84) (va_Nw.use rfl (hC.2.2.2.2.2.1 _ zc_3)) g1 g2 g3 ?_
      refine lv_astore (lv' := [(4, .ref q9), (0, .ref (ad 0)), (1, .int p1), (2, .int p2), (3, .ref (ad 4))]) hx hb dW_advance_21 hl (by decide) rfl (fun ls hl => ?_)
      refine lv_iconst (v := 3) hx hb dW_advance_23 (by decide) ?_
      refine W.widen (k := 3) (n := 18) (Nat.le_of_ble_eq_true rfl) (Nat.le_of_ble_eq_true rfl) ?_
      exact W.iret (v := 3) hx hb hr (fun t ht hW => ⟨⟨3, (sL, sA), rfl, (by rw [fW_advance, wrapR_3 h_1] <;> rfl), gw_at hG ht⟩, hS.F ht⟩) hS.2.2 dW_advance_24
  · refine lv_i2l (v := ((fX_advance n sL sA p1 p2).2.1 : Int32).toInt64) hx hb dW_advance_8 rfl ?_
    refine rt_st hx hb hC hG hS dW_advance_9 (fun H locs hG hS => ?_)
    refine lv_goto (tgt := 25) hx hb dW_advance_10 (by decide) ?_
    refine lv_iconst (v := 0) hx hb dW_advance_25 (by decide) ?_
    refine W.widen (k := 3) (n := 18) (Nat.le_of_ble_eq_true rfl) (Nat.le_of_ble_eq_true rfl) ?_
    exact W.iret (v := 0) hx hb hr (fun t ht hW => ⟨⟨0, ((up2L ((fX_advance n sL sA p1 p2).2.2.1) 4 0 (((fX_advance n sL sA p1 p2).2.1 : Int32).toInt64)), (fX_advance n sL sA p1 p2).2.2.2), rfl, (by rw [fW_advance, wrapR_0 h_0] <;> rfl), gw_at hG ht⟩, hS.F ht⟩) hS.2.2 dW_advance_26
theorem nX_settle_2 (n : Nat) (sL : NL) (sA : NA) (p1 : Int32) : (fX_settle n sL sA p1).1 ≠ 2 := by
  unfold fX_settle
  repeat' first | exact show (0 : Nat) ≠ 2 by decide | exact show (1 : Nat) ≠ 2 by decide | exact show (3 : Nat) ≠ 2 by decide | exact seller_ne (by decide) (by decide) | exact buyer_ne (by decide) (by decide) | exact range_ne (by decide) (by decide) | exact state_ne (by decide) (by decide) | exact hund_ne (by decide) (by decide) | exact owedBy_ne (by decide) (by decide) | refine bndq_ne (by decide) (fun i => ?_) | refine bnd_ne ?_ ?_ | refine ite_ne ?_ ?_
def fW_settle (n : Nat) (sL : NL) (sA : NA) (p1 : Int32) : Int32 × NL × NA := wrapR (fX_settle n sL sA p1) 1 0 2 sL sA
theorem hdyW_settle : yW_settle.cls ≠ "java/lang/invoke/MethodHandle" ∧ yW_settle.cls ≠ "java/lang/invoke/VarHandle" ∧ (parseMethodDescriptor yW_settle.desc).map (fun d => d.parameters.length) = some 3 := by decide +kernel
theorem dW_settle_0 : decode bW_settle 0 = .ok (.aload_n 2, 1) := by decide +kernel
theorem dW_settle_1 : decode bW_settle 1 = .ok (.iconst 0, 1) := by decide +kernel
theorem dW_settle_2 : decode bW_settle 2 = .ok (.aload_n 0, 1) := by decide +kernel
theorem dW_settle_3 : decode bW_settle 3 = .ok (.iload_n 1, 1) := by decide +kernel
theorem dW_settle_4 : decode bW_settle 4 = .ok (.invokevirtual 45, 3) := by decide +kernel
theorem dW_settle_7 : decode bW_settle 7 = .ok (.i2l, 1) := by decide +kernel
theorem dW_settle_8 : decode bW_settle 8 = .ok (.lastore, 1) := by decide +kernel
theorem dW_settle_9 : decode bW_settle 9 = .ok (.goto 9, 3) := by decide +kernel
theorem dW_settle_12 : decode bW_settle 12 = .ok (.astore_n 3, 1) := by decide +kernel
theorem dW_settle_13 : decode bW_settle 13 = .ok (.iconst 1, 1) := by decide +kernel
theorem dW_settle_14 : decode bW_settle 14 = .ok (.ireturn, 1) := by decide +kernel
theorem dW_settle_15 : decode bW_settle 15 = .ok (.astore_n 3, 1) := by decide +kernel
theorem dW_settle_16 : decode bW_settle 16 = .ok (.iconst 2, 1) := by decide +kernel
theorem dW_settle_17 : decode bW_settle 17 = .ok (.ireturn, 1) := by decide +kernel
theorem dW_settle_18 : decode bW_settle 18 = .ok (.iconst 0, 1) := by decide +kernel
theorem dW_settle_19 : decode bW_settle 19 = .ok (.ireturn, 1) := by decide +kernel
set_option maxHeartbeats 4000000 in
set_option maxRecDepth 100000 in
theorem cW_settle (l : Launch) (hl9 : l.stackTraces = false) (D : va_G) (tI tJ tL : ClassId) (A : Nat → Prop) (sg ad : Nat → Nat) (n : Nat) (sL : NL) (sA : NA) (p1 : Int32) : Met l yW_settle (Cond.codeWith yW_settle bW_settle 4 (some FieldType.int) [(0, 9, 12, 13), (0, 9, 15, 17)] :: wNeed) { frames := 9, cells := 3, slots := 18, locals := 158 } (va_Pc [.ref (ad 0), .int p1, .ref (ad 4)] (GP D tI tJ tL A sg ad n sL sA)) (va_Qi (fun r (u : NL × NA) => fW_settle n sL sA p1 = (r, u.1, u.2)) (fun u t => GW D tI tJ tL A ad n u.1 u.2 t.heap) A) 3 18 A := by
  refine en_W (av := [.ref (ad 0), .int p1, .ref (ad 4)]) (by decide) (Nat.le_of_ble_eq_true rfl) ?_
  intro p e s m below meth c hx hb hml hown hts hr hlocks hTab hC H locs hG hS ls hl
  replace hl : lv_has ls 4 [(0, .ref (ad 0)), (1, .int p1), (2, .ref (ad 4))] := hl
  refine lv_aload_n hx hb dW_settle_0 rfl (lv_at hl 2 rfl) ?_
  refine lv_iconst (v := 0) hx hb dW_settle_1 (by decide) ?_
  refine lv_aload_n hx hb dW_settle_2 rfl (lv_at hl 0 rfl) ?_
  refine lv_iload_n hx hb dW_settle_3 rfl (lv_at hl 1 rfl) ?_
  refine rcV5w (rest := [.int 0, .ref (ad 4)]) (As := [.int p1]) hx hb hml hown hts hC hG hS (cX_settle l hl9 D tI tJ tL A sg ad n sL sA p1) (recX hC hG) (gV q_406 q_407 q_408 q_1 q_409) rfl rfl ⟨rfl, hdyX_settle⟩ ⟨Nat.le_of_ble_eq_true rfl, Nat.le_of_ble_eq_true rfl⟩ hl.1 rfl (Nat.le_of_ble_eq_true rfl) dW_settle_4 ⟨Nat.le_of_ble_eq_true rfl, Nat.le_of_ble_eq_true rfl⟩ (fun E ce q9 H locs hE hG hS g1 g2 g3 => ?_) (fun h_0 H locs hG hS => ?_)
  · rcases hE with ⟨rfl, h_1⟩ | ⟨rfl, h_1⟩ | ⟨rfl, h_1⟩
    · refine vx_catch (name := "java/lang/IndexOutOfBoundsException") (E := XI) hown [] (⟨0, 9, 12, 13⟩ : ExceptionTableEntry) [(⟨0, 9, 15, 17⟩ : ExceptionTableEntry)] (by rw [hTab]; rfl) (List.forall_mem_nil _) rfl (by decide) (hts _ q_82) (va_Nw.use rfl (hC.2.2.2.2.2.1 _ zc_1)) g1 g2 g3 ?_
      refine lv_astore_n (lv' := [(3, .ref q9), (0, .ref (ad 0)), (1, .int p1), (2, .ref (ad 4))]) hx hb dW_settle_12 rfl hl (by decide) rfl (fun ls hl => ?_)
      refine lv_iconst (v := 1) hx hb dW_settle_13 (by decide) ?_
      refine W.widen (k := 3) (n := 18) (Nat.le_of_ble_eq_true rfl) (Nat.le_of_ble_eq_true rfl) ?_
      exact W.iret (v := 1) hx hb hr (fun t ht hW => ⟨⟨1, (sL, sA), rfl, (by rw [fW_settle, wrapR_1 h_1] <;> rfl), gw_at hG ht⟩, hS.F ht⟩) hS.2.2 dW_settle_14
    · exact absurd h_1 (nX_settle_2 n sL sA p1)
    · refine vx_catch (name := "java/lang/IllegalStateException") (E := XS) hown [(⟨0, 9, 12, 13⟩ : ExceptionTableEntry)] (⟨0, 9, 15, 17⟩ : ExceptionTableEntry) [] (by rw [hTab]; rfl) ((List.forall_mem_cons.mpr ⟨Or.inr ⟨by decide, "java/lang/IndexOutOfBoundsException", hts _ q_82, hC.2.2.2.2.2.2 (XS, XI) (by decide)⟩, List.forall_mem_nil _⟩)) rfl (by decide) (hts _ q_84) (va_Nw.use rfl (hC.2.2.2.2.2.1 _ zc_3)) g1 g2 g3 ?_
      refine lv_astore_n (lv' := [(3, .ref q9), (0, .ref (ad 0)), (1, .int p1), (2, .ref (ad 4))]) hx hb dW_settle_15 rfl hl (by decide) rfl (fun ls hl => ?_)
      refine lv_iconst (v := 2) hx hb dW_settle_16 (by decide) ?_
      refine W.widen (k := 3) (n := 18) (Nat.le_of_ble_eq_true rfl) (Nat.le_of_ble_eq_true rfl) ?_
      exact W.iret (v := 2) hx hb hr (fun t ht hW => ⟨⟨2, (sL, sA), rfl, (by rw [fW_settle, wrapR_3 h_1] <;> rfl), gw_at hG ht⟩, hS.F ht⟩) hS.2.2 dW_settle_17
  · refine lv_i2l (v := ((fX_settle n sL sA p1).2.1 : Int32).toInt64) hx hb dW_settle_7 rfl ?_
    refine rt_st hx hb hC hG hS dW_settle_8 (fun H locs hG hS => ?_)
    refine lv_goto (tgt := 18) hx hb dW_settle_9 (by decide) ?_
    refine lv_iconst (v := 0) hx hb dW_settle_18 (by decide) ?_
    refine W.widen (k := 3) (n := 18) (Nat.le_of_ble_eq_true rfl) (Nat.le_of_ble_eq_true rfl) ?_
    exact W.iret (v := 0) hx hb hr (fun t ht hW => ⟨⟨0, ((up2L ((fX_settle n sL sA p1).2.2.1) 4 0 (((fX_settle n sL sA p1).2.1 : Int32).toInt64)), (fX_settle n sL sA p1).2.2.2), rfl, (by rw [fW_settle, wrapR_0 h_0] <;> rfl), gw_at hG ht⟩, hS.F ht⟩) hS.2.2 dW_settle_19
theorem nX_commission_3 (sL : NL) (sA : NA) (p1 : Int32) (p2 : Int32) : (fX_commission sL sA p1 p2).1 ≠ 3 := by
  unfold fX_commission
  repeat' first | exact show (0 : Nat) ≠ 3 by decide | exact show (1 : Nat) ≠ 3 by decide | exact show (2 : Nat) ≠ 3 by decide | exact seller_ne (by decide) (by decide) | exact buyer_ne (by decide) (by decide) | exact range_ne (by decide) (by decide) | exact state_ne (by decide) (by decide) | exact hund_ne (by decide) (by decide) | exact owedBy_ne (by decide) (by decide) | refine bndq_ne (by decide) (fun i => ?_) | refine bnd_ne ?_ ?_ | refine ite_ne ?_ ?_
def fW_commission (sL : NL) (sA : NA) (p1 : Int32) (p2 : Int32) : Int32 × NL × NA := wrapR (fX_commission sL sA p1 p2) 1 2 0 sL sA
theorem hdyW_commission : yW_commission.cls ≠ "java/lang/invoke/MethodHandle" ∧ yW_commission.cls ≠ "java/lang/invoke/VarHandle" ∧ (parseMethodDescriptor yW_commission.desc).map (fun d => d.parameters.length) = some 4 := by decide +kernel
theorem dW_commission_0 : decode bW_commission 0 = .ok (.aload_n 3, 1) := by decide +kernel
theorem dW_commission_1 : decode bW_commission 1 = .ok (.iconst 0, 1) := by decide +kernel
theorem dW_commission_2 : decode bW_commission 2 = .ok (.aload_n 0, 1) := by decide +kernel
theorem dW_commission_3 : decode bW_commission 3 = .ok (.iload_n 1, 1) := by decide +kernel
theorem dW_commission_4 : decode bW_commission 4 = .ok (.iload_n 2, 1) := by decide +kernel
theorem dW_commission_5 : decode bW_commission 5 = .ok (.invokevirtual 48, 3) := by decide +kernel
theorem dW_commission_8 : decode bW_commission 8 = .ok (.i2l, 1) := by decide +kernel
theorem dW_commission_9 : decode bW_commission 9 = .ok (.lastore, 1) := by decide +kernel
theorem dW_commission_10 : decode bW_commission 10 = .ok (.goto 11, 3) := by decide +kernel
theorem dW_commission_13 : decode bW_commission 13 = .ok (.astore 4, 2) := by decide +kernel
theorem dW_commission_15 : decode bW_commission 15 = .ok (.iconst 1, 1) := by decide +kernel
theorem dW_commission_16 : decode bW_commission 16 = .ok (.ireturn, 1) := by decide +kernel
theorem dW_commission_17 : decode bW_commission 17 = .ok (.astore 4, 2) := by decide +kernel
theorem dW_commission_19 : decode bW_commission 19 = .ok (.iconst 2, 1) := by decide +kernel
theorem dW_commission_20 : decode bW_commission 20 = .ok (.ireturn, 1) := by decide +kernel
theorem dW_commission_21 : decode bW_commission 21 = .ok (.iconst 0, 1) := by decide +kernel
theorem dW_commission_22 : decode bW_commission 22 = .ok (.ireturn, 1) := by decide +kernel
set_option maxHeartbeats 4000000 in
set_option maxRecDepth 100000 in
theorem cW_commission (l : Launch) (hl9 : l.stackTraces = false) (D : va_G) (tI tJ tL : ClassId) (A : Nat → Prop) (sg ad : Nat → Nat) (n : Nat) (sL : NL) (sA : NA) (p1 : Int32) (p2 : Int32) : Met l yW_commission (Cond.codeWith yW_commission bW_commission 5 (some FieldType.int) [(0, 10, 13, 13), (0, 10, 17, 15)] :: wNeed) { frames := 8, cells := 2, slots := 12, locals := 135 } (va_Pc [.ref (ad 0), .int p1, .int p2, .ref (ad 4)] (GP D tI tJ tL A sg ad n sL sA)) (va_Qi (fun r (u : NL × NA) => fW_commission sL sA p1 p2 = (r, u.1, u.2)) (fun u t => GW D tI tJ tL A ad n u.1 u.2 t.heap) A) 2 12 A := by
  refine en_W (av := [.ref (ad 0), .int p1, .int p2, .ref (ad 4)]) (by decide) (Nat.le_of_ble_eq_true rfl) ?_
  intro p e s m below meth c hx hb hml hown hts hr hlocks hTab hC H locs hG hS ls hl
  replace hl : lv_has ls 5 [(0, .ref (ad 0)), (1, .int p1), (2, .int p2), (3, .ref (ad 4))] := hl
  refine lv_aload_n hx hb dW_commission_0 rfl (lv_at hl 3 rfl) ?_
  refine lv_iconst (v := 0) hx hb dW_commission_1 (by decide) ?_
  refine lv_aload_n hx hb dW_commission_2 rfl (lv_at hl 0 rfl) ?_
  refine lv_iload_n hx hb dW_commission_3 rfl (lv_at hl 1 rfl) ?_
  refine lv_iload_n hx hb dW_commission_4 rfl (lv_at hl 2 rfl) ?_
  refine rcV5w (rest := [.int 0, .ref (ad 4)]) (As := [.int p1, .int p2]) hx hb hml hown hts hC hG hS (cX_commission l hl9 D tI tJ tL A sg ad n sL sA p1 p2) (recX hC hG) (gV q_429 q_430 q_431 q_1 q_432) rfl rfl ⟨rfl, hdyX_commission⟩ ⟨Nat.le_of_ble_eq_true rfl, Nat.le_of_ble_eq_true rfl⟩ hl.1 rfl (Nat.le_of_ble_eq_true rfl) dW_commission_5 ⟨Nat.le_of_ble_eq_true rfl, Nat.le_of_ble_eq_true rfl⟩ (fun E ce q9 H locs hE hG hS g1 g2 g3 => ?_) (fun h_0 H locs hG hS => ?_)
  · rcases hE with ⟨rfl, h_1⟩ | ⟨rfl, h_1⟩ | ⟨rfl, h_1⟩
    · refine vx_catch (name := "java/lang/IndexOutOfBoundsException") (E := XI) hown [] (⟨0, 10, 13, 13⟩ : ExceptionTableEntry) [(⟨0, 10, 17, 15⟩ : ExceptionTableEntry)] (by rw [hTab]; rfl) (List.forall_mem_nil _) rfl (by decide) (hts _ q_82) (va_Nw.use rfl (hC.2.2.2.2.2.1 _ zc_1)) g1 g2 g3 ?_
      refine lv_astore (lv' := [(4, .ref q9), (0, .ref (ad 0)), (1, .int p1), (2, .int p2), (3, .ref (ad 4))]) hx hb dW_commission_13 hl (by decide) rfl (fun ls hl => ?_)
      refine lv_iconst (v := 1) hx hb dW_commission_15 (by decide) ?_
      refine W.widen (k := 2) (n := 12) (Nat.le_of_ble_eq_true rfl) (Nat.le_of_ble_eq_true rfl) ?_
      exact W.iret (v := 1) hx hb hr (fun t ht hW => ⟨⟨1, (sL, sA), rfl, (by rw [fW_commission, wrapR_1 h_1] <;> rfl), gw_at hG ht⟩, hS.F ht⟩) hS.2.2 dW_commission_16
    · refine vx_catch (name := "java/lang/IllegalArgumentException") (E := XG) hown [(⟨0, 10, 13, 13⟩ : ExceptionTableEntry)] (⟨0, 10, 17, 15⟩ : ExceptionTableEntry) [] (by rw [hTab]; rfl) ((List.forall_mem_cons.mpr ⟨Or.inr ⟨by decide, "java/lang/IndexOutOfBoundsException", hts _ q_82, hC.2.2.2.2.2.2 (XG, XI) (by decide)⟩, List.forall_mem_nil _⟩)) rfl (by decide) (hts _ q_83) (va_Nw.use rfl (hC.2.2.2.2.2.1 _ zc_2)) g1 g2 g3 ?_
      refine lv_astore (lv' := [(4, .ref q9), (0, .ref (ad 0)), (1, .int p1), (2, .int p2), (3, .ref (ad 4))]) hx hb dW_commission_17 hl (by decide) rfl (fun ls hl => ?_)
      refine lv_iconst (v := 2) hx hb dW_commission_19 (by decide) ?_
      refine W.widen (k := 2) (n := 12) (Nat.le_of_ble_eq_true rfl) (Nat.le_of_ble_eq_true rfl) ?_
      exact W.iret (v := 2) hx hb hr (fun t ht hW => ⟨⟨2, (sL, sA), rfl, (by rw [fW_commission, wrapR_2 h_1] <;> rfl), gw_at hG ht⟩, hS.F ht⟩) hS.2.2 dW_commission_20
    · exact absurd h_1 (nX_commission_3 sL sA p1 p2)
  · refine lv_i2l (v := ((fX_commission sL sA p1 p2).2.1 : Int32).toInt64) hx hb dW_commission_8 rfl ?_
    refine rt_st hx hb hC hG hS dW_commission_9 (fun H locs hG hS => ?_)
    refine lv_goto (tgt := 21) hx hb dW_commission_10 (by decide) ?_
    refine lv_iconst (v := 0) hx hb dW_commission_21 (by decide) ?_
    refine W.widen (k := 2) (n := 12) (Nat.le_of_ble_eq_true rfl) (Nat.le_of_ble_eq_true rfl) ?_
    exact W.iret (v := 0) hx hb hr (fun t ht hW => ⟨⟨0, ((up2L ((fX_commission sL sA p1 p2).2.2.1) 4 0 (((fX_commission sL sA p1 p2).2.1 : Int32).toInt64)), (fX_commission sL sA p1 p2).2.2.2), rfl, (by rw [fW_commission, wrapR_0 h_0] <;> rfl), gw_at hG ht⟩, hS.F ht⟩) hS.2.2 dW_commission_22
theorem nX_rate_1 (sL : NL) (sA : NA) (p1 : Int32) : (fX_rate sL sA p1).1 ≠ 1 := by
  unfold fX_rate
  repeat' first | exact show (0 : Nat) ≠ 1 by decide | exact show (2 : Nat) ≠ 1 by decide | exact show (3 : Nat) ≠ 1 by decide | exact seller_ne (by decide) (by decide) | exact buyer_ne (by decide) (by decide) | exact range_ne (by decide) (by decide) | exact state_ne (by decide) (by decide) | exact hund_ne (by decide) (by decide) | exact owedBy_ne (by decide) (by decide) | refine bndq_ne (by decide) (fun i => ?_) | refine bnd_ne ?_ ?_ | refine ite_ne ?_ ?_
theorem nX_rate_3 (sL : NL) (sA : NA) (p1 : Int32) : (fX_rate sL sA p1).1 ≠ 3 := by
  unfold fX_rate
  repeat' first | exact show (0 : Nat) ≠ 3 by decide | exact show (1 : Nat) ≠ 3 by decide | exact show (2 : Nat) ≠ 3 by decide | exact seller_ne (by decide) (by decide) | exact buyer_ne (by decide) (by decide) | exact range_ne (by decide) (by decide) | exact state_ne (by decide) (by decide) | exact hund_ne (by decide) (by decide) | exact owedBy_ne (by decide) (by decide) | refine bndq_ne (by decide) (fun i => ?_) | refine bnd_ne ?_ ?_ | refine ite_ne ?_ ?_
def fW_rate (sL : NL) (sA : NA) (p1 : Int32) : Int32 × NL × NA := wrapR (fX_rate sL sA p1) 0 1 0 sL sA
theorem hdyW_rate : yW_rate.cls ≠ "java/lang/invoke/MethodHandle" ∧ yW_rate.cls ≠ "java/lang/invoke/VarHandle" ∧ (parseMethodDescriptor yW_rate.desc).map (fun d => d.parameters.length) = some 3 := by decide +kernel
theorem dW_rate_0 : decode bW_rate 0 = .ok (.aload_n 2, 1) := by decide +kernel
theorem dW_rate_1 : decode bW_rate 1 = .ok (.iconst 0, 1) := by decide +kernel
theorem dW_rate_2 : decode bW_rate 2 = .ok (.aload_n 0, 1) := by decide +kernel
theorem dW_rate_3 : decode bW_rate 3 = .ok (.iload_n 1, 1) := by decide +kernel
theorem dW_rate_4 : decode bW_rate 4 = .ok (.invokevirtual 51, 3) := by decide +kernel
theorem dW_rate_7 : decode bW_rate 7 = .ok (.i2l, 1) := by decide +kernel
theorem dW_rate_8 : decode bW_rate 8 = .ok (.lastore, 1) := by decide +kernel
theorem dW_rate_9 : decode bW_rate 9 = .ok (.goto 6, 3) := by decide +kernel
theorem dW_rate_12 : decode bW_rate 12 = .ok (.astore_n 3, 1) := by decide +kernel
theorem dW_rate_13 : decode bW_rate 13 = .ok (.iconst 1, 1) := by decide +kernel
theorem dW_rate_14 : decode bW_rate 14 = .ok (.ireturn, 1) := by decide +kernel
theorem dW_rate_15 : decode bW_rate 15 = .ok (.iconst 0, 1) := by decide +kernel
theorem dW_rate_16 : decode bW_rate 16 = .ok (.ireturn, 1) := by decide +kernel
set_option maxHeartbeats 4000000 in
set_option maxRecDepth 100000 in
theorem cW_rate (l : Launch) (hl9 : l.stackTraces = false) (D : va_G) (tI tJ tL : ClassId) (A : Nat → Prop) (sg ad : Nat → Nat) (n : Nat) (sL : NL) (sA : NA) (p1 : Int32) : Met l yW_rate (Cond.codeWith yW_rate bW_rate 4 (some FieldType.int) [(0, 9, 12, 15)] :: wNeed) { frames := 8, cells := 1, slots := 6, locals := 134 } (va_Pc [.ref (ad 0), .int p1, .ref (ad 4)] (GP D tI tJ tL A sg ad n sL sA)) (va_Qi (fun r (u : NL × NA) => fW_rate sL sA p1 = (r, u.1, u.2)) (fun u t => GW D tI tJ tL A ad n u.1 u.2 t.heap) A) 1 6 A := by
  refine en_W (av := [.ref (ad 0), .int p1, .ref (ad 4)]) (by decide) (Nat.le_of_ble_eq_true rfl) ?_
  intro p e s m below meth c hx hb hml hown hts hr hlocks hTab hC H locs hG hS ls hl
  replace hl : lv_has ls 4 [(0, .ref (ad 0)), (1, .int p1), (2, .ref (ad 4))] := hl
  refine lv_aload_n hx hb dW_rate_0 rfl (lv_at hl 2 rfl) ?_
  refine lv_iconst (v := 0) hx hb dW_rate_1 (by decide) ?_
  refine lv_aload_n hx hb dW_rate_2 rfl (lv_at hl 0 rfl) ?_
  refine lv_iload_n hx hb dW_rate_3 rfl (lv_at hl 1 rfl) ?_
  refine rcV5w (rest := [.int 0, .ref (ad 4)]) (As := [.int p1]) hx hb hml hown hts hC hG hS (cX_rate l hl9 D tI tJ tL A sg ad n sL sA p1) (recX hC hG) (gV q_436 q_437 q_438 q_1 q_439) rfl rfl ⟨rfl, hdyX_rate⟩ ⟨Nat.le_of_ble_eq_true rfl, Nat.le_of_ble_eq_true rfl⟩ hl.1 rfl (Nat.le_of_ble_eq_true rfl) dW_rate_4 ⟨Nat.le_of_ble_eq_true rfl, Nat.le_of_ble_eq_true rfl⟩ (fun E ce q9 H locs hE hG hS g1 g2 g3 => ?_) (fun h_0 H locs hG hS => ?_)
  · rcases hE with ⟨rfl, h_1⟩ | ⟨rfl, h_1⟩ | ⟨rfl, h_1⟩
    · exact absurd h_1 (nX_rate_1 sL sA p1)
    · refine vx_catch (name := "java/lang/IllegalArgumentException") (E := XG) hown [] (⟨0, 9, 12, 15⟩ : ExceptionTableEntry) [] (by rw [hTab]; rfl) (List.forall_mem_nil _) rfl (by decide) (hts _ q_83) (va_Nw.use rfl (hC.2.2.2.2.2.1 _ zc_2)) g1 g2 g3 ?_
      refine lv_astore_n (lv' := [(3, .ref q9), (0, .ref (ad 0)), (1, .int p1), (2, .ref (ad 4))]) hx hb dW_rate_12 rfl hl (by decide) rfl (fun ls hl => ?_)
      refine lv_iconst (v := 1) hx hb dW_rate_13 (by decide) ?_
      refine W.widen (k := 1) (n := 6) (Nat.le_of_ble_eq_true rfl) (Nat.le_of_ble_eq_true rfl) ?_
      exact W.iret (v := 1) hx hb hr (fun t ht hW => ⟨⟨1, (sL, sA), rfl, (by rw [fW_rate, wrapR_2 h_1] <;> rfl), gw_at hG ht⟩, hS.F ht⟩) hS.2.2 dW_rate_14
    · exact absurd h_1 (nX_rate_3 sL sA p1)
  · refine lv_i2l (v := ((fX_rate sL sA p1).2.1 : Int32).toInt64) hx hb dW_rate_7 rfl ?_
    refine rt_st hx hb hC hG hS dW_rate_8 (fun H locs hG hS => ?_)
    refine lv_goto (tgt := 15) hx hb dW_rate_9 (by decide) ?_
    refine lv_iconst (v := 0) hx hb dW_rate_15 (by decide) ?_
    refine W.widen (k := 1) (n := 6) (Nat.le_of_ble_eq_true rfl) (Nat.le_of_ble_eq_true rfl) ?_
    exact W.iret (v := 0) hx hb hr (fun t ht hW => ⟨⟨0, ((up2L ((fX_rate sL sA p1).2.2.1) 4 0 (((fX_rate sL sA p1).2.1 : Int32).toInt64)), (fX_rate sL sA p1).2.2.2), rfl, (by rw [fW_rate, wrapR_0 h_0] <;> rfl), gw_at hG ht⟩, hS.F ht⟩) hS.2.2 dW_rate_16
theorem nX_days_1 (sL : NL) (sA : NA) (p1 : Int32) : (fX_days sL sA p1).1 ≠ 1 := by
  unfold fX_days
  repeat' first | exact show (0 : Nat) ≠ 1 by decide | exact show (2 : Nat) ≠ 1 by decide | exact show (3 : Nat) ≠ 1 by decide | exact seller_ne (by decide) (by decide) | exact buyer_ne (by decide) (by decide) | exact range_ne (by decide) (by decide) | exact state_ne (by decide) (by decide) | exact hund_ne (by decide) (by decide) | exact owedBy_ne (by decide) (by decide) | refine bndq_ne (by decide) (fun i => ?_) | refine bnd_ne ?_ ?_ | refine ite_ne ?_ ?_
def fW_days (sL : NL) (sA : NA) (p1 : Int32) : Int32 × NL × NA := wrapR (fX_days sL sA p1) 0 1 2 sL sA
theorem hdyW_days : yW_days.cls ≠ "java/lang/invoke/MethodHandle" ∧ yW_days.cls ≠ "java/lang/invoke/VarHandle" ∧ (parseMethodDescriptor yW_days.desc).map (fun d => d.parameters.length) = some 3 := by decide +kernel
theorem dW_days_0 : decode bW_days 0 = .ok (.aload_n 2, 1) := by decide +kernel
theorem dW_days_1 : decode bW_days 1 = .ok (.iconst 0, 1) := by decide +kernel
theorem dW_days_2 : decode bW_days 2 = .ok (.aload_n 0, 1) := by decide +kernel
theorem dW_days_3 : decode bW_days 3 = .ok (.iload_n 1, 1) := by decide +kernel
theorem dW_days_4 : decode bW_days 4 = .ok (.invokevirtual 54, 3) := by decide +kernel
theorem dW_days_7 : decode bW_days 7 = .ok (.i2l, 1) := by decide +kernel
theorem dW_days_8 : decode bW_days 8 = .ok (.lastore, 1) := by decide +kernel
theorem dW_days_9 : decode bW_days 9 = .ok (.goto 9, 3) := by decide +kernel
theorem dW_days_12 : decode bW_days 12 = .ok (.astore_n 3, 1) := by decide +kernel
theorem dW_days_13 : decode bW_days 13 = .ok (.iconst 1, 1) := by decide +kernel
theorem dW_days_14 : decode bW_days 14 = .ok (.ireturn, 1) := by decide +kernel
theorem dW_days_15 : decode bW_days 15 = .ok (.astore_n 3, 1) := by decide +kernel
theorem dW_days_16 : decode bW_days 16 = .ok (.iconst 2, 1) := by decide +kernel
theorem dW_days_17 : decode bW_days 17 = .ok (.ireturn, 1) := by decide +kernel
theorem dW_days_18 : decode bW_days 18 = .ok (.iconst 0, 1) := by decide +kernel
theorem dW_days_19 : decode bW_days 19 = .ok (.ireturn, 1) := by decide +kernel
set_option maxHeartbeats 4000000 in
set_option maxRecDepth 100000 in
theorem cW_days (l : Launch) (hl9 : l.stackTraces = false) (D : va_G) (tI tJ tL : ClassId) (A : Nat → Prop) (sg ad : Nat → Nat) (n : Nat) (sL : NL) (sA : NA) (p1 : Int32) : Met l yW_days (Cond.codeWith yW_days bW_days 4 (some FieldType.int) [(0, 9, 12, 15), (0, 9, 15, 17)] :: wNeed) { frames := 8, cells := 2, slots := 12, locals := 133 } (va_Pc [.ref (ad 0), .int p1, .ref (ad 4)] (GP D tI tJ tL A sg ad n sL sA)) (va_Qi (fun r (u : NL × NA) => fW_days sL sA p1 = (r, u.1, u.2)) (fun u t => GW D tI tJ tL A ad n u.1 u.2 t.heap) A) 2 12 A := by
  refine en_W (av := [.ref (ad 0), .int p1, .ref (ad 4)]) (by decide) (Nat.le_of_ble_eq_true rfl) ?_
  intro p e s m below meth c hx hb hml hown hts hr hlocks hTab hC H locs hG hS ls hl
  replace hl : lv_has ls 4 [(0, .ref (ad 0)), (1, .int p1), (2, .ref (ad 4))] := hl
  refine lv_aload_n hx hb dW_days_0 rfl (lv_at hl 2 rfl) ?_
  refine lv_iconst (v := 0) hx hb dW_days_1 (by decide) ?_
  refine lv_aload_n hx hb dW_days_2 rfl (lv_at hl 0 rfl) ?_
  refine lv_iload_n hx hb dW_days_3 rfl (lv_at hl 1 rfl) ?_
  refine rcV5w (rest := [.int 0, .ref (ad 4)]) (As := [.int p1]) hx hb hml hown hts hC hG hS (cX_days l hl9 D tI tJ tL A sg ad n sL sA p1) (recX hC hG) (gV q_443 q_444 q_445 q_1 q_446) rfl rfl ⟨rfl, hdyX_days⟩ ⟨Nat.le_of_ble_eq_true rfl, Nat.le_of_ble_eq_true rfl⟩ hl.1 rfl (Nat.le_of_ble_eq_true rfl) dW_days_4 ⟨Nat.le_of_ble_eq_true rfl, Nat.le_of_ble_eq_true rfl⟩ (fun E ce q9 H locs hE hG hS g1 g2 g3 => ?_) (fun h_0 H locs hG hS => ?_)
  · rcases hE with ⟨rfl, h_1⟩ | ⟨rfl, h_1⟩ | ⟨rfl, h_1⟩
    · exact absurd h_1 (nX_days_1 sL sA p1)
    · refine vx_catch (name := "java/lang/IllegalArgumentException") (E := XG) hown [] (⟨0, 9, 12, 15⟩ : ExceptionTableEntry) [(⟨0, 9, 15, 17⟩ : ExceptionTableEntry)] (by rw [hTab]; rfl) (List.forall_mem_nil _) rfl (by decide) (hts _ q_83) (va_Nw.use rfl (hC.2.2.2.2.2.1 _ zc_2)) g1 g2 g3 ?_
      refine lv_astore_n (lv' := [(3, .ref q9), (0, .ref (ad 0)), (1, .int p1), (2, .ref (ad 4))]) hx hb dW_days_12 rfl hl (by decide) rfl (fun ls hl => ?_)
      refine lv_iconst (v := 1) hx hb dW_days_13 (by decide) ?_
      refine W.widen (k := 2) (n := 12) (Nat.le_of_ble_eq_true rfl) (Nat.le_of_ble_eq_true rfl) ?_
      exact W.iret (v := 1) hx hb hr (fun t ht hW => ⟨⟨1, (sL, sA), rfl, (by rw [fW_days, wrapR_2 h_1] <;> rfl), gw_at hG ht⟩, hS.F ht⟩) hS.2.2 dW_days_14
    · refine vx_catch (name := "java/lang/IllegalStateException") (E := XS) hown [(⟨0, 9, 12, 15⟩ : ExceptionTableEntry)] (⟨0, 9, 15, 17⟩ : ExceptionTableEntry) [] (by rw [hTab]; rfl) ((List.forall_mem_cons.mpr ⟨Or.inr ⟨by decide, "java/lang/IllegalArgumentException", hts _ q_83, hC.2.2.2.2.2.2 (XS, XG) (by decide)⟩, List.forall_mem_nil _⟩)) rfl (by decide) (hts _ q_84) (va_Nw.use rfl (hC.2.2.2.2.2.1 _ zc_3)) g1 g2 g3 ?_
      refine lv_astore_n (lv' := [(3, .ref q9), (0, .ref (ad 0)), (1, .int p1), (2, .ref (ad 4))]) hx hb dW_days_15 rfl hl (by decide) rfl (fun ls hl => ?_)
      refine lv_iconst (v := 2) hx hb dW_days_16 (by decide) ?_
      refine W.widen (k := 2) (n := 12) (Nat.le_of_ble_eq_true rfl) (Nat.le_of_ble_eq_true rfl) ?_
      exact W.iret (v := 2) hx hb hr (fun t ht hW => ⟨⟨2, (sL, sA), rfl, (by rw [fW_days, wrapR_3 h_1] <;> rfl), gw_at hG ht⟩, hS.F ht⟩) hS.2.2 dW_days_17
  · refine lv_i2l (v := ((fX_days sL sA p1).2.1 : Int32).toInt64) hx hb dW_days_7 rfl ?_
    refine rt_st hx hb hC hG hS dW_days_8 (fun H locs hG hS => ?_)
    refine lv_goto (tgt := 18) hx hb dW_days_9 (by decide) ?_
    refine lv_iconst (v := 0) hx hb dW_days_18 (by decide) ?_
    refine W.widen (k := 2) (n := 12) (Nat.le_of_ble_eq_true rfl) (Nat.le_of_ble_eq_true rfl) ?_
    exact W.iret (v := 0) hx hb hr (fun t ht hW => ⟨⟨0, ((up2L ((fX_days sL sA p1).2.2.1) 4 0 (((fX_days sL sA p1).2.1 : Int32).toInt64)), (fX_days sL sA p1).2.2.2), rfl, (by rw [fW_days, wrapR_0 h_0] <;> rfl), gw_at hG ht⟩, hS.F ht⟩) hS.2.2 dW_days_19
theorem nX_state_2 (n : Nat) (sL : NL) (sA : NA) (p1 : Int32) : (fX_state n sL sA p1).1 ≠ 2 := by
  unfold fX_state
  repeat' first | exact show (0 : Nat) ≠ 2 by decide | exact show (1 : Nat) ≠ 2 by decide | exact show (3 : Nat) ≠ 2 by decide | exact seller_ne (by decide) (by decide) | exact buyer_ne (by decide) (by decide) | exact range_ne (by decide) (by decide) | exact state_ne (by decide) (by decide) | exact hund_ne (by decide) (by decide) | exact owedBy_ne (by decide) (by decide) | refine bndq_ne (by decide) (fun i => ?_) | refine bnd_ne ?_ ?_ | refine ite_ne ?_ ?_
theorem nX_state_3 (n : Nat) (sL : NL) (sA : NA) (p1 : Int32) : (fX_state n sL sA p1).1 ≠ 3 := by
  unfold fX_state
  repeat' first | exact show (0 : Nat) ≠ 3 by decide | exact show (1 : Nat) ≠ 3 by decide | exact show (2 : Nat) ≠ 3 by decide | exact seller_ne (by decide) (by decide) | exact buyer_ne (by decide) (by decide) | exact range_ne (by decide) (by decide) | exact state_ne (by decide) (by decide) | exact hund_ne (by decide) (by decide) | exact owedBy_ne (by decide) (by decide) | refine bndq_ne (by decide) (fun i => ?_) | refine bnd_ne ?_ ?_ | refine ite_ne ?_ ?_
def fW_state (n : Nat) (sL : NL) (sA : NA) (p1 : Int32) : Int32 × NL × NA := wrapR (fX_state n sL sA p1) 1 0 0 sL sA
theorem hdyW_state : yW_state.cls ≠ "java/lang/invoke/MethodHandle" ∧ yW_state.cls ≠ "java/lang/invoke/VarHandle" ∧ (parseMethodDescriptor yW_state.desc).map (fun d => d.parameters.length) = some 3 := by decide +kernel
theorem dW_state_0 : decode bW_state 0 = .ok (.aload_n 2, 1) := by decide +kernel
theorem dW_state_1 : decode bW_state 1 = .ok (.iconst 0, 1) := by decide +kernel
theorem dW_state_2 : decode bW_state 2 = .ok (.aload_n 0, 1) := by decide +kernel
theorem dW_state_3 : decode bW_state 3 = .ok (.iload_n 1, 1) := by decide +kernel
theorem dW_state_4 : decode bW_state 4 = .ok (.invokevirtual 57, 3) := by decide +kernel
theorem dW_state_7 : decode bW_state 7 = .ok (.i2l, 1) := by decide +kernel
theorem dW_state_8 : decode bW_state 8 = .ok (.lastore, 1) := by decide +kernel
theorem dW_state_9 : decode bW_state 9 = .ok (.goto 6, 3) := by decide +kernel
theorem dW_state_12 : decode bW_state 12 = .ok (.astore_n 3, 1) := by decide +kernel
theorem dW_state_13 : decode bW_state 13 = .ok (.iconst 1, 1) := by decide +kernel
theorem dW_state_14 : decode bW_state 14 = .ok (.ireturn, 1) := by decide +kernel
theorem dW_state_15 : decode bW_state 15 = .ok (.iconst 0, 1) := by decide +kernel
theorem dW_state_16 : decode bW_state 16 = .ok (.ireturn, 1) := by decide +kernel
set_option maxHeartbeats 4000000 in
set_option maxRecDepth 100000 in
theorem cW_state (l : Launch) (hl9 : l.stackTraces = false) (D : va_G) (tI tJ tL : ClassId) (A : Nat → Prop) (sg ad : Nat → Nat) (n : Nat) (sL : NL) (sA : NA) (p1 : Int32) : Met l yW_state (Cond.codeWith yW_state bW_state 4 (some FieldType.int) [(0, 9, 12, 13)] :: wNeed) { frames := 8, cells := 1, slots := 6, locals := 133 } (va_Pc [.ref (ad 0), .int p1, .ref (ad 4)] (GP D tI tJ tL A sg ad n sL sA)) (va_Qi (fun r (u : NL × NA) => fW_state n sL sA p1 = (r, u.1, u.2)) (fun u t => GW D tI tJ tL A ad n u.1 u.2 t.heap) A) 1 6 A := by
  refine en_W (av := [.ref (ad 0), .int p1, .ref (ad 4)]) (by decide) (Nat.le_of_ble_eq_true rfl) ?_
  intro p e s m below meth c hx hb hml hown hts hr hlocks hTab hC H locs hG hS ls hl
  replace hl : lv_has ls 4 [(0, .ref (ad 0)), (1, .int p1), (2, .ref (ad 4))] := hl
  refine lv_aload_n hx hb dW_state_0 rfl (lv_at hl 2 rfl) ?_
  refine lv_iconst (v := 0) hx hb dW_state_1 (by decide) ?_
  refine lv_aload_n hx hb dW_state_2 rfl (lv_at hl 0 rfl) ?_
  refine lv_iload_n hx hb dW_state_3 rfl (lv_at hl 1 rfl) ?_
  refine rcV5w (rest := [.int 0, .ref (ad 4)]) (As := [.int p1]) hx hb hml hown hts hC hG hS (cX_state l hl9 D tI tJ tL A sg ad n sL sA p1) (recX hC hG) (gV q_451 q_452 q_453 q_1 q_454) rfl rfl ⟨rfl, hdyX_state⟩ ⟨Nat.le_of_ble_eq_true rfl, Nat.le_of_ble_eq_true rfl⟩ hl.1 rfl (Nat.le_of_ble_eq_true rfl) dW_state_4 ⟨Nat.le_of_ble_eq_true rfl, Nat.le_of_ble_eq_true rfl⟩ (fun E ce q9 H locs hE hG hS g1 g2 g3 => ?_) (fun h_0 H locs hG hS => ?_)
  · rcases hE with ⟨rfl, h_1⟩ | ⟨rfl, h_1⟩ | ⟨rfl, h_1⟩
    · refine vx_catch (name := "java/lang/IndexOutOfBoundsException") (E := XI) hown [] (⟨0, 9, 12, 13⟩ : ExceptionTableEntry) [] (by rw [hTab]; rfl) (List.forall_mem_nil _) rfl (by decide) (hts _ q_82) (va_Nw.use rfl (hC.2.2.2.2.2.1 _ zc_1)) g1 g2 g3 ?_
      refine lv_astore_n (lv' := [(3, .ref q9), (0, .ref (ad 0)), (1, .int p1), (2, .ref (ad 4))]) hx hb dW_state_12 rfl hl (by decide) rfl (fun ls hl => ?_)
      refine lv_iconst (v := 1) hx hb dW_state_13 (by decide) ?_
      refine W.widen (k := 1) (n := 6) (Nat.le_of_ble_eq_true rfl) (Nat.le_of_ble_eq_true rfl) ?_
      exact W.iret (v := 1) hx hb hr (fun t ht hW => ⟨⟨1, (sL, sA), rfl, (by rw [fW_state, wrapR_1 h_1] <;> rfl), gw_at hG ht⟩, hS.F ht⟩) hS.2.2 dW_state_14
    · exact absurd h_1 (nX_state_2 n sL sA p1)
    · exact absurd h_1 (nX_state_3 n sL sA p1)
  · refine lv_i2l (v := ((fX_state n sL sA p1).2.1 : Int32).toInt64) hx hb dW_state_7 rfl ?_
    refine rt_st hx hb hC hG hS dW_state_8 (fun H locs hG hS => ?_)
    refine lv_goto (tgt := 15) hx hb dW_state_9 (by decide) ?_
    refine lv_iconst (v := 0) hx hb dW_state_15 (by decide) ?_
    refine W.widen (k := 1) (n := 6) (Nat.le_of_ble_eq_true rfl) (Nat.le_of_ble_eq_true rfl) ?_
    exact W.iret (v := 0) hx hb hr (fun t ht hW => ⟨⟨0, ((up2L ((fX_state n sL sA p1).2.2.1) 4 0 (((fX_state n sL sA p1).2.1 : Int32).toInt64)), (fX_state n sL sA p1).2.2.2), rfl, (by rw [fW_state, wrapR_0 h_0] <;> rfl), gw_at hG ht⟩, hS.F ht⟩) hS.2.2 dW_state_16
theorem nX_buyerOf_2 (n : Nat) (sL : NL) (sA : NA) (p1 : Int32) : (fX_buyerOf n sL sA p1).1 ≠ 2 := by
  unfold fX_buyerOf
  repeat' first | exact show (0 : Nat) ≠ 2 by decide | exact show (1 : Nat) ≠ 2 by decide | exact show (3 : Nat) ≠ 2 by decide | exact seller_ne (by decide) (by decide) | exact buyer_ne (by decide) (by decide) | exact range_ne (by decide) (by decide) | exact state_ne (by decide) (by decide) | exact hund_ne (by decide) (by decide) | exact owedBy_ne (by decide) (by decide) | refine bndq_ne (by decide) (fun i => ?_) | refine bnd_ne ?_ ?_ | refine ite_ne ?_ ?_
theorem nX_buyerOf_3 (n : Nat) (sL : NL) (sA : NA) (p1 : Int32) : (fX_buyerOf n sL sA p1).1 ≠ 3 := by
  unfold fX_buyerOf
  repeat' first | exact show (0 : Nat) ≠ 3 by decide | exact show (1 : Nat) ≠ 3 by decide | exact show (2 : Nat) ≠ 3 by decide | exact seller_ne (by decide) (by decide) | exact buyer_ne (by decide) (by decide) | exact range_ne (by decide) (by decide) | exact state_ne (by decide) (by decide) | exact hund_ne (by decide) (by decide) | exact owedBy_ne (by decide) (by decide) | refine bndq_ne (by decide) (fun i => ?_) | refine bnd_ne ?_ ?_ | refine ite_ne ?_ ?_
def fW_buyerOf (n : Nat) (sL : NL) (sA : NA) (p1 : Int32) : Int32 × NL × NA := wrapR (fX_buyerOf n sL sA p1) 1 0 0 sL sA
theorem hdyW_buyerOf : yW_buyerOf.cls ≠ "java/lang/invoke/MethodHandle" ∧ yW_buyerOf.cls ≠ "java/lang/invoke/VarHandle" ∧ (parseMethodDescriptor yW_buyerOf.desc).map (fun d => d.parameters.length) = some 3 := by decide +kernel
theorem dW_buyerOf_0 : decode bW_buyerOf 0 = .ok (.aload_n 2, 1) := by decide +kernel
theorem dW_buyerOf_1 : decode bW_buyerOf 1 = .ok (.iconst 0, 1) := by decide +kernel
theorem dW_buyerOf_2 : decode bW_buyerOf 2 = .ok (.aload_n 0, 1) := by decide +kernel
theorem dW_buyerOf_3 : decode bW_buyerOf 3 = .ok (.iload_n 1, 1) := by decide +kernel
theorem dW_buyerOf_4 : decode bW_buyerOf 4 = .ok (.invokevirtual 60, 3) := by decide +kernel
theorem dW_buyerOf_7 : decode bW_buyerOf 7 = .ok (.i2l, 1) := by decide +kernel
theorem dW_buyerOf_8 : decode bW_buyerOf 8 = .ok (.lastore, 1) := by decide +kernel
theorem dW_buyerOf_9 : decode bW_buyerOf 9 = .ok (.goto 6, 3) := by decide +kernel
theorem dW_buyerOf_12 : decode bW_buyerOf 12 = .ok (.astore_n 3, 1) := by decide +kernel
theorem dW_buyerOf_13 : decode bW_buyerOf 13 = .ok (.iconst 1, 1) := by decide +kernel
theorem dW_buyerOf_14 : decode bW_buyerOf 14 = .ok (.ireturn, 1) := by decide +kernel
theorem dW_buyerOf_15 : decode bW_buyerOf 15 = .ok (.iconst 0, 1) := by decide +kernel
theorem dW_buyerOf_16 : decode bW_buyerOf 16 = .ok (.ireturn, 1) := by decide +kernel
set_option maxHeartbeats 4000000 in
set_option maxRecDepth 100000 in
theorem cW_buyerOf (l : Launch) (hl9 : l.stackTraces = false) (D : va_G) (tI tJ tL : ClassId) (A : Nat → Prop) (sg ad : Nat → Nat) (n : Nat) (sL : NL) (sA : NA) (p1 : Int32) : Met l yW_buyerOf (Cond.codeWith yW_buyerOf bW_buyerOf 4 (some FieldType.int) [(0, 9, 12, 13)] :: wNeed) { frames := 8, cells := 1, slots := 6, locals := 133 } (va_Pc [.ref (ad 0), .int p1, .ref (ad 4)] (GP D tI tJ tL A sg ad n sL sA)) (va_Qi (fun r (u : NL × NA) => fW_buyerOf n sL sA p1 = (r, u.1, u.2)) (fun u t => GW D tI tJ tL A ad n u.1 u.2 t.heap) A) 1 6 A := by
  refine en_W (av := [.ref (ad 0), .int p1, .ref (ad 4)]) (by decide) (Nat.le_of_ble_eq_true rfl) ?_
  intro p e s m below meth c hx hb hml hown hts hr hlocks hTab hC H locs hG hS ls hl
  replace hl : lv_has ls 4 [(0, .ref (ad 0)), (1, .int p1), (2, .ref (ad 4))] := hl
  refine lv_aload_n hx hb dW_buyerOf_0 rfl (lv_at hl 2 rfl) ?_
  refine lv_iconst (v := 0) hx hb dW_buyerOf_1 (by decide) ?_
  refine lv_aload_n hx hb dW_buyerOf_2 rfl (lv_at hl 0 rfl) ?_
  refine lv_iload_n hx hb dW_buyerOf_3 rfl (lv_at hl 1 rfl) ?_
  refine rcV5w (rest := [.int 0, .ref (ad 4)]) (As := [.int p1]) hx hb hml hown hts hC hG hS (cX_buyerOf l hl9 D tI tJ tL A sg ad n sL sA p1) (recX hC hG) (gV q_458 q_459 q_460 q_1 q_461) rfl rfl ⟨rfl, hdyX_buyerOf⟩ ⟨Nat.le_of_ble_eq_true rfl, Nat.le_of_ble_eq_true rfl⟩ hl.1 rfl (Nat.le_of_ble_eq_true rfl) dW_buyerOf_4 ⟨Nat.le_of_ble_eq_true rfl, Nat.le_of_ble_eq_true rfl⟩ (fun E ce q9 H locs hE hG hS g1 g2 g3 => ?_) (fun h_0 H locs hG hS => ?_)
  · rcases hE with ⟨rfl, h_1⟩ | ⟨rfl, h_1⟩ | ⟨rfl, h_1⟩
    · refine vx_catch (name := "java/lang/IndexOutOfBoundsException") (E := XI) hown [] (⟨0, 9, 12, 13⟩ : ExceptionTableEntry) [] (by rw [hTab]; rfl) (List.forall_mem_nil _) rfl (by decide) (hts _ q_82) (va_Nw.use rfl (hC.2.2.2.2.2.1 _ zc_1)) g1 g2 g3 ?_
      refine lv_astore_n (lv' := [(3, .ref q9), (0, .ref (ad 0)), (1, .int p1), (2, .ref (ad 4))]) hx hb dW_buyerOf_12 rfl hl (by decide) rfl (fun ls hl => ?_)
      refine lv_iconst (v := 1) hx hb dW_buyerOf_13 (by decide) ?_
      refine W.widen (k := 1) (n := 6) (Nat.le_of_ble_eq_true rfl) (Nat.le_of_ble_eq_true rfl) ?_
      exact W.iret (v := 1) hx hb hr (fun t ht hW => ⟨⟨1, (sL, sA), rfl, (by rw [fW_buyerOf, wrapR_1 h_1] <;> rfl), gw_at hG ht⟩, hS.F ht⟩) hS.2.2 dW_buyerOf_14
    · exact absurd h_1 (nX_buyerOf_2 n sL sA p1)
    · exact absurd h_1 (nX_buyerOf_3 n sL sA p1)
  · refine lv_i2l (v := ((fX_buyerOf n sL sA p1).2.1 : Int32).toInt64) hx hb dW_buyerOf_7 rfl ?_
    refine rt_st hx hb hC hG hS dW_buyerOf_8 (fun H locs hG hS => ?_)
    refine lv_goto (tgt := 15) hx hb dW_buyerOf_9 (by decide) ?_
    refine lv_iconst (v := 0) hx hb dW_buyerOf_15 (by decide) ?_
    refine W.widen (k := 1) (n := 6) (Nat.le_of_ble_eq_true rfl) (Nat.le_of_ble_eq_true rfl) ?_
    exact W.iret (v := 0) hx hb hr (fun t ht hW => ⟨⟨0, ((up2L ((fX_buyerOf n sL sA p1).2.2.1) 4 0 (((fX_buyerOf n sL sA p1).2.1 : Int32).toInt64)), (fX_buyerOf n sL sA p1).2.2.2), rfl, (by rw [fW_buyerOf, wrapR_0 h_0] <;> rfl), gw_at hG ht⟩, hS.F ht⟩) hS.2.2 dW_buyerOf_16
theorem nX_price_2 (n : Nat) (sL : NL) (sA : NA) (p1 : Int32) : (fX_price n sL sA p1).1 ≠ 2 := by
  unfold fX_price
  repeat' first | exact show (0 : Nat) ≠ 2 by decide | exact show (1 : Nat) ≠ 2 by decide | exact show (3 : Nat) ≠ 2 by decide | exact seller_ne (by decide) (by decide) | exact buyer_ne (by decide) (by decide) | exact range_ne (by decide) (by decide) | exact state_ne (by decide) (by decide) | exact hund_ne (by decide) (by decide) | exact owedBy_ne (by decide) (by decide) | refine bndq_ne (by decide) (fun i => ?_) | refine bnd_ne ?_ ?_ | refine ite_ne ?_ ?_
theorem nX_price_3 (n : Nat) (sL : NL) (sA : NA) (p1 : Int32) : (fX_price n sL sA p1).1 ≠ 3 := by
  unfold fX_price
  repeat' first | exact show (0 : Nat) ≠ 3 by decide | exact show (1 : Nat) ≠ 3 by decide | exact show (2 : Nat) ≠ 3 by decide | exact seller_ne (by decide) (by decide) | exact buyer_ne (by decide) (by decide) | exact range_ne (by decide) (by decide) | exact state_ne (by decide) (by decide) | exact hund_ne (by decide) (by decide) | exact owedBy_ne (by decide) (by decide) | refine bndq_ne (by decide) (fun i => ?_) | refine bnd_ne ?_ ?_ | refine ite_ne ?_ ?_
def fW_price (n : Nat) (sL : NL) (sA : NA) (p1 : Int32) : Int32 × NL × NA := wrapR (fX_price n sL sA p1) 1 0 0 sL sA
theorem hdyW_price : yW_price.cls ≠ "java/lang/invoke/MethodHandle" ∧ yW_price.cls ≠ "java/lang/invoke/VarHandle" ∧ (parseMethodDescriptor yW_price.desc).map (fun d => d.parameters.length) = some 3 := by decide +kernel
theorem dW_price_0 : decode bW_price 0 = .ok (.aload_n 2, 1) := by decide +kernel
theorem dW_price_1 : decode bW_price 1 = .ok (.iconst 0, 1) := by decide +kernel
theorem dW_price_2 : decode bW_price 2 = .ok (.aload_n 0, 1) := by decide +kernel
theorem dW_price_3 : decode bW_price 3 = .ok (.iload_n 1, 1) := by decide +kernel
theorem dW_price_4 : decode bW_price 4 = .ok (.invokevirtual 63, 3) := by decide +kernel
theorem dW_price_7 : decode bW_price 7 = .ok (.i2l, 1) := by decide +kernel
theorem dW_price_8 : decode bW_price 8 = .ok (.lastore, 1) := by decide +kernel
theorem dW_price_9 : decode bW_price 9 = .ok (.goto 6, 3) := by decide +kernel
theorem dW_price_12 : decode bW_price 12 = .ok (.astore_n 3, 1) := by decide +kernel
theorem dW_price_13 : decode bW_price 13 = .ok (.iconst 1, 1) := by decide +kernel
theorem dW_price_14 : decode bW_price 14 = .ok (.ireturn, 1) := by decide +kernel
theorem dW_price_15 : decode bW_price 15 = .ok (.iconst 0, 1) := by decide +kernel
theorem dW_price_16 : decode bW_price 16 = .ok (.ireturn, 1) := by decide +kernel
set_option maxHeartbeats 4000000 in
set_option maxRecDepth 100000 in
theorem cW_price (l : Launch) (hl9 : l.stackTraces = false) (D : va_G) (tI tJ tL : ClassId) (A : Nat → Prop) (sg ad : Nat → Nat) (n : Nat) (sL : NL) (sA : NA) (p1 : Int32) : Met l yW_price (Cond.codeWith yW_price bW_price 4 (some FieldType.int) [(0, 9, 12, 13)] :: wNeed) { frames := 8, cells := 1, slots := 6, locals := 133 } (va_Pc [.ref (ad 0), .int p1, .ref (ad 4)] (GP D tI tJ tL A sg ad n sL sA)) (va_Qi (fun r (u : NL × NA) => fW_price n sL sA p1 = (r, u.1, u.2)) (fun u t => GW D tI tJ tL A ad n u.1 u.2 t.heap) A) 1 6 A := by
  refine en_W (av := [.ref (ad 0), .int p1, .ref (ad 4)]) (by decide) (Nat.le_of_ble_eq_true rfl) ?_
  intro p e s m below meth c hx hb hml hown hts hr hlocks hTab hC H locs hG hS ls hl
  replace hl : lv_has ls 4 [(0, .ref (ad 0)), (1, .int p1), (2, .ref (ad 4))] := hl
  refine lv_aload_n hx hb dW_price_0 rfl (lv_at hl 2 rfl) ?_
  refine lv_iconst (v := 0) hx hb dW_price_1 (by decide) ?_
  refine lv_aload_n hx hb dW_price_2 rfl (lv_at hl 0 rfl) ?_
  refine lv_iload_n hx hb dW_price_3 rfl (lv_at hl 1 rfl) ?_
  refine rcV5w (rest := [.int 0, .ref (ad 4)]) (As := [.int p1]) hx hb hml hown hts hC hG hS (cX_price l hl9 D tI tJ tL A sg ad n sL sA p1) (recX hC hG) (gV q_465 q_466 q_467 q_1 q_468) rfl rfl ⟨rfl, hdyX_price⟩ ⟨Nat.le_of_ble_eq_true rfl, Nat.le_of_ble_eq_true rfl⟩ hl.1 rfl (Nat.le_of_ble_eq_true rfl) dW_price_4 ⟨Nat.le_of_ble_eq_true rfl, Nat.le_of_ble_eq_true rfl⟩ (fun E ce q9 H locs hE hG hS g1 g2 g3 => ?_) (fun h_0 H locs hG hS => ?_)
  · rcases hE with ⟨rfl, h_1⟩ | ⟨rfl, h_1⟩ | ⟨rfl, h_1⟩
    · refine vx_catch (name := "java/lang/IndexOutOfBoundsException") (E := XI) hown [] (⟨0, 9, 12, 13⟩ : ExceptionTableEntry) [] (by rw [hTab]; rfl) (List.forall_mem_nil _) rfl (by decide) (hts _ q_82) (va_Nw.use rfl (hC.2.2.2.2.2.1 _ zc_1)) g1 g2 g3 ?_
      refine lv_astore_n (lv' := [(3, .ref q9), (0, .ref (ad 0)), (1, .int p1), (2, .ref (ad 4))]) hx hb dW_price_12 rfl hl (by decide) rfl (fun ls hl => ?_)
      refine lv_iconst (v := 1) hx hb dW_price_13 (by decide) ?_
      refine W.widen (k := 1) (n := 6) (Nat.le_of_ble_eq_true rfl) (Nat.le_of_ble_eq_true rfl) ?_
      exact W.iret (v := 1) hx hb hr (fun t ht hW => ⟨⟨1, (sL, sA), rfl, (by rw [fW_price, wrapR_1 h_1] <;> rfl), gw_at hG ht⟩, hS.F ht⟩) hS.2.2 dW_price_14
    · exact absurd h_1 (nX_price_2 n sL sA p1)
    · exact absurd h_1 (nX_price_3 n sL sA p1)
  · refine lv_i2l (v := ((fX_price n sL sA p1).2.1 : Int32).toInt64) hx hb dW_price_7 rfl ?_
    refine rt_st hx hb hC hG hS dW_price_8 (fun H locs hG hS => ?_)
    refine lv_goto (tgt := 15) hx hb dW_price_9 (by decide) ?_
    refine lv_iconst (v := 0) hx hb dW_price_15 (by decide) ?_
    refine W.widen (k := 1) (n := 6) (Nat.le_of_ble_eq_true rfl) (Nat.le_of_ble_eq_true rfl) ?_
    exact W.iret (v := 0) hx hb hr (fun t ht hW => ⟨⟨0, ((up2L ((fX_price n sL sA p1).2.2.1) 4 0 (((fX_price n sL sA p1).2.1 : Int32).toInt64)), (fX_price n sL sA p1).2.2.2), rfl, (by rw [fW_price, wrapR_0 h_0] <;> rfl), gw_at hG ht⟩, hS.F ht⟩) hS.2.2 dW_price_16
theorem nX_bids_2 (n : Nat) (sL : NL) (sA : NA) (p1 : Int32) : (fX_bids n sL sA p1).1 ≠ 2 := by
  unfold fX_bids
  repeat' first | exact show (0 : Nat) ≠ 2 by decide | exact show (1 : Nat) ≠ 2 by decide | exact show (3 : Nat) ≠ 2 by decide | exact seller_ne (by decide) (by decide) | exact buyer_ne (by decide) (by decide) | exact range_ne (by decide) (by decide) | exact state_ne (by decide) (by decide) | exact hund_ne (by decide) (by decide) | exact owedBy_ne (by decide) (by decide) | refine bndq_ne (by decide) (fun i => ?_) | refine bnd_ne ?_ ?_ | refine ite_ne ?_ ?_
theorem nX_bids_3 (n : Nat) (sL : NL) (sA : NA) (p1 : Int32) : (fX_bids n sL sA p1).1 ≠ 3 := by
  unfold fX_bids
  repeat' first | exact show (0 : Nat) ≠ 3 by decide | exact show (1 : Nat) ≠ 3 by decide | exact show (2 : Nat) ≠ 3 by decide | exact seller_ne (by decide) (by decide) | exact buyer_ne (by decide) (by decide) | exact range_ne (by decide) (by decide) | exact state_ne (by decide) (by decide) | exact hund_ne (by decide) (by decide) | exact owedBy_ne (by decide) (by decide) | refine bndq_ne (by decide) (fun i => ?_) | refine bnd_ne ?_ ?_ | refine ite_ne ?_ ?_
def fW_bids (n : Nat) (sL : NL) (sA : NA) (p1 : Int32) : Int32 × NL × NA := wrapR (fX_bids n sL sA p1) 1 0 0 sL sA
theorem hdyW_bids : yW_bids.cls ≠ "java/lang/invoke/MethodHandle" ∧ yW_bids.cls ≠ "java/lang/invoke/VarHandle" ∧ (parseMethodDescriptor yW_bids.desc).map (fun d => d.parameters.length) = some 3 := by decide +kernel
theorem dW_bids_0 : decode bW_bids 0 = .ok (.aload_n 2, 1) := by decide +kernel
theorem dW_bids_1 : decode bW_bids 1 = .ok (.iconst 0, 1) := by decide +kernel
theorem dW_bids_2 : decode bW_bids 2 = .ok (.aload_n 0, 1) := by decide +kernel
theorem dW_bids_3 : decode bW_bids 3 = .ok (.iload_n 1, 1) := by decide +kernel
theorem dW_bids_4 : decode bW_bids 4 = .ok (.invokevirtual 66, 3) := by decide +kernel
theorem dW_bids_7 : decode bW_bids 7 = .ok (.i2l, 1) := by decide +kernel
theorem dW_bids_8 : decode bW_bids 8 = .ok (.lastore, 1) := by decide +kernel
theorem dW_bids_9 : decode bW_bids 9 = .ok (.goto 6, 3) := by decide +kernel
theorem dW_bids_12 : decode bW_bids 12 = .ok (.astore_n 3, 1) := by decide +kernel
theorem dW_bids_13 : decode bW_bids 13 = .ok (.iconst 1, 1) := by decide +kernel
theorem dW_bids_14 : decode bW_bids 14 = .ok (.ireturn, 1) := by decide +kernel
theorem dW_bids_15 : decode bW_bids 15 = .ok (.iconst 0, 1) := by decide +kernel
theorem dW_bids_16 : decode bW_bids 16 = .ok (.ireturn, 1) := by decide +kernel
set_option maxHeartbeats 4000000 in
set_option maxRecDepth 100000 in
theorem cW_bids (l : Launch) (hl9 : l.stackTraces = false) (D : va_G) (tI tJ tL : ClassId) (A : Nat → Prop) (sg ad : Nat → Nat) (n : Nat) (sL : NL) (sA : NA) (p1 : Int32) : Met l yW_bids (Cond.codeWith yW_bids bW_bids 4 (some FieldType.int) [(0, 9, 12, 13)] :: wNeed) { frames := 8, cells := 1, slots := 6, locals := 133 } (va_Pc [.ref (ad 0), .int p1, .ref (ad 4)] (GP D tI tJ tL A sg ad n sL sA)) (va_Qi (fun r (u : NL × NA) => fW_bids n sL sA p1 = (r, u.1, u.2)) (fun u t => GW D tI tJ tL A ad n u.1 u.2 t.heap) A) 1 6 A := by
  refine en_W (av := [.ref (ad 0), .int p1, .ref (ad 4)]) (by decide) (Nat.le_of_ble_eq_true rfl) ?_
  intro p e s m below meth c hx hb hml hown hts hr hlocks hTab hC H locs hG hS ls hl
  replace hl : lv_has ls 4 [(0, .ref (ad 0)), (1, .int p1), (2, .ref (ad 4))] := hl
  refine lv_aload_n hx hb dW_bids_0 rfl (lv_at hl 2 rfl) ?_
  refine lv_iconst (v := 0) hx hb dW_bids_1 (by decide) ?_
  refine lv_aload_n hx hb dW_bids_2 rfl (lv_at hl 0 rfl) ?_
  refine lv_iload_n hx hb dW_bids_3 rfl (lv_at hl 1 rfl) ?_
  refine rcV5w (rest := [.int 0, .ref (ad 4)]) (As := [.int p1]) hx hb hml hown hts hC hG hS (cX_bids l hl9 D tI tJ tL A sg ad n sL sA p1) (recX hC hG) (gV q_472 q_473 q_474 q_1 q_475) rfl rfl ⟨rfl, hdyX_bids⟩ ⟨Nat.le_of_ble_eq_true rfl, Nat.le_of_ble_eq_true rfl⟩ hl.1 rfl (Nat.le_of_ble_eq_true rfl) dW_bids_4 ⟨Nat.le_of_ble_eq_true rfl, Nat.le_of_ble_eq_true rfl⟩ (fun E ce q9 H locs hE hG hS g1 g2 g3 => ?_) (fun h_0 H locs hG hS => ?_)
  · rcases hE with ⟨rfl, h_1⟩ | ⟨rfl, h_1⟩ | ⟨rfl, h_1⟩
    · refine vx_catch (name := "java/lang/IndexOutOfBoundsException") (E := XI) hown [] (⟨0, 9, 12, 13⟩ : ExceptionTableEntry) [] (by rw [hTab]; rfl) (List.forall_mem_nil _) rfl (by decide) (hts _ q_82) (va_Nw.use rfl (hC.2.2.2.2.2.1 _ zc_1)) g1 g2 g3 ?_
      refine lv_astore_n (lv' := [(3, .ref q9), (0, .ref (ad 0)), (1, .int p1), (2, .ref (ad 4))]) hx hb dW_bids_12 rfl hl (by decide) rfl (fun ls hl => ?_)
      refine lv_iconst (v := 1) hx hb dW_bids_13 (by decide) ?_
      refine W.widen (k := 1) (n := 6) (Nat.le_of_ble_eq_true rfl) (Nat.le_of_ble_eq_true rfl) ?_
      exact W.iret (v := 1) hx hb hr (fun t ht hW => ⟨⟨1, (sL, sA), rfl, (by rw [fW_bids, wrapR_1 h_1] <;> rfl), gw_at hG ht⟩, hS.F ht⟩) hS.2.2 dW_bids_14
    · exact absurd h_1 (nX_bids_2 n sL sA p1)
    · exact absurd h_1 (nX_bids_3 n sL sA p1)
  · refine lv_i2l (v := ((fX_bids n sL sA p1).2.1 : Int32).toInt64) hx hb dW_bids_7 rfl ?_
    refine rt_st hx hb hC hG hS dW_bids_8 (fun H locs hG hS => ?_)
    refine lv_goto (tgt := 15) hx hb dW_bids_9 (by decide) ?_
    refine lv_iconst (v := 0) hx hb dW_bids_15 (by decide) ?_
    refine W.widen (k := 1) (n := 6) (Nat.le_of_ble_eq_true rfl) (Nat.le_of_ble_eq_true rfl) ?_
    exact W.iret (v := 0) hx hb hr (fun t ht hW => ⟨⟨0, ((up2L ((fX_bids n sL sA p1).2.2.1) 4 0 (((fX_bids n sL sA p1).2.1 : Int32).toInt64)), (fX_bids n sL sA p1).2.2.2), rfl, (by rw [fW_bids, wrapR_0 h_0] <;> rfl), gw_at hG ht⟩, hS.F ht⟩) hS.2.2 dW_bids_16
theorem nX_fee_1 (sL : NL) (sA : NA) (p1 : Int32) : (fX_fee sL sA p1).1 ≠ 1 := by
  unfold fX_fee
  repeat' first | exact show (0 : Nat) ≠ 1 by decide | exact show (2 : Nat) ≠ 1 by decide | exact show (3 : Nat) ≠ 1 by decide | exact seller_ne (by decide) (by decide) | exact buyer_ne (by decide) (by decide) | exact range_ne (by decide) (by decide) | exact state_ne (by decide) (by decide) | exact hund_ne (by decide) (by decide) | exact owedBy_ne (by decide) (by decide) | refine bndq_ne (by decide) (fun i => ?_) | refine bnd_ne ?_ ?_ | refine ite_ne ?_ ?_
theorem nX_fee_3 (sL : NL) (sA : NA) (p1 : Int32) : (fX_fee sL sA p1).1 ≠ 3 := by
  unfold fX_fee
  repeat' first | exact show (0 : Nat) ≠ 3 by decide | exact show (1 : Nat) ≠ 3 by decide | exact show (2 : Nat) ≠ 3 by decide | exact seller_ne (by decide) (by decide) | exact buyer_ne (by decide) (by decide) | exact range_ne (by decide) (by decide) | exact state_ne (by decide) (by decide) | exact hund_ne (by decide) (by decide) | exact owedBy_ne (by decide) (by decide) | refine bndq_ne (by decide) (fun i => ?_) | refine bnd_ne ?_ ?_ | refine ite_ne ?_ ?_
def fW_fee (sL : NL) (sA : NA) (p1 : Int32) : Int32 × NL × NA := wrapR (fX_fee sL sA p1) 0 1 0 sL sA
theorem hdyW_fee : yW_fee.cls ≠ "java/lang/invoke/MethodHandle" ∧ yW_fee.cls ≠ "java/lang/invoke/VarHandle" ∧ (parseMethodDescriptor yW_fee.desc).map (fun d => d.parameters.length) = some 3 := by decide +kernel
theorem dW_fee_0 : decode bW_fee 0 = .ok (.aload_n 2, 1) := by decide +kernel
theorem dW_fee_1 : decode bW_fee 1 = .ok (.iconst 0, 1) := by decide +kernel
theorem dW_fee_2 : decode bW_fee 2 = .ok (.aload_n 0, 1) := by decide +kernel
theorem dW_fee_3 : decode bW_fee 3 = .ok (.iload_n 1, 1) := by decide +kernel
theorem dW_fee_4 : decode bW_fee 4 = .ok (.invokevirtual 69, 3) := by decide +kernel
theorem dW_fee_7 : decode bW_fee 7 = .ok (.i2l, 1) := by decide +kernel
theorem dW_fee_8 : decode bW_fee 8 = .ok (.lastore, 1) := by decide +kernel
theorem dW_fee_9 : decode bW_fee 9 = .ok (.goto 6, 3) := by decide +kernel
theorem dW_fee_12 : decode bW_fee 12 = .ok (.astore_n 3, 1) := by decide +kernel
theorem dW_fee_13 : decode bW_fee 13 = .ok (.iconst 1, 1) := by decide +kernel
theorem dW_fee_14 : decode bW_fee 14 = .ok (.ireturn, 1) := by decide +kernel
theorem dW_fee_15 : decode bW_fee 15 = .ok (.iconst 0, 1) := by decide +kernel
theorem dW_fee_16 : decode bW_fee 16 = .ok (.ireturn, 1) := by decide +kernel
set_option maxHeartbeats 4000000 in
set_option maxRecDepth 100000 in
theorem cW_fee (l : Launch) (hl9 : l.stackTraces = false) (D : va_G) (tI tJ tL : ClassId) (A : Nat → Prop) (sg ad : Nat → Nat) (n : Nat) (sL : NL) (sA : NA) (p1 : Int32) : Met l yW_fee (Cond.codeWith yW_fee bW_fee 4 (some FieldType.int) [(0, 9, 12, 15)] :: wNeed) { frames := 8, cells := 1, slots := 6, locals := 133 } (va_Pc [.ref (ad 0), .int p1, .ref (ad 4)] (GP D tI tJ tL A sg ad n sL sA)) (va_Qi (fun r (u : NL × NA) => fW_fee sL sA p1 = (r, u.1, u.2)) (fun u t => GW D tI tJ tL A ad n u.1 u.2 t.heap) A) 1 6 A := by
  refine en_W (av := [.ref (ad 0), .int p1, .ref (ad 4)]) (by decide) (Nat.le_of_ble_eq_true rfl) ?_
  intro p e s m below meth c hx hb hml hown hts hr hlocks hTab hC H locs hG hS ls hl
  replace hl : lv_has ls 4 [(0, .ref (ad 0)), (1, .int p1), (2, .ref (ad 4))] := hl
  refine lv_aload_n hx hb dW_fee_0 rfl (lv_at hl 2 rfl) ?_
  refine lv_iconst (v := 0) hx hb dW_fee_1 (by decide) ?_
  refine lv_aload_n hx hb dW_fee_2 rfl (lv_at hl 0 rfl) ?_
  refine lv_iload_n hx hb dW_fee_3 rfl (lv_at hl 1 rfl) ?_
  refine rcV5w (rest := [.int 0, .ref (ad 4)]) (As := [.int p1]) hx hb hml hown hts hC hG hS (cX_fee l hl9 D tI tJ tL A sg ad n sL sA p1) (recX hC hG) (gV q_479 q_480 q_481 q_1 q_482) rfl rfl ⟨rfl, hdyX_fee⟩ ⟨Nat.le_of_ble_eq_true rfl, Nat.le_of_ble_eq_true rfl⟩ hl.1 rfl (Nat.le_of_ble_eq_true rfl) dW_fee_4 ⟨Nat.le_of_ble_eq_true rfl, Nat.le_of_ble_eq_true rfl⟩ (fun E ce q9 H locs hE hG hS g1 g2 g3 => ?_) (fun h_0 H locs hG hS => ?_)
  · rcases hE with ⟨rfl, h_1⟩ | ⟨rfl, h_1⟩ | ⟨rfl, h_1⟩
    · exact absurd h_1 (nX_fee_1 sL sA p1)
    · refine vx_catch (name := "java/lang/IllegalArgumentException") (E := XG) hown [] (⟨0, 9, 12, 15⟩ : ExceptionTableEntry) [] (by rw [hTab]; rfl) (List.forall_mem_nil _) rfl (by decide) (hts _ q_83) (va_Nw.use rfl (hC.2.2.2.2.2.1 _ zc_2)) g1 g2 g3 ?_
      refine lv_astore_n (lv' := [(3, .ref q9), (0, .ref (ad 0)), (1, .int p1), (2, .ref (ad 4))]) hx hb dW_fee_12 rfl hl (by decide) rfl (fun ls hl => ?_)
      refine lv_iconst (v := 1) hx hb dW_fee_13 (by decide) ?_
      refine W.widen (k := 1) (n := 6) (Nat.le_of_ble_eq_true rfl) (Nat.le_of_ble_eq_true rfl) ?_
      exact W.iret (v := 1) hx hb hr (fun t ht hW => ⟨⟨1, (sL, sA), rfl, (by rw [fW_fee, wrapR_2 h_1] <;> rfl), gw_at hG ht⟩, hS.F ht⟩) hS.2.2 dW_fee_14
    · exact absurd h_1 (nX_fee_3 sL sA p1)
  · refine lv_i2l (v := ((fX_fee sL sA p1).2.1 : Int32).toInt64) hx hb dW_fee_7 rfl ?_
    refine rt_st hx hb hC hG hS dW_fee_8 (fun H locs hG hS => ?_)
    refine lv_goto (tgt := 15) hx hb dW_fee_9 (by decide) ?_
    refine lv_iconst (v := 0) hx hb dW_fee_15 (by decide) ?_
    refine W.widen (k := 1) (n := 6) (Nat.le_of_ble_eq_true rfl) (Nat.le_of_ble_eq_true rfl) ?_
    exact W.iret (v := 0) hx hb hr (fun t ht hW => ⟨⟨0, ((up2L ((fX_fee sL sA p1).2.2.1) 4 0 (((fX_fee sL sA p1).2.1 : Int32).toInt64)), (fX_fee sL sA p1).2.2.2), rfl, (by rw [fW_fee, wrapR_0 h_0] <;> rfl), gw_at hG ht⟩, hS.F ht⟩) hS.2.2 dW_fee_16
theorem nX_share_2 (n : Nat) (sL : NL) (sA : NA) (p1 : Int32) : (fX_share n sL sA p1).1 ≠ 2 := by
  unfold fX_share
  repeat' first | exact show (0 : Nat) ≠ 2 by decide | exact show (1 : Nat) ≠ 2 by decide | exact show (3 : Nat) ≠ 2 by decide | exact seller_ne (by decide) (by decide) | exact buyer_ne (by decide) (by decide) | exact range_ne (by decide) (by decide) | exact state_ne (by decide) (by decide) | exact hund_ne (by decide) (by decide) | exact owedBy_ne (by decide) (by decide) | refine bndq_ne (by decide) (fun i => ?_) | refine bnd_ne ?_ ?_ | refine ite_ne ?_ ?_
theorem nX_share_3 (n : Nat) (sL : NL) (sA : NA) (p1 : Int32) : (fX_share n sL sA p1).1 ≠ 3 := by
  unfold fX_share
  repeat' first | exact show (0 : Nat) ≠ 3 by decide | exact show (1 : Nat) ≠ 3 by decide | exact show (2 : Nat) ≠ 3 by decide | exact seller_ne (by decide) (by decide) | exact buyer_ne (by decide) (by decide) | exact range_ne (by decide) (by decide) | exact state_ne (by decide) (by decide) | exact hund_ne (by decide) (by decide) | exact owedBy_ne (by decide) (by decide) | refine bndq_ne (by decide) (fun i => ?_) | refine bnd_ne ?_ ?_ | refine ite_ne ?_ ?_
def fW_share (n : Nat) (sL : NL) (sA : NA) (p1 : Int32) : Int32 × NL × NA := wrapR (fX_share n sL sA p1) 1 0 0 sL sA
theorem hdyW_share : yW_share.cls ≠ "java/lang/invoke/MethodHandle" ∧ yW_share.cls ≠ "java/lang/invoke/VarHandle" ∧ (parseMethodDescriptor yW_share.desc).map (fun d => d.parameters.length) = some 3 := by decide +kernel
theorem dW_share_0 : decode bW_share 0 = .ok (.aload_n 2, 1) := by decide +kernel
theorem dW_share_1 : decode bW_share 1 = .ok (.iconst 0, 1) := by decide +kernel
theorem dW_share_2 : decode bW_share 2 = .ok (.aload_n 0, 1) := by decide +kernel
theorem dW_share_3 : decode bW_share 3 = .ok (.iload_n 1, 1) := by decide +kernel
theorem dW_share_4 : decode bW_share 4 = .ok (.invokevirtual 72, 3) := by decide +kernel
theorem dW_share_7 : decode bW_share 7 = .ok (.i2l, 1) := by decide +kernel
theorem dW_share_8 : decode bW_share 8 = .ok (.lastore, 1) := by decide +kernel
theorem dW_share_9 : decode bW_share 9 = .ok (.goto 6, 3) := by decide +kernel
theorem dW_share_12 : decode bW_share 12 = .ok (.astore_n 3, 1) := by decide +kernel
theorem dW_share_13 : decode bW_share 13 = .ok (.iconst 1, 1) := by decide +kernel
theorem dW_share_14 : decode bW_share 14 = .ok (.ireturn, 1) := by decide +kernel
theorem dW_share_15 : decode bW_share 15 = .ok (.iconst 0, 1) := by decide +kernel
theorem dW_share_16 : decode bW_share 16 = .ok (.ireturn, 1) := by decide +kernel
set_option maxHeartbeats 4000000 in
set_option maxRecDepth 100000 in
theorem cW_share (l : Launch) (hl9 : l.stackTraces = false) (D : va_G) (tI tJ tL : ClassId) (A : Nat → Prop) (sg ad : Nat → Nat) (n : Nat) (sL : NL) (sA : NA) (p1 : Int32) : Met l yW_share (Cond.codeWith yW_share bW_share 4 (some FieldType.int) [(0, 9, 12, 13)] :: wNeed) { frames := 8, cells := 1, slots := 6, locals := 133 } (va_Pc [.ref (ad 0), .int p1, .ref (ad 4)] (GP D tI tJ tL A sg ad n sL sA)) (va_Qi (fun r (u : NL × NA) => fW_share n sL sA p1 = (r, u.1, u.2)) (fun u t => GW D tI tJ tL A ad n u.1 u.2 t.heap) A) 1 6 A := by
  refine en_W (av := [.ref (ad 0), .int p1, .ref (ad 4)]) (by decide) (Nat.le_of_ble_eq_true rfl) ?_
  intro p e s m below meth c hx hb hml hown hts hr hlocks hTab hC H locs hG hS ls hl
  replace hl : lv_has ls 4 [(0, .ref (ad 0)), (1, .int p1), (2, .ref (ad 4))] := hl
  refine lv_aload_n hx hb dW_share_0 rfl (lv_at hl 2 rfl) ?_
  refine lv_iconst (v := 0) hx hb dW_share_1 (by decide) ?_
  refine lv_aload_n hx hb dW_share_2 rfl (lv_at hl 0 rfl) ?_
  refine lv_iload_n hx hb dW_share_3 rfl (lv_at hl 1 rfl) ?_
  refine rcV5w (rest := [.int 0, .ref (ad 4)]) (As := [.int p1]) hx hb hml hown hts hC hG hS (cX_share l hl9 D tI tJ tL A sg ad n sL sA p1) (recX hC hG) (gV q_486 q_487 q_488 q_1 q_489) rfl rfl ⟨rfl, hdyX_share⟩ ⟨Nat.le_of_ble_eq_true rfl, Nat.le_of_ble_eq_true rfl⟩ hl.1 rfl (Nat.le_of_ble_eq_true rfl) dW_share_4 ⟨Nat.le_of_ble_eq_true rfl, Nat.le_of_ble_eq_true rfl⟩ (fun E ce q9 H locs hE hG hS g1 g2 g3 => ?_) (fun h_0 H locs hG hS => ?_)
  · rcases hE with ⟨rfl, h_1⟩ | ⟨rfl, h_1⟩ | ⟨rfl, h_1⟩
    · refine vx_catch (name := "java/lang/IndexOutOfBoundsException") (E := XI) hown [] (⟨0, 9, 12, 13⟩ : ExceptionTableEntry) [] (by rw [hTab]; rfl) (List.forall_mem_nil _) rfl (by decide) (hts _ q_82) (va_Nw.use rfl (hC.2.2.2.2.2.1 _ zc_1)) g1 g2 g3 ?_
      refine lv_astore_n (lv' := [(3, .ref q9), (0, .ref (ad 0)), (1, .int p1), (2, .ref (ad 4))]) hx hb dW_share_12 rfl hl (by decide) rfl (fun ls hl => ?_)
      refine lv_iconst (v := 1) hx hb dW_share_13 (by decide) ?_
      refine W.widen (k := 1) (n := 6) (Nat.le_of_ble_eq_true rfl) (Nat.le_of_ble_eq_true rfl) ?_
      exact W.iret (v := 1) hx hb hr (fun t ht hW => ⟨⟨1, (sL, sA), rfl, (by rw [fW_share, wrapR_1 h_1] <;> rfl), gw_at hG ht⟩, hS.F ht⟩) hS.2.2 dW_share_14
    · exact absurd h_1 (nX_share_2 n sL sA p1)
    · exact absurd h_1 (nX_share_3 n sL sA p1)
  · refine lv_i2l (v := ((fX_share n sL sA p1).2.1 : Int32).toInt64) hx hb dW_share_7 rfl ?_
    refine rt_st hx hb hC hG hS dW_share_8 (fun H locs hG hS => ?_)
    refine lv_goto (tgt := 15) hx hb dW_share_9 (by decide) ?_
    refine lv_iconst (v := 0) hx hb dW_share_15 (by decide) ?_
    refine W.widen (k := 1) (n := 6) (Nat.le_of_ble_eq_true rfl) (Nat.le_of_ble_eq_true rfl) ?_
    exact W.iret (v := 0) hx hb hr (fun t ht hW => ⟨⟨0, ((up2L ((fX_share n sL sA p1).2.2.1) 4 0 (((fX_share n sL sA p1).2.1 : Int32).toInt64)), (fX_share n sL sA p1).2.2.2), rfl, (by rw [fW_share, wrapR_0 h_0] <;> rfl), gw_at hG ht⟩, hS.F ht⟩) hS.2.2 dW_share_16
theorem nX_interest_2 (n : Nat) (sL : NL) (sA : NA) (p1 : Int32) : (fX_interest n sL sA p1).1 ≠ 2 := by
  unfold fX_interest
  repeat' first | exact show (0 : Nat) ≠ 2 by decide | exact show (1 : Nat) ≠ 2 by decide | exact show (3 : Nat) ≠ 2 by decide | exact seller_ne (by decide) (by decide) | exact buyer_ne (by decide) (by decide) | exact range_ne (by decide) (by decide) | exact state_ne (by decide) (by decide) | exact hund_ne (by decide) (by decide) | exact owedBy_ne (by decide) (by decide) | refine bndq_ne (by decide) (fun i => ?_) | refine bnd_ne ?_ ?_ | refine ite_ne ?_ ?_
theorem nX_interest_3 (n : Nat) (sL : NL) (sA : NA) (p1 : Int32) : (fX_interest n sL sA p1).1 ≠ 3 := by
  unfold fX_interest
  repeat' first | exact show (0 : Nat) ≠ 3 by decide | exact show (1 : Nat) ≠ 3 by decide | exact show (2 : Nat) ≠ 3 by decide | exact seller_ne (by decide) (by decide) | exact buyer_ne (by decide) (by decide) | exact range_ne (by decide) (by decide) | exact state_ne (by decide) (by decide) | exact hund_ne (by decide) (by decide) | exact owedBy_ne (by decide) (by decide) | refine bndq_ne (by decide) (fun i => ?_) | refine bnd_ne ?_ ?_ | refine ite_ne ?_ ?_
def fW_interest (n : Nat) (sL : NL) (sA : NA) (p1 : Int32) : Int32 × NL × NA := wrapR (fX_interest n sL sA p1) 1 0 0 sL sA
theorem hdyW_interest : yW_interest.cls ≠ "java/lang/invoke/MethodHandle" ∧ yW_interest.cls ≠ "java/lang/invoke/VarHandle" ∧ (parseMethodDescriptor yW_interest.desc).map (fun d => d.parameters.length) = some 3 := by decide +kernel
theorem dW_interest_0 : decode bW_interest 0 = .ok (.aload_n 2, 1) := by decide +kernel
theorem dW_interest_1 : decode bW_interest 1 = .ok (.iconst 0, 1) := by decide +kernel
theorem dW_interest_2 : decode bW_interest 2 = .ok (.aload_n 0, 1) := by decide +kernel
theorem dW_interest_3 : decode bW_interest 3 = .ok (.iload_n 1, 1) := by decide +kernel
theorem dW_interest_4 : decode bW_interest 4 = .ok (.invokevirtual 75, 3) := by decide +kernel
theorem dW_interest_7 : decode bW_interest 7 = .ok (.i2l, 1) := by decide +kernel
theorem dW_interest_8 : decode bW_interest 8 = .ok (.lastore, 1) := by decide +kernel
theorem dW_interest_9 : decode bW_interest 9 = .ok (.goto 6, 3) := by decide +kernel
theorem dW_interest_12 : decode bW_interest 12 = .ok (.astore_n 3, 1) := by decide +kernel
theorem dW_interest_13 : decode bW_interest 13 = .ok (.iconst 1, 1) := by decide +kernel
theorem dW_interest_14 : decode bW_interest 14 = .ok (.ireturn, 1) := by decide +kernel
theorem dW_interest_15 : decode bW_interest 15 = .ok (.iconst 0, 1) := by decide +kernel
theorem dW_interest_16 : decode bW_interest 16 = .ok (.ireturn, 1) := by decide +kernel
set_option maxHeartbeats 4000000 in
set_option maxRecDepth 100000 in
theorem cW_interest (l : Launch) (hl9 : l.stackTraces = false) (D : va_G) (tI tJ tL : ClassId) (A : Nat → Prop) (sg ad : Nat → Nat) (n : Nat) (sL : NL) (sA : NA) (p1 : Int32) : Met l yW_interest (Cond.codeWith yW_interest bW_interest 4 (some FieldType.int) [(0, 9, 12, 13)] :: wNeed) { frames := 8, cells := 1, slots := 6, locals := 133 } (va_Pc [.ref (ad 0), .int p1, .ref (ad 4)] (GP D tI tJ tL A sg ad n sL sA)) (va_Qi (fun r (u : NL × NA) => fW_interest n sL sA p1 = (r, u.1, u.2)) (fun u t => GW D tI tJ tL A ad n u.1 u.2 t.heap) A) 1 6 A := by
  refine en_W (av := [.ref (ad 0), .int p1, .ref (ad 4)]) (by decide) (Nat.le_of_ble_eq_true rfl) ?_
  intro p e s m below meth c hx hb hml hown hts hr hlocks hTab hC H locs hG hS ls hl
  replace hl : lv_has ls 4 [(0, .ref (ad 0)), (1, .int p1), (2, .ref (ad 4))] := hl
  refine lv_aload_n hx hb dW_interest_0 rfl (lv_at hl 2 rfl) ?_
  refine lv_iconst (v := 0) hx hb dW_interest_1 (by decide) ?_
  refine lv_aload_n hx hb dW_interest_2 rfl (lv_at hl 0 rfl) ?_
  refine lv_iload_n hx hb dW_interest_3 rfl (lv_at hl 1 rfl) ?_
  refine rcV5w (rest := [.int 0, .ref (ad 4)]) (As := [.int p1]) hx hb hml hown hts hC hG hS (cX_interest l hl9 D tI tJ tL A sg ad n sL sA p1) (recX hC hG) (gV q_493 q_494 q_495 q_1 q_496) rfl rfl ⟨rfl, hdyX_interest⟩ ⟨Nat.le_of_ble_eq_true rfl, Nat.le_of_ble_eq_true rfl⟩ hl.1 rfl (Nat.le_of_ble_eq_true rfl) dW_interest_4 ⟨Nat.le_of_ble_eq_true rfl, Nat.le_of_ble_eq_true rfl⟩ (fun E ce q9 H locs hE hG hS g1 g2 g3 => ?_) (fun h_0 H locs hG hS => ?_)
  · rcases hE with ⟨rfl, h_1⟩ | ⟨rfl, h_1⟩ | ⟨rfl, h_1⟩
    · refine vx_catch (name := "java/lang/IndexOutOfBoundsException") (E := XI) hown [] (⟨0, 9, 12, 13⟩ : ExceptionTableEntry) [] (by rw [hTab]; rfl) (List.forall_mem_nil _) rfl (by decide) (hts _ q_82) (va_Nw.use rfl (hC.2.2.2.2.2.1 _ zc_1)) g1 g2 g3 ?_
      refine lv_astore_n (lv' := [(3, .ref q9), (0, .ref (ad 0)), (1, .int p1), (2, .ref (ad 4))]) hx hb dW_interest_12 rfl hl (by decide) rfl (fun ls hl => ?_)
      refine lv_iconst (v := 1) hx hb dW_interest_13 (by decide) ?_
      refine W.widen (k := 1) (n := 6) (Nat.le_of_ble_eq_true rfl) (Nat.le_of_ble_eq_true rfl) ?_
      exact W.iret (v := 1) hx hb hr (fun t ht hW => ⟨⟨1, (sL, sA), rfl, (by rw [fW_interest, wrapR_1 h_1] <;> rfl), gw_at hG ht⟩, hS.F ht⟩) hS.2.2 dW_interest_14
    · exact absurd h_1 (nX_interest_2 n sL sA p1)
    · exact absurd h_1 (nX_interest_3 n sL sA p1)
  · refine lv_i2l (v := ((fX_interest n sL sA p1).2.1 : Int32).toInt64) hx hb dW_interest_7 rfl ?_
    refine rt_st hx hb hC hG hS dW_interest_8 (fun H locs hG hS => ?_)
    refine lv_goto (tgt := 15) hx hb dW_interest_9 (by decide) ?_
    refine lv_iconst (v := 0) hx hb dW_interest_15 (by decide) ?_
    refine W.widen (k := 1) (n := 6) (Nat.le_of_ble_eq_true rfl) (Nat.le_of_ble_eq_true rfl) ?_
    exact W.iret (v := 0) hx hb hr (fun t ht hW => ⟨⟨0, ((up2L ((fX_interest n sL sA p1).2.2.1) 4 0 (((fX_interest n sL sA p1).2.1 : Int32).toInt64)), (fX_interest n sL sA p1).2.2.2), rfl, (by rw [fW_interest, wrapR_0 h_0] <;> rfl), gw_at hG ht⟩, hS.F ht⟩) hS.2.2 dW_interest_16
theorem nX_owes_2 (sL : NL) (sA : NA) (p1 : Int32) : (fX_owes sL sA p1).1 ≠ 2 := by
  unfold fX_owes
  repeat' first | exact show (0 : Nat) ≠ 2 by decide | exact show (1 : Nat) ≠ 2 by decide | exact show (3 : Nat) ≠ 2 by decide | exact seller_ne (by decide) (by decide) | exact buyer_ne (by decide) (by decide) | exact range_ne (by decide) (by decide) | exact state_ne (by decide) (by decide) | exact hund_ne (by decide) (by decide) | exact owedBy_ne (by decide) (by decide) | refine bndq_ne (by decide) (fun i => ?_) | refine bnd_ne ?_ ?_ | refine ite_ne ?_ ?_
theorem nX_owes_3 (sL : NL) (sA : NA) (p1 : Int32) : (fX_owes sL sA p1).1 ≠ 3 := by
  unfold fX_owes
  repeat' first | exact show (0 : Nat) ≠ 3 by decide | exact show (1 : Nat) ≠ 3 by decide | exact show (2 : Nat) ≠ 3 by decide | exact seller_ne (by decide) (by decide) | exact buyer_ne (by decide) (by decide) | exact range_ne (by decide) (by decide) | exact state_ne (by decide) (by decide) | exact hund_ne (by decide) (by decide) | exact owedBy_ne (by decide) (by decide) | refine bndq_ne (by decide) (fun i => ?_) | refine bnd_ne ?_ ?_ | refine ite_ne ?_ ?_
def fW_owes (sL : NL) (sA : NA) (p1 : Int32) : Int32 × NL × NA := wrapR (fX_owes sL sA p1) 1 0 0 sL sA
theorem hdyW_owes : yW_owes.cls ≠ "java/lang/invoke/MethodHandle" ∧ yW_owes.cls ≠ "java/lang/invoke/VarHandle" ∧ (parseMethodDescriptor yW_owes.desc).map (fun d => d.parameters.length) = some 3 := by decide +kernel
theorem dW_owes_0 : decode bW_owes 0 = .ok (.aload_n 2, 1) := by decide +kernel
theorem dW_owes_1 : decode bW_owes 1 = .ok (.iconst 0, 1) := by decide +kernel
theorem dW_owes_2 : decode bW_owes 2 = .ok (.aload_n 0, 1) := by decide +kernel
theorem dW_owes_3 : decode bW_owes 3 = .ok (.iload_n 1, 1) := by decide +kernel
theorem dW_owes_4 : decode bW_owes 4 = .ok (.invokevirtual 78, 3) := by decide +kernel
theorem dW_owes_7 : decode bW_owes 7 = .ok (.i2l, 1) := by decide +kernel
theorem dW_owes_8 : decode bW_owes 8 = .ok (.lastore, 1) := by decide +kernel
theorem dW_owes_9 : decode bW_owes 9 = .ok (.goto 6, 3) := by decide +kernel
theorem dW_owes_12 : decode bW_owes 12 = .ok (.astore_n 3, 1) := by decide +kernel
theorem dW_owes_13 : decode bW_owes 13 = .ok (.iconst 1, 1) := by decide +kernel
theorem dW_owes_14 : decode bW_owes 14 = .ok (.ireturn, 1) := by decide +kernel
theorem dW_owes_15 : decode bW_owes 15 = .ok (.iconst 0, 1) := by decide +kernel
theorem dW_owes_16 : decode bW_owes 16 = .ok (.ireturn, 1) := by decide +kernel
set_option maxHeartbeats 4000000 in
set_option maxRecDepth 100000 in
theorem cW_owes (l : Launch) (hl9 : l.stackTraces = false) (D : va_G) (tI tJ tL : ClassId) (A : Nat → Prop) (sg ad : Nat → Nat) (n : Nat) (sL : NL) (sA : NA) (p1 : Int32) : Met l yW_owes (Cond.codeWith yW_owes bW_owes 4 (some FieldType.int) [(0, 9, 12, 13)] :: wNeed) { frames := 9, cells := 1, slots := 6, locals := 152 } (va_Pc [.ref (ad 0), .int p1, .ref (ad 4)] (GP D tI tJ tL A sg ad n sL sA)) (va_Qi (fun r (u : NL × NA) => fW_owes sL sA p1 = (r, u.1, u.2)) (fun u t => GW D tI tJ tL A ad n u.1 u.2 t.heap) A) 1 6 A := by
  refine en_W (av := [.ref (ad 0), .int p1, .ref (ad 4)]) (by decide) (Nat.le_of_ble_eq_true rfl) ?_
  intro p e s m below meth c hx hb hml hown hts hr hlocks hTab hC H locs hG hS ls hl
  replace hl : lv_has ls 4 [(0, .ref (ad 0)), (1, .int p1), (2, .ref (ad 4))] := hl
  refine lv_aload_n hx hb dW_owes_0 rfl (lv_at hl 2 rfl) ?_
  refine lv_iconst (v := 0) hx hb dW_owes_1 (by decide) ?_
  refine lv_aload_n hx hb dW_owes_2 rfl (lv_at hl 0 rfl) ?_
  refine lv_iload_n hx hb dW_owes_3 rfl (lv_at hl 1 rfl) ?_
  refine rcV5w (rest := [.int 0, .ref (ad 4)]) (As := [.int p1]) hx hb hml hown hts hC hG hS (cX_owes l hl9 D tI tJ tL A sg ad n sL sA p1) (recX hC hG) (gV q_500 q_501 q_502 q_1 q_503) rfl rfl ⟨rfl, hdyX_owes⟩ ⟨Nat.le_of_ble_eq_true rfl, Nat.le_of_ble_eq_true rfl⟩ hl.1 rfl (Nat.le_of_ble_eq_true rfl) dW_owes_4 ⟨Nat.le_of_ble_eq_true rfl, Nat.le_of_ble_eq_true rfl⟩ (fun E ce q9 H locs hE hG hS g1 g2 g3 => ?_) (fun h_0 H locs hG hS => ?_)
  · rcases hE with ⟨rfl, h_1⟩ | ⟨rfl, h_1⟩ | ⟨rfl, h_1⟩
    · refine vx_catch (name := "java/lang/IndexOutOfBoundsException") (E := XI) hown [] (⟨0, 9, 12, 13⟩ : ExceptionTableEntry) [] (by rw [hTab]; rfl) (List.forall_mem_nil _) rfl (by decide) (hts _ q_82) (va_Nw.use rfl (hC.2.2.2.2.2.1 _ zc_1)) g1 g2 g3 ?_
      refine lv_astore_n (lv' := [(3, .ref q9), (0, .ref (ad 0)), (1, .int p1), (2, .ref (ad 4))]) hx hb dW_owes_12 rfl hl (by decide) rfl (fun ls hl => ?_)
      refine lv_iconst (v := 1) hx hb dW_owes_13 (by decide) ?_
      refine W.widen (k := 1) (n := 6) (Nat.le_of_ble_eq_true rfl) (Nat.le_of_ble_eq_true rfl) ?_
      exact W.iret (v := 1) hx hb hr (fun t ht hW => ⟨⟨1, (sL, sA), rfl, (by rw [fW_owes, wrapR_1 h_1] <;> rfl), gw_at hG ht⟩, hS.F ht⟩) hS.2.2 dW_owes_14
    · exact absurd h_1 (nX_owes_2 sL sA p1)
    · exact absurd h_1 (nX_owes_3 sL sA p1)
  · refine lv_i2l (v := ((fX_owes sL sA p1).2.1 : Int32).toInt64) hx hb dW_owes_7 rfl ?_
    refine rt_st hx hb hC hG hS dW_owes_8 (fun H locs hG hS => ?_)
    refine lv_goto (tgt := 15) hx hb dW_owes_9 (by decide) ?_
    refine lv_iconst (v := 0) hx hb dW_owes_15 (by decide) ?_
    refine W.widen (k := 1) (n := 6) (Nat.le_of_ble_eq_true rfl) (Nat.le_of_ble_eq_true rfl) ?_
    exact W.iret (v := 0) hx hb hr (fun t ht hW => ⟨⟨0, ((up2L ((fX_owes sL sA p1).2.2.1) 4 0 (((fX_owes sL sA p1).2.1 : Int32).toInt64)), (fX_owes sL sA p1).2.2.2), rfl, (by rw [fW_owes, wrapR_0 h_0] <;> rfl), gw_at hG ht⟩, hS.F ht⟩) hS.2.2 dW_owes_16
