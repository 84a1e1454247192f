abbrev A0 (s : State) : Nat → Prop := fun q => s.heap.size ≤ q
section G6
variable {p : Program} {l : Launch} {e : Env} {R : Room} {s : State} {m : MethodId} {args : Array Value} {below : List Frame} {meth : Method} {c : Code} {H : Heap} {locs : List Loc} {cells slots : Nat} {Q : State → Prop}
variable {D : va_G} {tI tJ tL : ClassId} {A : Nat → Prop} {sg ad : Nat → Nat} {n : Nat} {sL : NL} {sA : NA}
variable {cc : ByteArray} {pc : Nat} {ls : Array Slot} {rest st0 : List Value}
/-- two roads that meet -/
theorem W_key {g g2 : JFrame} (br : W p l e R s m args below meth c H locs cells slots Q g2 → W p l e R s m args below meth c H locs cells slots Q g) (kk : W p l e R s m args below meth c H locs cells slots Q g2) : W p l e R s m args below meth c H locs cells slots Q g := br kk
/-- a static method of numbers alone that makes cells of its own -/
theorem rcS1c {y : MethodName} {bytes : ByteArray} {maxL nL index mc ms : Nat} {ret : Option FieldType} {rm : Room} {own : String} {As : List Value} {v : Int32} (hx : p.tables.exec = Jvm.exec) (hb : c.code = cc) (hml : c.maxLocals = nL) (hown : s.vm.findClass own = some m.cls) (hts : ∀ w ∈ wNeed, w.before args s = true) (hS : va_S A s.heap H locs)
    (hM : Met l y (Cond.code y bytes maxL ret :: wNeed) rm (fun v _ => v = As.toArray) (va_Qi (fun r (_ : Unit) => r = v) (fun _ _ => True) (fun _ => False)) mc ms (fun _ => False)) (hg : GoodIn wNeed (wsS own index y (Cond.code y bytes maxL ret :: wNeed))) (hrc : rm.cells = mc) (hrs : rm.slots = ms)
    (hd : y.cls = own ∧ y.cls ≠ "java/lang/invoke/MethodHandle" ∧ y.cls ≠ "java/lang/invoke/VarHandle" ∧ (parseMethodDescriptor y.desc).map (fun d => d.parameters.length) = some As.length) (hR : rm.frames + 1 ≤ R.frames ∧ 8 + (maxL + 11) + rm.locals ≤ R.locals)
    (hsz : ls.size = nL) (hst : st0 = As.reverse ++ rest) (hr8 : (rest.map fun v => v.category).sum ≤ 8) (hdg : decode cc pc = .ok (.invokestatic index, 3)) (hf : cells + mc ≤ R.cells ∧ slots + ms ≤ R.slots)
    (kk : ∀ (H1 : Heap) (locs1 : List Loc), (∀ q : Nat, q < H.size → H1[q]? = H[q]?) → va_S A s.heap H1 locs1 → W p l e R s m args below meth c H1 locs1 (cells + mc) (slots + ms) Q (F0 m (pc + 3) ls (.int v :: rest))) : W p l e R s m args below meth c H locs cells slots Q (F0 m pc ls st0) := by
  refine va_calli (rest := rest) (va_runS (As := As) ⟨hx, hb, hml, hown, hts⟩ hM (cwS As.length hts hg rfl hrc hrs hd hR) preEq rfl rfl hsz hst (lv_room hr8) hdg hf) hS (fun _ _ h => h.elim) (fun _ h => h.elim) fun r u t H1 locs1 ht hvm hw hB hz1 hk1 hS1 => ?_
  subst hw
  exact kk H1 locs1 (fun q hq => hk1 q hq id) hS1
theorem rcS3 {y : MethodName} {bytes : ByteArray} {maxL nL index mc ms : Nat} {ret : Option FieldType} {rm : Room} {own : String} {As : List Value} {F : Int32 × NL × NA} (hx : p.tables.exec = Jvm.exec) (hb : c.code = cc) (hml : c.maxLocals = nL) (hown : s.vm.findClass own = some m.cls) (hts : ∀ w ∈ wNeed, w.before args s = true) (hC : GC D tI tJ tL A sg s) (hG : GW D tI tJ tL A ad n sL sA H) (hS : va_S A s.heap H locs)
    (hM : Met l y (Cond.code y bytes maxL ret :: wNeed) rm (va_Pc As (GP D tI tJ tL A sg ad n sL sA)) (va_Qi (fun r (u : NL × NA) => F = (r, u.1, u.2)) (fun u t => GW D tI tJ tL A ad n u.1 u.2 t.heap) A) mc ms A) (hg : GoodIn wNeed (wsS own index y (Cond.code y bytes maxL ret :: wNeed))) (hrc : rm.cells = mc) (hrs : rm.slots = ms)
    (hd : y.cls = own ∧ y.cls ≠ "java/lang/invoke/MethodHandle" ∧ y.cls ≠ "java/lang/invoke/VarHandle" ∧ (parseMethodDescriptor y.desc).map (fun d => d.parameters.length) = some As.length) (hR : rm.frames + 1 ≤ R.frames ∧ 8 + (maxL + 11) + rm.locals ≤ R.locals)
    (hsz : ls.size = nL) (hst : st0 = As.reverse ++ rest) (hr8 : (rest.map fun v => v.category).sum ≤ 8) (hdg : decode cc pc = .ok (.invokestatic index, 3)) (hf : cells + mc ≤ R.cells ∧ slots + ms ≤ R.slots)
    (kk : ∀ (H1 : Heap) (locs1 : List Loc), GW D tI tJ tL A ad n F.2.1 F.2.2 H1 → va_S A s.heap H1 locs1 → W p l e R s m args below meth c H1 locs1 (cells + mc) (slots + ms) Q (F0 m (pc + 3) ls (.int F.1 :: rest))) : W p l e R s m args below meth c H locs cells slots Q (F0 m pc ls st0) := by
  refine va_calli (rest := rest) (va_runS (As := As) ⟨hx, hb, hml, hown, hts⟩ hM (cwS As.length hts hg rfl hrc hrs hd hR) ⟨GP.blind, fun U hU hW => ⟨rfl, GP.call hC hG hS hU hW⟩⟩ rfl rfl hsz hst (lv_room hr8) hdg hf) hS (fun _ _ h => h) (fun _ h => h) fun r u t H1 locs1 ht hvm hw hB hz1 hk1 hS1 => ?_
  subst hw; subst ht
  exact kk _ _ hB hS1
end G6
/-- a band of the law's call -/
def cT (p e : Int32) : Int32 := if e ≤ p then e else p
def cB (p i e s : Int32) : Int32 := i + (if cT p e ≤ i then 0 else (cT p e - i) / s * s)
def fW_call (p : Int32) : Int32 := cB p (cB p (cB p (cB p 0 1000 50) 5000 100) 20000 500) 2000000 1000
theorem no_free {s t : State} {H : Heap} {locs : List Loc} (h : va_S (A0 s) s.heap H locs) (ht : t.heap = H) : va_F (fun _ => False) s t := ⟨by rw [ht]; exact h.1, fun q hq _ => by rw [ht]; exact h.2.1 q hq (Nat.not_le.mpr hq)⟩
theorem hdyW_call : yW_call.cls ≠ "java/lang/invoke/MethodHandle" ∧ yW_call.cls ≠ "java/lang/invoke/VarHandle" ∧ (parseMethodDescriptor yW_call.desc).map (fun d => d.parameters.length) = some 1 := by decide +kernel
theorem dW_call_0 : decode bW_call 0 = .ok (.iconst 0, 1) := by decide +kernel
theorem dW_call_1 : decode bW_call 1 = .ok (.istore_n 1, 1) := by decide +kernel
theorem dW_call_2 : decode bW_call 2 = .ok (.iconst 4, 1) := by decide +kernel
theorem dW_call_3 : decode bW_call 3 = .ok (.newarray .int, 2) := by decide +kernel
theorem dW_call_5 : decode bW_call 5 = .ok (.astore_n 2, 1) := by decide +kernel
theorem dW_call_6 : decode bW_call 6 = .ok (.iconst 4, 1) := by decide +kernel
theorem dW_call_7 : decode bW_call 7 = .ok (.newarray .int, 2) := by decide +kernel
theorem dW_call_9 : decode bW_call 9 = .ok (.astore_n 3, 1) := by decide +kernel
theorem dW_call_10 : decode bW_call 10 = .ok (.aload_n 2, 1) := by decide +kernel
theorem dW_call_11 : decode bW_call 11 = .ok (.iconst 0, 1) := by decide +kernel
theorem dW_call_12 : decode bW_call 12 = .ok (.sipush 1000, 3) := by decide +kernel
theorem dW_call_15 : decode bW_call 15 = .ok (.iastore, 1) := by decide +kernel
theorem dW_call_16 : decode bW_call 16 = .ok (.aload_n 2, 1) := by decide +kernel
theorem dW_call_17 : decode bW_call 17 = .ok (.iconst 1, 1) := by decide +kernel
theorem dW_call_18 : decode bW_call 18 = .ok (.sipush 5000, 3) := by decide +kernel
theorem dW_call_21 : decode bW_call 21 = .ok (.iastore, 1) := by decide +kernel
theorem dW_call_22 : decode bW_call 22 = .ok (.aload_n 2, 1) := by decide +kernel
theorem dW_call_23 : decode bW_call 23 = .ok (.iconst 2, 1) := by decide +kernel
theorem dW_call_24 : decode bW_call 24 = .ok (.sipush 20000, 3) := by decide +kernel
theorem dW_call_27 : decode bW_call 27 = .ok (.iastore, 1) := by decide +kernel
theorem dW_call_28 : decode bW_call 28 = .ok (.aload_n 2, 1) := by decide +kernel
theorem dW_call_29 : decode bW_call 29 = .ok (.iconst 3, 1) := by decide +kernel
theorem dW_call_30 : decode bW_call 30 = .ok (.ldc 7, 2) := by decide +kernel
theorem dW_call_32 : decode bW_call 32 = .ok (.iastore, 1) := by decide +kernel
theorem dW_call_33 : decode bW_call 33 = .ok (.aload_n 3, 1) := by decide +kernel
theorem dW_call_34 : decode bW_call 34 = .ok (.iconst 0, 1) := by decide +kernel
theorem dW_call_35 : decode bW_call 35 = .ok (.bipush 50, 2) := by decide +kernel
theorem dW_call_37 : decode bW_call 37 = .ok (.iastore, 1) := by decide +kernel
theorem dW_call_38 : decode bW_call 38 = .ok (.aload_n 3, 1) := by decide +kernel
theorem dW_call_39 : decode bW_call 39 = .ok (.iconst 1, 1) := by decide +kernel
theorem dW_call_40 : decode bW_call 40 = .ok (.bipush 100, 2) := by decide +kernel
theorem dW_call_42 : decode bW_call 42 = .ok (.iastore, 1) := by decide +kernel
theorem dW_call_43 : decode bW_call 43 = .ok (.aload_n 3, 1) := by decide +kernel
theorem dW_call_44 : decode bW_call 44 = .ok (.iconst 2, 1) := by decide +kernel
theorem dW_call_45 : decode bW_call 45 = .ok (.sipush 500, 3) := by decide +kernel
theorem dW_call_48 : decode bW_call 48 = .ok (.iastore, 1) := by decide +kernel
theorem dW_call_49 : decode bW_call 49 = .ok (.aload_n 3, 1) := by decide +kernel
theorem dW_call_50 : decode bW_call 50 = .ok (.iconst 3, 1) := by decide +kernel
theorem dW_call_51 : decode bW_call 51 = .ok (.sipush 1000, 3) := by decide +kernel
theorem dW_call_54 : decode bW_call 54 = .ok (.iastore, 1) := by decide +kernel
theorem dW_call_55 : decode bW_call 55 = .ok (.iconst 0, 1) := by decide +kernel
theorem dW_call_56 : decode bW_call 56 = .ok (.istore 4, 2) := by decide +kernel
theorem dW_call_58 : decode bW_call 58 = .ok (.iload 4, 2) := by decide +kernel
theorem dW_call_60 : decode bW_call 60 = .ok (.iconst 4, 1) := by decide +kernel
theorem dW_call_61 : decode bW_call 61 = .ok (.if_icmp .ge 54, 3) := by decide +kernel
theorem dW_call_64 : decode bW_call 64 = .ok (.iload_n 0, 1) := by decide +kernel
theorem dW_call_65 : decode bW_call 65 = .ok (.aload_n 2, 1) := by decide +kernel
theorem dW_call_66 : decode bW_call 66 = .ok (.iload 4, 2) := by decide +kernel
theorem dW_call_68 : decode bW_call 68 = .ok (.iaload, 1) := by decide +kernel
theorem dW_call_69 : decode bW_call 69 = .ok (.if_icmp .ge 7, 3) := by decide +kernel
theorem dW_call_72 : decode bW_call 72 = .ok (.iload_n 0, 1) := by decide +kernel
theorem dW_call_73 : decode bW_call 73 = .ok (.goto 7, 3) := by decide +kernel
theorem dW_call_76 : decode bW_call 76 = .ok (.aload_n 2, 1) := by decide +kernel
theorem dW_call_77 : decode bW_call 77 = .ok (.iload 4, 2) := by decide +kernel
theorem dW_call_79 : decode bW_call 79 = .ok (.iaload, 1) := by decide +kernel
theorem dW_call_80 : decode bW_call 80 = .ok (.istore 5, 2) := by decide +kernel
theorem dW_call_82 : decode bW_call 82 = .ok (.iload_n 1, 1) := by decide +kernel
theorem dW_call_83 : decode bW_call 83 = .ok (.iload 5, 2) := by decide +kernel
theorem dW_call_85 : decode bW_call 85 = .ok (.iload_n 1, 1) := by decide +kernel
theorem dW_call_86 : decode bW_call 86 = .ok (.if_icmp .le 20, 3) := by decide +kernel
theorem dW_call_89 : decode bW_call 89 = .ok (.iload 5, 2) := by decide +kernel
theorem dW_call_91 : decode bW_call 91 = .ok (.iload_n 1, 1) := by decide +kernel
theorem dW_call_92 : decode bW_call 92 = .ok (.isub, 1) := by decide +kernel
theorem dW_call_93 : decode bW_call 93 = .ok (.aload_n 3, 1) := by decide +kernel
theorem dW_call_94 : decode bW_call 94 = .ok (.iload 4, 2) := by decide +kernel
theorem dW_call_96 : decode bW_call 96 = .ok (.iaload, 1) := by decide +kernel
theorem dW_call_97 : decode bW_call 97 = .ok (.idiv, 1) := by decide +kernel
theorem dW_call_98 : decode bW_call 98 = .ok (.aload_n 3, 1) := by decide +kernel
theorem dW_call_99 : decode bW_call 99 = .ok (.iload 4, 2) := by decide +kernel
theorem dW_call_101 : decode bW_call 101 = .ok (.iaload, 1) := by decide +kernel
theorem dW_call_102 : decode bW_call 102 = .ok (.imul, 1) := by decide +kernel
theorem dW_call_103 : decode bW_call 103 = .ok (.goto 4, 3) := by decide +kernel
theorem dW_call_106 : decode bW_call 106 = .ok (.iconst 0, 1) := by decide +kernel
theorem dW_call_107 : decode bW_call 107 = .ok (.iadd, 1) := by decide +kernel
theorem dW_call_108 : decode bW_call 108 = .ok (.istore_n 1, 1) := by decide +kernel
theorem dW_call_109 : decode bW_call 109 = .ok (.iinc 4 1, 3) := by decide +kernel
theorem dW_call_112 : decode bW_call 112 = .ok (.goto (-54), 3) := by decide +kernel
theorem dW_call_115 : decode bW_call 115 = .ok (.iload_n 1, 1) := by decide +kernel
theorem dW_call_116 : decode bW_call 116 = .ok (.ireturn, 1) := by decide +kernel
set_option maxHeartbeats 4000000 in
set_option maxRecDepth 100000 in
theorem cW_call (l : Launch) (D : va_G) (p0 : Int32) : Met l yW_call (Cond.code yW_call bW_call 6 (some FieldType.int) :: wNeed) { frames := 0, cells := 2, slots := 8, locals := 0 } (fun v _ => v = ([.int p0] : List Value).toArray) (va_Qi (fun r (_ : Unit) => r = fW_call p0) (fun _ _ => True) (fun _ => False)) 2 8 (fun _ => False) := by
  refine en_N (av := [.int p0]) (by decide) (Nat.le_of_ble_eq_true rfl) ?_
  intro p e s m below meth c hx hb hml hown hts hr hlocks ls hl
  replace hl : lv_has ls 6 [(0, .int p0)] := hl
  have hS : va_S (A0 s) s.heap s.heap [] := va_S.rf
  have hA : ∀ q : Nat, s.heap.size ≤ q → (A0 s) q := fun _ h => h
  have hK : va_K D [] [] s := ⟨fun c q h => by simp at h, fun k q h => by simp at h⟩
  have hP : va_P D [] [] s.heap := fun k q h => by simp at h
  have hD : va_D (A0 s) [] := ⟨fun i j p q h => by simp at h, fun k q h => by simp at h⟩
  refine lv_iconst (v := 0) hx hb dW_call_0 (by decide) ?_
  refine lv_istore_n (lv' := [(1, .int 0), (0, .int p0)]) hx hb dW_call_1 rfl hl (by decide) rfl (fun ls hl => ?_)
  refine lv_iconst (v := 4) hx hb dW_call_2 (by decide) ?_
  refine va_newa (atype := .int) (ty := .int) (N' := 4) (a0 := (4, .inl fun _ => 0)) hx hb (hts _ q_49) rfl hK hP hD hS hA (fun _ => rfl) (by decide) rfl (by decide) (Nat.le_of_ble_eq_true rfl) (Nat.le_of_ble_eq_true rfl) dW_call_3 (fun q1 c1 H hK hP hD hS => ?_)
  have hP : va_P D [] [(q1, .inl (c1, 4, .inl (fun _ => 0)))] H := hP
  have hD : va_D (A0 s) [(q1, .inl (c1, 4, .inl (fun _ => 0)))] := hD
  refine lv_astore_n (lv' := [(2, .ref q1), (1, .int 0), (0, .int p0)]) hx hb dW_call_5 rfl hl (by decide) rfl (fun ls hl => ?_)
  refine lv_iconst (v := 4) hx hb dW_call_6 (by decide) ?_
  refine va_newa (atype := .int) (ty := .int) (N' := 4) (a0 := (4, .inl fun _ => 0)) hx hb (hts _ q_49) rfl hK hP hD hS hA (fun _ => rfl) (by decide) rfl (by decide) (Nat.le_of_ble_eq_true rfl) (Nat.le_of_ble_eq_true rfl) dW_call_7 (fun q2 c2 H hK hP hD hS => ?_)
  have hP : va_P D [] [(q1, .inl (c1, 4, .inl (fun _ => 0))), (q2, .inl (c2, 4, .inl (fun _ => 0)))] H := hP
  have hD : va_D (A0 s) [(q1, .inl (c1, 4, .inl (fun _ => 0))), (q2, .inl (c2, 4, .inl (fun _ => 0)))] := hD
  have hK : va_K D [] [(c1, .int), (c2, .int)] s := hK
  refine lv_astore_n (lv' := [(3, .ref q2), (2, .ref q1), (1, .int 0), (0, .int p0)]) hx hb dW_call_9 rfl hl (by decide) rfl (fun ls hl => ?_)
  refine lv_aload_n hx hb dW_call_10 rfl (lv_at hl 1 rfl) ?_
  refine lv_iconst (v := 0) hx hb dW_call_11 (by decide) ?_
  refine lv_sipush (v := 1000) hx hb dW_call_12 (by decide) ?_
  refine va_iast hx hb hK hP hD hS 0 0 rfl rfl (by rw [vp_in_iff]; decide) dW_call_15 (fun H locs hP hD hS => ?_)
  have hP : va_P D [] [(q1, .inl (c1, 4, .inl (upd (fun _ => 0) 0 1000))), (q2, .inl (c2, 4, .inl (fun _ => 0)))] H := hP
  have hD : va_D (A0 s) [(q1, .inl (c1, 4, .inl (upd (fun _ => 0) 0 1000))), (q2, .inl (c2, 4, .inl (fun _ => 0)))] := hD
  refine lv_aload_n hx hb dW_call_16 rfl (lv_at hl 1 rfl) ?_
  refine lv_iconst (v := 1) hx hb dW_call_17 (by decide) ?_
  refine lv_sipush (v := 5000) hx hb dW_call_18 (by decide) ?_
  refine va_iast hx hb hK hP hD hS 0 0 rfl rfl (by rw [vp_in_iff]; decide) dW_call_21 (fun H locs hP hD hS => ?_)
  have hP : va_P D [] [(q1, .inl (c1, 4, .inl (upd (upd (fun _ => 0) 0 1000) 1 5000))), (q2, .inl (c2, 4, .inl (fun _ => 0)))] H := hP
  have hD : va_D (A0 s) [(q1, .inl (c1, 4, .inl (upd (upd (fun _ => 0) 0 1000) 1 5000))), (q2, .inl (c2, 4, .inl (fun _ => 0)))] := hD
  refine lv_aload_n hx hb dW_call_22 rfl (lv_at hl 1 rfl) ?_
  refine lv_iconst (v := 2) hx hb dW_call_23 (by decide) ?_
  refine lv_sipush (v := 20000) hx hb dW_call_24 (by decide) ?_
  refine va_iast hx hb hK hP hD hS 0 0 rfl rfl (by rw [vp_in_iff]; decide) dW_call_27 (fun H locs hP hD hS => ?_)
  have hP : va_P D [] [(q1, .inl (c1, 4, .inl (upd (upd (upd (fun _ => 0) 0 1000) 1 5000) 2 20000))), (q2, .inl (c2, 4, .inl (fun _ => 0)))] H := hP
  have hD : va_D (A0 s) [(q1, .inl (c1, 4, .inl (upd (upd (upd (fun _ => 0) 0 1000) 1 5000) 2 20000))), (q2, .inl (c2, 4, .inl (fun _ => 0)))] := hD
  refine lv_aload_n hx hb dW_call_28 rfl (lv_at hl 1 rfl) ?_
  refine lv_iconst (v := 3) hx hb dW_call_29 (by decide) ?_
  refine lv_ldc (v := 2000000) hx hb hown (hts _ q_151) dW_call_30 ?_
  refine va_iast hx hb hK hP hD hS 0 0 rfl rfl (by rw [vp_in_iff]; decide) dW_call_32 (fun H locs hP hD hS => ?_)
  have hP : va_P D [] [(q1, .inl (c1, 4, .inl (upd (upd (upd (upd (fun _ => 0) 0 1000) 1 5000) 2 20000) 3 2000000))), (q2, .inl (c2, 4, .inl (fun _ => 0)))] H := hP
  have hD : va_D (A0 s) [(q1, .inl (c1, 4, .inl (upd (upd (upd (upd (fun _ => 0) 0 1000) 1 5000) 2 20000) 3 2000000))), (q2, .inl (c2, 4, .inl (fun _ => 0)))] := hD
  refine lv_aload_n hx hb dW_call_33 rfl (lv_at hl 0 rfl) ?_
  refine lv_iconst (v := 0) hx hb dW_call_34 (by decide) ?_
  refine lv_bipush (v := 50) hx hb dW_call_35 (by decide) ?_
  refine va_iast hx hb hK hP hD hS 1 1 rfl rfl (by rw [vp_in_iff]; decide) dW_call_37 (fun H locs hP hD hS => ?_)
  have hP : va_P D [] [(q1, .inl (c1, 4, .inl (upd (upd (upd (upd (fun _ => 0) 0 1000) 1 5000) 2 20000) 3 2000000))), (q2, .inl (c2, 4, .inl (upd (fun _ => 0) 0 50)))] H := hP
  have hD : va_D (A0 s) [(q1, .inl (c1, 4, .inl (upd (upd (upd (upd (fun _ => 0) 0 1000) 1 5000) 2 20000) 3 2000000))), (q2, .inl (c2, 4, .inl (upd (fun _ => 0) 0 50)))] := hD
  refine lv_aload_n hx hb dW_call_38 rfl (lv_at hl 0 rfl) ?_
  refine lv_iconst (v := 1) hx hb dW_call_39 (by decide) ?_
  refine lv_bipush (v := 100) hx hb dW_call_40 (by decide) ?_
  refine va_iast hx hb hK hP hD hS 1 1 rfl rfl (by rw [vp_in_iff]; decide) dW_call_42 (fun H locs hP hD hS => ?_)
  have hP : va_P D [] [(q1, .inl (c1, 4, .inl (upd (upd (upd (upd (fun _ => 0) 0 1000) 1 5000) 2 20000) 3 2000000))), (q2, .inl (c2, 4, .inl (upd (upd (fun _ => 0) 0 50) 1 100)))] H := hP
  have hD : va_D (A0 s) [(q1, .inl (c1, 4, .inl (upd (upd (upd (upd (fun _ => 0) 0 1000) 1 5000) 2 20000) 3 2000000))), (q2, .inl (c2, 4, .inl (upd (upd (fun _ => 0) 0 50) 1 100)))] := hD
  refine lv_aload_n hx hb dW_call_43 rfl (lv_at hl 0 rfl) ?_
  refine lv_iconst (v := 2) hx hb dW_call_44 (by decide) ?_
  refine lv_sipush (v := 500) hx hb dW_call_45 (by decide) ?_
  refine va_iast hx hb hK hP hD hS 1 1 rfl rfl (by rw [vp_in_iff]; decide) dW_call_48 (fun H locs hP hD hS => ?_)
  have hP : va_P D [] [(q1, .inl (c1, 4, .inl (upd (upd (upd (upd (fun _ => 0) 0 1000) 1 5000) 2 20000) 3 2000000))), (q2, .inl (c2, 4, .inl (upd (upd (upd (fun _ => 0) 0 50) 1 100) 2 500)))] H := hP
  have hD : va_D (A0 s) [(q1, .inl (c1, 4, .inl (upd (upd (upd (upd (fun _ => 0) 0 1000) 1 5000) 2 20000) 3 2000000))), (q2, .inl (c2, 4, .inl (upd (upd (upd (fun _ => 0) 0 50) 1 100) 2 500)))] := hD
  refine lv_aload_n hx hb dW_call_49 rfl (lv_at hl 0 rfl) ?_
  refine lv_iconst (v := 3) hx hb dW_call_50 (by decide) ?_
  refine lv_sipush (v := 1000) hx hb dW_call_51 (by decide) ?_
  refine va_iast hx hb hK hP hD hS 1 1 rfl rfl (by rw [vp_in_iff]; decide) dW_call_54 (fun H locs hP hD hS => ?_)
  have hP : va_P D [] [(q1, .inl (c1, 4, .inl (upd (upd (upd (upd (fun _ => 0) 0 1000) 1 5000) 2 20000) 3 2000000))), (q2, .inl (c2, 4, .inl (upd (upd (upd (upd (fun _ => 0) 0 50) 1 100) 2 500) 3 1000)))] H := hP
  have hD : va_D (A0 s) [(q1, .inl (c1, 4, .inl (upd (upd (upd (upd (fun _ => 0) 0 1000) 1 5000) 2 20000) 3 2000000))), (q2, .inl (c2, 4, .inl (upd (upd (upd (upd (fun _ => 0) 0 50) 1 100) 2 500) 3 1000)))] := hD
  generalize hf1 : (upd (upd (upd (upd (fun _ => 0) 0 1000) 1 5000) 2 20000) 3 2000000 : Nat → Int32) = f1 at hP hD
  generalize hf2 : (upd (upd (upd (upd (fun _ => 0) 0 50) 1 100) 2 500) 3 1000 : Nat → Int32) = f2 at hP hD
  have e1 : f1 0 = 1000 ∧ f1 1 = 5000 ∧ f1 2 = 20000 ∧ f1 3 = 2000000 := by subst hf1; exact ⟨rfl, rfl, rfl, rfl⟩
  have e2 : f2 0 = 50 ∧ f2 1 = 100 ∧ f2 2 = 500 ∧ f2 3 = 1000 := by subst hf2; exact ⟨rfl, rfl, rfl, rfl⟩
  refine lv_iconst (v := 0) hx hb dW_call_55 (by decide) ?_
  refine lv_istore (lv' := [(4, .int 0), (3, .ref q2), (2, .ref q1), (1, .int 0), (0, .int p0)]) hx hb dW_call_56 hl (by decide) rfl (fun ls hl => ?_)
  refine lv_iload hx hb dW_call_58 (lv_at hl 0 rfl) ?_
  refine lv_iconst (v := 4) hx hb dW_call_60 (by decide) ?_
  refine lv_icmp_ge (tgt := 115) hx hb dW_call_61 (by decide) (fun c_9 => ?_) (fun c_9 => ?_)
  · exact absurd c_9 (by decide)
  refine W_key (g2 := F0 m 80 ls (.int (cT p0 1000) :: [])) (fun key => ?_) ?_
  · refine lv_iload_n hx hb dW_call_64 rfl (lv_at hl 4 rfl) ?_
    refine lv_aload_n hx hb dW_call_65 rfl (lv_at hl 2 rfl) ?_
    refine lv_iload hx hb dW_call_66 (lv_at hl 0 rfl) ?_
    refine va_iald hx hb hK hP 0 0 rfl rfl (by rw [vp_in_iff]; decide) dW_call_68 ?_
    rw [show f1 ((0 : Int32)).toNatClampNeg = 1000 from e1.1]
    refine lv_icmp_ge (tgt := 76) hx hb dW_call_69 (by decide) (fun c_1 => ?_) (fun c_1 => ?_)
    · refine lv_aload_n hx hb dW_call_76 rfl (lv_at hl 2 rfl) ?_
      refine lv_iload hx hb dW_call_77 (lv_at hl 0 rfl) ?_
      refine va_iald hx hb hK hP 0 0 rfl rfl (by rw [vp_in_iff]; decide) dW_call_79 ?_
      rw [show f1 ((0 : Int32)).toNatClampNeg = 1000 from e1.1]
      exact W.eq (by rw [cT, if_pos c_1]) key
    · refine lv_iload_n hx hb dW_call_72 rfl (lv_at hl 4 rfl) ?_
      refine lv_goto (tgt := 80) hx hb dW_call_73 (by decide) ?_
      exact W.eq (by rw [cT, if_neg c_1]) key
  refine lv_istore (lv' := [(5, .int (cT p0 1000)), (4, .int 0), (3, .ref q2), (2, .ref q1), (1, .int 0), (0, .int p0)]) hx hb dW_call_80 hl (by decide) rfl (fun ls hl => ?_)
  refine lv_iload_n hx hb dW_call_82 rfl (lv_at hl 4 rfl) ?_
  refine W_key (g2 := F0 m 107 ls (.int (if cT p0 1000 ≤ 0 then 0 else (cT p0 1000 - 0) / 50 * 50) :: .int 0 :: [])) (fun key => ?_) ?_
  · refine lv_iload hx hb dW_call_83 (lv_at hl 0 rfl) ?_
    refine lv_iload_n hx hb dW_call_85 rfl (lv_at hl 4 rfl) ?_
    refine lv_icmp_le (tgt := 106) hx hb dW_call_86 (by decide) (fun c_1 => ?_) (fun c_1 => ?_)
    · refine lv_iconst (v := 0) hx hb dW_call_106 (by decide) ?_
      exact W.eq (by rw [if_pos c_1]) key
    · refine lv_iload hx hb dW_call_89 (lv_at hl 0 rfl) ?_
      refine lv_iload_n hx hb dW_call_91 rfl (lv_at hl 4 rfl) ?_
      refine lv_isub hx hb dW_call_92 ?_
      refine lv_aload_n hx hb dW_call_93 rfl (lv_at hl 2 rfl) ?_
      refine lv_iload hx hb dW_call_94 (lv_at hl 1 rfl) ?_
      refine va_iald hx hb hK hP 1 1 rfl rfl (by rw [vp_in_iff]; decide) dW_call_96 ?_
      rw [show f2 ((0 : Int32)).toNatClampNeg = 50 from e2.1]
      refine lv_idiv hx hb dW_call_97 (by decide) ?_
      refine lv_aload_n hx hb dW_call_98 rfl (lv_at hl 2 rfl) ?_
      refine lv_iload hx hb dW_call_99 (lv_at hl 1 rfl) ?_
      refine va_iald hx hb hK hP 1 1 rfl rfl (by rw [vp_in_iff]; decide) dW_call_101 ?_
      rw [show f2 ((0 : Int32)).toNatClampNeg = 50 from e2.1]
      refine lv_imul hx hb dW_call_102 ?_
      refine lv_goto (tgt := 107) hx hb dW_call_103 (by decide) ?_
      exact W.eq (by rw [if_neg c_1]) key
  refine lv_iadd hx hb dW_call_107 ?_
  refine W.eq (g2 := F0 m 108 ls (.int (cB p0 0 1000 50) :: [])) rfl ?_
  refine lv_istore_n (lv' := [(1, .int (cB p0 0 1000 50)), (5, .int (cT p0 1000)), (4, .int 0), (3, .ref q2), (2, .ref q1), (0, .int p0)]) hx hb dW_call_108 rfl hl (by decide) rfl (fun ls hl => ?_)
  refine lv_iinc (v := 1) (lv' := [(4, .int 1), (1, .int (cB p0 0 1000 50)), (5, .int (cT p0 1000)), (3, .ref q2), (2, .ref q1), (0, .int p0)]) hx hb dW_call_109 hl (k := 2) rfl (by decide) (by decide) rfl (fun ls hl => ?_)
  refine lv_goto (tgt := 58) hx hb dW_call_112 (by decide) ?_
  refine lv_iload hx hb dW_call_58 (lv_at hl 0 rfl) ?_
  refine lv_iconst (v := 4) hx hb dW_call_60 (by decide) ?_
  refine lv_icmp_ge (tgt := 115) hx hb dW_call_61 (by decide) (fun c_9 => ?_) (fun c_9 => ?_)
  · exact absurd c_9 (by decide)
  refine W_key (g2 := F0 m 80 ls (.int (cT p0 5000) :: [])) (fun key => ?_) ?_
  · refine lv_iload_n hx hb dW_call_64 rfl (lv_at hl 5 rfl) ?_
    refine lv_aload_n hx hb dW_call_65 rfl (lv_at hl 4 rfl) ?_
    refine lv_iload hx hb dW_call_66 (lv_at hl 0 rfl) ?_
    refine va_iald hx hb hK hP 0 0 rfl rfl (by rw [vp_in_iff]; decide) dW_call_68 ?_
    rw [show f1 ((1 : Int32)).toNatClampNeg = 5000 from e1.2.1]
    refine lv_icmp_ge (tgt := 76) hx hb dW_call_69 (by decide) (fun c_1 => ?_) (fun c_1 => ?_)
    · refine lv_aload_n hx hb dW_call_76 rfl (lv_at hl 4 rfl) ?_
      refine lv_iload hx hb dW_call_77 (lv_at hl 0 rfl) ?_
      refine va_iald hx hb hK hP 0 0 rfl rfl (by rw [vp_in_iff]; decide) dW_call_79 ?_
      rw [show f1 ((1 : Int32)).toNatClampNeg = 5000 from e1.2.1]
      exact W.eq (by rw [cT, if_pos c_1]) key
    · refine lv_iload_n hx hb dW_call_72 rfl (lv_at hl 5 rfl) ?_
      refine lv_goto (tgt := 80) hx hb dW_call_73 (by decide) ?_
      exact W.eq (by rw [cT, if_neg c_1]) key
  refine lv_istore (lv' := [(5, .int (cT p0 5000)), (4, .int 1), (1, .int (cB p0 0 1000 50)), (3, .ref q2), (2, .ref q1), (0, .int p0)]) hx hb dW_call_80 hl (by decide) rfl (fun ls hl => ?_)
  refine lv_iload_n hx hb dW_call_82 rfl (lv_at hl 2 rfl) ?_
  refine W_key (g2 := F0 m 107 ls (.int (if cT p0 5000 ≤ (cB p0 0 1000 50) then 0 else (cT p0 5000 - (cB p0 0 1000 50)) / 100 * 100) :: .int (cB p0 0 1000 50) :: [])) (fun key => ?_) ?_
  · refine lv_iload hx hb dW_call_83 (lv_at hl 0 rfl) ?_
    refine lv_iload_n hx hb dW_call_85 rfl (lv_at hl 2 rfl) ?_
    refine lv_icmp_le (tgt := 106) hx hb dW_call_86 (by decide) (fun c_1 => ?_) (fun c_1 => ?_)
    · refine lv_iconst (v := 0) hx hb dW_call_106 (by decide) ?_
      exact W.eq (by rw [if_pos c_1]) key
    · refine lv_iload hx hb dW_call_89 (lv_at hl 0 rfl) ?_
      refine lv_iload_n hx hb dW_call_91 rfl (lv_at hl 2 rfl) ?_
      refine lv_isub hx hb dW_call_92 ?_
      refine lv_aload_n hx hb dW_call_93 rfl (lv_at hl 3 rfl) ?_
      refine lv_iload hx hb dW_call_94 (lv_at hl 1 rfl) ?_
      refine va_iald hx hb hK hP 1 1 rfl rfl (by rw [vp_in_iff]; decide) dW_call_96 ?_
      rw [show f2 ((1 : Int32)).toNatClampNeg = 100 from e2.2.1]
      refine lv_idiv hx hb dW_call_97 (by decide) ?_
      refine lv_aload_n hx hb dW_call_98 rfl (lv_at hl 3 rfl) ?_
      refine lv_iload hx hb dW_call_99 (lv_at hl 1 rfl) ?_
      refine va_iald hx hb hK hP 1 1 rfl rfl (by rw [vp_in_iff]; decide) dW_call_101 ?_
      rw [show f2 ((1 : Int32)).toNatClampNeg = 100 from e2.2.1]
      refine lv_imul hx hb dW_call_102 ?_
      refine lv_goto (tgt := 107) hx hb dW_call_103 (by decide) ?_
      exact W.eq (by rw [if_neg c_1]) key
  refine lv_iadd hx hb dW_call_107 ?_
  refine W.eq (g2 := F0 m 108 ls (.int (cB p0 (cB p0 0 1000 50) 5000 100) :: [])) rfl ?_
  refine lv_istore_n (lv' := [(1, .int (cB p0 (cB p0 0 1000 50) 5000 100)), (5, .int (cT p0 5000)), (4, .int 1), (3, .ref q2), (2, .ref q1), (0, .int p0)]) hx hb dW_call_108 rfl hl (by decide) rfl (fun ls hl => ?_)
  refine lv_iinc (v := 2) (lv' := [(4, .int 2), (1, .int (cB p0 (cB p0 0 1000 50) 5000 100)), (5, .int (cT p0 5000)), (3, .ref q2), (2, .ref q1), (0, .int p0)]) hx hb dW_call_109 hl (k := 2) rfl (by decide) (by decide) rfl (fun ls hl => ?_)
  refine lv_goto (tgt := 58) hx hb dW_call_112 (by decide) ?_
  refine lv_iload hx hb dW_call_58 (lv_at hl 0 rfl) ?_
  refine lv_iconst (v := 4) hx hb dW_call_60 (by decide) ?_
  refine lv_icmp_ge (tgt := 115) hx hb dW_call_61 (by decide) (fun c_9 => ?_) (fun c_9 => ?_)
  · exact absurd c_9 (by decide)
  refine W_key (g2 := F0 m 80 ls (.int (cT p0 20000) :: [])) (fun key => ?_) ?_
  · refine lv_iload_n hx hb dW_call_64 rfl (lv_at hl 5 rfl) ?_
    refine lv_aload_n hx hb dW_call_65 rfl (lv_at hl 4 rfl) ?_
    refine lv_iload hx hb dW_call_66 (lv_at hl 0 rfl) ?_
    refine va_iald hx hb hK hP 0 0 rfl rfl (by rw [vp_in_iff]; decide) dW_call_68 ?_
    rw [show f1 ((2 : Int32)).toNatClampNeg = 20000 from e1.2.2.1]
    refine lv_icmp_ge (tgt := 76) hx hb dW_call_69 (by decide) (fun c_1 => ?_) (fun c_1 => ?_)
    · refine lv_aload_n hx hb dW_call_76 rfl (lv_at hl 4 rfl) ?_
      refine lv_iload hx hb dW_call_77 (lv_at hl 0 rfl) ?_
      refine va_iald hx hb hK hP 0 0 rfl rfl (by rw [vp_in_iff]; decide) dW_call_79 ?_
      rw [show f1 ((2 : Int32)).toNatClampNeg = 20000 from e1.2.2.1]
      exact W.eq (by rw [cT, if_pos c_1]) key
    · refine lv_iload_n hx hb dW_call_72 rfl (lv_at hl 5 rfl) ?_
      refine lv_goto (tgt := 80) hx hb dW_call_73 (by decide) ?_
      exact W.eq (by rw [cT, if_neg c_1]) key
  refine lv_istore (lv' := [(5, .int (cT p0 20000)), (4, .int 2), (1, .int (cB p0 (cB p0 0 1000 50) 5000 100)), (3, .ref q2), (2, .ref q1), (0, .int p0)]) hx hb dW_call_80 hl (by decide) rfl (fun ls hl => ?_)
  refine lv_iload_n hx hb dW_call_82 rfl (lv_at hl 2 rfl) ?_
  refine W_key (g2 := F0 m 107 ls (.int (if cT p0 20000 ≤ (cB p0 (cB p0 0 1000 50) 5000 100) then 0 else (cT p0 20000 - (cB p0 (cB p0 0 1000 50) 5000 100)) / 500 * 500) :: .int (cB p0 (cB p0 0 1000 50) 5000 100) :: [])) (fun key => ?_) ?_
  · refine lv_iload hx hb dW_call_83 (lv_at hl 0 rfl) ?_
    refine lv_iload_n hx hb dW_call_85 rfl (lv_at hl 2 rfl) ?_
    refine lv_icmp_le (tgt := 106) hx hb dW_call_86 (by decide) (fun c_1 => ?_) (fun c_1 => ?_)
    · refine lv_iconst (v := 0) hx hb dW_call_106 (by decide) ?_
      exact W.eq (by rw [if_pos c_1]) key
    · refine lv_iload hx hb dW_call_89 (lv_at hl 0 rfl) ?_
      refine lv_iload_n hx hb dW_call_91 rfl (lv_at hl 2 rfl) ?_
      refine lv_isub hx hb dW_call_92 ?_
      refine lv_aload_n hx hb dW_call_93 rfl (lv_at hl 3 rfl) ?_
      refine lv_iload hx hb dW_call_94 (lv_at hl 1 rfl) ?_
      refine va_iald hx hb hK hP 1 1 rfl rfl (by rw [vp_in_iff]; decide) dW_call_96 ?_
      rw [show f2 ((2 : Int32)).toNatClampNeg = 500 from e2.2.2.1]
      refine lv_idiv hx hb dW_call_97 (by decide) ?_
      refine lv_aload_n hx hb dW_call_98 rfl (lv_at hl 3 rfl) ?_
      refine lv_iload hx hb dW_call_99 (lv_at hl 1 rfl) ?_
      refine va_iald hx hb hK hP 1 1 rfl rfl (by rw [vp_in_iff]; decide) dW_call_101 ?_
      rw [show f2 ((2 : Int32)).toNatClampNeg = 500 from e2.2.2.1]
      refine lv_imul hx hb dW_call_102 ?_
      refine lv_goto (tgt := 107) hx hb dW_call_103 (by decide) ?_
      exact W.eq (by rw [if_neg c_1]) key
  refine lv_iadd hx hb dW_call_107 ?_
  refine W.eq (g2 := F0 m 108 ls (.int (cB p0 (cB p0 (cB p0 0 1000 50) 5000 100) 20000 500) :: [])) rfl ?_
  refine lv_istore_n (lv' := [(1, .int (cB p0 (cB p0 (cB p0 0 1000 50) 5000 100) 20000 500)), (5, .int (cT p0 20000)), (4, .int 2), (3, .ref q2), (2, .ref q1), (0, .int p0)]) hx hb dW_call_108 rfl hl (by decide) rfl (fun ls hl => ?_)
  refine lv_iinc (v := 3) (lv' := [(4, .int 3), (1, .int (cB p0 (cB p0 (cB p0 0 1000 50) 5000 100) 20000 500)), (5, .int (cT p0 20000)), (3, .ref q2), (2, .ref q1), (0, .int p0)]) hx hb dW_call_109 hl (k := 2) rfl (by decide) (by decide) rfl (fun ls hl => ?_)
  refine lv_goto (tgt := 58) hx hb dW_call_112 (by decide) ?_
  refine lv_iload hx hb dW_call_58 (lv_at hl 0 rfl) ?_
  refine lv_iconst (v := 4) hx hb dW_call_60 (by decide) ?_
  refine lv_icmp_ge (tgt := 115) hx hb dW_call_61 (by decide) (fun c_9 => ?_) (fun c_9 => ?_)
  · exact absurd c_9 (by decide)
  refine W_key (g2 := F0 m 80 ls (.int (cT p0 2000000) :: [])) (fun key => ?_) ?_
  · refine lv_iload_n hx hb dW_call_64 rfl (lv_at hl 5 rfl) ?_
    refine lv_aload_n hx hb dW_call_65 rfl (lv_at hl 4 rfl) ?_
    refine lv_iload hx hb dW_call_66 (lv_at hl 0 rfl) ?_
    refine va_iald hx hb hK hP 0 0 rfl rfl (by rw [vp_in_iff]; decide) dW_call_68 ?_
    rw [show f1 ((3 : Int32)).toNatClampNeg = 2000000 from e1.2.2.2]
    refine lv_icmp_ge (tgt := 76) hx hb dW_call_69 (by decide) (fun c_1 => ?_) (fun c_1 => ?_)
    · refine lv_aload_n hx hb dW_call_76 rfl (lv_at hl 4 rfl) ?_
      refine lv_iload hx hb dW_call_77 (lv_at hl 0 rfl) ?_
      refine va_iald hx hb hK hP 0 0 rfl rfl (by rw [vp_in_iff]; decide) dW_call_79 ?_
      rw [show f1 ((3 : Int32)).toNatClampNeg = 2000000 from e1.2.2.2]
      exact W.eq (by rw [cT, if_pos c_1]) key
    · refine lv_iload_n hx hb dW_call_72 rfl (lv_at hl 5 rfl) ?_
      refine lv_goto (tgt := 80) hx hb dW_call_73 (by decide) ?_
      exact W.eq (by rw [cT, if_neg c_1]) key
  refine lv_istore (lv' := [(5, .int (cT p0 2000000)), (4, .int 3), (1, .int (cB p0 (cB p0 (cB p0 0 1000 50) 5000 100) 20000 500)), (3, .ref q2), (2, .ref q1), (0, .int p0)]) hx hb dW_call_80 hl (by decide) rfl (fun ls hl => ?_)
  refine lv_iload_n hx hb dW_call_82 rfl (lv_at hl 2 rfl) ?_
  refine W_key (g2 := F0 m 107 ls (.int (if cT p0 2000000 ≤ (cB p0 (cB p0 (cB p0 0 1000 50) 5000 100) 20000 500) then 0 else (cT p0 2000000 - (cB p0 (cB p0 (cB p0 0 1000 50) 5000 100) 20000 500)) / 1000 * 1000) :: .int (cB p0 (cB p0 (cB p0 0 1000 50) 5000 100) 20000 500) :: [])) (fun key => ?_) ?_
  · refine lv_iload hx hb dW_call_83 (lv_at hl 0 rfl) ?_
    refine lv_iload_n hx hb dW_call_85 rfl (lv_at hl 2 rfl) ?_
    refine lv_icmp_le (tgt := 106) hx hb dW_call_86 (by decide) (fun c_1 => ?_) (fun c_1 => ?_)
    · refine lv_iconst (v := 0) hx hb dW_call_106 (by decide) ?_
      exact W.eq (by rw [if_pos c_1]) key
    · refine lv_iload hx hb dW_call_89 (lv_at hl 0 rfl) ?_
      refine lv_iload_n hx hb dW_call_91 rfl (lv_at hl 2 rfl) ?_
      refine lv_isub hx hb dW_call_92 ?_
      refine lv_aload_n hx hb dW_call_93 rfl (lv_at hl 3 rfl) ?_
      refine lv_iload hx hb dW_call_94 (lv_at hl 1 rfl) ?_
      refine va_iald hx hb hK hP 1 1 rfl rfl (by rw [vp_in_iff]; decide) dW_call_96 ?_
      rw [show f2 ((3 : Int32)).toNatClampNeg = 1000 from e2.2.2.2]
      refine lv_idiv hx hb dW_call_97 (by decide) ?_
      refine lv_aload_n hx hb dW_call_98 rfl (lv_at hl 3 rfl) ?_
      refine lv_iload hx hb dW_call_99 (lv_at hl 1 rfl) ?_
      refine va_iald hx hb hK hP 1 1 rfl rfl (by rw [vp_in_iff]; decide) dW_call_101 ?_
      rw [show f2 ((3 : Int32)).toNatClampNeg = 1000 from e2.2.2.2]
      refine lv_imul hx hb dW_call_102 ?_
      refine lv_goto (tgt := 107) hx hb dW_call_103 (by decide) ?_
      exact W.eq (by rw [if_neg c_1]) key
  refine lv_iadd hx hb dW_call_107 ?_
  refine W.eq (g2 := F0 m 108 ls (.int (cB p0 (cB p0 (cB p0 (cB p0 0 1000 50) 5000 100) 20000 500) 2000000 1000) :: [])) rfl ?_
  refine lv_istore_n (lv' := [(1, .int (cB p0 (cB p0 (cB p0 (cB p0 0 1000 50) 5000 100) 20000 500) 2000000 1000)), (5, .int (cT p0 2000000)), (4, .int 3), (3, .ref q2), (2, .ref q1), (0, .int p0)]) hx hb dW_call_108 rfl hl (by decide) rfl (fun ls hl => ?_)
  refine lv_iinc (v := 4) (lv' := [(4, .int 4), (1, .int (cB p0 (cB p0 (cB p0 (cB p0 0 1000 50) 5000 100) 20000 500) 2000000 1000)), (5, .int (cT p0 2000000)), (3, .ref q2), (2, .ref q1), (0, .int p0)]) hx hb dW_call_109 hl (k := 2) rfl (by decide) (by decide) rfl (fun ls hl => ?_)
  refine lv_goto (tgt := 58) hx hb dW_call_112 (by decide) ?_
  refine lv_iload hx hb dW_call_58 (lv_at hl 0 rfl) ?_
  refine lv_iconst (v := 4) hx hb dW_call_60 (by decide) ?_
  refine lv_icmp_ge (tgt := 115) hx hb dW_call_61 (by decide) (fun c_9 => ?_) (fun c_9 => ?_)
  rotate_left
  · exact absurd (by decide) c_9
  refine lv_iload_n hx hb dW_call_115 rfl (lv_at hl 1 rfl) ?_
  refine va_forget (fun q hq => hS.2.2 q hq) ?_
  exact W.iret (v := fW_call p0) hx hb hr (fun t ht hW => ⟨⟨_, (), rfl, rfl, trivial⟩, no_free hS ht⟩) (fun q h => nomatch h) dW_call_116
def fW_hundredths (p0 : Int32) (p1 : Int32) (p2 : Int32) (p3 : Int32) : Int32 := if (if p2 ≤ p0 then p2 else p0) ≤ p1 then 0 else (((if p2 ≤ p0 then p2 else p0) - p1) * p3) / 100
theorem hdyW_hundredths : yW_hundredths.cls ≠ "java/lang/invoke/MethodHandle" ∧ yW_hundredths.cls ≠ "java/lang/invoke/VarHandle" ∧ (parseMethodDescriptor yW_hundredths.desc).map (fun d => d.parameters.length) = some 4 := by decide +kernel
theorem dW_hundredths_0 : decode bW_hundredths 0 = .ok (.iload_n 0, 1) := by decide +kernel
theorem dW_hundredths_1 : decode bW_hundredths 1 = .ok (.iload_n 2, 1) := by decide +kernel
theorem dW_hundredths_2 : decode bW_hundredths 2 = .ok (.if_icmp .ge 7, 3) := by decide +kernel
theorem dW_hundredths_5 : decode bW_hundredths 5 = .ok (.iload_n 0, 1) := by decide +kernel
theorem dW_hundredths_6 : decode bW_hundredths 6 = .ok (.goto 4, 3) := by decide +kernel
theorem dW_hundredths_9 : decode bW_hundredths 9 = .ok (.iload_n 2, 1) := by decide +kernel
theorem dW_hundredths_10 : decode bW_hundredths 10 = .ok (.istore 4, 2) := by decide +kernel
theorem dW_hundredths_12 : decode bW_hundredths 12 = .ok (.iload 4, 2) := by decide +kernel
theorem dW_hundredths_14 : decode bW_hundredths 14 = .ok (.iload_n 1, 1) := by decide +kernel
theorem dW_hundredths_15 : decode bW_hundredths 15 = .ok (.if_icmp .le 15, 3) := by decide +kernel
theorem dW_hundredths_18 : decode bW_hundredths 18 = .ok (.iload 4, 2) := by decide +kernel
theorem dW_hundredths_20 : decode bW_hundredths 20 = .ok (.iload_n 1, 1) := by decide +kernel
theorem dW_hundredths_21 : decode bW_hundredths 21 = .ok (.isub, 1) := by decide +kernel
theorem dW_hundredths_22 : decode bW_hundredths 22 = .ok (.iload_n 3, 1) := by decide +kernel
theorem dW_hundredths_23 : decode bW_hundredths 23 = .ok (.imul, 1) := by decide +kernel
theorem dW_hundredths_24 : decode bW_hundredths 24 = .ok (.bipush 100, 2) := by decide +kernel
theorem dW_hundredths_26 : decode bW_hundredths 26 = .ok (.idiv, 1) := by decide +kernel
theorem dW_hundredths_27 : decode bW_hundredths 27 = .ok (.goto 4, 3) := by decide +kernel
theorem dW_hundredths_30 : decode bW_hundredths 30 = .ok (.iconst 0, 1) := by decide +kernel
theorem dW_hundredths_31 : decode bW_hundredths 31 = .ok (.ireturn, 1) := by decide +kernel
set_option maxHeartbeats 4000000 in
set_option maxRecDepth 100000 in
theorem cW_hundredths (l : Launch) (p0 : Int32) (p1 : Int32) (p2 : Int32) (p3 : Int32) : Met l yW_hundredths (Cond.code yW_hundredths bW_hundredths 5 (some FieldType.int) :: wNeed) { frames := 0, cells := 0, slots := 0, locals := 0 } (fun v _ => v = ([.int p0, .int p1, .int p2, .int p3] : List Value).toArray) (vp_Si fun r => r = fW_hundredths p0 p1 p2 p3) 0 0 (fun _ => False) := by
  refine en_N (av := [.int p0, .int p1, .int p2, .int p3]) (by decide) (Nat.le_of_ble_eq_true rfl) ?_
  intro p e s m below meth c hx hb hml hown hts hr hlocks ls hl
  replace hl : lv_has ls 5 [(0, .int p0), (1, .int p1), (2, .int p2), (3, .int p3)] := hl
  refine W_key (g2 := F0 m 10 ls (.int (if p2 ≤ p0 then p2 else p0) :: [])) (fun key => ?_) ?_
  · refine lv_iload_n hx hb dW_hundredths_0 rfl (lv_at hl 0 rfl) ?_
    refine lv_iload_n hx hb dW_hundredths_1 rfl (lv_at hl 2 rfl) ?_
    refine lv_icmp_ge (tgt := 9) hx hb dW_hundredths_2 (by decide) (fun c_1 => ?_) (fun c_1 => ?_)
    · refine lv_iload_n hx hb dW_hundredths_9 rfl (lv_at hl 2 rfl) ?_
      exact W.eq (by rw [if_pos c_1]) key
    · refine lv_iload_n hx hb dW_hundredths_5 rfl (lv_at hl 0 rfl) ?_
      refine lv_goto (tgt := 10) hx hb dW_hundredths_6 (by decide) ?_
      exact W.eq (by rw [if_neg c_1]) key
  refine lv_istore (lv' := [(4, .int (if p2 ≤ p0 then p2 else p0)), (0, .int p0), (1, .int p1), (2, .int p2), (3, .int p3)]) hx hb dW_hundredths_10 hl (by decide) rfl (fun ls hl => ?_)
  refine W_key (g2 := F0 m 31 ls (.int (if (if p2 ≤ p0 then p2 else p0) ≤ p1 then 0 else (((if p2 ≤ p0 then p2 else p0) - p1) * p3) / 100) :: [])) (fun key => ?_) ?_
  · refine lv_iload hx hb dW_hundredths_12 (lv_at hl 0 rfl) ?_
    refine lv_iload_n hx hb dW_hundredths_14 rfl (lv_at hl 2 rfl) ?_
    refine lv_icmp_le (tgt := 30) hx hb dW_hundredths_15 (by decide) (fun c_2 => ?_) (fun c_2 => ?_)
    · refine lv_iconst (v := 0) hx hb dW_hundredths_30 (by decide) ?_
      exact W.eq (by rw [if_pos c_2]) key
    · refine lv_iload hx hb dW_hundredths_18 (lv_at hl 0 rfl) ?_
      refine lv_iload_n hx hb dW_hundredths_20 rfl (lv_at hl 2 rfl) ?_
      refine lv_isub hx hb dW_hundredths_21 ?_
      refine lv_iload_n hx hb dW_hundredths_22 rfl (lv_at hl 4 rfl) ?_
      refine lv_imul hx hb dW_hundredths_23 ?_
      refine lv_bipush (v := 100) hx hb dW_hundredths_24 (by decide) ?_
      refine lv_idiv hx hb dW_hundredths_26 (by decide) ?_
      refine lv_goto (tgt := 31) hx hb dW_hundredths_27 (by decide) ?_
      exact W.eq (by rw [if_neg c_2]) key
  exact W.iret (v := if (if p2 ≤ p0 then p2 else p0) ≤ p1 then 0 else (((if p2 ≤ p0 then p2 else p0) - p1) * p3) / 100) hx hb hr (fun t ht hW => ⟨_, rfl, (by rw [fW_hundredths] <;> rfl), ht⟩) (fun q h => nomatch h) dW_hundredths_31
def fW_fee (p0 : Int32) : Int32 := ((fW_hundredths p0 0 10000 25) + (fW_hundredths p0 10000 50000 20)) + (fW_hundredths p0 50000 2000000 12)
theorem hdyW_fee : yW_fee.cls ≠ "java/lang/invoke/MethodHandle" ∧ yW_fee.cls ≠ "java/lang/invoke/VarHandle" ∧ (parseMethodDescriptor yW_fee.desc).map (fun d => d.parameters.length) = some 1 := by decide +kernel
theorem dW_fee_0 : decode bW_fee 0 = .ok (.iload_n 0, 1) := by decide +kernel
theorem dW_fee_1 : decode bW_fee 1 = .ok (.iconst 0, 1) := by decide +kernel
theorem dW_fee_2 : decode bW_fee 2 = .ok (.sipush 10000, 3) := by decide +kernel
theorem dW_fee_5 : decode bW_fee 5 = .ok (.bipush 25, 2) := by decide +kernel
theorem dW_fee_7 : decode bW_fee 7 = .ok (.invokestatic 14, 3) := by decide +kernel
theorem dW_fee_10 : decode bW_fee 10 = .ok (.iload_n 0, 1) := by decide +kernel
theorem dW_fee_11 : decode bW_fee 11 = .ok (.sipush 10000, 3) := by decide +kernel
theorem dW_fee_14 : decode bW_fee 14 = .ok (.ldc 18, 2) := by decide +kernel
theorem dW_fee_16 : decode bW_fee 16 = .ok (.bipush 20, 2) := by decide +kernel
theorem dW_fee_18 : decode bW_fee 18 = .ok (.invokestatic 14, 3) := by decide +kernel
theorem dW_fee_21 : decode bW_fee 21 = .ok (.iadd, 1) := by decide +kernel
theorem dW_fee_22 : decode bW_fee 22 = .ok (.iload_n 0, 1) := by decide +kernel
theorem dW_fee_23 : decode bW_fee 23 = .ok (.ldc 18, 2) := by decide +kernel
theorem dW_fee_25 : decode bW_fee 25 = .ok (.ldc 7, 2) := by decide +kernel
theorem dW_fee_27 : decode bW_fee 27 = .ok (.bipush 12, 2) := by decide +kernel
theorem dW_fee_29 : decode bW_fee 29 = .ok (.invokestatic 14, 3) := by decide +kernel
theorem dW_fee_32 : decode bW_fee 32 = .ok (.iadd, 1) := by decide +kernel
theorem dW_fee_33 : decode bW_fee 33 = .ok (.ireturn, 1) := by decide +kernel
set_option maxHeartbeats 4000000 in
set_option maxRecDepth 100000 in
theorem cW_fee (l : Launch) (p0 : Int32) : Met l yW_fee (Cond.code yW_fee bW_fee 1 (some FieldType.int) :: wNeed) { frames := 1, cells := 0, slots := 0, locals := 24 } (fun v _ => v = ([.int p0] : List Value).toArray) (vp_Si fun r => r = fW_fee p0) 0 0 (fun _ => False) := by
  refine en_N (av := [.int p0]) (by decide) (Nat.le_of_ble_eq_true rfl) ?_
  intro p e s m below meth c hx hb hml hown hts hr hlocks ls hl
  replace hl : lv_has ls 1 [(0, .int p0)] := hl
  refine lv_iload_n hx hb dW_fee_0 rfl (lv_at hl 0 rfl) ?_
  refine lv_iconst (v := 0) hx hb dW_fee_1 (by decide) ?_
  refine lv_sipush (v := 10000) hx hb dW_fee_2 (by decide) ?_
  refine lv_bipush (v := 25) hx hb dW_fee_5 (by decide) ?_
  refine rcS1 (rest := []) (As := [.int p0, .int 0, .int 10000, .int 25]) hx hb hml hown hts (cW_hundredths l p0 0 10000 25) (gS q_155 q_156 q_0 q_157) rfl rfl ⟨rfl, hdyW_hundredths⟩ ⟨Nat.le_of_ble_eq_true rfl, Nat.le_of_ble_eq_true rfl⟩ hl.1 rfl (Nat.le_of_ble_eq_true rfl) dW_fee_7 ⟨Nat.le_of_ble_eq_true rfl, Nat.le_of_ble_eq_true rfl⟩ ?_
  refine lv_iload_n hx hb dW_fee_10 rfl (lv_at hl 0 rfl) ?_
  refine lv_sipush (v := 10000) hx hb dW_fee_11 (by decide) ?_
  refine lv_ldc (v := 50000) hx hb hown (hts _ q_158) dW_fee_14 ?_
  refine lv_bipush (v := 20) hx hb dW_fee_16 (by decide) ?_
  refine rcS1 (rest := [.int (fW_hundredths p0 0 10000 25)]) (As := [.int p0, .int 10000, .int 50000, .int 20]) hx hb hml hown hts (cW_hundredths l p0 10000 50000 20) (gS q_155 q_156 q_0 q_157) rfl rfl ⟨rfl, hdyW_hundredths⟩ ⟨Nat.le_of_ble_eq_true rfl, Nat.le_of_ble_eq_true rfl⟩ hl.1 rfl (Nat.le_of_ble_eq_true rfl) dW_fee_18 ⟨Nat.le_of_ble_eq_true rfl, Nat.le_of_ble_eq_true rfl⟩ ?_
  refine lv_iadd hx hb dW_fee_21 ?_
  refine lv_iload_n hx hb dW_fee_22 rfl (lv_at hl 0 rfl) ?_
  refine lv_ldc (v := 50000) hx hb hown (hts _ q_158) dW_fee_23 ?_
  refine lv_ldc (v := 2000000) hx hb hown (hts _ q_151) dW_fee_25 ?_
  refine lv_bipush (v := 12) hx hb dW_fee_27 (by decide) ?_
  refine rcS1 (rest := [.int ((fW_hundredths p0 0 10000 25) + (fW_hundredths p0 10000 50000 20))]) (As := [.int p0, .int 50000, .int 2000000, .int 12]) hx hb hml hown hts (cW_hundredths l p0 50000 2000000 12) (gS q_155 q_156 q_0 q_157) rfl rfl ⟨rfl, hdyW_hundredths⟩ ⟨Nat.le_of_ble_eq_true rfl, Nat.le_of_ble_eq_true rfl⟩ hl.1 rfl (Nat.le_of_ble_eq_true rfl) dW_fee_29 ⟨Nat.le_of_ble_eq_true rfl, Nat.le_of_ble_eq_true rfl⟩ ?_
  refine lv_iadd hx hb dW_fee_32 ?_
  exact W.iret (v := ((fW_hundredths p0 0 10000 25) + (fW_hundredths p0 10000 50000 20)) + (fW_hundredths p0 50000 2000000 12)) hx hb hr (fun t ht hW => ⟨_, rfl, (by rw [fW_fee] <;> rfl), ht⟩) (fun q h => nomatch h) dW_fee_33
