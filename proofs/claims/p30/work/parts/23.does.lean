theorem en_W {l : Launch} {y : MethodName} {rm : Room} {av : List Value} {D : va_G} {tI tJ tL : ClassId} {A : Nat → Prop} {sg ad : Nat → Nat} {n : Nat} {sL : NL} {sA : NA} {Qc : Array Value → State → Outcome → State → Prop} {mc ms : Nat} {free : Addr → Prop} {cc : ByteArray} {maxL : Nat} {ret : Option FieldType} {hh : List (Nat × Nat × Nat × Nat)} (hy : plainName y.cls = true) (hle : (lg_sl av).length ≤ maxL)
    (body : ∀ (p : Program) (e : Env) (s : State) (m : MethodId) (below : List Frame) (meth : Method) (c : Code), p.tables.exec = Jvm.exec → c.code = cc → c.maxLocals = maxL → s.vm.findClass y.cls = some m.cls → (∀ w ∈ wNeed, w.before av.toArray s = true) → meth.sig.returnType = ret → meth.locks = false → c.exceptionTable.toList = tableOf hh → GC D tI tJ tL A sg s → ∀ (H : Heap) (locs : List Loc), GW D tI tJ tL A ad n sL sA H → va_S A s.heap H locs → ∀ ls : Array Slot, lv_has ls maxL (lv_args 0 av) →
      W p l e rm s m av.toArray below meth c H locs 0 0 (MQ below Qc av.toArray s mc ms free) (F0 m 0 ls [])) : Met l y (Cond.codeWith y cc maxL ret hh :: wNeed) rm (va_Pc av (GP D tI tJ tL A sg ad n sL sA)) Qc mc ms free := by
  refine va_MetW (cc := cc) (maxL := maxL) (ret := ret) (hh := hh) hy rfl ?_
  intro p e s m args below meth c s₁ B hml hv
  obtain ⟨rfl, hP⟩ := hv
  have hts := atoms_spec (ws := Cond.codeWith y cc maxL ret hh :: wNeed) B.pre
  rw [lg_entry_eq]
  exact body p e s m below meth c B.exec B.bytes hml (findClass_of_methodNamed B.named) (fun w hw => hts w (List.mem_cons_of_mem _ hw)) B.returns B.notSynchronized (vx_table (x := y) B (hts _ List.mem_cons_self)) hP.2 s.heap [] hP.1 va_S.rf _ (lv_entry av hle)

section G5
variable {p : Program} {l : Launch} {e : Env} {R : Room} {s : State} {m : MethodId} {args : Array Value} {below : List Frame} {meth : Method} {c : Code} {H : Heap} {locs : List Loc} {cells slots : Nat} {Q : State → Prop}
variable {D : va_G} {tI tJ tL : ClassId} {A : Nat → Prop} {sg ad : Nat → Nat} {n : Nat} {sL : NL} {sA : NA}
variable {cc : ByteArray} {pc : Nat} {ls : Array Slot} {rest st0 : List Value}
/-- a call of the class out of a method that catches -/
theorem rcV5w {y : MethodName} {bytes : ByteArray} {maxL nL index b mc ms : Nat} {ret : Option FieldType} {rm : Room} {own : String} {As : List Value} {F : Nat × Int32 × NL × NA} (hx : p.tables.exec = Jvm.exec) (hb : c.code = cc) (hml : c.maxLocals = nL) (hown : s.vm.findClass own = some m.cls) (hts : ∀ w ∈ wNeed, w.before args s = true) (hC : GC D tI tJ tL A sg s) (hG : GW D tI tJ tL A ad n sL sA H) (hS : va_S A s.heap H locs)
    (hM : vx_Met l y (Cond.code y bytes maxL ret :: wNeed) rm (va_Pc (.ref b :: As) (GP D tI tJ tL A sg ad n sL sA)) (va_Qi (fun r (u : NL × NA) => F = (0, r, u.1, u.2)) (fun u t => GW D tI tJ tL A ad n u.1 u.2 t.heap) A) (XQ D tI tJ tL A ad n sL sA F.1) mc ms A) (hrec : ∃ cell : Cell, H[b]? = some cell ∧ cell.vm.isStatics = false ∧ s.vm.findClass y.cls = some cell.cls) (hg : GoodIn wNeed (wsV own index y.cls y (Cond.code y bytes maxL ret :: wNeed))) (hrc : rm.cells = mc) (hrs : rm.slots = ms)
    (hd : y.cls = y.cls ∧ y.cls ≠ "java/lang/invoke/MethodHandle" ∧ y.cls ≠ "java/lang/invoke/VarHandle" ∧ (parseMethodDescriptor y.desc).map (fun d => d.parameters.length) = some As.length) (hR : rm.frames + 1 ≤ R.frames ∧ 8 + (maxL + 11) + rm.locals ≤ R.locals)
    (hsz : ls.size = nL) (hst : st0 = As.reverse ++ .ref b :: rest) (hr8 : (rest.map fun v => v.category).sum ≤ 8) (hdg : decode cc pc = .ok (.invokevirtual index, 3)) (hf : cells + mc ≤ R.cells ∧ slots + ms ≤ R.slots)
    (kx : ∀ (E : String) (ce : Cell) (q9 : Addr) (H1 : Heap) (locs1 : List Loc), XE E F.1 → GW D tI tJ tL A ad n sL sA H1 → va_S A s.heap H1 locs1 → H1[q9]? = some ce → ce.vm = .none → s.vm.findClass E = some ce.cls → vx_W p l e R s m args below meth c H1 locs1 (cells + mc) (slots + ms) Q (F0 m pc ls rest) q9)
    (kk : F.1 = 0 → ∀ (H1 : Heap) (locs1 : List Loc), GW D tI tJ tL A ad n F.2.2.1 F.2.2.2 H1 → va_S A s.heap H1 locs1 → W p l e R s m args below meth c H1 locs1 (cells + mc) (slots + ms) Q (F0 m (pc + 3) ls (.int F.2.1 :: rest))) : W p l e R s m args below meth c H locs cells slots Q (F0 m pc ls st0) := by
  refine vx_calli (rest := rest) (vx_runV (As := As) (b := b) ⟨hx, hb, hml, hown, hts⟩ hM (cwV As.length hts hg rfl hrc hrs hd hR) ⟨GP.blind, hrec, fun U hU hW => ⟨rfl, GP.call hC hG hS hU hW⟩⟩ rfl rfl hsz hst (lv_room hr8) hdg hf) hS (fun _ _ h => h) (fun _ h => h) (fun _ _ h => h) ?_ ?_
  · intro E ce q9 u t H1 locs1 ht hvm hp hB hz1 hk1 hS1 g1 g2 g3
    subst ht
    exact kx E ce q9 _ _ hB.1 hB.2 hS1 g1 g2 g3
  · intro r u t H1 locs1 ht hvm hp hB hz1 hk1 hS1
    subst ht
    subst hp
    exact kk rfl _ _ hB hS1
end G5
section G6
variable {p : Program} {l : Launch} {e : Env} {R : Room} {s : State} {m : MethodId} {args : Array Value} {below : List Frame} {meth : Method} {c : Code} {H : Heap} {locs : List Loc} {cells slots : Nat} {Q : State → Prop}
variable {D : va_G} {tI tJ tL : ClassId} {A : Nat → Prop} {sg ad : Nat → Nat} {n : Nat} {sL : NL} {sA : NA}
variable {cc : ByteArray} {pc : Nat} {ls : Array Slot} {rest st0 : List Value}
theorem rcV5L {y : MethodName} {bytes : ByteArray} {maxL nL index b mc ms k : Nat} {ret : Option FieldType} {rm : Room} {own : String} {As : List Value} {sA2 : NA} (hx : p.tables.exec = Jvm.exec) (hb : c.code = cc) (hml : c.maxLocals = nL) (hown : s.vm.findClass own = some m.cls) (hts : ∀ w ∈ wNeed, w.before args s = true) (hC : GC D tI tJ tL A sg s) (hG : GW D tI tJ tL A ad n sL sA H) (hS : va_S A s.heap H locs)
    (hM : vx_Met l y (Cond.code y bytes maxL ret :: wNeed) rm (va_Pc (.ref b :: As) (GP D tI tJ tL A sg ad n sL sA)) (va_Qi (fun r (ad2 : Nat → Nat) => k = 0 ∧ r = nI n ∧ ∀ j, j < 4 * n + 11 → ad2 j = ad j) (fun ad2 t => GW D tI tJ tL A ad2 (n + 1) sL sA2 t.heap) A) (XQ D tI tJ tL A ad n sL sA k) mc ms A) (hrec : ∃ cell : Cell, H[b]? = some cell ∧ cell.vm.isStatics = false ∧ s.vm.findClass y.cls = some cell.cls) (hg : GoodIn wNeed (wsV own index y.cls y (Cond.code y bytes maxL ret :: wNeed))) (hrc : rm.cells = mc) (hrs : rm.slots = ms)
    (hd : y.cls = y.cls ∧ y.cls ≠ "java/lang/invoke/MethodHandle" ∧ y.cls ≠ "java/lang/invoke/VarHandle" ∧ (parseMethodDescriptor y.desc).map (fun d => d.parameters.length) = some As.length) (hR : rm.frames + 1 ≤ R.frames ∧ 8 + (maxL + 11) + rm.locals ≤ R.locals)
    (hsz : ls.size = nL) (hst : st0 = As.reverse ++ .ref b :: rest) (hr8 : (rest.map fun v => v.category).sum ≤ 8) (hdg : decode cc pc = .ok (.invokevirtual index, 3)) (hf : cells + mc ≤ R.cells ∧ slots + ms ≤ R.slots)
    (kx : ∀ (E : String) (ce : Cell) (q9 : Addr) (H1 : Heap) (locs1 : List Loc), XE E k → GW D tI tJ tL A ad n sL sA H1 → va_S A s.heap H1 locs1 → H1[q9]? = some ce → ce.vm = .none → s.vm.findClass E = some ce.cls → vx_W p l e R s m args below meth c H1 locs1 (cells + mc) (slots + ms) Q (F0 m pc ls rest) q9)
    (kk : k = 0 → ∀ (ad2 : Nat → Nat), (∀ j, j < 4 * n + 11 → ad2 j = ad j) → ∀ (H1 : Heap) (locs1 : List Loc), GW D tI tJ tL A ad2 (n + 1) sL sA2 H1 → va_S A s.heap H1 locs1 → W p l e R s m args below meth c H1 locs1 (cells + mc) (slots + ms) Q (F0 m (pc + 3) ls (.int (nI n) :: rest))) : W p l e R s m args below meth c H locs cells slots Q (F0 m pc ls st0) := by
  refine vx_calli (rest := rest) (vx_runV (As := As) (b := b) ⟨hx, hb, hml, hown, hts⟩ hM (cwV As.length hts hg rfl hrc hrs hd hR) ⟨GP.blind, hrec, fun U hU hW => ⟨rfl, GP.call hC hG hS hU hW⟩⟩ rfl rfl hsz hst (lv_room hr8) hdg hf) hS (fun _ _ h => h) (fun _ h => h) (fun _ _ h => h) ?_ ?_
  · intro E ce q9 u t H1 locs1 ht hvm hp hB hz1 hk1 hS1 g1 g2 g3
    subst ht
    exact kx E ce q9 _ _ hB.1 hB.2 hS1 g1 g2 g3
  · intro r ad2 t H1 locs1 ht hvm hp hB hz1 hk1 hS1
    subst ht
    obtain ⟨h1, rfl, h3⟩ := hp
    exact kk h1 ad2 h3 _ _ hB hS1
end G6
section G7
variable {p : Program} {l : Launch} {e : Env} {R : Room} {s : State} {m : MethodId} {args : Array Value} {below : List Frame} {meth : Method} {c : Code} {H : Heap} {locs : List Loc} {cells slots : Nat} {Q : State → Prop}
variable {D : va_G} {tI tJ tL : ClassId} {A : Nat → Prop} {sg ad : Nat → Nat} {n : Nat} {sL : NL} {sA : NA}
variable {cc : ByteArray} {pc : Nat} {ls : Array Slot} {rest st0 : List Value}
theorem rcSW {y : MethodName} {bytes : ByteArray} {maxL nL index mc ms : Nat} {ret : Option FieldType} {hh : List (Nat × Nat × Nat × Nat)} {rm : Room} {own : String} {As : List Value} {F : Int32 × NL × NA} (hx : p.tables.exec = Jvm.exec) (hb : c.code = cc) (hml : c.maxLocals = nL) (hown : s.vm.findClass own = some m.cls) (hts : ∀ w ∈ wNeed, w.before args s = true) (hC : GC D tI tJ tL A sg s) (hG : GW D tI tJ tL A ad n sL sA H) (hS : va_S A s.heap H locs)
    (hM : Met l y (Cond.codeWith y bytes maxL ret hh :: wNeed) rm (va_Pc As (GP D tI tJ tL A sg ad n sL sA)) (va_Qi (fun r (u : NL × NA) => F = (r, u.1, u.2)) (fun u t => GW D tI tJ tL A ad n u.1 u.2 t.heap) A) mc ms A) (hg : GoodIn wNeed (va_wsS own index y (Cond.codeWith y bytes maxL ret hh :: wNeed))) (hrc : rm.cells = mc) (hrs : rm.slots = ms)
    (hd : y.cls ≠ "java/lang/invoke/MethodHandle" ∧ y.cls ≠ "java/lang/invoke/VarHandle" ∧ (parseMethodDescriptor y.desc).map (fun d => d.parameters.length) = some As.length) (hR : rm.frames + 1 ≤ R.frames ∧ 8 + (maxL + 11) + rm.locals ≤ R.locals)
    (hsz : ls.size = nL) (hst : st0 = As.reverse ++ rest) (hr8 : (rest.map fun v => v.category).sum ≤ 8) (hdg : decode cc pc = .ok (.invokestatic index, 3)) (hf : cells + mc ≤ R.cells ∧ slots + ms ≤ R.slots)
    (kk : ∀ (H1 : Heap) (locs1 : List Loc), GW D tI tJ tL A ad n F.2.1 F.2.2 H1 → va_S A s.heap H1 locs1 → W p l e R s m args below meth c H1 locs1 (cells + mc) (slots + ms) Q (F0 m (pc + 3) ls (.int F.1 :: rest))) : W p l e R s m args below meth c H locs cells slots Q (F0 m pc ls st0) := by
  refine va_calli (rest := rest) (vx_runSW (As := As) ⟨hx, hb, hml, hown, hts⟩ hM (vx_cwSW As.length hts hg rfl hrc hrs hd hR) ⟨GP.blind, fun U hU hW => ⟨rfl, GP.call hC hG hS hU hW⟩⟩ rfl rfl hsz hst (lv_room hr8) hdg hf) hS (fun _ _ h => h) (fun _ h => h) fun r u t H1 locs1 ht hvm hw hB hz1 hk1 hS1 => ?_
  subst hw; subst ht
  exact kk _ _ hB hS1
end G7
/-- what 'does' answers of a call, its code first -/
def wrapD (F : Nat × Int32 × NL × NA) (sL : NL) (sA : NA) : Int32 × NL × NA := if F.1 = 0 then (F.2.1, F.2.2.1, F.2.2.2) else if F.1 = 1 then (-2000000011, sL, sA) else if F.1 = 2 then (-2000000012, sL, sA) else (-2000000013, sL, sA)
theorem wrapD_0 {F : Nat × Int32 × NL × NA} {sL : NL} {sA : NA} (h : F.1 = 0) : wrapD F sL sA = (F.2.1, F.2.2.1, F.2.2.2) := if_pos h
theorem wrapD_1 {F : Nat × Int32 × NL × NA} {sL : NL} {sA : NA} (h : F.1 = 1) : wrapD F sL sA = (-2000000011, sL, sA) := by unfold wrapD; rw [if_neg (by omega), if_pos h]
theorem wrapD_2 {F : Nat × Int32 × NL × NA} {sL : NL} {sA : NA} (h : F.1 = 2) : wrapD F sL sA = (-2000000012, sL, sA) := by unfold wrapD; rw [if_neg (by omega), if_neg (by omega), if_pos h]
theorem wrapD_3 {F : Nat × Int32 × NL × NA} {sL : NL} {sA : NA} (h : F.1 = 3) : wrapD F sL sA = (-2000000013, sL, sA) := by unfold wrapD; rw [if_neg (by omega), if_neg (by omega), if_neg (by omega)]
def codeD (k : Nat) : Int32 := if k = 1 then -2000000011 else if k = 2 then -2000000012 else -2000000013
/-- .. of a lot -/
def lotRel (k c : Nat) (r : Int32) (ad : Nat → Nat) (n : Nat) (sL : NL) (sA sA2 : NA) (u : (Nat → Nat) × Nat × NL × NA) : Prop :=
  (c = 0 ∧ r = nI n ∧ u.2 = (n + 1, sL, sA2) ∧ ∀ j, j < k → u.1 j = ad j) ∨ (c ≠ 0 ∧ r = codeD c ∧ u = (ad, n, sL, sA))
section G8
variable {p : Program} {l : Launch} {e : Env} {R : Room} {s : State} {m : MethodId} {args : Array Value} {below : List Frame} {meth : Method} {c : Code} {H : Heap} {locs : List Loc} {cells slots : Nat} {Q : State → Prop}
variable {D : va_G} {tI tJ tL : ClassId} {A : Nat → Prop} {sg ad : Nat → Nat} {n : Nat} {sL : NL} {sA : NA}
variable {cc : ByteArray} {pc : Nat} {ls : Array Slot} {rest st0 : List Value}
theorem rcSWL {y : MethodName} {bytes : ByteArray} {maxL nL index mc ms k : Nat} {ret : Option FieldType} {hh : List (Nat × Nat × Nat × Nat)} {rm : Room} {own : String} {As : List Value} {sA2 : NA} (hx : p.tables.exec = Jvm.exec) (hb : c.code = cc) (hml : c.maxLocals = nL) (hown : s.vm.findClass own = some m.cls) (hts : ∀ w ∈ wNeed, w.before args s = true) (hC : GC D tI tJ tL A sg s) (hG : GW D tI tJ tL A ad n sL sA H) (hS : va_S A s.heap H locs)
    (hM : Met l y (Cond.codeWith y bytes maxL ret hh :: wNeed) rm (va_Pc As (GP D tI tJ tL A sg ad n sL sA)) (va_Qi (fun r u => lotRel (4 * n + 11) k r ad n sL sA sA2 u) (fun u t => GW D tI tJ tL A u.1 u.2.1 u.2.2.1 u.2.2.2 t.heap) A) mc ms A) (hg : GoodIn wNeed (va_wsS own index y (Cond.codeWith y bytes maxL ret hh :: wNeed))) (hrc : rm.cells = mc) (hrs : rm.slots = ms)
    (hd : y.cls ≠ "java/lang/invoke/MethodHandle" ∧ y.cls ≠ "java/lang/invoke/VarHandle" ∧ (parseMethodDescriptor y.desc).map (fun d => d.parameters.length) = some As.length) (hR : rm.frames + 1 ≤ R.frames ∧ 8 + (maxL + 11) + rm.locals ≤ R.locals)
    (hsz : ls.size = nL) (hst : st0 = As.reverse ++ rest) (hr8 : (rest.map fun v => v.category).sum ≤ 8) (hdg : decode cc pc = .ok (.invokestatic index, 3)) (hf : cells + mc ≤ R.cells ∧ slots + ms ≤ R.slots) (hk0 : k = 0)
    (kk : ∀ (ad2 : Nat → Nat), (∀ j, j < 11 → ad2 j = ad j) → ∀ (H1 : Heap) (locs1 : List Loc), GW D tI tJ tL A ad2 (n + 1) sL sA2 H1 → va_S A s.heap H1 locs1 → W p l e R s m args below meth c H1 locs1 (cells + mc) (slots + ms) Q (F0 m (pc + 3) ls (.int (nI n) :: rest))) : W p l e R s m args below meth c H locs cells slots Q (F0 m pc ls st0) := by
  refine va_calli (rest := rest) (vx_runSW (As := As) ⟨hx, hb, hml, hown, hts⟩ hM (vx_cwSW As.length hts hg rfl hrc hrs hd hR) ⟨GP.blind, fun U hU hW => ⟨rfl, GP.call hC hG hS hU hW⟩⟩ rfl rfl hsz hst (lv_room hr8) hdg hf) hS (fun _ _ h => h) (fun _ h => h) fun r u t H1 locs1 ht hvm hw hB hz1 hk1 hS1 => ?_
  subst ht
  rcases hw with ⟨h1, h2, h3, h4⟩ | ⟨h1, h2, h3⟩
  · obtain ⟨ad2, u2⟩ := u
    have h3' : u2 = (n + 1, sL, sA2) := h3
    subst h3'
    rw [h2]
    exact kk ad2 (fun j hj => h4 j (by omega)) _ _ hB hS1
  · exact absurd hk0 h1
end G8
theorem zc_1 : (Jvm.Cond.castable "java/lang/IndexOutOfBoundsException" "java/lang/IndexOutOfBoundsException") ∈ wBad := List.mem_filter.mpr ⟨List.mem_of_getElem? (i := 66) (by decide +kernel), rfl⟩
theorem zc_2 : (Jvm.Cond.castable "java/lang/IllegalArgumentException" "java/lang/IllegalArgumentException") ∈ wBad := List.mem_filter.mpr ⟨List.mem_of_getElem? (i := 137) (by decide +kernel), rfl⟩
theorem zc_3 : (Jvm.Cond.castable "java/lang/IllegalStateException" "java/lang/IllegalStateException") ∈ wBad := List.mem_filter.mpr ⟨List.mem_of_getElem? (i := 199) (by decide +kernel), rfl⟩
theorem hdyW_does : yW_does.cls ≠ "java/lang/invoke/MethodHandle" ∧ yW_does.cls ≠ "java/lang/invoke/VarHandle" ∧ (parseMethodDescriptor yW_does.desc).map (fun d => d.parameters.length) = some 5 := by decide +kernel
theorem dW_does_0 : decode bW_does 0 = .ok (.iload_n 1, 1) := by decide +kernel
theorem dW_does_1 : decode bW_does 1 = .ok (.ifCond .ne 14, 3) := by decide +kernel
theorem dW_does_4 : decode bW_does 4 = .ok (.aload_n 0, 1) := by decide +kernel
theorem dW_does_5 : decode bW_does 5 = .ok (.iload_n 2, 1) := by decide +kernel
theorem dW_does_6 : decode bW_does 6 = .ok (.iload_n 3, 1) := by decide +kernel
theorem dW_does_7 : decode bW_does 7 = .ok (.iload 4, 2) := by decide +kernel
theorem dW_does_9 : decode bW_does 9 = .ok (.invokevirtual 25, 3) := by decide +kernel
theorem dW_does_12 : decode bW_does 12 = .ok (.goto 120, 3) := by decide +kernel
theorem dW_does_15 : decode bW_does 15 = .ok (.iload_n 1, 1) := by decide +kernel
theorem dW_does_16 : decode bW_does 16 = .ok (.iconst 1, 1) := by decide +kernel
theorem dW_does_17 : decode bW_does 17 = .ok (.if_icmp .ne 14, 3) := by decide +kernel
theorem dW_does_20 : decode bW_does 20 = .ok (.aload_n 0, 1) := by decide +kernel
theorem dW_does_21 : decode bW_does 21 = .ok (.iload_n 2, 1) := by decide +kernel
theorem dW_does_22 : decode bW_does 22 = .ok (.iload_n 3, 1) := by decide +kernel
theorem dW_does_23 : decode bW_does 23 = .ok (.iload 4, 2) := by decide +kernel
theorem dW_does_25 : decode bW_does 25 = .ok (.invokevirtual 31, 3) := by decide +kernel
theorem dW_does_28 : decode bW_does 28 = .ok (.goto 104, 3) := by decide +kernel
theorem dW_does_31 : decode bW_does 31 = .ok (.iload_n 1, 1) := by decide +kernel
theorem dW_does_32 : decode bW_does 32 = .ok (.iconst 2, 1) := by decide +kernel
theorem dW_does_33 : decode bW_does 33 = .ok (.if_icmp .ne 11, 3) := by decide +kernel
theorem dW_does_36 : decode bW_does 36 = .ok (.aload_n 0, 1) := by decide +kernel
theorem dW_does_37 : decode bW_does 37 = .ok (.iload_n 2, 1) := by decide +kernel
theorem dW_does_38 : decode bW_does 38 = .ok (.invokevirtual 34, 3) := by decide +kernel
theorem dW_does_41 : decode bW_does 41 = .ok (.goto 91, 3) := by decide +kernel
theorem dW_does_44 : decode bW_does 44 = .ok (.iload_n 1, 1) := by decide +kernel
theorem dW_does_45 : decode bW_does 45 = .ok (.iconst 3, 1) := by decide +kernel
theorem dW_does_46 : decode bW_does 46 = .ok (.if_icmp .ne 12, 3) := by decide +kernel
theorem dW_does_49 : decode bW_does 49 = .ok (.aload_n 0, 1) := by decide +kernel
theorem dW_does_50 : decode bW_does 50 = .ok (.iload_n 2, 1) := by decide +kernel
theorem dW_does_51 : decode bW_does 51 = .ok (.iload_n 3, 1) := by decide +kernel
theorem dW_does_52 : decode bW_does 52 = .ok (.invokevirtual 37, 3) := by decide +kernel
theorem dW_does_55 : decode bW_does 55 = .ok (.goto 77, 3) := by decide +kernel
theorem dW_does_58 : decode bW_does 58 = .ok (.iload_n 1, 1) := by decide +kernel
theorem dW_does_59 : decode bW_does 59 = .ok (.iconst 4, 1) := by decide +kernel
theorem dW_does_60 : decode bW_does 60 = .ok (.if_icmp .ne 11, 3) := by decide +kernel
theorem dW_does_63 : decode bW_does 63 = .ok (.aload_n 0, 1) := by decide +kernel
theorem dW_does_64 : decode bW_does 64 = .ok (.iload_n 2, 1) := by decide +kernel
theorem dW_does_65 : decode bW_does 65 = .ok (.invokevirtual 41, 3) := by decide +kernel
theorem dW_does_68 : decode bW_does 68 = .ok (.goto 64, 3) := by decide +kernel
theorem dW_does_71 : decode bW_does 71 = .ok (.iload_n 1, 1) := by decide +kernel
theorem dW_does_72 : decode bW_does 72 = .ok (.iconst 5, 1) := by decide +kernel
theorem dW_does_73 : decode bW_does 73 = .ok (.if_icmp .ne 11, 3) := by decide +kernel
theorem dW_does_76 : decode bW_does 76 = .ok (.aload_n 0, 1) := by decide +kernel
theorem dW_does_77 : decode bW_does 77 = .ok (.iload_n 2, 1) := by decide +kernel
theorem dW_does_78 : decode bW_does 78 = .ok (.invokevirtual 44, 3) := by decide +kernel
theorem dW_does_81 : decode bW_does 81 = .ok (.goto 51, 3) := by decide +kernel
theorem dW_does_84 : decode bW_does 84 = .ok (.iload_n 1, 1) := by decide +kernel
theorem dW_does_85 : decode bW_does 85 = .ok (.bipush 6, 2) := by decide +kernel
theorem dW_does_87 : decode bW_does 87 = .ok (.if_icmp .ne 11, 3) := by decide +kernel
theorem dW_does_90 : decode bW_does 90 = .ok (.aload_n 0, 1) := by decide +kernel
theorem dW_does_91 : decode bW_does 91 = .ok (.iload_n 2, 1) := by decide +kernel
theorem dW_does_92 : decode bW_does 92 = .ok (.invokevirtual 47, 3) := by decide +kernel
theorem dW_does_95 : decode bW_does 95 = .ok (.goto 37, 3) := by decide +kernel
theorem dW_does_98 : decode bW_does 98 = .ok (.iload_n 1, 1) := by decide +kernel
theorem dW_does_99 : decode bW_does 99 = .ok (.bipush 7, 2) := by decide +kernel
theorem dW_does_101 : decode bW_does 101 = .ok (.if_icmp .ne 12, 3) := by decide +kernel
theorem dW_does_104 : decode bW_does 104 = .ok (.aload_n 0, 1) := by decide +kernel
theorem dW_does_105 : decode bW_does 105 = .ok (.iload_n 2, 1) := by decide +kernel
theorem dW_does_106 : decode bW_does 106 = .ok (.iload_n 3, 1) := by decide +kernel
theorem dW_does_107 : decode bW_does 107 = .ok (.invokevirtual 50, 3) := by decide +kernel
theorem dW_does_110 : decode bW_does 110 = .ok (.goto 22, 3) := by decide +kernel
theorem dW_does_113 : decode bW_does 113 = .ok (.iload_n 1, 1) := by decide +kernel
theorem dW_does_114 : decode bW_does 114 = .ok (.bipush 8, 2) := by decide +kernel
theorem dW_does_116 : decode bW_does 116 = .ok (.if_icmp .ne 11, 3) := by decide +kernel
theorem dW_does_119 : decode bW_does 119 = .ok (.aload_n 0, 1) := by decide +kernel
theorem dW_does_120 : decode bW_does 120 = .ok (.iload_n 2, 1) := by decide +kernel
theorem dW_does_121 : decode bW_does 121 = .ok (.invokevirtual 53, 3) := by decide +kernel
theorem dW_does_124 : decode bW_does 124 = .ok (.goto 8, 3) := by decide +kernel
theorem dW_does_127 : decode bW_does 127 = .ok (.aload_n 0, 1) := by decide +kernel
theorem dW_does_128 : decode bW_does 128 = .ok (.iload_n 2, 1) := by decide +kernel
theorem dW_does_129 : decode bW_does 129 = .ok (.invokevirtual 56, 3) := by decide +kernel
theorem dW_does_132 : decode bW_does 132 = .ok (.ireturn, 1) := by decide +kernel
theorem dW_does_133 : decode bW_does 133 = .ok (.astore 5, 2) := by decide +kernel
theorem dW_does_135 : decode bW_does 135 = .ok (.ldc 61, 2) := by decide +kernel
theorem dW_does_137 : decode bW_does 137 = .ok (.ireturn, 1) := by decide +kernel
theorem dW_does_138 : decode bW_does 138 = .ok (.astore 5, 2) := by decide +kernel
theorem dW_does_140 : decode bW_does 140 = .ok (.ldc 64, 2) := by decide +kernel
theorem dW_does_142 : decode bW_does 142 = .ok (.ireturn, 1) := by decide +kernel
theorem dW_does_143 : decode bW_does 143 = .ok (.astore 5, 2) := by decide +kernel
theorem dW_does_145 : decode bW_does 145 = .ok (.ldc 67, 2) := by decide +kernel
theorem dW_does_147 : decode bW_does 147 = .ok (.ireturn, 1) := by decide +kernel
set_option maxHeartbeats 4000000 in
set_option maxRecDepth 100000 in
theorem cD_lot (l : Launch) (hl9 : l.stackTraces = false) (D : va_G) (tI tJ tL : ClassId) (A : Nat → Prop) (sg ad : Nat → Nat) (n : Nat) (sL : NL) (sA : NA) (p0 : Int32) (p1 : Int32) (p2 : Int32) (hn30 : n ≤ 30) (hln : sA 0 3 = nI n) : Met l yW_does (Cond.codeWith yW_does bW_does 6 (some FieldType.int) [(0, 132, 133, 59), (0, 132, 138, 62), (0, 132, 143, 65)] :: wNeed) { frames := 9, cells := 7, slots := 54, locals := 156 } (va_Pc [.ref (ad 0), .int 0, .int p0, .int p1, .int p2] (GP D tI tJ tL A sg ad n sL sA)) (va_Qi (fun r u => lotRel (4 * n + 11) (fX_lot sL sA p0 p1 p2) r ad n sL sA (up2 (newlot sA n p0 (fX_calledAmount p1) p2) 0 3 (sA 0 3 + 1)) u) (fun u t => GW D tI tJ tL A u.1 u.2.1 u.2.2.1 u.2.2.2 t.heap) A) 7 54 A := by
  refine en_W (av := [.ref (ad 0), .int 0, .int p0, .int p1, .int p2]) (by decide) (Nat.le_of_ble_eq_true rfl) ?_
  intro p e s m below meth c hx hb hml hown hts hr hlocks hTab hC H locs hG hS ls hl
  replace hl : lv_has ls 6 [(0, .ref (ad 0)), (1, .int 0), (2, .int p0), (3, .int p1), (4, .int p2)] := hl
  refine lv_iload_n hx hb dW_does_0 rfl (lv_at hl 1 rfl) ?_
  refine lv_if_ne (tgt := 15) hx hb dW_does_1 (by decide) (fun c_1 => ?_) (fun c_1 => ?_)
  · exact absurd c_1 (by decide)
  · refine lv_aload_n hx hb dW_does_4 rfl (lv_at hl 0 rfl) ?_
    refine lv_iload_n hx hb dW_does_5 rfl (lv_at hl 2 rfl) ?_
    refine lv_iload_n hx hb dW_does_6 rfl (lv_at hl 3 rfl) ?_
    refine lv_iload hx hb dW_does_7 (lv_at hl 4 rfl) ?_
    refine rcV5L (rest := []) (As := [.int p0, .int p1, .int p2]) hx hb hml hown hts hC hG hS (cX_lot l hl9 D tI tJ tL A sg ad n sL sA p0 p1 p2 hn30 hln) (recX hC hG) (gV q_182 q_183 q_184 q_1 q_185) rfl rfl ⟨rfl, hdyX_lot⟩ ⟨Nat.le_of_ble_eq_true rfl, Nat.le_of_ble_eq_true rfl⟩ hl.1 rfl (Nat.le_of_ble_eq_true rfl) dW_does_9 ⟨Nat.le_of_ble_eq_true rfl, Nat.le_of_ble_eq_true rfl⟩ (fun E ce q9 H locs hE hG hS g1 g2 g3 => ?_) (fun h_0 ad2 had H locs hG hS => ?_)
    · rcases hE with ⟨rfl, h_1⟩ | ⟨rfl, h_1⟩ | ⟨rfl, h_1⟩
      · refine vx_catch (name := "java/lang/IndexOutOfBoundsException") (E := XI) hown [] (⟨0, 132, 133, 59⟩ : ExceptionTableEntry) [(⟨0, 132, 138, 62⟩ : ExceptionTableEntry), (⟨0, 132, 143, 65⟩ : ExceptionTableEntry)] (by rw [hTab]; rfl) (List.forall_mem_nil _) rfl (by decide) (hts _ q_179) (va_Nw.use rfl (hC.2.2.2.2.2.1 _ zc_1)) g1 g2 g3 ?_
        refine lv_astore (lv' := [(5, .ref q9), (0, .ref (ad 0)), (1, .int 0), (2, .int p0), (3, .int p1), (4, .int p2)]) hx hb dW_does_133 hl (by decide) rfl (fun ls hl => ?_)
        refine lv_ldc (v := (-2000000011)) hx hb hown (hts _ q_407) dW_does_135 ?_
        refine W.widen (k := 7) (n := 54) (Nat.le_of_ble_eq_true rfl) (Nat.le_of_ble_eq_true rfl) ?_
        exact W.iret (v := (-2000000011)) hx hb hr (fun t ht hW => ⟨⟨(-2000000011), (ad, n, sL, sA), rfl, (Or.inr ⟨by rw [h_1]; decide, by rw [h_1]; rfl, rfl⟩), gw_at hG ht⟩, hS.F ht⟩) hS.2.2 dW_does_137
      · refine vx_catch (name := "java/lang/IllegalArgumentException") (E := XG) hown [(⟨0, 132, 133, 59⟩ : ExceptionTableEntry)] (⟨0, 132, 138, 62⟩ : ExceptionTableEntry) [(⟨0, 132, 143, 65⟩ : ExceptionTableEntry)] (by rw [hTab]; rfl) ((List.forall_mem_cons.mpr ⟨Or.inr ⟨by decide, "java/lang/IndexOutOfBoundsException", hts _ q_179, hC.2.2.2.2.2.2 (XG, XI) (by decide)⟩, List.forall_mem_nil _⟩)) rfl (by decide) (hts _ q_180) (va_Nw.use rfl (hC.2.2.2.2.2.1 _ zc_2)) g1 g2 g3 ?_
        refine lv_astore (lv' := [(5, .ref q9), (0, .ref (ad 0)), (1, .int 0), (2, .int p0), (3, .int p1), (4, .int p2)]) hx hb dW_does_138 hl (by decide) rfl (fun ls hl => ?_)
        refine lv_ldc (v := (-2000000012)) hx hb hown (hts _ q_408) dW_does_140 ?_
        refine W.widen (k := 7) (n := 54) (Nat.le_of_ble_eq_true rfl) (Nat.le_of_ble_eq_true rfl) ?_
        exact W.iret (v := (-2000000012)) hx hb hr (fun t ht hW => ⟨⟨(-2000000012), (ad, n, sL, sA), rfl, (Or.inr ⟨by rw [h_1]; decide, by rw [h_1]; rfl, rfl⟩), gw_at hG ht⟩, hS.F ht⟩) hS.2.2 dW_does_142
      · refine vx_catch (name := "java/lang/IllegalStateException") (E := XS) hown [(⟨0, 132, 133, 59⟩ : ExceptionTableEntry), (⟨0, 132, 138, 62⟩ : ExceptionTableEntry)] (⟨0, 132, 143, 65⟩ : ExceptionTableEntry) [] (by rw [hTab]; rfl) ((List.forall_mem_cons.mpr ⟨Or.inr ⟨by decide, "java/lang/IndexOutOfBoundsException", hts _ q_179, hC.2.2.2.2.2.2 (XS, XI) (by decide)⟩, (List.forall_mem_cons.mpr ⟨Or.inr ⟨by decide, "java/lang/IllegalArgumentException", hts _ q_180, hC.2.2.2.2.2.2 (XS, XG) (by decide)⟩, List.forall_mem_nil _⟩)⟩)) rfl (by decide) (hts _ q_181) (va_Nw.use rfl (hC.2.2.2.2.2.1 _ zc_3)) g1 g2 g3 ?_
        refine lv_astore (lv' := [(5, .ref q9), (0, .ref (ad 0)), (1, .int 0), (2, .int p0), (3, .int p1), (4, .int p2)]) hx hb dW_does_143 hl (by decide) rfl (fun ls hl => ?_)
        refine lv_ldc (v := (-2000000013)) hx hb hown (hts _ q_409) dW_does_145 ?_
        refine W.widen (k := 7) (n := 54) (Nat.le_of_ble_eq_true rfl) (Nat.le_of_ble_eq_true rfl) ?_
        exact W.iret (v := (-2000000013)) hx hb hr (fun t ht hW => ⟨⟨(-2000000013), (ad, n, sL, sA), rfl, (Or.inr ⟨by rw [h_1]; decide, by rw [h_1]; rfl, rfl⟩), gw_at hG ht⟩, hS.F ht⟩) hS.2.2 dW_does_147
    · refine lv_goto (tgt := 132) hx hb dW_does_12 (by decide) ?_
      refine W.widen (k := 7) (n := 54) (Nat.le_of_ble_eq_true rfl) (Nat.le_of_ble_eq_true rfl) ?_
      exact W.iret (v := nI n) hx hb hr (fun t ht hW => ⟨⟨(nI n), (ad2, n + 1, sL, (up2 (newlot sA n p0 (fX_calledAmount p1) p2) 0 3 (sA 0 3 + 1))), rfl, (Or.inl ⟨h_0, rfl, rfl, had⟩), gw_at hG ht⟩, hS.F ht⟩) hS.2.2 dW_does_132
def fD_bid (n : Nat) (sL : NL) (sA : NA) (p0 : Int32) (p1 : Int32) (p2 : Int32) : Int32 × NL × NA := wrapD (fX_bid n sL sA p0 p1 p2) sL sA
set_option maxHeartbeats 4000000 in
set_option maxRecDepth 100000 in
theorem cD_bid (l : Launch) (hl9 : l.stackTraces = false) (D : va_G) (tI tJ tL : ClassId) (A : Nat → Prop) (sg ad : Nat → Nat) (n : Nat) (sL : NL) (sA : NA) (p0 : Int32) (p1 : Int32) (p2 : Int32) (hcnt : ∀ i, i < n → ∃ cn : Nat, cn ≤ 10 ∧ sA (4 * i + 12) 2 = nI cn) : Met l yW_does (Cond.codeWith yW_does bW_does 6 (some FieldType.int) [(0, 132, 133, 59), (0, 132, 138, 62), (0, 132, 143, 65)] :: wNeed) { frames := 8, cells := 4, slots := 24, locals := 137 } (va_Pc [.ref (ad 0), .int 1, .int p0, .int p1, .int p2] (GP D tI tJ tL A sg ad n sL sA)) (va_Qi (fun r (u : NL × NA) => fD_bid n sL sA p0 p1 p2 = (r, u.1, u.2)) (fun u t => GW D tI tJ tL A ad n u.1 u.2 t.heap) A) 4 24 A := by
  refine en_W (av := [.ref (ad 0), .int 1, .int p0, .int p1, .int p2]) (by decide) (Nat.le_of_ble_eq_true rfl) ?_
  intro p e s m below meth c hx hb hml hown hts hr hlocks hTab hC H locs hG hS ls hl
  replace hl : lv_has ls 6 [(0, .ref (ad 0)), (1, .int 1), (2, .int p0), (3, .int p1), (4, .int p2)] := hl
  refine lv_iload_n hx hb dW_does_0 rfl (lv_at hl 1 rfl) ?_
  refine lv_if_ne (tgt := 15) hx hb dW_does_1 (by decide) (fun c_1 => ?_) (fun c_1 => ?_)
  · refine lv_iload_n hx hb dW_does_15 rfl (lv_at hl 1 rfl) ?_
    refine lv_iconst (v := 1) hx hb dW_does_16 (by decide) ?_
    refine lv_icmp_ne (tgt := 31) hx hb dW_does_17 (by decide) (fun c_2 => ?_) (fun c_2 => ?_)
    · exact absurd c_2 (by decide)
    · refine lv_aload_n hx hb dW_does_20 rfl (lv_at hl 0 rfl) ?_
      refine lv_iload_n hx hb dW_does_21 rfl (lv_at hl 2 rfl) ?_
      refine lv_iload_n hx hb dW_does_22 rfl (lv_at hl 3 rfl) ?_
      refine lv_iload hx hb dW_does_23 (lv_at hl 4 rfl) ?_
      refine rcV5w (rest := []) (As := [.int p0, .int p1, .int p2]) hx hb hml hown hts hC hG hS (cX_bid l hl9 D tI tJ tL A sg ad n sL sA p0 p1 p2 hcnt) (recX hC hG) (gV q_284 q_285 q_286 q_1 q_287) rfl rfl ⟨rfl, hdyX_bid⟩ ⟨Nat.le_of_ble_eq_true rfl, Nat.le_of_ble_eq_true rfl⟩ hl.1 rfl (Nat.le_of_ble_eq_true rfl) dW_does_25 ⟨Nat.le_of_ble_eq_true rfl, Nat.le_of_ble_eq_true rfl⟩ (fun E ce q9 H locs hE hG hS g1 g2 g3 => ?_) (fun h_0 H locs hG hS => ?_)
      · rcases hE with ⟨rfl, h_1⟩ | ⟨rfl, h_1⟩ | ⟨rfl, h_1⟩
        · refine vx_catch (name := "java/lang/IndexOutOfBoundsException") (E := XI) hown [] (⟨0, 132, 133, 59⟩ : ExceptionTableEntry) [(⟨0, 132, 138, 62⟩ : ExceptionTableEntry), (⟨0, 132, 143, 65⟩ : ExceptionTableEntry)] (by rw [hTab]; rfl) (List.forall_mem_nil _) rfl (by decide) (hts _ q_179) (va_Nw.use rfl (hC.2.2.2.2.2.1 _ zc_1)) g1 g2 g3 ?_
          refine lv_astore (lv' := [(5, .ref q9), (0, .ref (ad 0)), (1, .int 1), (2, .int p0), (3, .int p1), (4, .int p2)]) hx hb dW_does_133 hl (by decide) rfl (fun ls hl => ?_)
          refine lv_ldc (v := (-2000000011)) hx hb hown (hts _ q_407) dW_does_135 ?_
          refine W.widen (k := 4) (n := 24) (Nat.le_of_ble_eq_true rfl) (Nat.le_of_ble_eq_true rfl) ?_
          exact W.iret (v := (-2000000011)) hx hb hr (fun t ht hW => ⟨⟨(-2000000011), (sL, sA), rfl, (by rw [fD_bid, wrapD_1 h_1] <;> rfl), gw_at hG ht⟩, hS.F ht⟩) hS.2.2 dW_does_137
        · refine vx_catch (name := "java/lang/IllegalArgumentException") (E := XG) hown [(⟨0, 132, 133, 59⟩ : ExceptionTableEntry)] (⟨0, 132, 138, 62⟩ : ExceptionTableEntry) [(⟨0, 132, 143, 65⟩ : ExceptionTableEntry)] (by rw [hTab]; rfl) ((List.forall_mem_cons.mpr ⟨Or.inr ⟨by decide, "java/lang/IndexOutOfBoundsException", hts _ q_179, hC.2.2.2.2.2.2 (XG, XI) (by decide)⟩, List.forall_mem_nil _⟩)) rfl (by decide) (hts _ q_180) (va_Nw.use rfl (hC.2.2.2.2.2.1 _ zc_2)) g1 g2 g3 ?_
          refine lv_astore (lv' := [(5, .ref q9), (0, .ref (ad 0)), (1, .int 1), (2, .int p0), (3, .int p1), (4, .int p2)]) hx hb dW_does_138 hl (by decide) rfl (fun ls hl => ?_)
          refine lv_ldc (v := (-2000000012)) hx hb hown (hts _ q_408) dW_does_140 ?_
          refine W.widen (k := 4) (n := 24) (Nat.le_of_ble_eq_true rfl) (Nat.le_of_ble_eq_true rfl) ?_
          exact W.iret (v := (-2000000012)) hx hb hr (fun t ht hW => ⟨⟨(-2000000012), (sL, sA), rfl, (by rw [fD_bid, wrapD_2 h_1] <;> rfl), gw_at hG ht⟩, hS.F ht⟩) hS.2.2 dW_does_142
        · refine vx_catch (name := "java/lang/IllegalStateException") (E := XS) hown [(⟨0, 132, 133, 59⟩ : ExceptionTableEntry), (⟨0, 132, 138, 62⟩ : ExceptionTableEntry)] (⟨0, 132, 143, 65⟩ : ExceptionTableEntry) [] (by rw [hTab]; rfl) ((List.forall_mem_cons.mpr ⟨Or.inr ⟨by decide, "java/lang/IndexOutOfBoundsException", hts _ q_179, hC.2.2.2.2.2.2 (XS, XI) (by decide)⟩, (List.forall_mem_cons.mpr ⟨Or.inr ⟨by decide, "java/lang/IllegalArgumentException", hts _ q_180, hC.2.2.2.2.2.2 (XS, XG) (by decide)⟩, List.forall_mem_nil _⟩)⟩)) rfl (by decide) (hts _ q_181) (va_Nw.use rfl (hC.2.2.2.2.2.1 _ zc_3)) g1 g2 g3 ?_
          refine lv_astore (lv' := [(5, .ref q9), (0, .ref (ad 0)), (1, .int 1), (2, .int p0), (3, .int p1), (4, .int p2)]) hx hb dW_does_143 hl (by decide) rfl (fun ls hl => ?_)
          refine lv_ldc (v := (-2000000013)) hx hb hown (hts _ q_409) dW_does_145 ?_
          refine W.widen (k := 4) (n := 24) (Nat.le_of_ble_eq_true rfl) (Nat.le_of_ble_eq_true rfl) ?_
          exact W.iret (v := (-2000000013)) hx hb hr (fun t ht hW => ⟨⟨(-2000000013), (sL, sA), rfl, (by rw [fD_bid, wrapD_3 h_1] <;> rfl), gw_at hG ht⟩, hS.F ht⟩) hS.2.2 dW_does_147
      · refine lv_goto (tgt := 132) hx hb dW_does_28 (by decide) ?_
        refine W.widen (k := 4) (n := 24) (Nat.le_of_ble_eq_true rfl) (Nat.le_of_ble_eq_true rfl) ?_
        exact W.iret (v := (fX_bid n sL sA p0 p1 p2).2.1) hx hb hr (fun t ht hW => ⟨⟨((fX_bid n sL sA p0 p1 p2).2.1), ((fX_bid n sL sA p0 p1 p2).2.2.1, (fX_bid n sL sA p0 p1 p2).2.2.2), rfl, (by rw [fD_bid, wrapD_0 h_0] <;> rfl), gw_at hG ht⟩, hS.F ht⟩) hS.2.2 dW_does_132
  · exact absurd c_1 (by decide)
def fD_hammer (n : Nat) (sL : NL) (sA : NA) (p0 : Int32) : Int32 × NL × NA := wrapD (fX_hammer n sL sA p0) sL sA
set_option maxHeartbeats 4000000 in
set_option maxRecDepth 100000 in
theorem cD_hammer (l : Launch) (hl9 : l.stackTraces = false) (D : va_G) (tI tJ tL : ClassId) (A : Nat → Prop) (sg ad : Nat → Nat) (n : Nat) (sL : NL) (sA : NA) (p0 : Int32) (hcnt : ∀ i, i < n → ∃ cn : Nat, cn ≤ 10 ∧ sA (4 * i + 12) 2 = nI cn) : Met l yW_does (Cond.codeWith yW_does bW_does 6 (some FieldType.int) [(0, 132, 133, 59), (0, 132, 138, 62), (0, 132, 143, 65)] :: wNeed) { frames := 8, cells := 2, slots := 12, locals := 137 } (va_Pc [.ref (ad 0), .int 2, .int p0, .int 0, .int 0] (GP D tI tJ tL A sg ad n sL sA)) (va_Qi (fun r (u : NL × NA) => fD_hammer n sL sA p0 = (r, u.1, u.2)) (fun u t => GW D tI tJ tL A ad n u.1 u.2 t.heap) A) 2 12 A := by
  refine en_W (av := [.ref (ad 0), .int 2, .int p0, .int 0, .int 0]) (by decide) (Nat.le_of_ble_eq_true rfl) ?_
  intro p e s m below meth c hx hb hml hown hts hr hlocks hTab hC H locs hG hS ls hl
  replace hl : lv_has ls 6 [(0, .ref (ad 0)), (1, .int 2), (2, .int p0), (3, .int 0), (4, .int 0)] := hl
  refine lv_iload_n hx hb dW_does_0 rfl (lv_at hl 1 rfl) ?_
  refine lv_if_ne (tgt := 15) hx hb dW_does_1 (by decide) (fun c_1 => ?_) (fun c_1 => ?_)
  · refine lv_iload_n hx hb dW_does_15 rfl (lv_at hl 1 rfl) ?_
    refine lv_iconst (v := 1) hx hb dW_does_16 (by decide) ?_
    refine lv_icmp_ne (tgt := 31) hx hb dW_does_17 (by decide) (fun c_2 => ?_) (fun c_2 => ?_)
    · refine lv_iload_n hx hb dW_does_31 rfl (lv_at hl 1 rfl) ?_
      refine lv_iconst (v := 2) hx hb dW_does_32 (by decide) ?_
      refine lv_icmp_ne (tgt := 44) hx hb dW_does_33 (by decide) (fun c_3 => ?_) (fun c_3 => ?_)
      · exact absurd c_3 (by decide)
      · refine lv_aload_n hx hb dW_does_36 rfl (lv_at hl 0 rfl) ?_
        refine lv_iload_n hx hb dW_does_37 rfl (lv_at hl 2 rfl) ?_
        refine rcV5w (rest := []) (As := [.int p0]) hx hb hml hown hts hC hG hS (cX_hammer l hl9 D tI tJ tL A sg ad n sL sA p0 hcnt) (recX hC hG) (gV q_312 q_313 q_314 q_1 q_315) rfl rfl ⟨rfl, hdyX_hammer⟩ ⟨Nat.le_of_ble_eq_true rfl, Nat.le_of_ble_eq_true rfl⟩ hl.1 rfl (Nat.le_of_ble_eq_true rfl) dW_does_38 ⟨Nat.le_of_ble_eq_true rfl, Nat.le_of_ble_eq_true rfl⟩ (fun E ce q9 H locs hE hG hS g1 g2 g3 => ?_) (fun h_0 H locs hG hS => ?_)
        · rcases hE with ⟨rfl, h_1⟩ | ⟨rfl, h_1⟩ | ⟨rfl, h_1⟩
          · refine vx_catch (name := "java/lang/IndexOutOfBoundsException") (E := XI) hown [] (⟨0, 132, 133, 59⟩ : ExceptionTableEntry) [(⟨0, 132, 138, 62⟩ : ExceptionTableEntry), (⟨0, 132, 143, 65⟩ : ExceptionTableEntry)] (by rw [hTab]; rfl) (List.forall_mem_nil _) rfl (by decide) (hts _ q_179) (va_Nw.use rfl (hC.2.2.2.2.2.1 _ zc_1)) g1 g2 g3 ?_
            refine lv_astore (lv' := [(5, .ref q9), (0, .ref (ad 0)), (1, .int 2), (2, .int p0), (3, .int 0), (4, .int 0)]) hx hb dW_does_133 hl (by decide) rfl (fun ls hl => ?_)
            refine lv_ldc (v := (-2000000011)) hx hb hown (hts _ q_407) dW_does_135 ?_
            refine W.widen (k := 2) (n := 12) (Nat.le_of_ble_eq_true rfl) (Nat.le_of_ble_eq_true rfl) ?_
            exact W.iret (v := (-2000000011)) hx hb hr (fun t ht hW => ⟨⟨(-2000000011), (sL, sA), rfl, (by rw [fD_hammer, wrapD_1 h_1] <;> rfl), gw_at hG ht⟩, hS.F ht⟩) hS.2.2 dW_does_137
          · refine vx_catch (name := "java/lang/IllegalArgumentException") (E := XG) hown [(⟨0, 132, 133, 59⟩ : ExceptionTableEntry)] (⟨0, 132, 138, 62⟩ : ExceptionTableEntry) [(⟨0, 132, 143, 65⟩ : ExceptionTableEntry)] (by rw [hTab]; rfl) ((List.forall_mem_cons.mpr ⟨Or.inr ⟨by decide, "java/lang/IndexOutOfBoundsException", hts _ q_179, hC.2.2.2.2.2.2 (XG, XI) (by decide)⟩, List.forall_mem_nil _⟩)) rfl (by decide) (hts _ q_180) (va_Nw.use rfl (hC.2.2.2.2.2.1 _ zc_2)) g1 g2 g3 ?_
            refine lv_astore (lv' := [(5, .ref q9), (0, .ref (ad 0)), (1, .int 2), (2, .int p0), (3, .int 0), (4, .int 0)]) hx hb dW_does_138 hl (by decide) rfl (fun ls hl => ?_)
            refine lv_ldc (v := (-2000000012)) hx hb hown (hts _ q_408) dW_does_140 ?_
            refine W.widen (k := 2) (n := 12) (Nat.le_of_ble_eq_true rfl) (Nat.le_of_ble_eq_true rfl) ?_
            exact W.iret (v := (-2000000012)) hx hb hr (fun t ht hW => ⟨⟨(-2000000012), (sL, sA), rfl, (by rw [fD_hammer, wrapD_2 h_1] <;> rfl), gw_at hG ht⟩, hS.F ht⟩) hS.2.2 dW_does_142
          · refine vx_catch (name := "java/lang/IllegalStateException") (E := XS) hown [(⟨0, 132, 133, 59⟩ : ExceptionTableEntry), (⟨0, 132, 138, 62⟩ : ExceptionTableEntry)] (⟨0, 132, 143, 65⟩ : ExceptionTableEntry) [] (by rw [hTab]; rfl) ((List.forall_mem_cons.mpr ⟨Or.inr ⟨by decide, "java/lang/IndexOutOfBoundsException", hts _ q_179, hC.2.2.2.2.2.2 (XS, XI) (by decide)⟩, (List.forall_mem_cons.mpr ⟨Or.inr ⟨by decide, "java/lang/IllegalArgumentException", hts _ q_180, hC.2.2.2.2.2.2 (XS, XG) (by decide)⟩, List.forall_mem_nil _⟩)⟩)) rfl (by decide) (hts _ q_181) (va_Nw.use rfl (hC.2.2.2.2.2.1 _ zc_3)) g1 g2 g3 ?_
            refine lv_astore (lv' := [(5, .ref q9), (0, .ref (ad 0)), (1, .int 2), (2, .int p0), (3, .int 0), (4, .int 0)]) hx hb dW_does_143 hl (by decide) rfl (fun ls hl => ?_)
            refine lv_ldc (v := (-2000000013)) hx hb hown (hts _ q_409) dW_does_145 ?_
            refine W.widen (k := 2) (n := 12) (Nat.le_of_ble_eq_true rfl) (Nat.le_of_ble_eq_true rfl) ?_
            exact W.iret (v := (-2000000013)) hx hb hr (fun t ht hW => ⟨⟨(-2000000013), (sL, sA), rfl, (by rw [fD_hammer, wrapD_3 h_1] <;> rfl), gw_at hG ht⟩, hS.F ht⟩) hS.2.2 dW_does_147
        · refine lv_goto (tgt := 132) hx hb dW_does_41 (by decide) ?_
          refine W.widen (k := 2) (n := 12) (Nat.le_of_ble_eq_true rfl) (Nat.le_of_ble_eq_true rfl) ?_
          exact W.iret (v := (fX_hammer n sL sA p0).2.1) hx hb hr (fun t ht hW => ⟨⟨((fX_hammer n sL sA p0).2.1), ((fX_hammer n sL sA p0).2.2.1, (fX_hammer n sL sA p0).2.2.2), rfl, (by rw [fD_hammer, wrapD_0 h_0] <;> rfl), gw_at hG ht⟩, hS.F ht⟩) hS.2.2 dW_does_132
    · exact absurd c_2 (by decide)
  · exact absurd c_1 (by decide)
def fD_again (n : Nat) (sL : NL) (sA : NA) (p0 : Int32) (p1 : Int32) : Int32 × NL × NA := wrapD (fX_again n sL sA p0 p1) sL sA
set_option maxHeartbeats 4000000 in
set_option maxRecDepth 100000 in
theorem cD_again (l : Launch) (hl9 : l.stackTraces = false) (D : va_G) (tI tJ tL : ClassId) (A : Nat → Prop) (sg ad : Nat → Nat) (n : Nat) (sL : NL) (sA : NA) (p0 : Int32) (p1 : Int32) : Met l yW_does (Cond.codeWith yW_does bW_does 6 (some FieldType.int) [(0, 132, 133, 59), (0, 132, 138, 62), (0, 132, 143, 65)] :: wNeed) { frames := 8, cells := 3, slots := 18, locals := 136 } (va_Pc [.ref (ad 0), .int 3, .int p0, .int p1, .int 0] (GP D tI tJ tL A sg ad n sL sA)) (va_Qi (fun r (u : NL × NA) => fD_again n sL sA p0 p1 = (r, u.1, u.2)) (fun u t => GW D tI tJ tL A ad n u.1 u.2 t.heap) A) 3 18 A := by
  refine en_W (av := [.ref (ad 0), .int 3, .int p0, .int p1, .int 0]) (by decide) (Nat.le_of_ble_eq_true rfl) ?_
  intro p e s m below meth c hx hb hml hown hts hr hlocks hTab hC H locs hG hS ls hl
  replace hl : lv_has ls 6 [(0, .ref (ad 0)), (1, .int 3), (2, .int p0), (3, .int p1), (4, .int 0)] := hl
  refine lv_iload_n hx hb dW_does_0 rfl (lv_at hl 1 rfl) ?_
  refine lv_if_ne (tgt := 15) hx hb dW_does_1 (by decide) (fun c_1 => ?_) (fun c_1 => ?_)
  · refine lv_iload_n hx hb dW_does_15 rfl (lv_at hl 1 rfl) ?_
    refine lv_iconst (v := 1) hx hb dW_does_16 (by decide) ?_
    refine lv_icmp_ne (tgt := 31) hx hb dW_does_17 (by decide) (fun c_2 => ?_) (fun c_2 => ?_)
    · refine lv_iload_n hx hb dW_does_31 rfl (lv_at hl 1 rfl) ?_
      refine lv_iconst (v := 2) hx hb dW_does_32 (by decide) ?_
      refine lv_icmp_ne (tgt := 44) hx hb dW_does_33 (by decide) (fun c_3 => ?_) (fun c_3 => ?_)
      · refine lv_iload_n hx hb dW_does_44 rfl (lv_at hl 1 rfl) ?_
        refine lv_iconst (v := 3) hx hb dW_does_45 (by decide) ?_
        refine lv_icmp_ne (tgt := 58) hx hb dW_does_46 (by decide) (fun c_4 => ?_) (fun c_4 => ?_)
        · exact absurd c_4 (by decide)
        · refine lv_aload_n hx hb dW_does_49 rfl (lv_at hl 0 rfl) ?_
          refine lv_iload_n hx hb dW_does_50 rfl (lv_at hl 2 rfl) ?_
          refine lv_iload_n hx hb dW_does_51 rfl (lv_at hl 3 rfl) ?_
          refine rcV5w (rest := []) (As := [.int p0, .int p1]) hx hb hml hown hts hC hG hS (cX_again l hl9 D tI tJ tL A sg ad n sL sA p0 p1) (recX hC hG) (gV q_337 q_338 q_339 q_1 q_340) rfl rfl ⟨rfl, hdyX_again⟩ ⟨Nat.le_of_ble_eq_true rfl, Nat.le_of_ble_eq_true rfl⟩ hl.1 rfl (Nat.le_of_ble_eq_true rfl) dW_does_52 ⟨Nat.le_of_ble_eq_true rfl, Nat.le_of_ble_eq_true rfl⟩ (fun E ce q9 H locs hE hG hS g1 g2 g3 => ?_) (fun h_0 H locs hG hS => ?_)
          · rcases hE with ⟨rfl, h_1⟩ | ⟨rfl, h_1⟩ | ⟨rfl, h_1⟩
            · refine vx_catch (name := "java/lang/IndexOutOfBoundsException") (E := XI) hown [] (⟨0, 132, 133, 59⟩ : ExceptionTableEntry) [(⟨0, 132, 138, 62⟩ : ExceptionTableEntry), (⟨0, 132, 143, 65⟩ : ExceptionTableEntry)] (by rw [hTab]; rfl) (List.forall_mem_nil _) rfl (by decide) (hts _ q_179) (va_Nw.use rfl (hC.2.2.2.2.2.1 _ zc_1)) g1 g2 g3 ?_
              refine lv_astore (lv' := [(5, .ref q9), (0, .ref (ad 0)), (1, .int 3), (2, .int p0), (3, .int p1), (4, .int 0)]) hx hb dW_does_133 hl (by decide) rfl (fun ls hl => ?_)
              refine lv_ldc (v := (-2000000011)) hx hb hown (hts _ q_407) dW_does_135 ?_
              refine W.widen (k := 3) (n := 18) (Nat.le_of_ble_eq_true rfl) (Nat.le_of_ble_eq_true rfl) ?_
              exact W.iret (v := (-2000000011)) hx hb hr (fun t ht hW => ⟨⟨(-2000000011), (sL, sA), rfl, (by rw [fD_again, wrapD_1 h_1] <;> rfl), gw_at hG ht⟩, hS.F ht⟩) hS.2.2 dW_does_137
            · refine vx_catch (name := "java/lang/IllegalArgumentException") (E := XG) hown [(⟨0, 132, 133, 59⟩ : ExceptionTableEntry)] (⟨0, 132, 138, 62⟩ : ExceptionTableEntry) [(⟨0, 132, 143, 65⟩ : ExceptionTableEntry)] (by rw [hTab]; rfl) ((List.forall_mem_cons.mpr ⟨Or.inr ⟨by decide, "java/lang/IndexOutOfBoundsException", hts _ q_179, hC.2.2.2.2.2.2 (XG, XI) (by decide)⟩, List.forall_mem_nil _⟩)) rfl (by decide) (hts _ q_180) (va_Nw.use rfl (hC.2.2.2.2.2.1 _ zc_2)) g1 g2 g3 ?_
              refine lv_astore (lv' := [(5, .ref q9), (0, .ref (ad 0)), (1, .int 3), (2, .int p0), (3, .int p1), (4, .int 0)]) hx hb dW_does_138 hl (by decide) rfl (fun ls hl => ?_)
              refine lv_ldc (v := (-2000000012)) hx hb hown (hts _ q_408) dW_does_140 ?_
              refine W.widen (k := 3) (n := 18) (Nat.le_of_ble_eq_true rfl) (Nat.le_of_ble_eq_true rfl) ?_
              exact W.iret (v := (-2000000012)) hx hb hr (fun t ht hW => ⟨⟨(-2000000012), (sL, sA), rfl, (by rw [fD_again, wrapD_2 h_1] <;> rfl), gw_at hG ht⟩, hS.F ht⟩) hS.2.2 dW_does_142
            · refine vx_catch (name := "java/lang/IllegalStateException") (E := XS) hown [(⟨0, 132, 133, 59⟩ : ExceptionTableEntry), (⟨0, 132, 138, 62⟩ : ExceptionTableEntry)] (⟨0, 132, 143, 65⟩ : ExceptionTableEntry) [] (by rw [hTab]; rfl) ((List.forall_mem_cons.mpr ⟨Or.inr ⟨by decide, "java/lang/IndexOutOfBoundsException", hts _ q_179, hC.2.2.2.2.2.2 (XS, XI) (by decide)⟩, (List.forall_mem_cons.mpr ⟨Or.inr ⟨by decide, "java/lang/IllegalArgumentException", hts _ q_180, hC.2.2.2.2.2.2 (XS, XG) (by decide)⟩, List.forall_mem_nil _⟩)⟩)) rfl (by decide) (hts _ q_181) (va_Nw.use rfl (hC.2.2.2.2.2.1 _ zc_3)) g1 g2 g3 ?_
              refine lv_astore (lv' := [(5, .ref q9), (0, .ref (ad 0)), (1, .int 3), (2, .int p0), (3, .int p1), (4, .int 0)]) hx hb dW_does_143 hl (by decide) rfl (fun ls hl => ?_)
              refine lv_ldc (v := (-2000000013)) hx hb hown (hts _ q_409) dW_does_145 ?_
              refine W.widen (k := 3) (n := 18) (Nat.le_of_ble_eq_true rfl) (Nat.le_of_ble_eq_true rfl) ?_
              exact W.iret (v := (-2000000013)) hx hb hr (fun t ht hW => ⟨⟨(-2000000013), (sL, sA), rfl, (by rw [fD_again, wrapD_3 h_1] <;> rfl), gw_at hG ht⟩, hS.F ht⟩) hS.2.2 dW_does_147
          · refine lv_goto (tgt := 132) hx hb dW_does_55 (by decide) ?_
            refine W.widen (k := 3) (n := 18) (Nat.le_of_ble_eq_true rfl) (Nat.le_of_ble_eq_true rfl) ?_
            exact W.iret (v := (fX_again n sL sA p0 p1).2.1) hx hb hr (fun t ht hW => ⟨⟨((fX_again n sL sA p0 p1).2.1), ((fX_again n sL sA p0 p1).2.2.1, (fX_again n sL sA p0 p1).2.2.2), rfl, (by rw [fD_again, wrapD_0 h_0] <;> rfl), gw_at hG ht⟩, hS.F ht⟩) hS.2.2 dW_does_132
      · exact absurd c_3 (by decide)
    · exact absurd c_2 (by decide)
  · exact absurd c_1 (by decide)
def fD_pay (n : Nat) (sL : NL) (sA : NA) (p0 : Int32) : Int32 × NL × NA := wrapD (fX_pay n sL sA p0) sL sA
set_option maxHeartbeats 4000000 in
set_option maxRecDepth 100000 in
theorem cD_pay (l : Launch) (hl9 : l.stackTraces = false) (D : va_G) (tI tJ tL : ClassId) (A : Nat → Prop) (sg ad : Nat → Nat) (n : Nat) (sL : NL) (sA : NA) (p0 : Int32) (hgap : ∀ i, i < n → sA (4 * i + 11) 8 = (-1) ∨ fX_checkBuyer (sA (4 * i + 11) 8) = 0) : Met l yW_does (Cond.codeWith yW_does bW_does 6 (some FieldType.int) [(0, 132, 133, 59), (0, 132, 138, 62), (0, 132, 143, 65)] :: wNeed) { frames := 10, cells := 3, slots := 18, locals := 176 } (va_Pc [.ref (ad 0), .int 4, .int p0, .int 0, .int 0] (GP D tI tJ tL A sg ad n sL sA)) (va_Qi (fun r (u : NL × NA) => fD_pay n sL sA p0 = (r, u.1, u.2)) (fun u t => GW D tI tJ tL A ad n u.1 u.2 t.heap) A) 3 18 A := by
  refine en_W (av := [.ref (ad 0), .int 4, .int p0, .int 0, .int 0]) (by decide) (Nat.le_of_ble_eq_true rfl) ?_
  intro p e s m below meth c hx hb hml hown hts hr hlocks hTab hC H locs hG hS ls hl
  replace hl : lv_has ls 6 [(0, .ref (ad 0)), (1, .int 4), (2, .int p0), (3, .int 0), (4, .int 0)] := hl
  refine lv_iload_n hx hb dW_does_0 rfl (lv_at hl 1 rfl) ?_
  refine lv_if_ne (tgt := 15) hx hb dW_does_1 (by decide) (fun c_1 => ?_) (fun c_1 => ?_)
  · refine lv_iload_n hx hb dW_does_15 rfl (lv_at hl 1 rfl) ?_
    refine lv_iconst (v := 1) hx hb dW_does_16 (by decide) ?_
    refine lv_icmp_ne (tgt := 31) hx hb dW_does_17 (by decide) (fun c_2 => ?_) (fun c_2 => ?_)
    · refine lv_iload_n hx hb dW_does_31 rfl (lv_at hl 1 rfl) ?_
      refine lv_iconst (v := 2) hx hb dW_does_32 (by decide) ?_
      refine lv_icmp_ne (tgt := 44) hx hb dW_does_33 (by decide) (fun c_3 => ?_) (fun c_3 => ?_)
      · refine lv_iload_n hx hb dW_does_44 rfl (lv_at hl 1 rfl) ?_
        refine lv_iconst (v := 3) hx hb dW_does_45 (by decide) ?_
        refine lv_icmp_ne (tgt := 58) hx hb dW_does_46 (by decide) (fun c_4 => ?_) (fun c_4 => ?_)
        · refine lv_iload_n hx hb dW_does_58 rfl (lv_at hl 1 rfl) ?_
          refine lv_iconst (v := 4) hx hb dW_does_59 (by decide) ?_
          refine lv_icmp_ne (tgt := 71) hx hb dW_does_60 (by decide) (fun c_5 => ?_) (fun c_5 => ?_)
          · exact absurd c_5 (by decide)
          · refine lv_aload_n hx hb dW_does_63 rfl (lv_at hl 0 rfl) ?_
            refine lv_iload_n hx hb dW_does_64 rfl (lv_at hl 2 rfl) ?_
            refine rcV5w (rest := []) (As := [.int p0]) hx hb hml hown hts hC hG hS (cX_pay l hl9 D tI tJ tL A sg ad n sL sA p0 hgap) (recX hC hG) (gV q_345 q_346 q_347 q_1 q_348) rfl rfl ⟨rfl, hdyX_pay⟩ ⟨Nat.le_of_ble_eq_true rfl, Nat.le_of_ble_eq_true rfl⟩ hl.1 rfl (Nat.le_of_ble_eq_true rfl) dW_does_65 ⟨Nat.le_of_ble_eq_true rfl, Nat.le_of_ble_eq_true rfl⟩ (fun E ce q9 H locs hE hG hS g1 g2 g3 => ?_) (fun h_0 H locs hG hS => ?_)
            · rcases hE with ⟨rfl, h_1⟩ | ⟨rfl, h_1⟩ | ⟨rfl, h_1⟩
              · refine vx_catch (name := "java/lang/IndexOutOfBoundsException") (E := XI) hown [] (⟨0, 132, 133, 59⟩ : ExceptionTableEntry) [(⟨0, 132, 138, 62⟩ : ExceptionTableEntry), (⟨0, 132, 143, 65⟩ : ExceptionTableEntry)] (by rw [hTab]; rfl) (List.forall_mem_nil _) rfl (by decide) (hts _ q_179) (va_Nw.use rfl (hC.2.2.2.2.2.1 _ zc_1)) g1 g2 g3 ?_
                refine lv_astore (lv' := [(5, .ref q9), (0, .ref (ad 0)), (1, .int 4), (2, .int p0), (3, .int 0), (4, .int 0)]) hx hb dW_does_133 hl (by decide) rfl (fun ls hl => ?_)
                refine lv_ldc (v := (-2000000011)) hx hb hown (hts _ q_407) dW_does_135 ?_
                refine W.widen (k := 3) (n := 18) (Nat.le_of_ble_eq_true rfl) (Nat.le_of_ble_eq_true rfl) ?_
                exact W.iret (v := (-2000000011)) hx hb hr (fun t ht hW => ⟨⟨(-2000000011), (sL, sA), rfl, (by rw [fD_pay, wrapD_1 h_1] <;> rfl), gw_at hG ht⟩, hS.F ht⟩) hS.2.2 dW_does_137
              · refine vx_catch (name := "java/lang/IllegalArgumentException") (E := XG) hown [(⟨0, 132, 133, 59⟩ : ExceptionTableEntry)] (⟨0, 132, 138, 62⟩ : ExceptionTableEntry) [(⟨0, 132, 143, 65⟩ : ExceptionTableEntry)] (by rw [hTab]; rfl) ((List.forall_mem_cons.mpr ⟨Or.inr ⟨by decide, "java/lang/IndexOutOfBoundsException", hts _ q_179, hC.2.2.2.2.2.2 (XG, XI) (by decide)⟩, List.forall_mem_nil _⟩)) rfl (by decide) (hts _ q_180) (va_Nw.use rfl (hC.2.2.2.2.2.1 _ zc_2)) g1 g2 g3 ?_
                refine lv_astore (lv' := [(5, .ref q9), (0, .ref (ad 0)), (1, .int 4), (2, .int p0), (3, .int 0), (4, .int 0)]) hx hb dW_does_138 hl (by decide) rfl (fun ls hl => ?_)
                refine lv_ldc (v := (-2000000012)) hx hb hown (hts _ q_408) dW_does_140 ?_
                refine W.widen (k := 3) (n := 18) (Nat.le_of_ble_eq_true rfl) (Nat.le_of_ble_eq_true rfl) ?_
                exact W.iret (v := (-2000000012)) hx hb hr (fun t ht hW => ⟨⟨(-2000000012), (sL, sA), rfl, (by rw [fD_pay, wrapD_2 h_1] <;> rfl), gw_at hG ht⟩, hS.F ht⟩) hS.2.2 dW_does_142
              · refine vx_catch (name := "java/lang/IllegalStateException") (E := XS) hown [(⟨0, 132, 133, 59⟩ : ExceptionTableEntry), (⟨0, 132, 138, 62⟩ : ExceptionTableEntry)] (⟨0, 132, 143, 65⟩ : ExceptionTableEntry) [] (by rw [hTab]; rfl) ((List.forall_mem_cons.mpr ⟨Or.inr ⟨by decide, "java/lang/IndexOutOfBoundsException", hts _ q_179, hC.2.2.2.2.2.2 (XS, XI) (by decide)⟩, (List.forall_mem_cons.mpr ⟨Or.inr ⟨by decide, "java/lang/IllegalArgumentException", hts _ q_180, hC.2.2.2.2.2.2 (XS, XG) (by decide)⟩, List.forall_mem_nil _⟩)⟩)) rfl (by decide) (hts _ q_181) (va_Nw.use rfl (hC.2.2.2.2.2.1 _ zc_3)) g1 g2 g3 ?_
                refine lv_astore (lv' := [(5, .ref q9), (0, .ref (ad 0)), (1, .int 4), (2, .int p0), (3, .int 0), (4, .int 0)]) hx hb dW_does_143 hl (by decide) rfl (fun ls hl => ?_)
                refine lv_ldc (v := (-2000000013)) hx hb hown (hts _ q_409) dW_does_145 ?_
                refine W.widen (k := 3) (n := 18) (Nat.le_of_ble_eq_true rfl) (Nat.le_of_ble_eq_true rfl) ?_
                exact W.iret (v := (-2000000013)) hx hb hr (fun t ht hW => ⟨⟨(-2000000013), (sL, sA), rfl, (by rw [fD_pay, wrapD_3 h_1] <;> rfl), gw_at hG ht⟩, hS.F ht⟩) hS.2.2 dW_does_147
            · refine lv_goto (tgt := 132) hx hb dW_does_68 (by decide) ?_
              refine W.widen (k := 3) (n := 18) (Nat.le_of_ble_eq_true rfl) (Nat.le_of_ble_eq_true rfl) ?_
              exact W.iret (v := (fX_pay n sL sA p0).2.1) hx hb hr (fun t ht hW => ⟨⟨((fX_pay n sL sA p0).2.1), ((fX_pay n sL sA p0).2.2.1, (fX_pay n sL sA p0).2.2.2), rfl, (by rw [fD_pay, wrapD_0 h_0] <;> rfl), gw_at hG ht⟩, hS.F ht⟩) hS.2.2 dW_does_132
        · exact absurd c_4 (by decide)
      · exact absurd c_3 (by decide)
    · exact absurd c_2 (by decide)
  · exact absurd c_1 (by decide)
def fD_defaults (n : Nat) (sL : NL) (sA : NA) (p0 : Int32) : Int32 × NL × NA := wrapD (fX_defaults n sL sA p0) sL sA
set_option maxHeartbeats 4000000 in
set_option maxRecDepth 100000 in
theorem cD_defaults (l : Launch) (hl9 : l.stackTraces = false) (D : va_G) (tI tJ tL : ClassId) (A : Nat → Prop) (sg ad : Nat → Nat) (n : Nat) (sL : NL) (sA : NA) (p0 : Int32) : Met l yW_does (Cond.codeWith yW_does bW_does 6 (some FieldType.int) [(0, 132, 133, 59), (0, 132, 138, 62), (0, 132, 143, 65)] :: wNeed) { frames := 8, cells := 2, slots := 12, locals := 135 } (va_Pc [.ref (ad 0), .int 5, .int p0, .int 0, .int 0] (GP D tI tJ tL A sg ad n sL sA)) (va_Qi (fun r (u : NL × NA) => fD_defaults n sL sA p0 = (r, u.1, u.2)) (fun u t => GW D tI tJ tL A ad n u.1 u.2 t.heap) A) 2 12 A := by
  refine en_W (av := [.ref (ad 0), .int 5, .int p0, .int 0, .int 0]) (by decide) (Nat.le_of_ble_eq_true rfl) ?_
  intro p e s m below meth c hx hb hml hown hts hr hlocks hTab hC H locs hG hS ls hl
  replace hl : lv_has ls 6 [(0, .ref (ad 0)), (1, .int 5), (2, .int p0), (3, .int 0), (4, .int 0)] := hl
  refine lv_iload_n hx hb dW_does_0 rfl (lv_at hl 1 rfl) ?_
  refine lv_if_ne (tgt := 15) hx hb dW_does_1 (by decide) (fun c_1 => ?_) (fun c_1 => ?_)
  · refine lv_iload_n hx hb dW_does_15 rfl (lv_at hl 1 rfl) ?_
    refine lv_iconst (v := 1) hx hb dW_does_16 (by decide) ?_
    refine lv_icmp_ne (tgt := 31) hx hb dW_does_17 (by decide) (fun c_2 => ?_) (fun c_2 => ?_)
    · refine lv_iload_n hx hb dW_does_31 rfl (lv_at hl 1 rfl) ?_
      refine lv_iconst (v := 2) hx hb dW_does_32 (by decide) ?_
      refine lv_icmp_ne (tgt := 44) hx hb dW_does_33 (by decide) (fun c_3 => ?_) (fun c_3 => ?_)
      · refine lv_iload_n hx hb dW_does_44 rfl (lv_at hl 1 rfl) ?_
        refine lv_iconst (v := 3) hx hb dW_does_45 (by decide) ?_
        refine lv_icmp_ne (tgt := 58) hx hb dW_does_46 (by decide) (fun c_4 => ?_) (fun c_4 => ?_)
        · refine lv_iload_n hx hb dW_does_58 rfl (lv_at hl 1 rfl) ?_
          refine lv_iconst (v := 4) hx hb dW_does_59 (by decide) ?_
          refine lv_icmp_ne (tgt := 71) hx hb dW_does_60 (by decide) (fun c_5 => ?_) (fun c_5 => ?_)
          · refine lv_iload_n hx hb dW_does_71 rfl (lv_at hl 1 rfl) ?_
            refine lv_iconst (v := 5) hx hb dW_does_72 (by decide) ?_
            refine lv_icmp_ne (tgt := 84) hx hb dW_does_73 (by decide) (fun c_6 => ?_) (fun c_6 => ?_)
            · exact absurd c_6 (by decide)
            · refine lv_aload_n hx hb dW_does_76 rfl (lv_at hl 0 rfl) ?_
              refine lv_iload_n hx hb dW_does_77 rfl (lv_at hl 2 rfl) ?_
              refine rcV5w (rest := []) (As := [.int p0]) hx hb hml hown hts hC hG hS (cX_defaults l hl9 D tI tJ tL A sg ad n sL sA p0) (recX hC hG) (gV q_364 q_365 q_366 q_1 q_367) rfl rfl ⟨rfl, hdyX_defaults⟩ ⟨Nat.le_of_ble_eq_true rfl, Nat.le_of_ble_eq_true rfl⟩ hl.1 rfl (Nat.le_of_ble_eq_true rfl) dW_does_78 ⟨Nat.le_of_ble_eq_true rfl, Nat.le_of_ble_eq_true rfl⟩ (fun E ce q9 H locs hE hG hS g1 g2 g3 => ?_) (fun h_0 H locs hG hS => ?_)
              · rcases hE with ⟨rfl, h_1⟩ | ⟨rfl, h_1⟩ | ⟨rfl, h_1⟩
                · refine vx_catch (name := "java/lang/IndexOutOfBoundsException") (E := XI) hown [] (⟨0, 132, 133, 59⟩ : ExceptionTableEntry) [(⟨0, 132, 138, 62⟩ : ExceptionTableEntry), (⟨0, 132, 143, 65⟩ : ExceptionTableEntry)] (by rw [hTab]; rfl) (List.forall_mem_nil _) rfl (by decide) (hts _ q_179) (va_Nw.use rfl (hC.2.2.2.2.2.1 _ zc_1)) g1 g2 g3 ?_
                  refine lv_astore (lv' := [(5, .ref q9), (0, .ref (ad 0)), (1, .int 5), (2, .int p0), (3, .int 0), (4, .int 0)]) hx hb dW_does_133 hl (by decide) rfl (fun ls hl => ?_)
                  refine lv_ldc (v := (-2000000011)) hx hb hown (hts _ q_407) dW_does_135 ?_
                  refine W.widen (k := 2) (n := 12) (Nat.le_of_ble_eq_true rfl) (Nat.le_of_ble_eq_true rfl) ?_
                  exact W.iret (v := (-2000000011)) hx hb hr (fun t ht hW => ⟨⟨(-2000000011), (sL, sA), rfl, (by rw [fD_defaults, wrapD_1 h_1] <;> rfl), gw_at hG ht⟩, hS.F ht⟩) hS.2.2 dW_does_137
                · refine vx_catch (name := "java/lang/IllegalArgumentException") (E := XG) hown [(⟨0, 132, 133, 59⟩ : ExceptionTableEntry)] (⟨0, 132, 138, 62⟩ : ExceptionTableEntry) [(⟨0, 132, 143, 65⟩ : ExceptionTableEntry)] (by rw [hTab]; rfl) ((List.forall_mem_cons.mpr ⟨Or.inr ⟨by decide, "java/lang/IndexOutOfBoundsException", hts _ q_179, hC.2.2.2.2.2.2 (XG, XI) (by decide)⟩, List.forall_mem_nil _⟩)) rfl (by decide) (hts _ q_180) (va_Nw.use rfl (hC.2.2.2.2.2.1 _ zc_2)) g1 g2 g3 ?_
                  refine lv_astore (lv' := [(5, .ref q9), (0, .ref (ad 0)), (1, .int 5), (2, .int p0), (3, .int 0), (4, .int 0)]) hx hb dW_does_138 hl (by decide) rfl (fun ls hl => ?_)
                  refine lv_ldc (v := (-2000000012)) hx hb hown (hts _ q_408) dW_does_140 ?_
                  refine W.widen (k := 2) (n := 12) (Nat.le_of_ble_eq_true rfl) (Nat.le_of_ble_eq_true rfl) ?_
                  exact W.iret (v := (-2000000012)) hx hb hr (fun t ht hW => ⟨⟨(-2000000012), (sL, sA), rfl, (by rw [fD_defaults, wrapD_2 h_1] <;> rfl), gw_at hG ht⟩, hS.F ht⟩) hS.2.2 dW_does_142
                · refine vx_catch (name := "java/lang/IllegalStateException") (E := XS) hown [(⟨0, 132, 133, 59⟩ : ExceptionTableEntry), (⟨0, 132, 138, 62⟩ : ExceptionTableEntry)] (⟨0, 132, 143, 65⟩ : ExceptionTableEntry) [] (by rw [hTab]; rfl) ((List.forall_mem_cons.mpr ⟨Or.inr ⟨by decide, "java/lang/IndexOutOfBoundsException", hts _ q_179, hC.2.2.2.2.2.2 (XS, XI) (by decide)⟩, (List.forall_mem_cons.mpr ⟨Or.inr ⟨by decide, "java/lang/IllegalArgumentException", hts _ q_180, hC.2.2.2.2.2.2 (XS, XG) (by decide)⟩, List.forall_mem_nil _⟩)⟩)) rfl (by decide) (hts _ q_181) (va_Nw.use rfl (hC.2.2.2.2.2.1 _ zc_3)) g1 g2 g3 ?_
                  refine lv_astore (lv' := [(5, .ref q9), (0, .ref (ad 0)), (1, .int 5), (2, .int p0), (3, .int 0), (4, .int 0)]) hx hb dW_does_143 hl (by decide) rfl (fun ls hl => ?_)
                  refine lv_ldc (v := (-2000000013)) hx hb hown (hts _ q_409) dW_does_145 ?_
                  refine W.widen (k := 2) (n := 12) (Nat.le_of_ble_eq_true rfl) (Nat.le_of_ble_eq_true rfl) ?_
                  exact W.iret (v := (-2000000013)) hx hb hr (fun t ht hW => ⟨⟨(-2000000013), (sL, sA), rfl, (by rw [fD_defaults, wrapD_3 h_1] <;> rfl), gw_at hG ht⟩, hS.F ht⟩) hS.2.2 dW_does_147
              · refine lv_goto (tgt := 132) hx hb dW_does_81 (by decide) ?_
                refine W.widen (k := 2) (n := 12) (Nat.le_of_ble_eq_true rfl) (Nat.le_of_ble_eq_true rfl) ?_
                exact W.iret (v := (fX_defaults n sL sA p0).2.1) hx hb hr (fun t ht hW => ⟨⟨((fX_defaults n sL sA p0).2.1), ((fX_defaults n sL sA p0).2.2.1, (fX_defaults n sL sA p0).2.2.2), rfl, (by rw [fD_defaults, wrapD_0 h_0] <;> rfl), gw_at hG ht⟩, hS.F ht⟩) hS.2.2 dW_does_132
          · exact absurd c_5 (by decide)
        · exact absurd c_4 (by decide)
      · exact absurd c_3 (by decide)
    · exact absurd c_2 (by decide)
  · exact absurd c_1 (by decide)
def fD_payGaps (sL : NL) (sA : NA) (p0 : Int32) : Int32 × NL × NA := wrapD (fX_payGaps sL sA p0) sL sA
set_option maxHeartbeats 4000000 in
set_option maxRecDepth 100000 in
theorem cD_payGaps (l : Launch) (hl9 : l.stackTraces = false) (D : va_G) (tI tJ tL : ClassId) (A : Nat → Prop) (sg ad : Nat → Nat) (n : Nat) (sL : NL) (sA : NA) (p0 : Int32) : Met l yW_does (Cond.codeWith yW_does bW_does 6 (some FieldType.int) [(0, 132, 133, 59), (0, 132, 138, 62), (0, 132, 143, 65)] :: wNeed) { frames := 9, cells := 2, slots := 12, locals := 154 } (va_Pc [.ref (ad 0), .int 6, .int p0, .int 0, .int 0] (GP D tI tJ tL A sg ad n sL sA)) (va_Qi (fun r (u : NL × NA) => fD_payGaps sL sA p0 = (r, u.1, u.2)) (fun u t => GW D tI tJ tL A ad n u.1 u.2 t.heap) A) 2 12 A := by
  refine en_W (av := [.ref (ad 0), .int 6, .int p0, .int 0, .int 0]) (by decide) (Nat.le_of_ble_eq_true rfl) ?_
  intro p e s m below meth c hx hb hml hown hts hr hlocks hTab hC H locs hG hS ls hl
  replace hl : lv_has ls 6 [(0, .ref (ad 0)), (1, .int 6), (2, .int p0), (3, .int 0), (4, .int 0)] := hl
  refine lv_iload_n hx hb dW_does_0 rfl (lv_at hl 1 rfl) ?_
  refine lv_if_ne (tgt := 15) hx hb dW_does_1 (by decide) (fun c_1 => ?_) (fun c_1 => ?_)
  · refine lv_iload_n hx hb dW_does_15 rfl (lv_at hl 1 rfl) ?_
    refine lv_iconst (v := 1) hx hb dW_does_16 (by decide) ?_
    refine lv_icmp_ne (tgt := 31) hx hb dW_does_17 (by decide) (fun c_2 => ?_) (fun c_2 => ?_)
    · refine lv_iload_n hx hb dW_does_31 rfl (lv_at hl 1 rfl) ?_
      refine lv_iconst (v := 2) hx hb dW_does_32 (by decide) ?_
      refine lv_icmp_ne (tgt := 44) hx hb dW_does_33 (by decide) (fun c_3 => ?_) (fun c_3 => ?_)
      · refine lv_iload_n hx hb dW_does_44 rfl (lv_at hl 1 rfl) ?_
        refine lv_iconst (v := 3) hx hb dW_does_45 (by decide) ?_
        refine lv_icmp_ne (tgt := 58) hx hb dW_does_46 (by decide) (fun c_4 => ?_) (fun c_4 => ?_)
        · refine lv_iload_n hx hb dW_does_58 rfl (lv_at hl 1 rfl) ?_
          refine lv_iconst (v := 4) hx hb dW_does_59 (by decide) ?_
          refine lv_icmp_ne (tgt := 71) hx hb dW_does_60 (by decide) (fun c_5 => ?_) (fun c_5 => ?_)
          · refine lv_iload_n hx hb dW_does_71 rfl (lv_at hl 1 rfl) ?_
            refine lv_iconst (v := 5) hx hb dW_does_72 (by decide) ?_
            refine lv_icmp_ne (tgt := 84) hx hb dW_does_73 (by decide) (fun c_6 => ?_) (fun c_6 => ?_)
            · refine lv_iload_n hx hb dW_does_84 rfl (lv_at hl 1 rfl) ?_
              refine lv_bipush (v := 6) hx hb dW_does_85 (by decide) ?_
              refine lv_icmp_ne (tgt := 98) hx hb dW_does_87 (by decide) (fun c_7 => ?_) (fun c_7 => ?_)
              · exact absurd c_7 (by decide)
              · refine lv_aload_n hx hb dW_does_90 rfl (lv_at hl 0 rfl) ?_
                refine lv_iload_n hx hb dW_does_91 rfl (lv_at hl 2 rfl) ?_
                refine rcV5w (rest := []) (As := [.int p0]) hx hb hml hown hts hC hG hS (cX_payGaps l hl9 D tI tJ tL A sg ad n sL sA p0) (recX hC hG) (gV q_368 q_369 q_370 q_1 q_371) rfl rfl ⟨rfl, hdyX_payGaps⟩ ⟨Nat.le_of_ble_eq_true rfl, Nat.le_of_ble_eq_true rfl⟩ hl.1 rfl (Nat.le_of_ble_eq_true rfl) dW_does_92 ⟨Nat.le_of_ble_eq_true rfl, Nat.le_of_ble_eq_true rfl⟩ (fun E ce q9 H locs hE hG hS g1 g2 g3 => ?_) (fun h_0 H locs hG hS => ?_)
                · rcases hE with ⟨rfl, h_1⟩ | ⟨rfl, h_1⟩ | ⟨rfl, h_1⟩
                  · refine vx_catch (name := "java/lang/IndexOutOfBoundsException") (E := XI) hown [] (⟨0, 132, 133, 59⟩ : ExceptionTableEntry) [(⟨0, 132, 138, 62⟩ : ExceptionTableEntry), (⟨0, 132, 143, 65⟩ : ExceptionTableEntry)] (by rw [hTab]; rfl) (List.forall_mem_nil _) rfl (by decide) (hts _ q_179) (va_Nw.use rfl (hC.2.2.2.2.2.1 _ zc_1)) g1 g2 g3 ?_
                    refine lv_astore (lv' := [(5, .ref q9), (0, .ref (ad 0)), (1, .int 6), (2, .int p0), (3, .int 0), (4, .int 0)]) hx hb dW_does_133 hl (by decide) rfl (fun ls hl => ?_)
                    refine lv_ldc (v := (-2000000011)) hx hb hown (hts _ q_407) dW_does_135 ?_
                    refine W.widen (k := 2) (n := 12) (Nat.le_of_ble_eq_true rfl) (Nat.le_of_ble_eq_true rfl) ?_
                    exact W.iret (v := (-2000000011)) hx hb hr (fun t ht hW => ⟨⟨(-2000000011), (sL, sA), rfl, (by rw [fD_payGaps, wrapD_1 h_1] <;> rfl), gw_at hG ht⟩, hS.F ht⟩) hS.2.2 dW_does_137
                  · refine vx_catch (name := "java/lang/IllegalArgumentException") (E := XG) hown [(⟨0, 132, 133, 59⟩ : ExceptionTableEntry)] (⟨0, 132, 138, 62⟩ : ExceptionTableEntry) [(⟨0, 132, 143, 65⟩ : ExceptionTableEntry)] (by rw [hTab]; rfl) ((List.forall_mem_cons.mpr ⟨Or.inr ⟨by decide, "java/lang/IndexOutOfBoundsException", hts _ q_179, hC.2.2.2.2.2.2 (XG, XI) (by decide)⟩, List.forall_mem_nil _⟩)) rfl (by decide) (hts _ q_180) (va_Nw.use rfl (hC.2.2.2.2.2.1 _ zc_2)) g1 g2 g3 ?_
                    refine lv_astore (lv' := [(5, .ref q9), (0, .ref (ad 0)), (1, .int 6), (2, .int p0), (3, .int 0), (4, .int 0)]) hx hb dW_does_138 hl (by decide) rfl (fun ls hl => ?_)
                    refine lv_ldc (v := (-2000000012)) hx hb hown (hts _ q_408) dW_does_140 ?_
                    refine W.widen (k := 2) (n := 12) (Nat.le_of_ble_eq_true rfl) (Nat.le_of_ble_eq_true rfl) ?_
                    exact W.iret (v := (-2000000012)) hx hb hr (fun t ht hW => ⟨⟨(-2000000012), (sL, sA), rfl, (by rw [fD_payGaps, wrapD_2 h_1] <;> rfl), gw_at hG ht⟩, hS.F ht⟩) hS.2.2 dW_does_142
                  · refine vx_catch (name := "java/lang/IllegalStateException") (E := XS) hown [(⟨0, 132, 133, 59⟩ : ExceptionTableEntry), (⟨0, 132, 138, 62⟩ : ExceptionTableEntry)] (⟨0, 132, 143, 65⟩ : ExceptionTableEntry) [] (by rw [hTab]; rfl) ((List.forall_mem_cons.mpr ⟨Or.inr ⟨by decide, "java/lang/IndexOutOfBoundsException", hts _ q_179, hC.2.2.2.2.2.2 (XS, XI) (by decide)⟩, (List.forall_mem_cons.mpr ⟨Or.inr ⟨by decide, "java/lang/IllegalArgumentException", hts _ q_180, hC.2.2.2.2.2.2 (XS, XG) (by decide)⟩, List.forall_mem_nil _⟩)⟩)) rfl (by decide) (hts _ q_181) (va_Nw.use rfl (hC.2.2.2.2.2.1 _ zc_3)) g1 g2 g3 ?_
                    refine lv_astore (lv' := [(5, .ref q9), (0, .ref (ad 0)), (1, .int 6), (2, .int p0), (3, .int 0), (4, .int 0)]) hx hb dW_does_143 hl (by decide) rfl (fun ls hl => ?_)
                    refine lv_ldc (v := (-2000000013)) hx hb hown (hts _ q_409) dW_does_145 ?_
                    refine W.widen (k := 2) (n := 12) (Nat.le_of_ble_eq_true rfl) (Nat.le_of_ble_eq_true rfl) ?_
                    exact W.iret (v := (-2000000013)) hx hb hr (fun t ht hW => ⟨⟨(-2000000013), (sL, sA), rfl, (by rw [fD_payGaps, wrapD_3 h_1] <;> rfl), gw_at hG ht⟩, hS.F ht⟩) hS.2.2 dW_does_147
                · refine lv_goto (tgt := 132) hx hb dW_does_95 (by decide) ?_
                  refine W.widen (k := 2) (n := 12) (Nat.le_of_ble_eq_true rfl) (Nat.le_of_ble_eq_true rfl) ?_
                  exact W.iret (v := (fX_payGaps sL sA p0).2.1) hx hb hr (fun t ht hW => ⟨⟨((fX_payGaps sL sA p0).2.1), ((fX_payGaps sL sA p0).2.2.1, (fX_payGaps sL sA p0).2.2.2), rfl, (by rw [fD_payGaps, wrapD_0 h_0] <;> rfl), gw_at hG ht⟩, hS.F ht⟩) hS.2.2 dW_does_132
            · exact absurd c_6 (by decide)
          · exact absurd c_5 (by decide)
        · exact absurd c_4 (by decide)
      · exact absurd c_3 (by decide)
    · exact absurd c_2 (by decide)
  · exact absurd c_1 (by decide)
def fD_advance (n : Nat) (sL : NL) (sA : NA) (p0 : Int32) (p1 : Int32) : Int32 × NL × NA := wrapD (fX_advance n sL sA p0 p1) sL sA
set_option maxHeartbeats 4000000 in
set_option maxRecDepth 100000 in
theorem cD_advance (l : Launch) (hl9 : l.stackTraces = false) (D : va_G) (tI tJ tL : ClassId) (A : Nat → Prop) (sg ad : Nat → Nat) (n : Nat) (sL : NL) (sA : NA) (p0 : Int32) (p1 : Int32) : Met l yW_does (Cond.codeWith yW_does bW_does 6 (some FieldType.int) [(0, 132, 133, 59), (0, 132, 138, 62), (0, 132, 143, 65)] :: wNeed) { frames := 8, cells := 3, slots := 18, locals := 136 } (va_Pc [.ref (ad 0), .int 7, .int p0, .int p1, .int 0] (GP D tI tJ tL A sg ad n sL sA)) (va_Qi (fun r (u : NL × NA) => fD_advance n sL sA p0 p1 = (r, u.1, u.2)) (fun u t => GW D tI tJ tL A ad n u.1 u.2 t.heap) A) 3 18 A := by
  refine en_W (av := [.ref (ad 0), .int 7, .int p0, .int p1, .int 0]) (by decide) (Nat.le_of_ble_eq_true rfl) ?_
  intro p e s m below meth c hx hb hml hown hts hr hlocks hTab hC H locs hG hS ls hl
  replace hl : lv_has ls 6 [(0, .ref (ad 0)), (1, .int 7), (2, .int p0), (3, .int p1), (4, .int 0)] := hl
  refine lv_iload_n hx hb dW_does_0 rfl (lv_at hl 1 rfl) ?_
  refine lv_if_ne (tgt := 15) hx hb dW_does_1 (by decide) (fun c_1 => ?_) (fun c_1 => ?_)
  · refine lv_iload_n hx hb dW_does_15 rfl (lv_at hl 1 rfl) ?_
    refine lv_iconst (v := 1) hx hb dW_does_16 (by decide) ?_
    refine lv_icmp_ne (tgt := 31) hx hb dW_does_17 (by decide) (fun c_2 => ?_) (fun c_2 => ?_)
    · refine lv_iload_n hx hb dW_does_31 rfl (lv_at hl 1 rfl) ?_
      refine lv_iconst (v := 2) hx hb dW_does_32 (by decide) ?_
      refine lv_icmp_ne (tgt := 44) hx hb dW_does_33 (by decide) (fun c_3 => ?_) (fun c_3 => ?_)
      · refine lv_iload_n hx hb dW_does_44 rfl (lv_at hl 1 rfl) ?_
        refine lv_iconst (v := 3) hx hb dW_does_45 (by decide) ?_
        refine lv_icmp_ne (tgt := 58) hx hb dW_does_46 (by decide) (fun c_4 => ?_) (fun c_4 => ?_)
        · refine lv_iload_n hx hb dW_does_58 rfl (lv_at hl 1 rfl) ?_
          refine lv_iconst (v := 4) hx hb dW_does_59 (by decide) ?_
          refine lv_icmp_ne (tgt := 71) hx hb dW_does_60 (by decide) (fun c_5 => ?_) (fun c_5 => ?_)
          · refine lv_iload_n hx hb dW_does_71 rfl (lv_at hl 1 rfl) ?_
            refine lv_iconst (v := 5) hx hb dW_does_72 (by decide) ?_
            refine lv_icmp_ne (tgt := 84) hx hb dW_does_73 (by decide) (fun c_6 => ?_) (fun c_6 => ?_)
            · refine lv_iload_n hx hb dW_does_84 rfl (lv_at hl 1 rfl) ?_
              refine lv_bipush (v := 6) hx hb dW_does_85 (by decide) ?_
              refine lv_icmp_ne (tgt := 98) hx hb dW_does_87 (by decide) (fun c_7 => ?_) (fun c_7 => ?_)
              · refine lv_iload_n hx hb dW_does_98 rfl (lv_at hl 1 rfl) ?_
                refine lv_bipush (v := 7) hx hb dW_does_99 (by decide) ?_
                refine lv_icmp_ne (tgt := 113) hx hb dW_does_101 (by decide) (fun c_8 => ?_) (fun c_8 => ?_)
                · exact absurd c_8 (by decide)
                · refine lv_aload_n hx hb dW_does_104 rfl (lv_at hl 0 rfl) ?_
                  refine lv_iload_n hx hb dW_does_105 rfl (lv_at hl 2 rfl) ?_
                  refine lv_iload_n hx hb dW_does_106 rfl (lv_at hl 3 rfl) ?_
                  refine rcV5w (rest := []) (As := [.int p0, .int p1]) hx hb hml hown hts hC hG hS (cX_advance l hl9 D tI tJ tL A sg ad n sL sA p0 p1) (recX hC hG) (gV q_377 q_378 q_379 q_1 q_380) rfl rfl ⟨rfl, hdyX_advance⟩ ⟨Nat.le_of_ble_eq_true rfl, Nat.le_of_ble_eq_true rfl⟩ hl.1 rfl (Nat.le_of_ble_eq_true rfl) dW_does_107 ⟨Nat.le_of_ble_eq_true rfl, Nat.le_of_ble_eq_true rfl⟩ (fun E ce q9 H locs hE hG hS g1 g2 g3 => ?_) (fun h_0 H locs hG hS => ?_)
                  · rcases hE with ⟨rfl, h_1⟩ | ⟨rfl, h_1⟩ | ⟨rfl, h_1⟩
                    · refine vx_catch (name := "java/lang/IndexOutOfBoundsException") (E := XI) hown [] (⟨0, 132, 133, 59⟩ : ExceptionTableEntry) [(⟨0, 132, 138, 62⟩ : ExceptionTableEntry), (⟨0, 132, 143, 65⟩ : ExceptionTableEntry)] (by rw [hTab]; rfl) (List.forall_mem_nil _) rfl (by decide) (hts _ q_179) (va_Nw.use rfl (hC.2.2.2.2.2.1 _ zc_1)) g1 g2 g3 ?_
                      refine lv_astore (lv' := [(5, .ref q9), (0, .ref (ad 0)), (1, .int 7), (2, .int p0), (3, .int p1), (4, .int 0)]) hx hb dW_does_133 hl (by decide) rfl (fun ls hl => ?_)
                      refine lv_ldc (v := (-2000000011)) hx hb hown (hts _ q_407) dW_does_135 ?_
                      refine W.widen (k := 3) (n := 18) (Nat.le_of_ble_eq_true rfl) (Nat.le_of_ble_eq_true rfl) ?_
                      exact W.iret (v := (-2000000011)) hx hb hr (fun t ht hW => ⟨⟨(-2000000011), (sL, sA), rfl, (by rw [fD_advance, wrapD_1 h_1] <;> rfl), gw_at hG ht⟩, hS.F ht⟩) hS.2.2 dW_does_137
                    · refine vx_catch (name := "java/lang/IllegalArgumentException") (E := XG) hown [(⟨0, 132, 133, 59⟩ : ExceptionTableEntry)] (⟨0, 132, 138, 62⟩ : ExceptionTableEntry) [(⟨0, 132, 143, 65⟩ : ExceptionTableEntry)] (by rw [hTab]; rfl) ((List.forall_mem_cons.mpr ⟨Or.inr ⟨by decide, "java/lang/IndexOutOfBoundsException", hts _ q_179, hC.2.2.2.2.2.2 (XG, XI) (by decide)⟩, List.forall_mem_nil _⟩)) rfl (by decide) (hts _ q_180) (va_Nw.use rfl (hC.2.2.2.2.2.1 _ zc_2)) g1 g2 g3 ?_
                      refine lv_astore (lv' := [(5, .ref q9), (0, .ref (ad 0)), (1, .int 7), (2, .int p0), (3, .int p1), (4, .int 0)]) hx hb dW_does_138 hl (by decide) rfl (fun ls hl => ?_)
                      refine lv_ldc (v := (-2000000012)) hx hb hown (hts _ q_408) dW_does_140 ?_
                      refine W.widen (k := 3) (n := 18) (Nat.le_of_ble_eq_true rfl) (Nat.le_of_ble_eq_true rfl) ?_
                      exact W.iret (v := (-2000000012)) hx hb hr (fun t ht hW => ⟨⟨(-2000000012), (sL, sA), rfl, (by rw [fD_advance, wrapD_2 h_1] <;> rfl), gw_at hG ht⟩, hS.F ht⟩) hS.2.2 dW_does_142
                    · refine vx_catch (name := "java/lang/IllegalStateException") (E := XS) hown [(⟨0, 132, 133, 59⟩ : ExceptionTableEntry), (⟨0, 132, 138, 62⟩ : ExceptionTableEntry)] (⟨0, 132, 143, 65⟩ : ExceptionTableEntry) [] (by rw [hTab]; rfl) ((List.forall_mem_cons.mpr ⟨Or.inr ⟨by decide, "java/lang/IndexOutOfBoundsException", hts _ q_179, hC.2.2.2.2.2.2 (XS, XI) (by decide)⟩, (List.forall_mem_cons.mpr ⟨Or.inr ⟨by decide, "java/lang/IllegalArgumentException", hts _ q_180, hC.2.2.2.2.2.2 (XS, XG) (by decide)⟩, List.forall_mem_nil _⟩)⟩)) rfl (by decide) (hts _ q_181) (va_Nw.use rfl (hC.2.2.2.2.2.1 _ zc_3)) g1 g2 g3 ?_
                      refine lv_astore (lv' := [(5, .ref q9), (0, .ref (ad 0)), (1, .int 7), (2, .int p0), (3, .int p1), (4, .int 0)]) hx hb dW_does_143 hl (by decide) rfl (fun ls hl => ?_)
                      refine lv_ldc (v := (-2000000013)) hx hb hown (hts _ q_409) dW_does_145 ?_
                      refine W.widen (k := 3) (n := 18) (Nat.le_of_ble_eq_true rfl) (Nat.le_of_ble_eq_true rfl) ?_
                      exact W.iret (v := (-2000000013)) hx hb hr (fun t ht hW => ⟨⟨(-2000000013), (sL, sA), rfl, (by rw [fD_advance, wrapD_3 h_1] <;> rfl), gw_at hG ht⟩, hS.F ht⟩) hS.2.2 dW_does_147
                  · refine lv_goto (tgt := 132) hx hb dW_does_110 (by decide) ?_
                    refine W.widen (k := 3) (n := 18) (Nat.le_of_ble_eq_true rfl) (Nat.le_of_ble_eq_true rfl) ?_
                    exact W.iret (v := (fX_advance n sL sA p0 p1).2.1) hx hb hr (fun t ht hW => ⟨⟨((fX_advance n sL sA p0 p1).2.1), ((fX_advance n sL sA p0 p1).2.2.1, (fX_advance n sL sA p0 p1).2.2.2), rfl, (by rw [fD_advance, wrapD_0 h_0] <;> rfl), gw_at hG ht⟩, hS.F ht⟩) hS.2.2 dW_does_132
              · exact absurd c_7 (by decide)
            · exact absurd c_6 (by decide)
          · exact absurd c_5 (by decide)
        · exact absurd c_4 (by decide)
      · exact absurd c_3 (by decide)
    · exact absurd c_2 (by decide)
  · exact absurd c_1 (by decide)
def fD_settle (n : Nat) (sL : NL) (sA : NA) (p0 : Int32) : Int32 × NL × NA := wrapD (fX_settle n sL sA p0) sL sA
set_option maxHeartbeats 4000000 in
set_option maxRecDepth 100000 in
theorem cD_settle (l : Launch) (hl9 : l.stackTraces = false) (D : va_G) (tI tJ tL : ClassId) (A : Nat → Prop) (sg ad : Nat → Nat) (n : Nat) (sL : NL) (sA : NA) (p0 : Int32) : Met l yW_does (Cond.codeWith yW_does bW_does 6 (some FieldType.int) [(0, 132, 133, 59), (0, 132, 138, 62), (0, 132, 143, 65)] :: wNeed) { frames := 9, cells := 3, slots := 18, locals := 158 } (va_Pc [.ref (ad 0), .int 8, .int p0, .int 0, .int 0] (GP D tI tJ tL A sg ad n sL sA)) (va_Qi (fun r (u : NL × NA) => fD_settle n sL sA p0 = (r, u.1, u.2)) (fun u t => GW D tI tJ tL A ad n u.1 u.2 t.heap) A) 3 18 A := by
  refine en_W (av := [.ref (ad 0), .int 8, .int p0, .int 0, .int 0]) (by decide) (Nat.le_of_ble_eq_true rfl) ?_
  intro p e s m below meth c hx hb hml hown hts hr hlocks hTab hC H locs hG hS ls hl
  replace hl : lv_has ls 6 [(0, .ref (ad 0)), (1, .int 8), (2, .int p0), (3, .int 0), (4, .int 0)] := hl
  refine lv_iload_n hx hb dW_does_0 rfl (lv_at hl 1 rfl) ?_
  refine lv_if_ne (tgt := 15) hx hb dW_does_1 (by decide) (fun c_1 => ?_) (fun c_1 => ?_)
  · refine lv_iload_n hx hb dW_does_15 rfl (lv_at hl 1 rfl) ?_
    refine lv_iconst (v := 1) hx hb dW_does_16 (by decide) ?_
    refine lv_icmp_ne (tgt := 31) hx hb dW_does_17 (by decide) (fun c_2 => ?_) (fun c_2 => ?_)
    · refine lv_iload_n hx hb dW_does_31 rfl (lv_at hl 1 rfl) ?_
      refine lv_iconst (v := 2) hx hb dW_does_32 (by decide) ?_
      refine lv_icmp_ne (tgt := 44) hx hb dW_does_33 (by decide) (fun c_3 => ?_) (fun c_3 => ?_)
      · refine lv_iload_n hx hb dW_does_44 rfl (lv_at hl 1 rfl) ?_
        refine lv_iconst (v := 3) hx hb dW_does_45 (by decide) ?_
        refine lv_icmp_ne (tgt := 58) hx hb dW_does_46 (by decide) (fun c_4 => ?_) (fun c_4 => ?_)
        · refine lv_iload_n hx hb dW_does_58 rfl (lv_at hl 1 rfl) ?_
          refine lv_iconst (v := 4) hx hb dW_does_59 (by decide) ?_
          refine lv_icmp_ne (tgt := 71) hx hb dW_does_60 (by decide) (fun c_5 => ?_) (fun c_5 => ?_)
          · refine lv_iload_n hx hb dW_does_71 rfl (lv_at hl 1 rfl) ?_
            refine lv_iconst (v := 5) hx hb dW_does_72 (by decide) ?_
            refine lv_icmp_ne (tgt := 84) hx hb dW_does_73 (by decide) (fun c_6 => ?_) (fun c_6 => ?_)
            · refine lv_iload_n hx hb dW_does_84 rfl (lv_at hl 1 rfl) ?_
              refine lv_bipush (v := 6) hx hb dW_does_85 (by decide) ?_
              refine lv_icmp_ne (tgt := 98) hx hb dW_does_87 (by decide) (fun c_7 => ?_) (fun c_7 => ?_)
              · refine lv_iload_n hx hb dW_does_98 rfl (lv_at hl 1 rfl) ?_
                refine lv_bipush (v := 7) hx hb dW_does_99 (by decide) ?_
                refine lv_icmp_ne (tgt := 113) hx hb dW_does_101 (by decide) (fun c_8 => ?_) (fun c_8 => ?_)
                · refine lv_iload_n hx hb dW_does_113 rfl (lv_at hl 1 rfl) ?_
                  refine lv_bipush (v := 8) hx hb dW_does_114 (by decide) ?_
                  refine lv_icmp_ne (tgt := 127) hx hb dW_does_116 (by decide) (fun c_9 => ?_) (fun c_9 => ?_)
                  · exact absurd c_9 (by decide)
                  · refine lv_aload_n hx hb dW_does_119 rfl (lv_at hl 0 rfl) ?_
                    refine lv_iload_n hx hb dW_does_120 rfl (lv_at hl 2 rfl) ?_
                    refine rcV5w (rest := []) (As := [.int p0]) hx hb hml hown hts hC hG hS (cX_settle l hl9 D tI tJ tL A sg ad n sL sA p0) (recX hC hG) (gV q_382 q_383 q_384 q_1 q_385) rfl rfl ⟨rfl, hdyX_settle⟩ ⟨Nat.le_of_ble_eq_true rfl, Nat.le_of_ble_eq_true rfl⟩ hl.1 rfl (Nat.le_of_ble_eq_true rfl) dW_does_121 ⟨Nat.le_of_ble_eq_true rfl, Nat.le_of_ble_eq_true rfl⟩ (fun E ce q9 H locs hE hG hS g1 g2 g3 => ?_) (fun h_0 H locs hG hS => ?_)
                    · rcases hE with ⟨rfl, h_1⟩ | ⟨rfl, h_1⟩ | ⟨rfl, h_1⟩
                      · refine vx_catch (name := "java/lang/IndexOutOfBoundsException") (E := XI) hown [] (⟨0, 132, 133, 59⟩ : ExceptionTableEntry) [(⟨0, 132, 138, 62⟩ : ExceptionTableEntry), (⟨0, 132, 143, 65⟩ : ExceptionTableEntry)] (by rw [hTab]; rfl) (List.forall_mem_nil _) rfl (by decide) (hts _ q_179) (va_Nw.use rfl (hC.2.2.2.2.2.1 _ zc_1)) g1 g2 g3 ?_
                        refine lv_astore (lv' := [(5, .ref q9), (0, .ref (ad 0)), (1, .int 8), (2, .int p0), (3, .int 0), (4, .int 0)]) hx hb dW_does_133 hl (by decide) rfl (fun ls hl => ?_)
                        refine lv_ldc (v := (-2000000011)) hx hb hown (hts _ q_407) dW_does_135 ?_
                        refine W.widen (k := 3) (n := 18) (Nat.le_of_ble_eq_true rfl) (Nat.le_of_ble_eq_true rfl) ?_
                        exact W.iret (v := (-2000000011)) hx hb hr (fun t ht hW => ⟨⟨(-2000000011), (sL, sA), rfl, (by rw [fD_settle, wrapD_1 h_1] <;> rfl), gw_at hG ht⟩, hS.F ht⟩) hS.2.2 dW_does_137
                      · refine vx_catch (name := "java/lang/IllegalArgumentException") (E := XG) hown [(⟨0, 132, 133, 59⟩ : ExceptionTableEntry)] (⟨0, 132, 138, 62⟩ : ExceptionTableEntry) [(⟨0, 132, 143, 65⟩ : ExceptionTableEntry)] (by rw [hTab]; rfl) ((List.forall_mem_cons.mpr ⟨Or.inr ⟨by decide, "java/lang/IndexOutOfBoundsException", hts _ q_179, hC.2.2.2.2.2.2 (XG, XI) (by decide)⟩, List.forall_mem_nil _⟩)) rfl (by decide) (hts _ q_180) (va_Nw.use rfl (hC.2.2.2.2.2.1 _ zc_2)) g1 g2 g3 ?_
                        refine lv_astore (lv' := [(5, .ref q9), (0, .ref (ad 0)), (1, .int 8), (2, .int p0), (3, .int 0), (4, .int 0)]) hx hb dW_does_138 hl (by decide) rfl (fun ls hl => ?_)
                        refine lv_ldc (v := (-2000000012)) hx hb hown (hts _ q_408) dW_does_140 ?_
                        refine W.widen (k := 3) (n := 18) (Nat.le_of_ble_eq_true rfl) (Nat.le_of_ble_eq_true rfl) ?_
                        exact W.iret (v := (-2000000012)) hx hb hr (fun t ht hW => ⟨⟨(-2000000012), (sL, sA), rfl, (by rw [fD_settle, wrapD_2 h_1] <;> rfl), gw_at hG ht⟩, hS.F ht⟩) hS.2.2 dW_does_142
                      · refine vx_catch (name := "java/lang/IllegalStateException") (E := XS) hown [(⟨0, 132, 133, 59⟩ : ExceptionTableEntry), (⟨0, 132, 138, 62⟩ : ExceptionTableEntry)] (⟨0, 132, 143, 65⟩ : ExceptionTableEntry) [] (by rw [hTab]; rfl) ((List.forall_mem_cons.mpr ⟨Or.inr ⟨by decide, "java/lang/IndexOutOfBoundsException", hts _ q_179, hC.2.2.2.2.2.2 (XS, XI) (by decide)⟩, (List.forall_mem_cons.mpr ⟨Or.inr ⟨by decide, "java/lang/IllegalArgumentException", hts _ q_180, hC.2.2.2.2.2.2 (XS, XG) (by decide)⟩, List.forall_mem_nil _⟩)⟩)) rfl (by decide) (hts _ q_181) (va_Nw.use rfl (hC.2.2.2.2.2.1 _ zc_3)) g1 g2 g3 ?_
                        refine lv_astore (lv' := [(5, .ref q9), (0, .ref (ad 0)), (1, .int 8), (2, .int p0), (3, .int 0), (4, .int 0)]) hx hb dW_does_143 hl (by decide) rfl (fun ls hl => ?_)
                        refine lv_ldc (v := (-2000000013)) hx hb hown (hts _ q_409) dW_does_145 ?_
                        refine W.widen (k := 3) (n := 18) (Nat.le_of_ble_eq_true rfl) (Nat.le_of_ble_eq_true rfl) ?_
                        exact W.iret (v := (-2000000013)) hx hb hr (fun t ht hW => ⟨⟨(-2000000013), (sL, sA), rfl, (by rw [fD_settle, wrapD_3 h_1] <;> rfl), gw_at hG ht⟩, hS.F ht⟩) hS.2.2 dW_does_147
                    · refine lv_goto (tgt := 132) hx hb dW_does_124 (by decide) ?_
                      refine W.widen (k := 3) (n := 18) (Nat.le_of_ble_eq_true rfl) (Nat.le_of_ble_eq_true rfl) ?_
                      exact W.iret (v := (fX_settle n sL sA p0).2.1) hx hb hr (fun t ht hW => ⟨⟨((fX_settle n sL sA p0).2.1), ((fX_settle n sL sA p0).2.2.1, (fX_settle n sL sA p0).2.2.2), rfl, (by rw [fD_settle, wrapD_0 h_0] <;> rfl), gw_at hG ht⟩, hS.F ht⟩) hS.2.2 dW_does_132
                · exact absurd c_8 (by decide)
              · exact absurd c_7 (by decide)
            · exact absurd c_6 (by decide)
          · exact absurd c_5 (by decide)
        · exact absurd c_4 (by decide)
      · exact absurd c_3 (by decide)
    · exact absurd c_2 (by decide)
  · exact absurd c_1 (by decide)
def fD_days (sL : NL) (sA : NA) (p0 : Int32) : Int32 × NL × NA := wrapD (fX_days sL sA p0) sL sA
set_option maxHeartbeats 4000000 in
set_option maxRecDepth 100000 in
theorem cD_days (l : Launch) (hl9 : l.stackTraces = false) (D : va_G) (tI tJ tL : ClassId) (A : Nat → Prop) (sg ad : Nat → Nat) (n : Nat) (sL : NL) (sA : NA) (p0 : Int32) : Met l yW_does (Cond.codeWith yW_does bW_does 6 (some FieldType.int) [(0, 132, 133, 59), (0, 132, 138, 62), (0, 132, 143, 65)] :: wNeed) { frames := 8, cells := 2, slots := 12, locals := 133 } (va_Pc [.ref (ad 0), .int 9, .int p0, .int 0, .int 0] (GP D tI tJ tL A sg ad n sL sA)) (va_Qi (fun r (u : NL × NA) => fD_days sL sA p0 = (r, u.1, u.2)) (fun u t => GW D tI tJ tL A ad n u.1 u.2 t.heap) A) 2 12 A := by
  refine en_W (av := [.ref (ad 0), .int 9, .int p0, .int 0, .int 0]) (by decide) (Nat.le_of_ble_eq_true rfl) ?_
  intro p e s m below meth c hx hb hml hown hts hr hlocks hTab hC H locs hG hS ls hl
  replace hl : lv_has ls 6 [(0, .ref (ad 0)), (1, .int 9), (2, .int p0), (3, .int 0), (4, .int 0)] := hl
  refine lv_iload_n hx hb dW_does_0 rfl (lv_at hl 1 rfl) ?_
  refine lv_if_ne (tgt := 15) hx hb dW_does_1 (by decide) (fun c_1 => ?_) (fun c_1 => ?_)
  · refine lv_iload_n hx hb dW_does_15 rfl (lv_at hl 1 rfl) ?_
    refine lv_iconst (v := 1) hx hb dW_does_16 (by decide) ?_
    refine lv_icmp_ne (tgt := 31) hx hb dW_does_17 (by decide) (fun c_2 => ?_) (fun c_2 => ?_)
    · refine lv_iload_n hx hb dW_does_31 rfl (lv_at hl 1 rfl) ?_
      refine lv_iconst (v := 2) hx hb dW_does_32 (by decide) ?_
      refine lv_icmp_ne (tgt := 44) hx hb dW_does_33 (by decide) (fun c_3 => ?_) (fun c_3 => ?_)
      · refine lv_iload_n hx hb dW_does_44 rfl (lv_at hl 1 rfl) ?_
        refine lv_iconst (v := 3) hx hb dW_does_45 (by decide) ?_
        refine lv_icmp_ne (tgt := 58) hx hb dW_does_46 (by decide) (fun c_4 => ?_) (fun c_4 => ?_)
        · refine lv_iload_n hx hb dW_does_58 rfl (lv_at hl 1 rfl) ?_
          refine lv_iconst (v := 4) hx hb dW_does_59 (by decide) ?_
          refine lv_icmp_ne (tgt := 71) hx hb dW_does_60 (by decide) (fun c_5 => ?_) (fun c_5 => ?_)
          · refine lv_iload_n hx hb dW_does_71 rfl (lv_at hl 1 rfl) ?_
            refine lv_iconst (v := 5) hx hb dW_does_72 (by decide) ?_
            refine lv_icmp_ne (tgt := 84) hx hb dW_does_73 (by decide) (fun c_6 => ?_) (fun c_6 => ?_)
            · refine lv_iload_n hx hb dW_does_84 rfl (lv_at hl 1 rfl) ?_
              refine lv_bipush (v := 6) hx hb dW_does_85 (by decide) ?_
              refine lv_icmp_ne (tgt := 98) hx hb dW_does_87 (by decide) (fun c_7 => ?_) (fun c_7 => ?_)
              · refine lv_iload_n hx hb dW_does_98 rfl (lv_at hl 1 rfl) ?_
                refine lv_bipush (v := 7) hx hb dW_does_99 (by decide) ?_
                refine lv_icmp_ne (tgt := 113) hx hb dW_does_101 (by decide) (fun c_8 => ?_) (fun c_8 => ?_)
                · refine lv_iload_n hx hb dW_does_113 rfl (lv_at hl 1 rfl) ?_
                  refine lv_bipush (v := 8) hx hb dW_does_114 (by decide) ?_
                  refine lv_icmp_ne (tgt := 127) hx hb dW_does_116 (by decide) (fun c_9 => ?_) (fun c_9 => ?_)
                  · refine lv_aload_n hx hb dW_does_127 rfl (lv_at hl 0 rfl) ?_
                    refine lv_iload_n hx hb dW_does_128 rfl (lv_at hl 2 rfl) ?_
                    refine rcV5w (rest := []) (As := [.int p0]) hx hb hml hown hts hC hG hS (cX_days l hl9 D tI tJ tL A sg ad n sL sA p0) (recX hC hG) (gV q_402 q_403 q_404 q_1 q_405) rfl rfl ⟨rfl, hdyX_days⟩ ⟨Nat.le_of_ble_eq_true rfl, Nat.le_of_ble_eq_true rfl⟩ hl.1 rfl (Nat.le_of_ble_eq_true rfl) dW_does_129 ⟨Nat.le_of_ble_eq_true rfl, Nat.le_of_ble_eq_true rfl⟩ (fun E ce q9 H locs hE hG hS g1 g2 g3 => ?_) (fun h_0 H locs hG hS => ?_)
                    · rcases hE with ⟨rfl, h_1⟩ | ⟨rfl, h_1⟩ | ⟨rfl, h_1⟩
                      · refine vx_catch (name := "java/lang/IndexOutOfBoundsException") (E := XI) hown [] (⟨0, 132, 133, 59⟩ : ExceptionTableEntry) [(⟨0, 132, 138, 62⟩ : ExceptionTableEntry), (⟨0, 132, 143, 65⟩ : ExceptionTableEntry)] (by rw [hTab]; rfl) (List.forall_mem_nil _) rfl (by decide) (hts _ q_179) (va_Nw.use rfl (hC.2.2.2.2.2.1 _ zc_1)) g1 g2 g3 ?_
                        refine lv_astore (lv' := [(5, .ref q9), (0, .ref (ad 0)), (1, .int 9), (2, .int p0), (3, .int 0), (4, .int 0)]) hx hb dW_does_133 hl (by decide) rfl (fun ls hl => ?_)
                        refine lv_ldc (v := (-2000000011)) hx hb hown (hts _ q_407) dW_does_135 ?_
                        refine W.widen (k := 2) (n := 12) (Nat.le_of_ble_eq_true rfl) (Nat.le_of_ble_eq_true rfl) ?_
                        exact W.iret (v := (-2000000011)) hx hb hr (fun t ht hW => ⟨⟨(-2000000011), (sL, sA), rfl, (by rw [fD_days, wrapD_1 h_1] <;> rfl), gw_at hG ht⟩, hS.F ht⟩) hS.2.2 dW_does_137
                      · refine vx_catch (name := "java/lang/IllegalArgumentException") (E := XG) hown [(⟨0, 132, 133, 59⟩ : ExceptionTableEntry)] (⟨0, 132, 138, 62⟩ : ExceptionTableEntry) [(⟨0, 132, 143, 65⟩ : ExceptionTableEntry)] (by rw [hTab]; rfl) ((List.forall_mem_cons.mpr ⟨Or.inr ⟨by decide, "java/lang/IndexOutOfBoundsException", hts _ q_179, hC.2.2.2.2.2.2 (XG, XI) (by decide)⟩, List.forall_mem_nil _⟩)) rfl (by decide) (hts _ q_180) (va_Nw.use rfl (hC.2.2.2.2.2.1 _ zc_2)) g1 g2 g3 ?_
                        refine lv_astore (lv' := [(5, .ref q9), (0, .ref (ad 0)), (1, .int 9), (2, .int p0), (3, .int 0), (4, .int 0)]) hx hb dW_does_138 hl (by decide) rfl (fun ls hl => ?_)
                        refine lv_ldc (v := (-2000000012)) hx hb hown (hts _ q_408) dW_does_140 ?_
                        refine W.widen (k := 2) (n := 12) (Nat.le_of_ble_eq_true rfl) (Nat.le_of_ble_eq_true rfl) ?_
                        exact W.iret (v := (-2000000012)) hx hb hr (fun t ht hW => ⟨⟨(-2000000012), (sL, sA), rfl, (by rw [fD_days, wrapD_2 h_1] <;> rfl), gw_at hG ht⟩, hS.F ht⟩) hS.2.2 dW_does_142
                      · refine vx_catch (name := "java/lang/IllegalStateException") (E := XS) hown [(⟨0, 132, 133, 59⟩ : ExceptionTableEntry), (⟨0, 132, 138, 62⟩ : ExceptionTableEntry)] (⟨0, 132, 143, 65⟩ : ExceptionTableEntry) [] (by rw [hTab]; rfl) ((List.forall_mem_cons.mpr ⟨Or.inr ⟨by decide, "java/lang/IndexOutOfBoundsException", hts _ q_179, hC.2.2.2.2.2.2 (XS, XI) (by decide)⟩, (List.forall_mem_cons.mpr ⟨Or.inr ⟨by decide, "java/lang/IllegalArgumentException", hts _ q_180, hC.2.2.2.2.2.2 (XS, XG) (by decide)⟩, List.forall_mem_nil _⟩)⟩)) rfl (by decide) (hts _ q_181) (va_Nw.use rfl (hC.2.2.2.2.2.1 _ zc_3)) g1 g2 g3 ?_
                        refine lv_astore (lv' := [(5, .ref q9), (0, .ref (ad 0)), (1, .int 9), (2, .int p0), (3, .int 0), (4, .int 0)]) hx hb dW_does_143 hl (by decide) rfl (fun ls hl => ?_)
                        refine lv_ldc (v := (-2000000013)) hx hb hown (hts _ q_409) dW_does_145 ?_
                        refine W.widen (k := 2) (n := 12) (Nat.le_of_ble_eq_true rfl) (Nat.le_of_ble_eq_true rfl) ?_
                        exact W.iret (v := (-2000000013)) hx hb hr (fun t ht hW => ⟨⟨(-2000000013), (sL, sA), rfl, (by rw [fD_days, wrapD_3 h_1] <;> rfl), gw_at hG ht⟩, hS.F ht⟩) hS.2.2 dW_does_147
                    · refine W.widen (k := 2) (n := 12) (Nat.le_of_ble_eq_true rfl) (Nat.le_of_ble_eq_true rfl) ?_
                      exact W.iret (v := (fX_days sL sA p0).2.1) hx hb hr (fun t ht hW => ⟨⟨((fX_days sL sA p0).2.1), ((fX_days sL sA p0).2.2.1, (fX_days sL sA p0).2.2.2), rfl, (by rw [fD_days, wrapD_0 h_0] <;> rfl), gw_at hG ht⟩, hS.F ht⟩) hS.2.2 dW_does_132
                  · exact absurd c_9 (by decide)
                · exact absurd c_8 (by decide)
              · exact absurd c_7 (by decide)
            · exact absurd c_6 (by decide)
          · exact absurd c_5 (by decide)
        · exact absurd c_4 (by decide)
      · exact absurd c_3 (by decide)
    · exact absurd c_2 (by decide)
  · exact absurd c_1 (by decide)
