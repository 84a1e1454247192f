section G4
variable {p : Program} {l : Launch} {e : Env} {R : Room} {s : State} {m : MethodId} {args : Array Value} {below : List Frame} {meth : Method} {c : Code} {H : Heap} {locs : List Loc} {cells slots : Nat} {Q : State → Prop}
variable {D : va_G} {tI tJ tL : ClassId} {A : Nat → Prop} {sg ad : Nat → Nat} {n : Nat} {sL : NL} {sA : NA}
variable {cc : ByteArray} {pc : Nat} {ls : Array Slot} {rest st0 : List Value}
/-- a static check that is known not to throw here -/
theorem rcS4n {y : MethodName} {bytes : ByteArray} {maxL nL index mc ms k : Nat} {ret : Option FieldType} {rm : Room} {own : String} {As : List Value} (hx : p.tables.exec = Jvm.exec) (hb : c.code = cc) (hml : c.maxLocals = nL) (hown : s.vm.findClass own = some m.cls) (hts : ∀ w ∈ wNeed, w.before args s = true) (hC : GC D tI tJ tL A sg s) (hG : GW D tI tJ tL A ad n sL sA H) (hS : va_S A s.heap H locs)
    (hM : vx_Met l y (Cond.code y bytes maxL ret :: wNeed) rm (va_Pc As (GP D tI tJ tL A sg ad n sL sA)) (va_Qv (fun _ : Unit => k = 0) (fun _ t => GW D tI tJ tL A ad n sL sA t.heap) A) (XQ D tI tJ tL A ad n sL sA k) mc ms A) (hg : GoodIn wNeed (wsS own index y (Cond.code y bytes maxL ret :: wNeed))) (hrc : rm.cells = mc) (hrs : rm.slots = ms)
    (hd : y.cls = own ∧ y.cls ≠ "java/lang/invoke/MethodHandle" ∧ y.cls ≠ "java/lang/invoke/VarHandle" ∧ (parseMethodDescriptor y.desc).map (fun d => d.parameters.length) = some As.length) (hR : rm.frames + 1 ≤ R.frames ∧ 8 + (maxL + 11) + rm.locals ≤ R.locals)
    (hsz : ls.size = nL) (hst : st0 = As.reverse ++ rest) (hr8 : (rest.map fun v => v.category).sum ≤ 8) (hdg : decode cc pc = .ok (.invokestatic index, 3)) (hf : cells + mc ≤ R.cells ∧ slots + ms ≤ R.slots) (hk0 : k = 0)
    (kk : ∀ (H1 : Heap) (locs1 : List Loc), GW D tI tJ tL A ad n sL sA H1 → va_S A s.heap H1 locs1 → W p l e R s m args below meth c H1 locs1 (cells + mc) (slots + ms) Q (F0 m (pc + 3) ls rest)) : W p l e R s m args below meth c H locs cells slots Q (F0 m pc ls st0) := by
  refine vx_callv (rest := rest) (vx_runS (As := As) ⟨hx, hb, hml, hown, hts⟩ hM (cwS As.length hts hg rfl hrc hrs hd hR) ⟨GP.blind, fun U hU hW => ⟨rfl, GP.call hC hG hS hU hW⟩⟩ rfl rfl hsz hst (lv_room hr8) hdg hf) hS (fun _ _ h => h) (fun _ h => h) (fun _ _ h => h) ?_ ?_
  · intro E ce q9 u t H1 locs1 ht hvm hp hB hz1 hk1 hS1 g1 g2 g3
    exact absurd hk0 hB.1.ne
  · intro u t H1 locs1 ht hvm hp hB hz1 hk1 hS1
    subst ht
    exact kk _ _ hB hS1
/-- findLot: throws, or answers the lot of that number -/
theorem rcV5q {y : MethodName} {bytes : ByteArray} {maxL nL index b mc ms Mc Ms code : Nat} {ret : Option FieldType} {rm : Room} {own : String} {As : List Value} {p0 : Int32} {F : Option Nat} {Qc : Array Value → State → Outcome → State → Prop} (hx : p.tables.exec = Jvm.exec) (hb : c.code = cc) (hml : c.maxLocals = nL) (hown : s.vm.findClass own = some m.cls) (hts : ∀ w ∈ wNeed, w.before args s = true) (hC : GC D tI tJ tL A sg s) (hG : GW D tI tJ tL A ad n sL sA H) (hS : va_S A s.heap H locs) (hlocks : meth.locks = false) (hT : ∀ x ∈ c.exceptionTable.toList, False)
    (hM : vx_Met l y (Cond.code y bytes maxL ret :: wNeed) rm (va_Pc (.ref b :: As) (GP D tI tJ tL A sg ad n sL sA)) (va_Qq (fun r (i : Nat) => F = some i ∧ i < n ∧ p0 = nI i ∧ r = some (ad (4 * i + 11))) (fun _ t => GW D tI tJ tL A ad n sL sA t.heap) A) (XQ D tI tJ tL A ad n sL sA (if F = none then 1 else 0)) mc ms A) (hrec : ∃ cell : Cell, H[b]? = some cell ∧ cell.vm.isStatics = false ∧ s.vm.findClass y.cls = some cell.cls) (hg : GoodIn wNeed (wsV own index y.cls y (Cond.code y bytes maxL ret :: wNeed))) (hrc : rm.cells = mc) (hrs : rm.slots = ms)
    (hd : y.cls = y.cls ∧ y.cls ≠ "java/lang/invoke/MethodHandle" ∧ y.cls ≠ "java/lang/invoke/VarHandle" ∧ (parseMethodDescriptor y.desc).map (fun d => d.parameters.length) = some As.length) (hR : rm.frames + 1 ≤ R.frames ∧ 8 + (maxL + 11) + rm.locals ≤ R.locals)
    (hsz : ls.size = nL) (hst : st0 = As.reverse ++ .ref b :: rest) (hr8 : (rest.map fun v => v.category).sum ≤ 8) (hdg : decode cc pc = .ok (.invokevirtual index, 3)) (hf : cells + mc ≤ R.cells ∧ slots + ms ≤ R.slots) (hM1 : cells + mc ≤ Mc ∧ slots + ms ≤ Ms) (hpx : F = none → code = 1)
    (kk : ∀ (i : Nat), F = some i → i < n → p0 = nI i → ∀ (H1 : Heap) (locs1 : List Loc), GW D tI tJ tL A ad n sL sA H1 → va_S A s.heap H1 locs1 → W p l e R s m args below meth c H1 locs1 (cells + mc) (slots + ms) (vx_MQ below Qc (XQ D tI tJ tL A ad n sL sA code) args s Mc Ms A) (F0 m (pc + 3) ls (.ref (ad (4 * i + 11)) :: rest))) : W p l e R s m args below meth c H locs cells slots (vx_MQ below Qc (XQ D tI tJ tL A ad n sL sA code) args s Mc Ms A) (F0 m pc ls st0) := by
  refine vx_callq (rest := rest) (vx_runV (As := As) (b := b) ⟨hx, hb, hml, hown, hts⟩ hM (cwV As.length hts hg rfl hrc hrs hd hR) ⟨GP.blind, hrec, fun U hU hW => ⟨rfl, GP.call hC hG hS hU hW⟩⟩ rfl rfl hsz hst (lv_room hr8) hdg hf) hS (fun _ _ h => h) (fun _ h => h) (fun _ _ h => h) ?_ ?_
  · intro E ce q9 u t H1 locs1 ht hvm hp hB hz1 hk1 hS1 g1 g2 g3
    subst ht
    refine rc_pass hlocks hT hB.2 hS1 hB.1 (fun hk => ?_) g1 g2 g3 hM1.1 hM1.2
    by_cases hF : F = none
    · rw [if_pos hF]
      exact hpx hF
    · rw [if_neg hF] at hk
      exact absurd rfl hk
  · intro r i t H1 locs1 ht hvm hp hB hz1 hk1 hS1
    subst ht
    obtain ⟨h1, h2, h3, rfl⟩ := hp
    exact kk i h1 h2 h3 _ _ hB hS1
end G4
/-- a contract out of its body -/
theorem en_M {l : Launch} {y : MethodName} {rm : Room} {av : List Value} {P : State → Prop} {Qc : Array Value → State → Outcome → State → Prop} {mc ms : Nat} {free : Addr → Prop} {cc : ByteArray} {maxL : Nat} {ret : Option FieldType} (hy : plainName y.cls = true) (hle : (lg_sl av).length ≤ maxL)
    (body : ∀ (p : Program) (e : Env) (s : State) (m : MethodId) (below : List Frame) (meth : Method) (c : Code), p.tables.exec = Jvm.exec → c.code = cc → c.maxLocals = maxL → s.vm.findClass y.cls = some m.cls → (∀ w ∈ wNeed, w.before av.toArray s = true) → meth.sig.returnType = ret → meth.locks = false → meth.name = y.name → P s → ∀ ls : Array Slot, lv_has ls maxL (lv_args 0 av) →
      W p l e rm s m av.toArray below meth c s.heap [] 0 0 (MQ below Qc av.toArray s mc ms free) (F0 m 0 ls [])) : Met l y (Cond.code y cc maxL ret :: wNeed) rm (va_Pc av P) Qc mc ms free := by
  refine Met.ofW (cc := cc) (maxL := maxL) (ret := ret) hy rfl ?_
  intro p e s m args below meth c s₁ B hml hv
  obtain ⟨rfl, hP⟩ := hv
  have hts := atoms_spec (ws := Cond.code y cc maxL ret :: wNeed) B.pre
  rw [lg_entry_eq]
  exact body p e s m below meth c B.exec B.bytes hml (findClass_of_methodNamed B.named) (fun w hw => hts w (List.mem_cons_of_mem _ hw)) B.returns B.notSynchronized (name_of_methodNamed B.named B.method).1 hP _ (lv_entry av hle)
/-- .. of numbers alone -/
theorem en_N {l : Launch} {y : MethodName} {rm : Room} {av : List Value} {Qc : Array Value → State → Outcome → State → Prop} {mc ms : Nat} {free : Addr → Prop} {cc : ByteArray} {maxL : Nat} {ret : Option FieldType} (hy : plainName y.cls = true) (hle : (lg_sl av).length ≤ maxL)
    (body : ∀ (p : Program) (e : Env) (s : State) (m : MethodId) (below : List Frame) (meth : Method) (c : Code), p.tables.exec = Jvm.exec → c.code = cc → c.maxLocals = maxL → s.vm.findClass y.cls = some m.cls → (∀ w ∈ wNeed, w.before av.toArray s = true) → meth.sig.returnType = ret → meth.locks = false → ∀ ls : Array Slot, lv_has ls maxL (lv_args 0 av) →
      W p l e rm s m av.toArray below meth c s.heap [] 0 0 (MQ below Qc av.toArray s mc ms free) (F0 m 0 ls [])) : Met l y (Cond.code y cc maxL ret :: wNeed) rm (fun v _ => v = av.toArray) Qc mc ms free := by
  refine Met.ofW (cc := cc) (maxL := maxL) (ret := ret) hy rfl ?_
  intro p e s m args below meth c s₁ B hml hv
  subst hv
  have hts := atoms_spec (ws := Cond.code y cc maxL ret :: wNeed) B.pre
  rw [lg_entry_eq]
  exact body p e s m below meth c B.exec B.bytes hml (findClass_of_methodNamed B.named) (fun w hw => hts w (List.mem_cons_of_mem _ hw)) B.returns B.notSynchronized _ (lv_entry av hle)
/-- a contract of one that throws -/
theorem en_X {l : Launch} {y : MethodName} {rm : Room} {av : List Value} {P : State → Prop} {Qc : Array Value → State → Outcome → State → Prop} {XC : String → State → State → Prop} {mc ms : Nat} {free : Addr → Prop} {cc : ByteArray} {maxL : Nat} {ret : Option FieldType} (hy : plainName y.cls = true) (hle : (lg_sl av).length ≤ maxL)
    (body : ∀ (p : Program) (e : Env) (s : State) (m : MethodId) (below : List Frame) (meth : Method) (c : Code), p.tables.exec = Jvm.exec → c.code = cc → c.maxLocals = maxL → s.vm.findClass y.cls = some m.cls → (∀ w ∈ wNeed, w.before av.toArray s = true) → meth.sig.returnType = ret → meth.locks = false → (∀ x ∈ c.exceptionTable.toList, False) → P s → ∀ ls : Array Slot, lv_has ls maxL (lv_args 0 av) →
      W p l e rm s m av.toArray below meth c s.heap [] 0 0 (vx_MQ below Qc XC av.toArray s mc ms free) (F0 m 0 ls [])) : vx_Met l y (Cond.code y cc maxL ret :: wNeed) rm (va_Pc av P) Qc XC mc ms free := by
  refine vx_ofW (cc := cc) (maxL := maxL) (ret := ret) hy rfl ?_
  intro p e s m args below meth c s₁ B hml hT hv
  obtain ⟨rfl, hP⟩ := hv
  have hts := atoms_spec (ws := Cond.code y cc maxL ret :: wNeed) B.pre
  rw [lg_entry_eq]
  exact body p e s m below meth c B.exec B.bytes hml (findClass_of_methodNamed B.named) (fun w hw => hts w (List.mem_cons_of_mem _ hw)) B.returns B.notSynchronized hT hP _ (lv_entry av hle)
/-- the codes' chain: a check's code, then the rest -/
def bnd (k : Nat) {α : Type} (r : Nat × α) (z : α) : Nat × α := if k = 0 then r else (k, z)
theorem bnd_0 {k : Nat} {α : Type} {r : Nat × α} {z : α} (h : k = 0) : bnd k r z = r := if_pos h
theorem bnd_n {k : Nat} {α : Type} {r : Nat × α} {z : α} (h : k ≠ 0) : bnd k r z = (k, z) := if_neg h
def bndq {α : Type} (k : Option Nat) (r : Nat → Nat × α) (z : α) : Nat × α := match k with
  | none => (1, z)
  | some i => r i
theorem bndq_s {α : Type} {k : Option Nat} {r : Nat → Nat × α} {z : α} {i : Nat} (h : k = some i) : bndq k r z = r i := by rw [h]; rfl
theorem bndq_n {α : Type} {k : Option Nat} {r : Nat → Nat × α} {z : α} (h : k = none) : bndq k r z = (1, z) := by rw [h]; rfl
