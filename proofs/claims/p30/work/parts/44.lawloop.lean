section G11
variable {p : Program} {l : Launch} {e : Env} {R : Room} {s : State} {m : MethodId} {args : Array Value} {below : List Frame} {meth : Method} {c : Code} {H : Heap} {locs : List Loc} {cells slots : Nat} {Q : State → Prop}
variable {D : va_G} {tI tJ tL : ClassId} {A : Nat → Prop} {sg ad : Nat → Nat} {n : Nat} {sL : NL} {sA : NA}
variable {cc : ByteArray} {pc : Nat} {ls : Array Slot} {rest st0 : List Value}
/-- isHouse's call -/
theorem rcSH {y : MethodName} {bytes : ByteArray} {maxL nL index mc ms : Nat} {ret : Option FieldType} {rm : Room} {own : String} {As : List Value} (hx : p.tables.exec = Jvm.exec) (hb : c.code = cc) (hml : c.maxLocals = nL) (hown : s.vm.findClass own = some m.cls) (hts : ∀ w ∈ wNeed, w.before args s = true) (hC : GC D tI tJ tL A sg s) (hG : GW D tI tJ tL A ad n sL sA H) (hS : va_S A s.heap H locs)
    (hM : Met l y (Cond.code y bytes maxL ret :: wNeed) rm (va_Pc As (GP D tI tJ tL A sg ad n sL sA)) (va_Qi (fun r (_ : Unit) => r = 1) (fun _ t => GW D tI tJ tL A ad n sL sA t.heap) A) mc ms A) (hg : GoodIn wNeed (wsS own index y (Cond.code y bytes maxL ret :: wNeed))) (hrc : rm.cells = mc) (hrs : rm.slots = ms)
    (hd : y.cls = own ∧ y.cls ≠ "java/lang/invoke/MethodHandle" ∧ y.cls ≠ "java/lang/invoke/VarHandle" ∧ (parseMethodDescriptor y.desc).map (fun d => d.parameters.length) = some As.length) (hR : rm.frames + 1 ≤ R.frames ∧ 8 + (maxL + 11) + rm.locals ≤ R.locals)
    (hsz : ls.size = nL) (hst : st0 = As.reverse ++ rest) (hr8 : (rest.map fun v => v.category).sum ≤ 8) (hdg : decode cc pc = .ok (.invokestatic index, 3)) (hf : cells + mc ≤ R.cells ∧ slots + ms ≤ R.slots)
    (kk : ∀ (H1 : Heap) (locs1 : List Loc), GW D tI tJ tL A ad n sL sA H1 → va_S A s.heap H1 locs1 → W p l e R s m args below meth c H1 locs1 (cells + mc) (slots + ms) Q (F0 m (pc + 3) ls (.int 1 :: rest))) : W p l e R s m args below meth c H locs cells slots Q (F0 m pc ls st0) := by
  refine va_calli (rest := rest) (va_runS (As := As) ⟨hx, hb, hml, hown, hts⟩ hM (cwS As.length hts hg rfl hrc hrs hd hR) ⟨GP.blind, fun U hU hW => ⟨rfl, GP.call hC hG hS hU hW⟩⟩ rfl rfl hsz hst (lv_room hr8) hdg hf) hS (fun _ _ h => h) (fun _ h => h) fun r u t H1 locs1 ht hvm hw hB hz1 hk1 hS1 => ?_
  subst hw; subst ht
  exact kk _ _ hB hS1
end G11
theorem dW_law_93 : decode code 93 = .ok (.iload 10, 2) := by decide +kernel
theorem dW_law_95 : decode code 95 = .ok (.sipush 130, 3) := by decide +kernel
theorem dW_law_98 : decode code 98 = .ok (.if_icmp .ge 1445, 3) := by decide +kernel
theorem dW_law_101 : decode code 101 = .ok (.iload 9, 2) := by decide +kernel
theorem dW_law_103 : decode code 103 = .ok (.ifCond .eq 1440, 3) := by decide +kernel
theorem dW_law_106 : decode code 106 = .ok (.iload 10, 2) := by decide +kernel
theorem dW_law_108 : decode code 108 = .ok (.aload_n 0, 1) := by decide +kernel
theorem dW_law_109 : decode code 109 = .ok (.arraylength, 1) := by decide +kernel
theorem dW_law_110 : decode code 110 = .ok (.if_icmp .ge 13, 3) := by decide +kernel
theorem dW_law_113 : decode code 113 = .ok (.aload_n 0, 1) := by decide +kernel
theorem dW_law_114 : decode code 114 = .ok (.iload 10, 2) := by decide +kernel
theorem dW_law_116 : decode code 116 = .ok (.iaload, 1) := by decide +kernel
theorem dW_law_117 : decode code 117 = .ok (.ldc 128, 2) := by decide +kernel
theorem dW_law_119 : decode code 119 = .ok (.iand, 1) := by decide +kernel
theorem dW_law_120 : decode code 120 = .ok (.goto 24, 3) := by decide +kernel
theorem dW_law_123 : decode code 123 = .ok (.ldc 129, 2) := by decide +kernel
theorem dW_law_125 : decode code 125 = .ok (.iload 10, 2) := by decide +kernel
theorem dW_law_127 : decode code 127 = .ok (.imul, 1) := by decide +kernel
theorem dW_law_128 : decode code 128 = .ok (.iload 10, 2) := by decide +kernel
theorem dW_law_130 : decode code 130 = .ok (.imul, 1) := by decide +kernel
theorem dW_law_131 : decode code 131 = .ok (.sipush 9001, 3) := by decide +kernel
theorem dW_law_134 : decode code 134 = .ok (.iload 10, 2) := by decide +kernel
theorem dW_law_136 : decode code 136 = .ok (.imul, 1) := by decide +kernel
theorem dW_law_137 : decode code 137 = .ok (.iadd, 1) := by decide +kernel
theorem dW_law_138 : decode code 138 = .ok (.bipush 31, 2) := by decide +kernel
theorem dW_law_140 : decode code 140 = .ok (.iadd, 1) := by decide +kernel
theorem dW_law_141 : decode code 141 = .ok (.ldc 128, 2) := by decide +kernel
theorem dW_law_143 : decode code 143 = .ok (.iand, 1) := by decide +kernel
theorem dW_law_144 : decode code 144 = .ok (.istore 11, 2) := by decide +kernel
theorem dW_law_146 : decode code 146 = .ok (.iload 10, 2) := by decide +kernel
theorem dW_law_148 : decode code 148 = .ok (.iconst 2, 1) := by decide +kernel
theorem dW_law_149 : decode code 149 = .ok (.if_icmp .ge 7, 3) := by decide +kernel
theorem dW_law_152 : decode code 152 = .ok (.iconst 0, 1) := by decide +kernel
theorem dW_law_153 : decode code 153 = .ok (.goto 8, 3) := by decide +kernel
theorem dW_law_156 : decode code 156 = .ok (.iload 11, 2) := by decide +kernel
theorem dW_law_158 : decode code 158 = .ok (.bipush 24, 2) := by decide +kernel
theorem dW_law_160 : decode code 160 = .ok (.irem, 1) := by decide +kernel
theorem dW_law_161 : decode code 161 = .ok (.istore 12, 2) := by decide +kernel
theorem dW_law_163 : decode code 163 = .ok (.iload 11, 2) := by decide +kernel
theorem dW_law_165 : decode code 165 = .ok (.bipush 24, 2) := by decide +kernel
theorem dW_law_167 : decode code 167 = .ok (.idiv, 1) := by decide +kernel
theorem dW_law_168 : decode code 168 = .ok (.istore 13, 2) := by decide +kernel
theorem dW_law_170 : decode code 170 = .ok (.aload_n 2, 1) := by decide +kernel
theorem dW_law_171 : decode code 171 = .ok (.iconst 0, 1) := by decide +kernel
theorem dW_law_172 : decode code 172 = .ok (.iaload, 1) := by decide +kernel
theorem dW_law_173 : decode code 173 = .ok (.ifCond .ne 7, 3) := by decide +kernel
theorem dW_law_176 : decode code 176 = .ok (.iconst 0, 1) := by decide +kernel
theorem dW_law_177 : decode code 177 = .ok (.goto 9, 3) := by decide +kernel
theorem dW_law_180 : decode code 180 = .ok (.iload 13, 2) := by decide +kernel
theorem dW_law_182 : decode code 182 = .ok (.aload_n 2, 1) := by decide +kernel
theorem dW_law_183 : decode code 183 = .ok (.iconst 0, 1) := by decide +kernel
theorem dW_law_184 : decode code 184 = .ok (.iaload, 1) := by decide +kernel
theorem dW_law_185 : decode code 185 = .ok (.irem, 1) := by decide +kernel
theorem dW_law_186 : decode code 186 = .ok (.istore 14, 2) := by decide +kernel
theorem dW_law_188 : decode code 188 = .ok (.bipush 10, 2) := by decide +kernel
theorem dW_law_190 : decode code 190 = .ok (.iload 14, 2) := by decide +kernel
theorem dW_law_192 : decode code 192 = .ok (.imul, 1) := by decide +kernel
theorem dW_law_193 : decode code 193 = .ok (.istore 15, 2) := by decide +kernel
theorem dW_law_195 : decode code 195 = .ok (.aload_n 3, 1) := by decide +kernel
theorem dW_law_196 : decode code 196 = .ok (.iload 15, 2) := by decide +kernel
theorem dW_law_198 : decode code 198 = .ok (.iconst 3, 1) := by decide +kernel
theorem dW_law_199 : decode code 199 = .ok (.iadd, 1) := by decide +kernel
theorem dW_law_200 : decode code 200 = .ok (.iaload, 1) := by decide +kernel
theorem dW_law_201 : decode code 201 = .ok (.istore 16, 2) := by decide +kernel
theorem dW_law_203 : decode code 203 = .ok (.iload 13, 2) := by decide +kernel
theorem dW_law_205 : decode code 205 = .ok (.bipush 6, 2) := by decide +kernel
theorem dW_law_207 : decode code 207 = .ok (.idiv, 1) := by decide +kernel
theorem dW_law_208 : decode code 208 = .ok (.bipush 10, 2) := by decide +kernel
theorem dW_law_210 : decode code 210 = .ok (.irem, 1) := by decide +kernel
theorem dW_law_211 : decode code 211 = .ok (.istore 17, 2) := by decide +kernel
theorem dW_law_213 : decode code 213 = .ok (.iload 13, 2) := by decide +kernel
theorem dW_law_215 : decode code 215 = .ok (.bipush 60, 2) := by decide +kernel
theorem dW_law_217 : decode code 217 = .ok (.idiv, 1) := by decide +kernel
theorem dW_law_218 : decode code 218 = .ok (.iconst 4, 1) := by decide +kernel
theorem dW_law_219 : decode code 219 = .ok (.irem, 1) := by decide +kernel
theorem dW_law_220 : decode code 220 = .ok (.ifCond .ne 17, 3) := by decide +kernel
theorem dW_law_223 : decode code 223 = .ok (.iconst 1, 1) := by decide +kernel
theorem dW_law_224 : decode code 224 = .ok (.iload 13, 2) := by decide +kernel
theorem dW_law_226 : decode code 226 = .ok (.sipush 240, 3) := by decide +kernel
theorem dW_law_229 : decode code 229 = .ok (.idiv, 1) := by decide +kernel
theorem dW_law_230 : decode code 230 = .ok (.ldc 130, 2) := by decide +kernel
theorem dW_law_232 : decode code 232 = .ok (.irem, 1) := by decide +kernel
theorem dW_law_233 : decode code 233 = .ok (.iadd, 1) := by decide +kernel
theorem dW_law_234 : decode code 234 = .ok (.goto 28, 3) := by decide +kernel
theorem dW_law_237 : decode code 237 = .ok (.iconst 1, 1) := by decide +kernel
theorem dW_law_238 : decode code 238 = .ok (.iload 13, 2) := by decide +kernel
theorem dW_law_240 : decode code 240 = .ok (.sipush 240, 3) := by decide +kernel
theorem dW_law_243 : decode code 243 = .ok (.idiv, 1) := by decide +kernel
theorem dW_law_244 : decode code 244 = .ok (.iload 13, 2) := by decide +kernel
theorem dW_law_246 : decode code 246 = .ok (.iconst 2, 1) := by decide +kernel
theorem dW_law_247 : decode code 247 = .ok (.irem, 1) := by decide +kernel
theorem dW_law_248 : decode code 248 = .ok (.ifCond .ne 9, 3) := by decide +kernel
theorem dW_law_251 : decode code 251 = .ok (.sipush 30000, 3) := by decide +kernel
theorem dW_law_254 : decode code 254 = .ok (.goto 6, 3) := by decide +kernel
theorem dW_law_257 : decode code 257 = .ok (.sipush 1200, 3) := by decide +kernel
theorem dW_law_260 : decode code 260 = .ok (.irem, 1) := by decide +kernel
theorem dW_law_261 : decode code 261 = .ok (.iadd, 1) := by decide +kernel
theorem dW_law_262 : decode code 262 = .ok (.istore 18, 2) := by decide +kernel
theorem dW_law_264 : decode code 264 = .ok (.iload 12, 2) := by decide +kernel
theorem dW_law_266 : decode code 266 = .ok (.ifCond .ne 168, 3) := by decide +kernel
theorem dW_law_269 : decode code 269 = .ok (.aload_n 2, 1) := by decide +kernel
theorem dW_law_270 : decode code 270 = .ok (.iconst 0, 1) := by decide +kernel
theorem dW_law_271 : decode code 271 = .ok (.iaload, 1) := by decide +kernel
theorem dW_law_272 : decode code 272 = .ok (.bipush 6, 2) := by decide +kernel
theorem dW_law_274 : decode code 274 = .ok (.if_icmp .ge 160, 3) := by decide +kernel
theorem dW_law_434 : decode code 434 = .ok (.iload 12, 2) := by decide +kernel
theorem dW_law_436 : decode code 436 = .ok (.bipush 10, 2) := by decide +kernel
theorem dW_law_438 : decode code 438 = .ok (.if_icmp .ge 102, 3) := by decide +kernel
theorem dW_law_540 : decode code 540 = .ok (.iload 12, 2) := by decide +kernel
theorem dW_law_542 : decode code 542 = .ok (.bipush 13, 2) := by decide +kernel
theorem dW_law_544 : decode code 544 = .ok (.if_icmp .ge 46, 3) := by decide +kernel
theorem dW_law_590 : decode code 590 = .ok (.iload 12, 2) := by decide +kernel
theorem dW_law_592 : decode code 592 = .ok (.bipush 13, 2) := by decide +kernel
theorem dW_law_594 : decode code 594 = .ok (.if_icmp .ne 83, 3) := by decide +kernel
theorem dW_law_677 : decode code 677 = .ok (.iload 12, 2) := by decide +kernel
theorem dW_law_679 : decode code 679 = .ok (.bipush 16, 2) := by decide +kernel
theorem dW_law_681 : decode code 681 = .ok (.if_icmp .ge 120, 3) := by decide +kernel
theorem dW_law_801 : decode code 801 = .ok (.iload 12, 2) := by decide +kernel
theorem dW_law_803 : decode code 803 = .ok (.bipush 16, 2) := by decide +kernel
theorem dW_law_805 : decode code 805 = .ok (.if_icmp .ne 132, 3) := by decide +kernel
theorem dW_law_937 : decode code 937 = .ok (.iload 12, 2) := by decide +kernel
theorem dW_law_939 : decode code 939 = .ok (.bipush 17, 2) := by decide +kernel
theorem dW_law_941 : decode code 941 = .ok (.if_icmp .ne 105, 3) := by decide +kernel
theorem dW_law_1046 : decode code 1046 = .ok (.iload 12, 2) := by decide +kernel
theorem dW_law_1048 : decode code 1048 = .ok (.bipush 20, 2) := by decide +kernel
theorem dW_law_1050 : decode code 1050 = .ok (.if_icmp .ge 149, 3) := by decide +kernel
theorem dW_law_1199 : decode code 1199 = .ok (.iload 12, 2) := by decide +kernel
theorem dW_law_1201 : decode code 1201 = .ok (.bipush 20, 2) := by decide +kernel
theorem dW_law_1203 : decode code 1203 = .ok (.if_icmp .ne 127, 3) := by decide +kernel
theorem dW_law_1330 : decode code 1330 = .ok (.iload 12, 2) := by decide +kernel
theorem dW_law_1332 : decode code 1332 = .ok (.bipush 21, 2) := by decide +kernel
theorem dW_law_1334 : decode code 1334 = .ok (.if_icmp .ne 55, 3) := by decide +kernel
theorem dW_law_1389 : decode code 1389 = .ok (.iload 12, 2) := by decide +kernel
theorem dW_law_1391 : decode code 1391 = .ok (.bipush 22, 2) := by decide +kernel
theorem dW_law_1393 : decode code 1393 = .ok (.if_icmp .ne 36, 3) := by decide +kernel
theorem dW_law_1500 : decode code 1500 = .ok (.iload 9, 2) := by decide +kernel
theorem dW_law_1502 : decode code 1502 = .ok (.ifCond .eq 32, 3) := by decide +kernel
theorem dW_law_1505 : decode code 1505 = .ok (.iload 10, 2) := by decide +kernel
theorem dW_law_1507 : decode code 1507 = .ok (.iconst 3, 1) := by decide +kernel
theorem dW_law_1508 : decode code 1508 = .ok (.irem, 1) := by decide +kernel
theorem dW_law_1509 : decode code 1509 = .ok (.iconst 2, 1) := by decide +kernel
theorem dW_law_1510 : decode code 1510 = .ok (.if_icmp .lt 20, 3) := by decide +kernel
theorem dW_law_1513 : decode code 1513 = .ok (.aload_n 1, 1) := by decide +kernel
theorem dW_law_1514 : decode code 1514 = .ok (.aload_n 2, 1) := by decide +kernel
theorem dW_law_1515 : decode code 1515 = .ok (.aload_n 3, 1) := by decide +kernel
theorem dW_law_1516 : decode code 1516 = .ok (.aload 4, 2) := by decide +kernel
theorem dW_law_1518 : decode code 1518 = .ok (.aload 5, 2) := by decide +kernel
theorem dW_law_1520 : decode code 1520 = .ok (.aload 8, 2) := by decide +kernel
theorem dW_law_1522 : decode code 1522 = .ok (.iload 13, 2) := by decide +kernel
theorem dW_law_1524 : decode code 1524 = .ok (.invokestatic 124, 3) := by decide +kernel
theorem dW_law_1527 : decode code 1527 = .ok (.ifCond .eq 7, 3) := by decide +kernel
theorem dW_law_1530 : decode code 1530 = .ok (.iconst 1, 1) := by decide +kernel
theorem dW_law_1531 : decode code 1531 = .ok (.goto 4, 3) := by decide +kernel
theorem dW_law_1535 : decode code 1535 = .ok (.istore 9, 2) := by decide +kernel
theorem dW_law_1537 : decode code 1537 = .ok (.iinc 10 1, 3) := by decide +kernel
theorem dW_law_1540 : decode code 1540 = .ok (.goto (-1447), 3) := by decide +kernel
theorem dW_law_1543 : decode code 1543 = .ok (.iload 9, 2) := by decide +kernel
theorem dW_law_1545 : decode code 1545 = .ok (.ifCond .eq 24, 3) := by decide +kernel
theorem dW_law_1548 : decode code 1548 = .ok (.aload_n 1, 1) := by decide +kernel
theorem dW_law_1549 : decode code 1549 = .ok (.aload_n 2, 1) := by decide +kernel
theorem dW_law_1550 : decode code 1550 = .ok (.aload_n 3, 1) := by decide +kernel
theorem dW_law_1551 : decode code 1551 = .ok (.aload 4, 2) := by decide +kernel
theorem dW_law_1553 : decode code 1553 = .ok (.aload 5, 2) := by decide +kernel
theorem dW_law_1555 : decode code 1555 = .ok (.aload 8, 2) := by decide +kernel
theorem dW_law_1557 : decode code 1557 = .ok (.ldc 148, 2) := by decide +kernel
theorem dW_law_1559 : decode code 1559 = .ok (.invokestatic 124, 3) := by decide +kernel
theorem dW_law_1562 : decode code 1562 = .ok (.ifCond .eq 7, 3) := by decide +kernel
theorem dW_law_1565 : decode code 1565 = .ok (.iconst 1, 1) := by decide +kernel
theorem dW_law_1566 : decode code 1566 = .ok (.goto 4, 3) := by decide +kernel
theorem dW_law_1570 : decode code 1570 = .ok (.ireturn, 1) := by decide +kernel
set_option maxHeartbeats 4000000 in
set_option maxRecDepth 100000 in
theorem lc_bid {p : Program} {l : Launch} {e : Env} {s : State} {m : MethodId} {below : List Frame} {meth : Method} {c : Code} {b : Nat} (hl9 : l.stackTraces = false) (hx : p.tables.exec = Jvm.exec) (hb : c.code = code) (hml : c.maxLocals = 22) (hown : s.vm.findClass "DroitLineLaw" = some m.cls) (hts : ∀ w ∈ wNeed, w.before #[Value.ref b] s = true)
    {D : va_G} {tI tJ tL : ClassId} {sg : Nat → Nat} (hC : GC D tI tJ tL (A0 s) sg s) {t Y kd X i q a K cells slots : Nat} (hK : K ≤ 130) (hcl : cells + 60 ≤ 796740) (hsl : slots + 300 ≤ 6711247) (hY : Y < 2147483648) {ad : Nat → Nat} {n : Nat} {sL : NL} {sA : NA} (hI : INV n K sL sA) (hi : i < n) (hq : q < 10) (ha1 : 1 ≤ a) (ha2 : a ≤ 1000000) {H : Heap} {locs : List Loc} (hG : GW D tI tJ tL (A0 s) ad n sL sA H) (hS : va_S (A0 s) s.heap H locs) {ls : Array Slot} (hl : lv_has ls 22 [(18, .int (nI a)), (17, .int (nI q)), (16, .int (sA 5 (10 * i + 3))), (15, .int (nI (10 * i))), (14, .int (nI i)), (13, .int (nI Y)), (12, .int (nI kd)), (11, .int (nI X)), (10, .int (nI t)), (9, .int 1), (8, .ref (ad 10)), (7, .ref (ad 9)), (6, .ref (ad 8)), (5, .ref (ad 7)), (4, .ref (ad 6)), (3, .ref (ad 5)), (2, .ref (ad 4)), (1, .ref (ad 0)), (0, .ref b)])
    (cont : CONT p l e s m b below meth c D tI tJ tL t Y K cells slots) : W p l e room_1 s m #[Value.ref b] below meth c H locs cells slots (lw_Z below #[Value.ref b] s) (F0 m 441 ls []) := by
  have hn6 := hI.n6
  rcases (hI.si hi).2.2.2.1.2 with h | h | h | h | h <;> rw [h] at hl
  · exact lc_bid_0 hl9 hx hb hml hown hts hC hK hcl hsl hY hI hi h hq ha1 ha2 hG hS hl cont
  · exact lc_bid_1 hl9 hx hb hml hown hts hC hK hcl hsl hY hI hi h hq ha1 ha2 hG hS hl cont
  · exact lc_bid_2 hl9 hx hb hml hown hts hC hK hcl hsl hY hI hi h hq ha1 ha2 hG hS hl cont
  · exact lc_bid_3 hl9 hx hb hml hown hts hC hK hcl hsl hY hI hi h hq ha1 ha2 hG hS hl cont
  · exact lc_bid_4 hl9 hx hb hml hown hts hC hK hcl hsl hY hI hi h hq ha1 ha2 hG hS hl cont
set_option maxHeartbeats 4000000 in
set_option maxRecDepth 100000 in
theorem lc_hammer {p : Program} {l : Launch} {e : Env} {s : State} {m : MethodId} {below : List Frame} {meth : Method} {c : Code} {b : Nat} (hl9 : l.stackTraces = false) (hx : p.tables.exec = Jvm.exec) (hb : c.code = code) (hml : c.maxLocals = 22) (hown : s.vm.findClass "DroitLineLaw" = some m.cls) (hts : ∀ w ∈ wNeed, w.before #[Value.ref b] s = true)
    {D : va_G} {tI tJ tL : ClassId} {sg : Nat → Nat} (hC : GC D tI tJ tL (A0 s) sg s) {t Y kd X i q a K cells slots : Nat} (hK : K ≤ 130) (hcl : cells + 60 ≤ 796740) (hsl : slots + 300 ≤ 6711247) (hY : Y < 2147483648) {ad : Nat → Nat} {n : Nat} {sL : NL} {sA : NA} (hI : INV n K sL sA) (hi : i < n) (hq : q < 10) (ha1 : 1 ≤ a) (ha2 : a ≤ 1000000) {H : Heap} {locs : List Loc} (hG : GW D tI tJ tL (A0 s) ad n sL sA H) (hS : va_S (A0 s) s.heap H locs) {ls : Array Slot} (hl : lv_has ls 22 [(18, .int (nI a)), (17, .int (nI q)), (16, .int (sA 5 (10 * i + 3))), (15, .int (nI (10 * i))), (14, .int (nI i)), (13, .int (nI Y)), (12, .int (nI kd)), (11, .int (nI X)), (10, .int (nI t)), (9, .int 1), (8, .ref (ad 10)), (7, .ref (ad 9)), (6, .ref (ad 8)), (5, .ref (ad 7)), (4, .ref (ad 6)), (3, .ref (ad 5)), (2, .ref (ad 4)), (1, .ref (ad 0)), (0, .ref b)])
    (cont : CONT p l e s m b below meth c D tI tJ tL t Y K cells slots) : W p l e room_1 s m #[Value.ref b] below meth c H locs cells slots (lw_Z below #[Value.ref b] s) (F0 m 547 ls []) := by
  have hn6 := hI.n6
  rcases (hI.si hi).2.2.2.1.2 with h | h | h | h | h <;> rw [h] at hl
  · exact lc_hammer_0 hl9 hx hb hml hown hts hC hK hcl hsl hY hI hi h hq ha1 ha2 hG hS hl cont
  · exact lc_hammer_1 hl9 hx hb hml hown hts hC hK hcl hsl hY hI hi h hq ha1 ha2 hG hS hl cont
  · exact lc_hammer_2 hl9 hx hb hml hown hts hC hK hcl hsl hY hI hi h hq ha1 ha2 hG hS hl cont
  · exact lc_hammer_3 hl9 hx hb hml hown hts hC hK hcl hsl hY hI hi h hq ha1 ha2 hG hS hl cont
  · exact lc_hammer_4 hl9 hx hb hml hown hts hC hK hcl hsl hY hI hi h hq ha1 ha2 hG hS hl cont
set_option maxHeartbeats 4000000 in
set_option maxRecDepth 100000 in
theorem lc_again {p : Program} {l : Launch} {e : Env} {s : State} {m : MethodId} {below : List Frame} {meth : Method} {c : Code} {b : Nat} (hl9 : l.stackTraces = false) (hx : p.tables.exec = Jvm.exec) (hb : c.code = code) (hml : c.maxLocals = 22) (hown : s.vm.findClass "DroitLineLaw" = some m.cls) (hts : ∀ w ∈ wNeed, w.before #[Value.ref b] s = true)
    {D : va_G} {tI tJ tL : ClassId} {sg : Nat → Nat} (hC : GC D tI tJ tL (A0 s) sg s) {t Y kd X i q a K cells slots : Nat} (hK : K ≤ 130) (hcl : cells + 60 ≤ 796740) (hsl : slots + 300 ≤ 6711247) (hY : Y < 2147483648) {ad : Nat → Nat} {n : Nat} {sL : NL} {sA : NA} (hI : INV n K sL sA) (hi : i < n) (hq : q < 10) (ha1 : 1 ≤ a) (ha2 : a ≤ 1000000) {H : Heap} {locs : List Loc} (hG : GW D tI tJ tL (A0 s) ad n sL sA H) (hS : va_S (A0 s) s.heap H locs) {ls : Array Slot} (hl : lv_has ls 22 [(18, .int (nI a)), (17, .int (nI q)), (16, .int (sA 5 (10 * i + 3))), (15, .int (nI (10 * i))), (14, .int (nI i)), (13, .int (nI Y)), (12, .int (nI kd)), (11, .int (nI X)), (10, .int (nI t)), (9, .int 1), (8, .ref (ad 10)), (7, .ref (ad 9)), (6, .ref (ad 8)), (5, .ref (ad 7)), (4, .ref (ad 6)), (3, .ref (ad 5)), (2, .ref (ad 4)), (1, .ref (ad 0)), (0, .ref b)])
    (cont : CONT p l e s m b below meth c D tI tJ tL t Y K cells slots) : W p l e room_1 s m #[Value.ref b] below meth c H locs cells slots (lw_Z below #[Value.ref b] s) (F0 m 597 ls []) := by
  have hn6 := hI.n6
  rcases (hI.si hi).2.2.2.1.2 with h | h | h | h | h <;> rw [h] at hl
  · exact lc_again_0 hl9 hx hb hml hown hts hC hK hcl hsl hY hI hi h hq ha1 ha2 hG hS hl cont
  · exact lc_again_1 hl9 hx hb hml hown hts hC hK hcl hsl hY hI hi h hq ha1 ha2 hG hS hl cont
  · exact lc_again_2 hl9 hx hb hml hown hts hC hK hcl hsl hY hI hi h hq ha1 ha2 hG hS hl cont
  · exact lc_again_3 hl9 hx hb hml hown hts hC hK hcl hsl hY hI hi h hq ha1 ha2 hG hS hl cont
  · exact lc_again_4 hl9 hx hb hml hown hts hC hK hcl hsl hY hI hi h hq ha1 ha2 hG hS hl cont
set_option maxHeartbeats 4000000 in
set_option maxRecDepth 100000 in
theorem lc_pay {p : Program} {l : Launch} {e : Env} {s : State} {m : MethodId} {below : List Frame} {meth : Method} {c : Code} {b : Nat} (hl9 : l.stackTraces = false) (hx : p.tables.exec = Jvm.exec) (hb : c.code = code) (hml : c.maxLocals = 22) (hown : s.vm.findClass "DroitLineLaw" = some m.cls) (hts : ∀ w ∈ wNeed, w.before #[Value.ref b] s = true)
    {D : va_G} {tI tJ tL : ClassId} {sg : Nat → Nat} (hC : GC D tI tJ tL (A0 s) sg s) {t Y kd X i q a K cells slots : Nat} (hK : K ≤ 130) (hcl : cells + 60 ≤ 796740) (hsl : slots + 300 ≤ 6711247) (hY : Y < 2147483648) {ad : Nat → Nat} {n : Nat} {sL : NL} {sA : NA} (hI : INV n K sL sA) (hi : i < n) (hq : q < 10) (ha1 : 1 ≤ a) (ha2 : a ≤ 1000000) {H : Heap} {locs : List Loc} (hG : GW D tI tJ tL (A0 s) ad n sL sA H) (hS : va_S (A0 s) s.heap H locs) {ls : Array Slot} (hl : lv_has ls 22 [(18, .int (nI a)), (17, .int (nI q)), (16, .int (sA 5 (10 * i + 3))), (15, .int (nI (10 * i))), (14, .int (nI i)), (13, .int (nI Y)), (12, .int (nI kd)), (11, .int (nI X)), (10, .int (nI t)), (9, .int 1), (8, .ref (ad 10)), (7, .ref (ad 9)), (6, .ref (ad 8)), (5, .ref (ad 7)), (4, .ref (ad 6)), (3, .ref (ad 5)), (2, .ref (ad 4)), (1, .ref (ad 0)), (0, .ref b)])
    (cont : CONT p l e s m b below meth c D tI tJ tL t Y K cells slots) : W p l e room_1 s m #[Value.ref b] below meth c H locs cells slots (lw_Z below #[Value.ref b] s) (F0 m 684 ls []) := by
  have hn6 := hI.n6
  rcases (hI.si hi).2.2.2.1.2 with h | h | h | h | h <;> rw [h] at hl
  · exact lc_pay_0 hl9 hx hb hml hown hts hC hK hcl hsl hY hI hi h hq ha1 ha2 hG hS hl cont
  · exact lc_pay_1 hl9 hx hb hml hown hts hC hK hcl hsl hY hI hi h hq ha1 ha2 hG hS hl cont
  · rcases (hI.si hi).2.2.2.2.2.2.1 with ⟨h7, -⟩ | ⟨q7, hq7, h7, -⟩
    · exact lc_pay_2a hl9 hx hb hml hown hts hC hK hcl hsl hY hI hi h h7 hq ha1 ha2 hG hS hl cont
    · exact lc_pay_2b hl9 hx hb hml hown hts hC hK hcl hsl hY hI hi h hq7 h7 hq ha1 ha2 hG hS hl cont
  · exact lc_pay_3 hl9 hx hb hml hown hts hC hK hcl hsl hY hI hi h hq ha1 ha2 hG hS hl cont
  · exact lc_pay_4 hl9 hx hb hml hown hts hC hK hcl hsl hY hI hi h hq ha1 ha2 hG hS hl cont
set_option maxHeartbeats 4000000 in
set_option maxRecDepth 100000 in
theorem lc_defaults {p : Program} {l : Launch} {e : Env} {s : State} {m : MethodId} {below : List Frame} {meth : Method} {c : Code} {b : Nat} (hl9 : l.stackTraces = false) (hx : p.tables.exec = Jvm.exec) (hb : c.code = code) (hml : c.maxLocals = 22) (hown : s.vm.findClass "DroitLineLaw" = some m.cls) (hts : ∀ w ∈ wNeed, w.before #[Value.ref b] s = true)
    {D : va_G} {tI tJ tL : ClassId} {sg : Nat → Nat} (hC : GC D tI tJ tL (A0 s) sg s) {t Y kd X i q a K cells slots : Nat} (hK : K ≤ 130) (hcl : cells + 60 ≤ 796740) (hsl : slots + 300 ≤ 6711247) (hY : Y < 2147483648) {ad : Nat → Nat} {n : Nat} {sL : NL} {sA : NA} (hI : INV n K sL sA) (hi : i < n) (hq : q < 10) (ha1 : 1 ≤ a) (ha2 : a ≤ 1000000) {H : Heap} {locs : List Loc} (hG : GW D tI tJ tL (A0 s) ad n sL sA H) (hS : va_S (A0 s) s.heap H locs) {ls : Array Slot} (hl : lv_has ls 22 [(18, .int (nI a)), (17, .int (nI q)), (16, .int (sA 5 (10 * i + 3))), (15, .int (nI (10 * i))), (14, .int (nI i)), (13, .int (nI Y)), (12, .int (nI kd)), (11, .int (nI X)), (10, .int (nI t)), (9, .int 1), (8, .ref (ad 10)), (7, .ref (ad 9)), (6, .ref (ad 8)), (5, .ref (ad 7)), (4, .ref (ad 6)), (3, .ref (ad 5)), (2, .ref (ad 4)), (1, .ref (ad 0)), (0, .ref b)])
    (cont : CONT p l e s m b below meth c D tI tJ tL t Y K cells slots) : W p l e room_1 s m #[Value.ref b] below meth c H locs cells slots (lw_Z below #[Value.ref b] s) (F0 m 808 ls []) := by
  have hn6 := hI.n6
  rcases (hI.si hi).2.2.2.1.2 with h | h | h | h | h <;> rw [h] at hl
  · exact lc_defaults_0 hl9 hx hb hml hown hts hC hK hcl hsl hY hI hi h hq ha1 ha2 hG hS hl cont
  · exact lc_defaults_1 hl9 hx hb hml hown hts hC hK hcl hsl hY hI hi h hq ha1 ha2 hG hS hl cont
  · rcases (hI.si hi).2.2.2.2.2.2.1 with ⟨h7, -⟩ | ⟨q7, hq7, h7, -⟩
    · exact lc_defaults_2a hl9 hx hb hml hown hts hC hK hcl hsl hY hI hi h h7 hq ha1 ha2 hG hS hl cont
    · exact lc_defaults_2b hl9 hx hb hml hown hts hC hK hcl hsl hY hI hi h hq7 h7 hq ha1 ha2 hG hS hl cont
  · exact lc_defaults_3 hl9 hx hb hml hown hts hC hK hcl hsl hY hI hi h hq ha1 ha2 hG hS hl cont
  · exact lc_defaults_4 hl9 hx hb hml hown hts hC hK hcl hsl hY hI hi h hq ha1 ha2 hG hS hl cont
set_option maxHeartbeats 4000000 in
set_option maxRecDepth 100000 in
theorem lc_settle {p : Program} {l : Launch} {e : Env} {s : State} {m : MethodId} {below : List Frame} {meth : Method} {c : Code} {b : Nat} (hl9 : l.stackTraces = false) (hx : p.tables.exec = Jvm.exec) (hb : c.code = code) (hml : c.maxLocals = 22) (hown : s.vm.findClass "DroitLineLaw" = some m.cls) (hts : ∀ w ∈ wNeed, w.before #[Value.ref b] s = true)
    {D : va_G} {tI tJ tL : ClassId} {sg : Nat → Nat} (hC : GC D tI tJ tL (A0 s) sg s) {t Y kd X i q a K cells slots : Nat} (hK : K ≤ 130) (hcl : cells + 60 ≤ 796740) (hsl : slots + 300 ≤ 6711247) (hY : Y < 2147483648) {ad : Nat → Nat} {n : Nat} {sL : NL} {sA : NA} (hI : INV n K sL sA) (hi : i < n) (hq : q < 10) (ha1 : 1 ≤ a) (ha2 : a ≤ 1000000) {H : Heap} {locs : List Loc} (hG : GW D tI tJ tL (A0 s) ad n sL sA H) (hS : va_S (A0 s) s.heap H locs) {ls : Array Slot} (hl : lv_has ls 22 [(18, .int (nI a)), (17, .int (nI q)), (16, .int (sA 5 (10 * i + 3))), (15, .int (nI (10 * i))), (14, .int (nI i)), (13, .int (nI Y)), (12, .int (nI kd)), (11, .int (nI X)), (10, .int (nI t)), (9, .int 1), (8, .ref (ad 10)), (7, .ref (ad 9)), (6, .ref (ad 8)), (5, .ref (ad 7)), (4, .ref (ad 6)), (3, .ref (ad 5)), (2, .ref (ad 4)), (1, .ref (ad 0)), (0, .ref b)])
    (cont : CONT p l e s m b below meth c D tI tJ tL t Y K cells slots) : W p l e room_1 s m #[Value.ref b] below meth c H locs cells slots (lw_Z below #[Value.ref b] s) (F0 m 1206 ls []) := by
  have hn6 := hI.n6
  rcases (hI.si hi).2.2.2.1.2 with h | h | h | h | h <;> rw [h] at hl
  · exact lc_settle_0 hl9 hx hb hml hown hts hC hK hcl hsl hY hI hi h hq ha1 ha2 hG hS hl cont
  · exact lc_settle_1 hl9 hx hb hml hown hts hC hK hcl hsl hY hI hi h hq ha1 ha2 hG hS hl cont
  · exact lc_settle_2 hl9 hx hb hml hown hts hC hK hcl hsl hY hI hi h hq ha1 ha2 hG hS hl cont
  · exact lc_settle_3 hl9 hx hb hml hown hts hC hK hcl hsl hY hI hi h hq ha1 ha2 hG hS hl cont
  · exact lc_settle_4 hl9 hx hb hml hown hts hC hK hcl hsl hY hI hi h hq ha1 ha2 hG hS hl cont
set_option maxHeartbeats 4000000 in
set_option maxRecDepth 100000 in
theorem lc_advance {p : Program} {l : Launch} {e : Env} {s : State} {m : MethodId} {below : List Frame} {meth : Method} {c : Code} {b : Nat} (hl9 : l.stackTraces = false) (hx : p.tables.exec = Jvm.exec) (hb : c.code = code) (hml : c.maxLocals = 22) (hown : s.vm.findClass "DroitLineLaw" = some m.cls) (hts : ∀ w ∈ wNeed, w.before #[Value.ref b] s = true)
    {D : va_G} {tI tJ tL : ClassId} {sg : Nat → Nat} (hC : GC D tI tJ tL (A0 s) sg s) {t Y kd X i q a K cells slots : Nat} (hK : K ≤ 130) (hcl : cells + 60 ≤ 796740) (hsl : slots + 300 ≤ 6711247) (hY : Y < 2147483648) {ad : Nat → Nat} {n : Nat} {sL : NL} {sA : NA} (hI : INV n K sL sA) (hi : i < n) (hq : q < 10) (ha1 : 1 ≤ a) (ha2 : a ≤ 1000000) {H : Heap} {locs : List Loc} (hG : GW D tI tJ tL (A0 s) ad n sL sA H) (hS : va_S (A0 s) s.heap H locs) {ls : Array Slot} (hl : lv_has ls 22 [(18, .int (nI a)), (17, .int (nI q)), (16, .int (sA 5 (10 * i + 3))), (15, .int (nI (10 * i))), (14, .int (nI i)), (13, .int (nI Y)), (12, .int (nI kd)), (11, .int (nI X)), (10, .int (nI t)), (9, .int 1), (8, .ref (ad 10)), (7, .ref (ad 9)), (6, .ref (ad 8)), (5, .ref (ad 7)), (4, .ref (ad 6)), (3, .ref (ad 5)), (2, .ref (ad 4)), (1, .ref (ad 0)), (0, .ref b)])
    (cont : CONT p l e s m b below meth c D tI tJ tL t Y K cells slots) : W p l e room_1 s m #[Value.ref b] below meth c H locs cells slots (lw_Z below #[Value.ref b] s) (F0 m 1053 ls []) := by
  have hn6 := hI.n6
  rcases (hI.si hi).2.2.2.1.2 with h | h | h | h | h <;> rw [h] at hl
  · exact lc_advance_0 hl9 hx hb hml hown hts hC hK hcl hsl hY hI hi h hq ha1 ha2 hG hS hl cont
  · exact lc_advance_1 hl9 hx hb hml hown hts hC hK hcl hsl hY hI hi h hq ha1 ha2 hG hS hl cont
  · exact lc_advance_2 hl9 hx hb hml hown hts hC hK hcl hsl hY hI hi h hq ha1 ha2 hG hS hl cont
  · exact lc_advance_3 hl9 hx hb hml hown hts hC hK hcl hsl hY hI hi h hq ha1 ha2 hG hS hl cont
  · exact lc_advance_4 hl9 hx hb hml hown hts hC hK hcl hsl hY hI hi h hq ha1 ha2 hG hS hl cont
set_option maxHeartbeats 8000000 in
set_option maxRecDepth 100000 in
theorem law_loop {p : Program} {l : Launch} {e : Env} {s : State} {m : MethodId} {below : List Frame} {meth : Method} {c : Code} {b L : Nat} {xs : Nat → Int32} (hl9 : l.stackTraces = false) (hL : L ≤ 260) (hx : p.tables.exec = Jvm.exec) (hb : c.code = code) (hr : meth.sig.returnType = ret) (hml : c.maxLocals = 22) (hlocks : meth.locks = false) (hown : s.vm.findClass "DroitLineLaw" = some m.cls) (hts : ∀ w ∈ wNeed, w.before #[Value.ref b] s = true) (hX : va_X b L xs s s.heap) (hbl : b < s.heap.size)
    {D : va_G} {tI tJ tL : ClassId} {sg : Nat → Nat} (hC : GC D tI tJ tL (A0 s) sg s) :
    ∀ (f t : Nat), t + f = 131 → t ≤ 130 → ∀ (ad : Nat → Nat) (n : Nat) (sL : NL) (sA : NA) (H : Heap) (locs : List Loc) (ls : Array Slot), INV n t sL sA → (0 < n ∨ t = 0) → GW D tI tJ tL (A0 s) ad n sL sA H → va_S (A0 s) s.heap H locs → lv_has ls 22 [(10, .int (nI t)), (9, .int 1), (8, .ref (ad 10)), (7, .ref (ad 9)), (6, .ref (ad 8)), (5, .ref (ad 7)), (4, .ref (ad 6)), (3, .ref (ad 5)), (2, .ref (ad 4)), (1, .ref (ad 0)), (0, .ref b)] →
      W p l e room_1 s m #[Value.ref b] below meth c H locs (200 + 120 * t) (2000 + 650 * t) (lw_Z below #[Value.ref b] s) (F0 m 93 ls []) := by
  have hbA : ¬ (A0 s) b := Nat.not_le.mpr hbl
  intro f
  induction f with
  | zero => intro t h1 h2; exact absurd h1 (by omega)
  | succ f ih =>
    intro t hf ht ad n sL sA H locs ls hI hnt hG hS hl
    have hn6 := hI.n6
    have cont : t < 130 → ∀ Y : Nat, Y < 2147483648 → CONT p l e s m b below meth c D tI tJ tL t Y t (200 + 120 * t) (2000 + 650 * t) := by
      intro ht130 Y hY ad2 n2 sL2 sA2 H locs ls hn2 hI2 hG hS hl
      refine lv_iload hx hb dW_law_1500 (lv_at hl 2 rfl) ?_
      refine lv_if_eq (tgt := 1534) hx hb dW_law_1502 (by decide) (fun c_1 => ?_) (fun c_1 => ?_)
      · exact absurd c_1 (by decide)
      · refine lv_iload hx hb dW_law_1505 (lv_at hl 1 rfl) ?_
        refine lv_iconst (v := 3) hx hb dW_law_1507 (by decide) ?_
        refine lv_irem hx hb dW_law_1508 (by decide) ?_
        rw [show (nI t) - (nI t) / (3 : Int32) * (3 : Int32) = nI (t % 3) from pk_rem (a := t) (d := 3) (by omega) (by omega) (by omega)]
        refine lv_iconst (v := 2) hx hb dW_law_1509 (by decide) ?_
        refine lv_icmp_lt (tgt := 1530) hx hb dW_law_1510 (by decide) (fun c_2 => ?_) (fun c_2 => ?_)
        · refine lv_iconst (v := 1) hx hb dW_law_1530 (by decide) ?_
          refine lv_goto (tgt := 1535) hx hb dW_law_1531 (by decide) ?_
          refine lv_istore (lv' := [(9, .int 1), (13, .int (nI Y)), (10, .int (nI t)), (8, .ref (ad2 10)), (7, .ref (ad2 9)), (6, .ref (ad2 8)), (5, .ref (ad2 7)), (4, .ref (ad2 6)), (3, .ref (ad2 5)), (2, .ref (ad2 4)), (1, .ref (ad2 0)), (0, .ref b)]) hx hb dW_law_1535 hl (by decide) rfl (fun ls hl => ?_)
          refine lv_iinc (v := nI (t + 1)) (lv' := [(10, .int (nI (t + 1))), (9, .int 1), (13, .int (nI Y)), (8, .ref (ad2 10)), (7, .ref (ad2 9)), (6, .ref (ad2 8)), (5, .ref (ad2 7)), (4, .ref (ad2 6)), (3, .ref (ad2 5)), (2, .ref (ad2 4)), (1, .ref (ad2 0)), (0, .ref b)]) hx hb dW_law_1537 hl (k := 2) rfl (nI_1 t) (by decide) rfl (fun ls hl => ?_)
          refine lv_goto (tgt := 93) hx hb dW_law_1540 (by decide) ?_
          refine W.widen (k := 200 + 120 * (t + 1)) (n := 2000 + 650 * (t + 1)) (by omega) (by omega) ?_
          exact ih (t + 1) (by omega) (by omega) ad2 n2 sL2 sA2 H locs ls hI2 (Or.inl hn2) hG hS (lv_sub hl [0, 1, 3, 4, 5, 6, 7, 8, 9, 10, 11] rfl)
        · refine lv_aload_n hx hb dW_law_1513 rfl (lv_at hl 10 rfl) ?_
          refine lv_aload_n hx hb dW_law_1514 rfl (lv_at hl 9 rfl) ?_
          refine lv_aload_n hx hb dW_law_1515 rfl (lv_at hl 8 rfl) ?_
          refine lv_aload hx hb dW_law_1516 (lv_at hl 7 rfl) ?_
          refine lv_aload hx hb dW_law_1518 (lv_at hl 6 rfl) ?_
          refine lv_aload hx hb dW_law_1520 (lv_at hl 3 rfl) ?_
          refine lv_iload hx hb dW_law_1522 (lv_at hl 0 rfl) ?_
          refine rcSH (rest := []) (As := [.ref (ad2 0), .ref (ad2 4), .ref (ad2 5), .ref (ad2 6), .ref (ad2 7), .ref (ad2 10), .int (nI Y)]) hx hb hml hown hts hC hG hS (cW_isHouse l hl9 D tI tJ tL (A0 s) sg ad2 n2 sL2 sA2 (t + 1) hI2 Y (by omega)) (gS q_410 q_411 q_0 q_412) rfl rfl ⟨rfl, hdyW_isHouse⟩ ⟨Nat.le_of_ble_eq_true rfl, Nat.le_of_ble_eq_true rfl⟩ hl.1 rfl (Nat.le_of_ble_eq_true rfl) dW_law_1524 ⟨by show _ ≤ 796740; omega, by show _ ≤ 6711247; omega⟩ (fun H locs hG hS => ?_)
          refine lv_if_eq (tgt := 1534) hx hb dW_law_1527 (by decide) (fun c_3 => ?_) (fun c_3 => ?_)
          · exact absurd c_3 (by decide)
          · refine lv_iconst (v := 1) hx hb dW_law_1530 (by decide) ?_
            refine lv_goto (tgt := 1535) hx hb dW_law_1531 (by decide) ?_
            refine lv_istore (lv' := [(9, .int 1), (13, .int (nI Y)), (10, .int (nI t)), (8, .ref (ad2 10)), (7, .ref (ad2 9)), (6, .ref (ad2 8)), (5, .ref (ad2 7)), (4, .ref (ad2 6)), (3, .ref (ad2 5)), (2, .ref (ad2 4)), (1, .ref (ad2 0)), (0, .ref b)]) hx hb dW_law_1535 hl (by decide) rfl (fun ls hl => ?_)
            refine lv_iinc (v := nI (t + 1)) (lv' := [(10, .int (nI (t + 1))), (9, .int 1), (13, .int (nI Y)), (8, .ref (ad2 10)), (7, .ref (ad2 9)), (6, .ref (ad2 8)), (5, .ref (ad2 7)), (4, .ref (ad2 6)), (3, .ref (ad2 5)), (2, .ref (ad2 4)), (1, .ref (ad2 0)), (0, .ref b)]) hx hb dW_law_1537 hl (k := 2) rfl (nI_1 t) (by decide) rfl (fun ls hl => ?_)
            refine lv_goto (tgt := 93) hx hb dW_law_1540 (by decide) ?_
            refine W.widen (k := 200 + 120 * (t + 1)) (n := 2000 + 650 * (t + 1)) (by omega) (by omega) ?_
            exact ih (t + 1) (by omega) (by omega) ad2 n2 sL2 sA2 H locs ls hI2 (Or.inl hn2) hG hS (lv_sub hl [0, 1, 3, 4, 5, 6, 7, 8, 9, 10, 11] rfl)
    refine lv_iload hx hb dW_law_93 (lv_at hl 0 rfl) ?_
    refine lv_sipush (v := 130) hx hb dW_law_95 (by decide) ?_
    refine lv_icmp_ge (tgt := 1543) hx hb dW_law_98 (by decide) (fun c_4 => ?_) (fun c_4 => ?_)
    · refine lv_iload hx hb dW_law_1543 (lv_at hl 1 rfl) ?_
      refine lv_if_eq (tgt := 1569) hx hb dW_law_1545 (by decide) (fun c_5 => ?_) (fun c_5 => ?_)
      · exact absurd c_5 (by decide)
      · refine lv_aload_n hx hb dW_law_1548 rfl (lv_at hl 9 rfl) ?_
        refine lv_aload_n hx hb dW_law_1549 rfl (lv_at hl 8 rfl) ?_
        refine lv_aload_n hx hb dW_law_1550 rfl (lv_at hl 7 rfl) ?_
        refine lv_aload hx hb dW_law_1551 (lv_at hl 6 rfl) ?_
        refine lv_aload hx hb dW_law_1553 (lv_at hl 5 rfl) ?_
        refine lv_aload hx hb dW_law_1555 (lv_at hl 2 rfl) ?_
        refine lv_ldc (v := 77777) hx hb hown (hts _ q_481) dW_law_1557 ?_
        refine rcSH (rest := []) (As := [.ref (ad 0), .ref (ad 4), .ref (ad 5), .ref (ad 6), .ref (ad 7), .ref (ad 10), .int (nI 77777)]) hx hb hml hown hts hC hG hS (cW_isHouse l hl9 D tI tJ tL (A0 s) sg ad n sL sA t hI 77777 (by omega)) (gS q_410 q_411 q_0 q_412) rfl rfl ⟨rfl, hdyW_isHouse⟩ ⟨Nat.le_of_ble_eq_true rfl, Nat.le_of_ble_eq_true rfl⟩ hl.1 rfl (Nat.le_of_ble_eq_true rfl) dW_law_1559 ⟨by show _ ≤ 796740; omega, by show _ ≤ 6711247; omega⟩ (fun H locs hG hS => ?_)
        refine lv_if_eq (tgt := 1569) hx hb dW_law_1562 (by decide) (fun c_6 => ?_) (fun c_6 => ?_)
        · exact absurd c_6 (by decide)
        · refine lv_iconst (v := 1) hx hb dW_law_1565 (by decide) ?_
          refine lv_goto (tgt := 1570) hx hb dW_law_1566 (by decide) ?_
          refine va_forget (fun q hq => hS.2.2 q hq) ?_
          refine W.widen (k := 796740) (n := 6711247) (by omega) (by omega) ?_
          exact lw_ret hx hb hr hlocks dW_law_1570
    · refine lv_iload hx hb dW_law_101 (lv_at hl 1 rfl) ?_
      refine lv_if_eq (tgt := 1543) hx hb dW_law_103 (by decide) (fun c_7 => ?_) (fun c_7 => ?_)
      · exact absurd c_7 (by decide)
      · have ht130 : t < 130 := Nat.lt_of_not_le fun q => c_4 (nI_le (a := 130) q (by omega))
        refine W_keyP (P := fun X => X < 2147483648) (fun X => F0 m 144 ls [.int (nI X)]) (fun key => ?_) (fun X hX => ?_)
        · refine lv_iload hx hb dW_law_106 (lv_at hl 0 rfl) ?_
          refine lv_aload_n hx hb dW_law_108 rfl (lv_at hl 10 rfl) ?_
          refine va_slen hx hb hX hbl hbA hS dW_law_109 ?_
          refine lv_icmp_ge (tgt := 123) hx hb dW_law_110 (by decide) (fun c_8 => ?_) (fun c_8 => ?_)
          · refine lv_ldc (v := 50021) hx hb hown (hts _ q_479) dW_law_123 ?_
            refine lv_iload hx hb dW_law_125 (lv_at hl 0 rfl) ?_
            refine lv_imul hx hb dW_law_127 ?_
            rw [show (50021 : Int32) * (nI t) = nI (50021 * t) from pk_mul 50021 t]
            refine lv_iload hx hb dW_law_128 (lv_at hl 0 rfl) ?_
            refine lv_imul hx hb dW_law_130 ?_
            rw [show (nI (50021 * t)) * (nI t) = nI ((50021 * t) * t) from pk_mul (50021 * t) t]
            refine lv_sipush (v := 9001) hx hb dW_law_131 (by decide) ?_
            refine lv_iload hx hb dW_law_134 (lv_at hl 0 rfl) ?_
            refine lv_imul hx hb dW_law_136 ?_
            rw [show (9001 : Int32) * (nI t) = nI (9001 * t) from pk_mul 9001 t]
            refine lv_iadd hx hb dW_law_137 ?_
            rw [show (nI ((50021 * t) * t)) + (nI (9001 * t)) = nI ((50021 * t) * t + (9001 * t)) from nI_add ((50021 * t) * t) (9001 * t)]
            refine lv_bipush (v := 31) hx hb dW_law_138 (by decide) ?_
            refine lv_iadd hx hb dW_law_140 ?_
            rw [show (nI ((50021 * t) * t + (9001 * t))) + (31 : Int32) = nI ((50021 * t) * t + (9001 * t) + 31) from nI_add ((50021 * t) * t + (9001 * t)) 31]
            refine lv_ldc (v := 2147483647) hx hb hown (hts _ q_478) dW_law_141 ?_
            refine lv_iand hx hb dW_law_143 ?_
            obtain ⟨j, hj, ej⟩ := pk_andE (nI ((50021 * t) * t + (9001 * t) + 31)) (m := 2147483647) 31 (by decide)
            rw [ej]
            exact key j (by omega)
          · refine lv_aload_n hx hb dW_law_113 rfl (lv_at hl 10 rfl) ?_
            refine lv_iload hx hb dW_law_114 (lv_at hl 0 rfl) ?_
            refine va_sld hx hb hX hbl hbA hS (show vp_in (nI t) L from vp_in_nI (Nat.lt_of_not_le fun q => c_8 (nI_le q (by omega))) (by omega)) dW_law_116 ?_
            refine lv_ldc (v := 2147483647) hx hb hown (hts _ q_478) dW_law_117 ?_
            refine lv_iand hx hb dW_law_119 ?_
            refine lv_goto (tgt := 144) hx hb dW_law_120 (by decide) ?_
            obtain ⟨j, hj, ej⟩ := pk_andE (xs (nI t).toNatClampNeg) (m := 2147483647) 31 (by decide)
            rw [ej]
            exact key j (by omega)
        · refine lv_istore (lv' := [(11, .int (nI X)), (10, .int (nI t)), (9, .int 1), (8, .ref (ad 10)), (7, .ref (ad 9)), (6, .ref (ad 8)), (5, .ref (ad 7)), (4, .ref (ad 6)), (3, .ref (ad 5)), (2, .ref (ad 4)), (1, .ref (ad 0)), (0, .ref b)]) hx hb dW_law_144 hl (by decide) rfl (fun ls hl => ?_)
          refine W_keyP (P := fun kd => kd < 24 ∧ (t < 2 → kd = 0)) (fun kd => F0 m 161 ls [.int (nI kd)]) (fun key => ?_) (fun kd hkd => ?_)
          · refine lv_iload hx hb dW_law_146 (lv_at hl 1 rfl) ?_
            refine lv_iconst (v := 2) hx hb dW_law_148 (by decide) ?_
            refine lv_icmp_ge (tgt := 156) hx hb dW_law_149 (by decide) (fun c_9 => ?_) (fun c_9 => ?_)
            · refine lv_iload hx hb dW_law_156 (lv_at hl 0 rfl) ?_
              refine lv_bipush (v := 24) hx hb dW_law_158 (by decide) ?_
              refine lv_irem hx hb dW_law_160 (by decide) ?_
              rw [show (nI X) - (nI X) / (24 : Int32) * (24 : Int32) = nI (X % 24) from pk_rem (a := X) (d := 24) (by omega) (by omega) (by omega)]
              exact key (X % 24) ⟨by omega, fun h => absurd ((nI_leI (a := 2) (b := t) (by omega) (by omega)).1 c_9) (by omega)⟩
            · refine lv_iconst (v := 0) hx hb dW_law_152 (by decide) ?_
              refine lv_goto (tgt := 161) hx hb dW_law_153 (by decide) ?_
              exact key 0 ⟨by omega, fun _ => rfl⟩
          · refine lv_istore (lv' := [(12, .int (nI kd)), (11, .int (nI X)), (10, .int (nI t)), (9, .int 1), (8, .ref (ad 10)), (7, .ref (ad 9)), (6, .ref (ad 8)), (5, .ref (ad 7)), (4, .ref (ad 6)), (3, .ref (ad 5)), (2, .ref (ad 4)), (1, .ref (ad 0)), (0, .ref b)]) hx hb dW_law_161 hl (by decide) rfl (fun ls hl => ?_)
            refine W_keyP (P := fun Y => Y < 2147483648) (fun Y => F0 m 168 ls [.int (nI Y)]) (fun key => ?_) (fun Y hY => ?_)
            · refine lv_iload hx hb dW_law_163 (lv_at hl 1 rfl) ?_
              refine lv_bipush (v := 24) hx hb dW_law_165 (by decide) ?_
              refine lv_idiv hx hb dW_law_167 (by decide) ?_
              rw [show (nI X) / (24 : Int32) = nI (X / 24) from pk_div (a := X) (d := 24) (by omega) (by omega) (by omega)]
              exact key (X / 24) (by omega)
            · refine lv_istore (lv' := [(13, .int (nI Y)), (12, .int (nI kd)), (11, .int (nI X)), (10, .int (nI t)), (9, .int 1), (8, .ref (ad 10)), (7, .ref (ad 9)), (6, .ref (ad 8)), (5, .ref (ad 7)), (4, .ref (ad 6)), (3, .ref (ad 5)), (2, .ref (ad 4)), (1, .ref (ad 0)), (0, .ref b)]) hx hb dW_law_168 hl (by decide) rfl (fun ls hl => ?_)
              refine W_keyP (P := fun i => i < 6 ∧ (0 < n → i < n)) (fun i => F0 m 186 ls [.int (nI i)]) (fun key => ?_) (fun i hi6 => ?_)
              · refine lv_aload_n hx hb dW_law_170 rfl (lv_at hl 11 rfl) ?_
                refine lv_iconst (v := 0) hx hb dW_law_171 (by decide) ?_
                refine ra_ld hx hb hC hG 4 5 (by omega) (fun _ _ => rfl) (by rw [vp_in_iff]; decide) dW_law_172 ?_
                rw [show (0 : Int32).toNatClampNeg = 0 from rfl]
                rw [show sA 4 0 = nI n from by rw [hI.1.1.2.2]]
                refine lv_if_ne (tgt := 180) hx hb dW_law_173 (by decide) (fun c_10 => ?_) (fun c_10 => ?_)
                · have hn0 : 0 < n := Nat.pos_of_ne_zero fun q => c_10 (congrArg nI q)
                  refine lv_iload hx hb dW_law_180 (lv_at hl 0 rfl) ?_
                  refine lv_aload_n hx hb dW_law_182 rfl (lv_at hl 11 rfl) ?_
                  refine lv_iconst (v := 0) hx hb dW_law_183 (by decide) ?_
                  refine ra_ld hx hb hC hG 4 5 (by omega) (fun _ _ => rfl) (by rw [vp_in_iff]; decide) dW_law_184 ?_
                  rw [show (0 : Int32).toNatClampNeg = 0 from rfl]
                  rw [show sA 4 0 = nI n from by rw [hI.1.1.2.2]]
                  refine lv_irem hx hb dW_law_185 (nI_ne0 (by omega) (by omega)) ?_
                  rw [show (nI Y) - (nI Y) / (nI n) * (nI n) = nI (Y % n) from pk_rem (a := Y) (d := n) (by omega) (by omega) (by omega)]
                  have hmod := Nat.mod_lt Y hn0
                  exact key (Y % n) ⟨by omega, fun _ => hmod⟩
                · refine lv_iconst (v := 0) hx hb dW_law_176 (by decide) ?_
                  refine lv_goto (tgt := 186) hx hb dW_law_177 (by decide) ?_
                  have hn0 : n = 0 := (nI_eq (b := 0) (by omega) (by omega)).1 c_10
                  exact key 0 ⟨by omega, by omega⟩
              · have hi6b := hi6.1
                refine lv_istore (lv' := [(14, .int (nI i)), (13, .int (nI Y)), (12, .int (nI kd)), (11, .int (nI X)), (10, .int (nI t)), (9, .int 1), (8, .ref (ad 10)), (7, .ref (ad 9)), (6, .ref (ad 8)), (5, .ref (ad 7)), (4, .ref (ad 6)), (3, .ref (ad 5)), (2, .ref (ad 4)), (1, .ref (ad 0)), (0, .ref b)]) hx hb dW_law_186 hl (by decide) rfl (fun ls hl => ?_)
                refine lv_bipush (v := 10) hx hb dW_law_188 (by decide) ?_
                refine lv_iload hx hb dW_law_190 (lv_at hl 0 rfl) ?_
                refine lv_imul hx hb dW_law_192 ?_
                rw [show (10 : Int32) * (nI i) = nI (10 * i) from pk_mul 10 i]
                refine lv_istore (lv' := [(15, .int (nI (10 * i))), (14, .int (nI i)), (13, .int (nI Y)), (12, .int (nI kd)), (11, .int (nI X)), (10, .int (nI t)), (9, .int 1), (8, .ref (ad 10)), (7, .ref (ad 9)), (6, .ref (ad 8)), (5, .ref (ad 7)), (4, .ref (ad 6)), (3, .ref (ad 5)), (2, .ref (ad 4)), (1, .ref (ad 0)), (0, .ref b)]) hx hb dW_law_193 hl (by decide) rfl (fun ls hl => ?_)
                refine lv_aload_n hx hb dW_law_195 rfl (lv_at hl 12 rfl) ?_
                refine lv_iload hx hb dW_law_196 (lv_at hl 0 rfl) ?_
                refine lv_iconst (v := 3) hx hb dW_law_198 (by decide) ?_
                refine lv_iadd hx hb dW_law_199 ?_
                rw [show (nI (10 * i)) + (3 : Int32) = nI (10 * i + 3) from nI_add (10 * i) 3]
                refine ra_ld hx hb hC hG 5 60 (by omega) (fun _ _ => rfl) (vp_in_nI (by omega) (by omega)) dW_law_200 ?_
                rw [show (nI (10 * i + 3)).toNatClampNeg = (10 * i + 3) from nI_clamp (by omega)]
                refine lv_istore (lv' := [(16, .int (sA 5 (10 * i + 3))), (15, .int (nI (10 * i))), (14, .int (nI i)), (13, .int (nI Y)), (12, .int (nI kd)), (11, .int (nI X)), (10, .int (nI t)), (9, .int 1), (8, .ref (ad 10)), (7, .ref (ad 9)), (6, .ref (ad 8)), (5, .ref (ad 7)), (4, .ref (ad 6)), (3, .ref (ad 5)), (2, .ref (ad 4)), (1, .ref (ad 0)), (0, .ref b)]) hx hb dW_law_201 hl (by decide) rfl (fun ls hl => ?_)
                refine W_keyP (P := fun q => q < 10) (fun q => F0 m 211 ls [.int (nI q)]) (fun key => ?_) (fun q hq => ?_)
                · refine lv_iload hx hb dW_law_203 (lv_at hl 3 rfl) ?_
                  refine lv_bipush (v := 6) hx hb dW_law_205 (by decide) ?_
                  refine lv_idiv hx hb dW_law_207 (by decide) ?_
                  rw [show (nI Y) / (6 : Int32) = nI (Y / 6) from pk_div (a := Y) (d := 6) (by omega) (by omega) (by omega)]
                  refine lv_bipush (v := 10) hx hb dW_law_208 (by decide) ?_
                  refine lv_irem hx hb dW_law_210 (by decide) ?_
                  rw [show (nI (Y / 6)) - (nI (Y / 6)) / (10 : Int32) * (10 : Int32) = nI ((Y / 6) % 10) from pk_rem (a := Y / 6) (d := 10) (by omega) (by omega) (by omega)]
                  exact key ((Y / 6) % 10) (by omega)
                · refine lv_istore (lv' := [(17, .int (nI q)), (16, .int (sA 5 (10 * i + 3))), (15, .int (nI (10 * i))), (14, .int (nI i)), (13, .int (nI Y)), (12, .int (nI kd)), (11, .int (nI X)), (10, .int (nI t)), (9, .int 1), (8, .ref (ad 10)), (7, .ref (ad 9)), (6, .ref (ad 8)), (5, .ref (ad 7)), (4, .ref (ad 6)), (3, .ref (ad 5)), (2, .ref (ad 4)), (1, .ref (ad 0)), (0, .ref b)]) hx hb dW_law_211 hl (by decide) rfl (fun ls hl => ?_)
                  refine W_keyP (P := fun a => 1 ≤ a ∧ a ≤ 1000000) (fun a => F0 m 262 ls [.int (nI a)]) (fun key => ?_) (fun a ha => ?_)
                  · refine lv_iload hx hb dW_law_213 (lv_at hl 4 rfl) ?_
                    refine lv_bipush (v := 60) hx hb dW_law_215 (by decide) ?_
                    refine lv_idiv hx hb dW_law_217 (by decide) ?_
                    rw [show (nI Y) / (60 : Int32) = nI (Y / 60) from pk_div (a := Y) (d := 60) (by omega) (by omega) (by omega)]
                    refine lv_iconst (v := 4) hx hb dW_law_218 (by decide) ?_
                    refine lv_irem hx hb dW_law_219 (by decide) ?_
                    rw [show (nI (Y / 60)) - (nI (Y / 60)) / (4 : Int32) * (4 : Int32) = nI ((Y / 60) % 4) from pk_rem (a := Y / 60) (d := 4) (by omega) (by omega) (by omega)]
                    refine lv_if_ne (tgt := 237) hx hb dW_law_220 (by decide) (fun c_11 => ?_) (fun c_11 => ?_)
                    · refine lv_iconst (v := 1) hx hb dW_law_237 (by decide) ?_
                      refine lv_iload hx hb dW_law_238 (lv_at hl 4 rfl) ?_
                      refine lv_sipush (v := 240) hx hb dW_law_240 (by decide) ?_
                      refine lv_idiv hx hb dW_law_243 (by decide) ?_
                      rw [show (nI Y) / (240 : Int32) = nI (Y / 240) from pk_div (a := Y) (d := 240) (by omega) (by omega) (by omega)]
                      refine lv_iload hx hb dW_law_244 (lv_at hl 4 rfl) ?_
                      refine lv_iconst (v := 2) hx hb dW_law_246 (by decide) ?_
                      refine lv_irem hx hb dW_law_247 (by decide) ?_
                      rw [show (nI Y) - (nI Y) / (2 : Int32) * (2 : Int32) = nI (Y % 2) from pk_rem (a := Y) (d := 2) (by omega) (by omega) (by omega)]
                      refine lv_if_ne (tgt := 257) hx hb dW_law_248 (by decide) (fun c_12 => ?_) (fun c_12 => ?_)
                      · refine lv_sipush (v := 1200) hx hb dW_law_257 (by decide) ?_
                        refine lv_irem hx hb dW_law_260 (by decide) ?_
                        rw [show (nI (Y / 240)) - (nI (Y / 240)) / (1200 : Int32) * (1200 : Int32) = nI ((Y / 240) % 1200) from pk_rem (a := Y / 240) (d := 1200) (by omega) (by omega) (by omega)]
                        refine lv_iadd hx hb dW_law_261 ?_
                        rw [show (1 : Int32) + (nI ((Y / 240) % 1200)) = nI (1 + ((Y / 240) % 1200)) from nI_add 1 ((Y / 240) % 1200)]
                        exact key (1 + ((Y / 240) % 1200)) (by omega)
                      · refine lv_sipush (v := 30000) hx hb dW_law_251 (by decide) ?_
                        refine lv_goto (tgt := 260) hx hb dW_law_254 (by decide) ?_
                        refine lv_irem hx hb dW_law_260 (by decide) ?_
                        rw [show (nI (Y / 240)) - (nI (Y / 240)) / (30000 : Int32) * (30000 : Int32) = nI ((Y / 240) % 30000) from pk_rem (a := Y / 240) (d := 30000) (by omega) (by omega) (by omega)]
                        refine lv_iadd hx hb dW_law_261 ?_
                        rw [show (1 : Int32) + (nI ((Y / 240) % 30000)) = nI (1 + ((Y / 240) % 30000)) from nI_add 1 ((Y / 240) % 30000)]
                        exact key (1 + ((Y / 240) % 30000)) (by omega)
                    · refine lv_iconst (v := 1) hx hb dW_law_223 (by decide) ?_
                      refine lv_iload hx hb dW_law_224 (lv_at hl 4 rfl) ?_
                      refine lv_sipush (v := 240) hx hb dW_law_226 (by decide) ?_
                      refine lv_idiv hx hb dW_law_229 (by decide) ?_
                      rw [show (nI Y) / (240 : Int32) = nI (Y / 240) from pk_div (a := Y) (d := 240) (by omega) (by omega) (by omega)]
                      refine lv_ldc (v := 1000000) hx hb hown (hts _ q_480) dW_law_230 ?_
                      refine lv_irem hx hb dW_law_232 (by decide) ?_
                      rw [show (nI (Y / 240)) - (nI (Y / 240)) / (1000000 : Int32) * (1000000 : Int32) = nI ((Y / 240) % 1000000) from pk_rem (a := Y / 240) (d := 1000000) (by omega) (by omega) (by omega)]
                      refine lv_iadd hx hb dW_law_233 ?_
                      rw [show (1 : Int32) + (nI ((Y / 240) % 1000000)) = nI (1 + ((Y / 240) % 1000000)) from nI_add 1 ((Y / 240) % 1000000)]
                      refine lv_goto (tgt := 262) hx hb dW_law_234 (by decide) ?_
                      exact key (1 + ((Y / 240) % 1000000)) (by omega)
                  · refine lv_istore (lv' := [(18, .int (nI a)), (17, .int (nI q)), (16, .int (sA 5 (10 * i + 3))), (15, .int (nI (10 * i))), (14, .int (nI i)), (13, .int (nI Y)), (12, .int (nI kd)), (11, .int (nI X)), (10, .int (nI t)), (9, .int 1), (8, .ref (ad 10)), (7, .ref (ad 9)), (6, .ref (ad 8)), (5, .ref (ad 7)), (4, .ref (ad 6)), (3, .ref (ad 5)), (2, .ref (ad 4)), (1, .ref (ad 0)), (0, .ref b)]) hx hb dW_law_262 hl (by decide) rfl (fun ls hl => ?_)
                    refine lv_iload hx hb dW_law_264 (lv_at hl 6 rfl) ?_
                    refine lv_if_ne (tgt := 434) hx hb dW_law_266 (by decide) (fun c_13 => ?_) (fun c_13 => ?_)
                    · refine lv_iload hx hb dW_law_434 (lv_at hl 6 rfl) ?_
                      refine lv_bipush (v := 10) hx hb dW_law_436 (by decide) ?_
                      refine lv_icmp_ge (tgt := 540) hx hb dW_law_438 (by decide) (fun c_14 => ?_) (fun c_14 => ?_)
                      · refine lv_iload hx hb dW_law_540 (lv_at hl 6 rfl) ?_
                        refine lv_bipush (v := 13) hx hb dW_law_542 (by decide) ?_
                        refine lv_icmp_ge (tgt := 590) hx hb dW_law_544 (by decide) (fun c_15 => ?_) (fun c_15 => ?_)
                        · refine lv_iload hx hb dW_law_590 (lv_at hl 6 rfl) ?_
                          refine lv_bipush (v := 13) hx hb dW_law_592 (by decide) ?_
                          refine lv_icmp_ne (tgt := 677) hx hb dW_law_594 (by decide) (fun c_16 => ?_) (fun c_16 => ?_)
                          · refine lv_iload hx hb dW_law_677 (lv_at hl 6 rfl) ?_
                            refine lv_bipush (v := 16) hx hb dW_law_679 (by decide) ?_
                            refine lv_icmp_ge (tgt := 801) hx hb dW_law_681 (by decide) (fun c_17 => ?_) (fun c_17 => ?_)
                            · refine lv_iload hx hb dW_law_801 (lv_at hl 6 rfl) ?_
                              refine lv_bipush (v := 16) hx hb dW_law_803 (by decide) ?_
                              refine lv_icmp_ne (tgt := 937) hx hb dW_law_805 (by decide) (fun c_18 => ?_) (fun c_18 => ?_)
                              · refine lv_iload hx hb dW_law_937 (lv_at hl 6 rfl) ?_
                                refine lv_bipush (v := 17) hx hb dW_law_939 (by decide) ?_
                                refine lv_icmp_ne (tgt := 1046) hx hb dW_law_941 (by decide) (fun c_19 => ?_) (fun c_19 => ?_)
                                · refine lv_iload hx hb dW_law_1046 (lv_at hl 6 rfl) ?_
                                  refine lv_bipush (v := 20) hx hb dW_law_1048 (by decide) ?_
                                  refine lv_icmp_ge (tgt := 1199) hx hb dW_law_1050 (by decide) (fun c_20 => ?_) (fun c_20 => ?_)
                                  · refine lv_iload hx hb dW_law_1199 (lv_at hl 6 rfl) ?_
                                    refine lv_bipush (v := 20) hx hb dW_law_1201 (by decide) ?_
                                    refine lv_icmp_ne (tgt := 1330) hx hb dW_law_1203 (by decide) (fun c_21 => ?_) (fun c_21 => ?_)
                                    · refine lv_iload hx hb dW_law_1330 (lv_at hl 6 rfl) ?_
                                      refine lv_bipush (v := 21) hx hb dW_law_1332 (by decide) ?_
                                      refine lv_icmp_ne (tgt := 1389) hx hb dW_law_1334 (by decide) (fun c_22 => ?_) (fun c_22 => ?_)
                                      · refine lv_iload hx hb dW_law_1389 (lv_at hl 6 rfl) ?_
                                        refine lv_bipush (v := 22) hx hb dW_law_1391 (by decide) ?_
                                        refine lv_icmp_ne (tgt := 1429) hx hb dW_law_1393 (by decide) (fun c_23 => ?_) (fun c_23 => ?_)
                                        · have hn0 : 0 < n := by
                                              rcases Nat.lt_or_ge t 2 with z | z
                                              · exact absurd (congrArg nI (hkd.2 z)) c_13
                                              · omega
                                          exact lc_days hl9 hx hb hml hown hts hC (by omega) (by omega) (by omega) hY hI (hi6.2 hn0) hq ha.1 ha.2 hG hS (lv_sub hl [0, 1, 2, 3, 4, 5, 6, 7, 8, 9, 10, 11, 12, 13, 14, 15, 16, 17, 18] rfl) (cont ht130 Y hY)
                                        · have hn0 : 0 < n := by
                                              rcases Nat.lt_or_ge t 2 with z | z
                                              · exact absurd (congrArg nI (hkd.2 z)) c_13
                                              · omega
                                          exact lc_rate hl9 hx hb hml hown hts hC (by omega) (by omega) (by omega) hY hI (hi6.2 hn0) hq ha.1 ha.2 hG hS (lv_sub hl [0, 1, 2, 3, 4, 5, 6, 7, 8, 9, 10, 11, 12, 13, 14, 15, 16, 17, 18] rfl) (cont ht130 Y hY)
                                      · have hn0 : 0 < n := by
                                            rcases Nat.lt_or_ge t 2 with z | z
                                            · exact absurd (congrArg nI (hkd.2 z)) c_13
                                            · omega
                                        exact lc_commission hl9 hx hb hml hown hts hC (by omega) (by omega) (by omega) hY hI (hi6.2 hn0) hq ha.1 ha.2 hG hS (lv_sub hl [0, 1, 2, 3, 4, 5, 6, 7, 8, 9, 10, 11, 12, 13, 14, 15, 16, 17, 18] rfl) (cont ht130 Y hY)
                                    · have hn0 : 0 < n := by
                                          rcases Nat.lt_or_ge t 2 with z | z
                                          · exact absurd (congrArg nI (hkd.2 z)) c_13
                                          · omega
                                      exact lc_settle hl9 hx hb hml hown hts hC (by omega) (by omega) (by omega) hY hI (hi6.2 hn0) hq ha.1 ha.2 hG hS (lv_sub hl [0, 1, 2, 3, 4, 5, 6, 7, 8, 9, 10, 11, 12, 13, 14, 15, 16, 17, 18] rfl) (cont ht130 Y hY)
                                  · have hn0 : 0 < n := by
                                        rcases Nat.lt_or_ge t 2 with z | z
                                        · exact absurd (congrArg nI (hkd.2 z)) c_13
                                        · omega
                                    exact lc_advance hl9 hx hb hml hown hts hC (by omega) (by omega) (by omega) hY hI (hi6.2 hn0) hq ha.1 ha.2 hG hS (lv_sub hl [0, 1, 2, 3, 4, 5, 6, 7, 8, 9, 10, 11, 12, 13, 14, 15, 16, 17, 18] rfl) (cont ht130 Y hY)
                                · have hn0 : 0 < n := by
                                      rcases Nat.lt_or_ge t 2 with z | z
                                      · exact absurd (congrArg nI (hkd.2 z)) c_13
                                      · omega
                                  exact lc_payGaps hl9 hx hb hml hown hts hC (by omega) (by omega) (by omega) hY hI (hi6.2 hn0) hq ha.1 ha.2 hG hS (lv_sub hl [0, 1, 2, 3, 4, 5, 6, 7, 8, 9, 10, 11, 12, 13, 14, 15, 16, 17, 18] rfl) (cont ht130 Y hY)
                              · have hn0 : 0 < n := by
                                    rcases Nat.lt_or_ge t 2 with z | z
                                    · exact absurd (congrArg nI (hkd.2 z)) c_13
                                    · omega
                                exact lc_defaults hl9 hx hb hml hown hts hC (by omega) (by omega) (by omega) hY hI (hi6.2 hn0) hq ha.1 ha.2 hG hS (lv_sub hl [0, 1, 2, 3, 4, 5, 6, 7, 8, 9, 10, 11, 12, 13, 14, 15, 16, 17, 18] rfl) (cont ht130 Y hY)
                            · have hn0 : 0 < n := by
                                  rcases Nat.lt_or_ge t 2 with z | z
                                  · exact absurd (congrArg nI (hkd.2 z)) c_13
                                  · omega
                              exact lc_pay hl9 hx hb hml hown hts hC (by omega) (by omega) (by omega) hY hI (hi6.2 hn0) hq ha.1 ha.2 hG hS (lv_sub hl [0, 1, 2, 3, 4, 5, 6, 7, 8, 9, 10, 11, 12, 13, 14, 15, 16, 17, 18] rfl) (cont ht130 Y hY)
                          · have hn0 : 0 < n := by
                                rcases Nat.lt_or_ge t 2 with z | z
                                · exact absurd (congrArg nI (hkd.2 z)) c_13
                                · omega
                            exact lc_again hl9 hx hb hml hown hts hC (by omega) (by omega) (by omega) hY hI (hi6.2 hn0) hq ha.1 ha.2 hG hS (lv_sub hl [0, 1, 2, 3, 4, 5, 6, 7, 8, 9, 10, 11, 12, 13, 14, 15, 16, 17, 18] rfl) (cont ht130 Y hY)
                        · have hn0 : 0 < n := by
                              rcases Nat.lt_or_ge t 2 with z | z
                              · exact absurd (congrArg nI (hkd.2 z)) c_13
                              · omega
                          exact lc_hammer hl9 hx hb hml hown hts hC (by omega) (by omega) (by omega) hY hI (hi6.2 hn0) hq ha.1 ha.2 hG hS (lv_sub hl [0, 1, 2, 3, 4, 5, 6, 7, 8, 9, 10, 11, 12, 13, 14, 15, 16, 17, 18] rfl) (cont ht130 Y hY)
                      · have hn0 : 0 < n := by
                            rcases Nat.lt_or_ge t 2 with z | z
                            · exact absurd (congrArg nI (hkd.2 z)) c_13
                            · omega
                        exact lc_bid hl9 hx hb hml hown hts hC (by omega) (by omega) (by omega) hY hI (hi6.2 hn0) hq ha.1 ha.2 hG hS (lv_sub hl [0, 1, 2, 3, 4, 5, 6, 7, 8, 9, 10, 11, 12, 13, 14, 15, 16, 17, 18] rfl) (cont ht130 Y hY)
                    · refine lv_aload_n hx hb dW_law_269 rfl (lv_at hl 16 rfl) ?_
                      refine lv_iconst (v := 0) hx hb dW_law_270 (by decide) ?_
                      refine ra_ld hx hb hC hG 4 5 (by omega) (fun _ _ => rfl) (by rw [vp_in_iff]; decide) dW_law_271 ?_
                      rw [show (0 : Int32).toNatClampNeg = 0 from rfl]
                      rw [show sA 4 0 = nI n from by rw [hI.1.1.2.2]]
                      refine lv_bipush (v := 6) hx hb dW_law_272 (by decide) ?_
                      refine lv_icmp_ge (tgt := 434) hx hb dW_law_274 (by decide) (fun c_24 => ?_) (fun c_24 => ?_)
                      · refine lv_iload hx hb dW_law_434 (lv_at hl 6 rfl) ?_
                        refine lv_bipush (v := 10) hx hb dW_law_436 (by decide) ?_
                        refine lv_icmp_ge (tgt := 540) hx hb dW_law_438 (by decide) (fun c_25 => ?_) (fun c_25 => ?_)
                        · refine lv_iload hx hb dW_law_540 (lv_at hl 6 rfl) ?_
                          refine lv_bipush (v := 13) hx hb dW_law_542 (by decide) ?_
                          refine lv_icmp_ge (tgt := 590) hx hb dW_law_544 (by decide) (fun c_26 => ?_) (fun c_26 => ?_)
                          · refine lv_iload hx hb dW_law_590 (lv_at hl 6 rfl) ?_
                            refine lv_bipush (v := 13) hx hb dW_law_592 (by decide) ?_
                            refine lv_icmp_ne (tgt := 677) hx hb dW_law_594 (by decide) (fun c_27 => ?_) (fun c_27 => ?_)
                            · refine lv_iload hx hb dW_law_677 (lv_at hl 6 rfl) ?_
                              refine lv_bipush (v := 16) hx hb dW_law_679 (by decide) ?_
                              refine lv_icmp_ge (tgt := 801) hx hb dW_law_681 (by decide) (fun c_28 => ?_) (fun c_28 => ?_)
                              · refine lv_iload hx hb dW_law_801 (lv_at hl 6 rfl) ?_
                                refine lv_bipush (v := 16) hx hb dW_law_803 (by decide) ?_
                                refine lv_icmp_ne (tgt := 937) hx hb dW_law_805 (by decide) (fun c_29 => ?_) (fun c_29 => ?_)
                                · refine lv_iload hx hb dW_law_937 (lv_at hl 6 rfl) ?_
                                  refine lv_bipush (v := 17) hx hb dW_law_939 (by decide) ?_
                                  refine lv_icmp_ne (tgt := 1046) hx hb dW_law_941 (by decide) (fun c_30 => ?_) (fun c_30 => ?_)
                                  · refine lv_iload hx hb dW_law_1046 (lv_at hl 6 rfl) ?_
                                    refine lv_bipush (v := 20) hx hb dW_law_1048 (by decide) ?_
                                    refine lv_icmp_ge (tgt := 1199) hx hb dW_law_1050 (by decide) (fun c_31 => ?_) (fun c_31 => ?_)
                                    · refine lv_iload hx hb dW_law_1199 (lv_at hl 6 rfl) ?_
                                      refine lv_bipush (v := 20) hx hb dW_law_1201 (by decide) ?_
                                      refine lv_icmp_ne (tgt := 1330) hx hb dW_law_1203 (by decide) (fun c_32 => ?_) (fun c_32 => ?_)
                                      · refine lv_iload hx hb dW_law_1330 (lv_at hl 6 rfl) ?_
                                        refine lv_bipush (v := 21) hx hb dW_law_1332 (by decide) ?_
                                        refine lv_icmp_ne (tgt := 1389) hx hb dW_law_1334 (by decide) (fun c_33 => ?_) (fun c_33 => ?_)
                                        · refine lv_iload hx hb dW_law_1389 (lv_at hl 6 rfl) ?_
                                          refine lv_bipush (v := 22) hx hb dW_law_1391 (by decide) ?_
                                          refine lv_icmp_ne (tgt := 1429) hx hb dW_law_1393 (by decide) (fun c_34 => ?_) (fun c_34 => ?_)
                                          · have hn0 : 0 < n := by have := (nI_leI (a := 6) (b := n) (by omega) (by omega)).1 c_24; omega
                                            exact lc_days hl9 hx hb hml hown hts hC (by omega) (by omega) (by omega) hY hI (hi6.2 hn0) hq ha.1 ha.2 hG hS (lv_sub hl [0, 1, 2, 3, 4, 5, 6, 7, 8, 9, 10, 11, 12, 13, 14, 15, 16, 17, 18] rfl) (cont ht130 Y hY)
                                          · have hn0 : 0 < n := by have := (nI_leI (a := 6) (b := n) (by omega) (by omega)).1 c_24; omega
                                            exact lc_rate hl9 hx hb hml hown hts hC (by omega) (by omega) (by omega) hY hI (hi6.2 hn0) hq ha.1 ha.2 hG hS (lv_sub hl [0, 1, 2, 3, 4, 5, 6, 7, 8, 9, 10, 11, 12, 13, 14, 15, 16, 17, 18] rfl) (cont ht130 Y hY)
                                        · have hn0 : 0 < n := by have := (nI_leI (a := 6) (b := n) (by omega) (by omega)).1 c_24; omega
                                          exact lc_commission hl9 hx hb hml hown hts hC (by omega) (by omega) (by omega) hY hI (hi6.2 hn0) hq ha.1 ha.2 hG hS (lv_sub hl [0, 1, 2, 3, 4, 5, 6, 7, 8, 9, 10, 11, 12, 13, 14, 15, 16, 17, 18] rfl) (cont ht130 Y hY)
                                      · have hn0 : 0 < n := by have := (nI_leI (a := 6) (b := n) (by omega) (by omega)).1 c_24; omega
                                        exact lc_settle hl9 hx hb hml hown hts hC (by omega) (by omega) (by omega) hY hI (hi6.2 hn0) hq ha.1 ha.2 hG hS (lv_sub hl [0, 1, 2, 3, 4, 5, 6, 7, 8, 9, 10, 11, 12, 13, 14, 15, 16, 17, 18] rfl) (cont ht130 Y hY)
                                    · have hn0 : 0 < n := by have := (nI_leI (a := 6) (b := n) (by omega) (by omega)).1 c_24; omega
                                      exact lc_advance hl9 hx hb hml hown hts hC (by omega) (by omega) (by omega) hY hI (hi6.2 hn0) hq ha.1 ha.2 hG hS (lv_sub hl [0, 1, 2, 3, 4, 5, 6, 7, 8, 9, 10, 11, 12, 13, 14, 15, 16, 17, 18] rfl) (cont ht130 Y hY)
                                  · have hn0 : 0 < n := by have := (nI_leI (a := 6) (b := n) (by omega) (by omega)).1 c_24; omega
                                    exact lc_payGaps hl9 hx hb hml hown hts hC (by omega) (by omega) (by omega) hY hI (hi6.2 hn0) hq ha.1 ha.2 hG hS (lv_sub hl [0, 1, 2, 3, 4, 5, 6, 7, 8, 9, 10, 11, 12, 13, 14, 15, 16, 17, 18] rfl) (cont ht130 Y hY)
                                · have hn0 : 0 < n := by have := (nI_leI (a := 6) (b := n) (by omega) (by omega)).1 c_24; omega
                                  exact lc_defaults hl9 hx hb hml hown hts hC (by omega) (by omega) (by omega) hY hI (hi6.2 hn0) hq ha.1 ha.2 hG hS (lv_sub hl [0, 1, 2, 3, 4, 5, 6, 7, 8, 9, 10, 11, 12, 13, 14, 15, 16, 17, 18] rfl) (cont ht130 Y hY)
                              · have hn0 : 0 < n := by have := (nI_leI (a := 6) (b := n) (by omega) (by omega)).1 c_24; omega
                                exact lc_pay hl9 hx hb hml hown hts hC (by omega) (by omega) (by omega) hY hI (hi6.2 hn0) hq ha.1 ha.2 hG hS (lv_sub hl [0, 1, 2, 3, 4, 5, 6, 7, 8, 9, 10, 11, 12, 13, 14, 15, 16, 17, 18] rfl) (cont ht130 Y hY)
                            · have hn0 : 0 < n := by have := (nI_leI (a := 6) (b := n) (by omega) (by omega)).1 c_24; omega
                              exact lc_again hl9 hx hb hml hown hts hC (by omega) (by omega) (by omega) hY hI (hi6.2 hn0) hq ha.1 ha.2 hG hS (lv_sub hl [0, 1, 2, 3, 4, 5, 6, 7, 8, 9, 10, 11, 12, 13, 14, 15, 16, 17, 18] rfl) (cont ht130 Y hY)
                          · have hn0 : 0 < n := by have := (nI_leI (a := 6) (b := n) (by omega) (by omega)).1 c_24; omega
                            exact lc_hammer hl9 hx hb hml hown hts hC (by omega) (by omega) (by omega) hY hI (hi6.2 hn0) hq ha.1 ha.2 hG hS (lv_sub hl [0, 1, 2, 3, 4, 5, 6, 7, 8, 9, 10, 11, 12, 13, 14, 15, 16, 17, 18] rfl) (cont ht130 Y hY)
                        · have hn0 : 0 < n := by have := (nI_leI (a := 6) (b := n) (by omega) (by omega)).1 c_24; omega
                          exact lc_bid hl9 hx hb hml hown hts hC (by omega) (by omega) (by omega) hY hI (hi6.2 hn0) hq ha.1 ha.2 hG hS (lv_sub hl [0, 1, 2, 3, 4, 5, 6, 7, 8, 9, 10, 11, 12, 13, 14, 15, 16, 17, 18] rfl) (cont ht130 Y hY)
                      · have hn : n < 6 := Nat.lt_of_not_le fun z => c_24 (nI_le z (by omega))
                        exact lc_lot hl9 hx hb hml hown hts hC (by omega) (by omega) (by omega) hY hI hn hq ha.1 ha.2 hG hS (lv_sub hl [0, 1, 2, 3, 4, 5, 6, 7, 8, 9, 10, 11, 12, 13, 14, 15, 16, 17, 18] rfl) (cont ht130 Y hY)
