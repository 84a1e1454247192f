theorem lgc {a b : Int64} (h : a = b) : lg_cmp a b = 0 := by subst h; simp [lg_cmp]
section G9
variable {p : Program} {l : Launch} {e : Env} {R : Room} {s : State} {m : MethodId} {args : Array Value} {below : List Frame} {meth : Method} {c : Code} {H : Heap} {locs : List Loc} {cells slots : Nat} {Q : State → Prop}
variable {D : va_G} {tI tJ tL : ClassId} {A : Nat → Prop} {sg ad : Nat → Nat} {n : Nat} {sL : NL} {sA : NA}
variable {cc : ByteArray} {pc : Nat} {ls : Array Slot} {rest st0 : List Value}
theorem W_keyP {P : Nat → Prop} {g : JFrame} (G : Nat → JFrame) (br : (∀ a, P a → W p l e R s m args below meth c H locs cells slots Q (G a)) → W p l e R s m args below meth c H locs cells slots Q g) (kk : ∀ a, P a → W p l e R s m args below meth c H locs cells slots Q (G a)) : W p l e R s m args below meth c H locs cells slots Q g := br kk
/-- a call of the class that is known to end well -/
theorem rcV5n {y : MethodName} {bytes : ByteArray} {maxL nL index b mc ms : Nat} {ret : Option FieldType} {rm : Room} {own : String} {As : List Value} {F : Nat × Int32 × NL × NA} {v : Int32} {sL2 : NL} {sA2 : NA} (hx : p.tables.exec = Jvm.exec) (hb : c.code = cc) (hml : c.maxLocals = nL) (hown : s.vm.findClass own = some m.cls) (hts : ∀ w ∈ wNeed, w.before args s = true) (hC : GC D tI tJ tL A sg s) (hG : GW D tI tJ tL A ad n sL sA H) (hS : va_S A s.heap H locs)
    (hM : vx_Met l y (Cond.code y bytes maxL ret :: wNeed) rm (va_Pc (.ref b :: As) (GP D tI tJ tL A sg ad n sL sA)) (va_Qi (fun r (u : NL × NA) => F = (0, r, u.1, u.2)) (fun u t => GW D tI tJ tL A ad n u.1 u.2 t.heap) A) (XQ D tI tJ tL A ad n sL sA F.1) mc ms A) (hrec : ∃ cell : Cell, H[b]? = some cell ∧ cell.vm.isStatics = false ∧ s.vm.findClass y.cls = some cell.cls) (hg : GoodIn wNeed (wsV own index y.cls y (Cond.code y bytes maxL ret :: wNeed))) (hrc : rm.cells = mc) (hrs : rm.slots = ms)
    (hd : y.cls = y.cls ∧ y.cls ≠ "java/lang/invoke/MethodHandle" ∧ y.cls ≠ "java/lang/invoke/VarHandle" ∧ (parseMethodDescriptor y.desc).map (fun d => d.parameters.length) = some As.length) (hR : rm.frames + 1 ≤ R.frames ∧ 8 + (maxL + 11) + rm.locals ≤ R.locals)
    (hsz : ls.size = nL) (hst : st0 = As.reverse ++ .ref b :: rest) (hr8 : (rest.map fun v => v.category).sum ≤ 8) (hdg : decode cc pc = .ok (.invokevirtual index, 3)) (hf : cells + mc ≤ R.cells ∧ slots + ms ≤ R.slots) (hF : F = (0, v, sL2, sA2))
    (kk : ∀ (H1 : Heap) (locs1 : List Loc), GW D tI tJ tL A ad n sL2 sA2 H1 → va_S A s.heap H1 locs1 → W p l e R s m args below meth c H1 locs1 (cells + mc) (slots + ms) Q (F0 m (pc + 3) ls (.int v :: rest))) : W p l e R s m args below meth c H locs cells slots Q (F0 m pc ls st0) := by
  refine rcV5w (rest := rest) hx hb hml hown hts hC hG hS hM hrec hg hrc hrs hd hR hsz hst hr8 hdg hf (fun E ce q9 H1 locs1 hE _ _ _ _ _ => ?_) (fun h0 H1 locs1 hG1 hS1 => ?_)
  · exact absurd (by rw [hF]) hE.ne
  · rw [hF] at hG1 ⊢
    exact kk H1 locs1 hG1 hS1
end G9

theorem hdyW_isHouse : yW_isHouse.cls ≠ "java/lang/invoke/MethodHandle" ∧ yW_isHouse.cls ≠ "java/lang/invoke/VarHandle" ∧ (parseMethodDescriptor yW_isHouse.desc).map (fun d => d.parameters.length) = some 7 := by decide +kernel
theorem dW_isHouse_0 : decode bW_isHouse 0 = .ok (.aload_n 1, 1) := by decide +kernel
theorem dW_isHouse_1 : decode bW_isHouse 1 = .ok (.iconst 4, 1) := by decide +kernel
theorem dW_isHouse_2 : decode bW_isHouse 2 = .ok (.iaload, 1) := by decide +kernel
theorem dW_isHouse_3 : decode bW_isHouse 3 = .ok (.i2l, 1) := by decide +kernel
theorem dW_isHouse_4 : decode bW_isHouse 4 = .ok (.lstore 7, 2) := by decide +kernel
theorem dW_isHouse_6 : decode bW_isHouse 6 = .ok (.lconst 0, 1) := by decide +kernel
theorem dW_isHouse_7 : decode bW_isHouse 7 = .ok (.lstore 9, 2) := by decide +kernel
theorem dW_isHouse_9 : decode bW_isHouse 9 = .ok (.aload_n 1, 1) := by decide +kernel
theorem dW_isHouse_10 : decode bW_isHouse 10 = .ok (.iconst 4, 1) := by decide +kernel
theorem dW_isHouse_11 : decode bW_isHouse 11 = .ok (.iaload, 1) := by decide +kernel
theorem dW_isHouse_12 : decode bW_isHouse 12 = .ok (.i2l, 1) := by decide +kernel
theorem dW_isHouse_13 : decode bW_isHouse 13 = .ok (.lstore 11, 2) := by decide +kernel
theorem dW_isHouse_15 : decode bW_isHouse 15 = .ok (.aload_n 0, 1) := by decide +kernel
theorem dW_isHouse_16 : decode bW_isHouse 16 = .ok (.invokevirtual 68, 3) := by decide +kernel
theorem dW_isHouse_19 : decode bW_isHouse 19 = .ok (.aload_n 1, 1) := by decide +kernel
theorem dW_isHouse_20 : decode bW_isHouse 20 = .ok (.iconst 0, 1) := by decide +kernel
theorem dW_isHouse_21 : decode bW_isHouse 21 = .ok (.iaload, 1) := by decide +kernel
theorem dW_isHouse_22 : decode bW_isHouse 22 = .ok (.if_icmp .ne 7, 3) := by decide +kernel
theorem dW_isHouse_25 : decode bW_isHouse 25 = .ok (.iconst 1, 1) := by decide +kernel
theorem dW_isHouse_26 : decode bW_isHouse 26 = .ok (.goto 4, 3) := by decide +kernel
theorem dW_isHouse_30 : decode bW_isHouse 30 = .ok (.istore 13, 2) := by decide +kernel
theorem dW_isHouse_32 : decode bW_isHouse 32 = .ok (.iconst 0, 1) := by decide +kernel
theorem dW_isHouse_33 : decode bW_isHouse 33 = .ok (.istore 14, 2) := by decide +kernel
theorem dW_isHouse_35 : decode bW_isHouse 35 = .ok (.iload 14, 2) := by decide +kernel
theorem dW_isHouse_37 : decode bW_isHouse 37 = .ok (.aload_n 1, 1) := by decide +kernel
theorem dW_isHouse_38 : decode bW_isHouse 38 = .ok (.iconst 0, 1) := by decide +kernel
theorem dW_isHouse_39 : decode bW_isHouse 39 = .ok (.iaload, 1) := by decide +kernel
theorem dW_isHouse_40 : decode bW_isHouse 40 = .ok (.if_icmp .ge 308, 3) := by decide +kernel
theorem dW_isHouse_43 : decode bW_isHouse 43 = .ok (.iload 13, 2) := by decide +kernel
theorem dW_isHouse_45 : decode bW_isHouse 45 = .ok (.ifCond .eq 303, 3) := by decide +kernel
theorem dW_isHouse_48 : decode bW_isHouse 48 = .ok (.aload_n 2, 1) := by decide +kernel
theorem dW_isHouse_49 : decode bW_isHouse 49 = .ok (.bipush 10, 2) := by decide +kernel
theorem dW_isHouse_51 : decode bW_isHouse 51 = .ok (.iload 14, 2) := by decide +kernel
theorem dW_isHouse_53 : decode bW_isHouse 53 = .ok (.imul, 1) := by decide +kernel
theorem dW_isHouse_54 : decode bW_isHouse 54 = .ok (.iconst 3, 1) := by decide +kernel
theorem dW_isHouse_55 : decode bW_isHouse 55 = .ok (.iadd, 1) := by decide +kernel
theorem dW_isHouse_56 : decode bW_isHouse 56 = .ok (.iaload, 1) := by decide +kernel
theorem dW_isHouse_57 : decode bW_isHouse 57 = .ok (.istore 15, 2) := by decide +kernel
theorem dW_isHouse_59 : decode bW_isHouse 59 = .ok (.aload_n 2, 1) := by decide +kernel
theorem dW_isHouse_60 : decode bW_isHouse 60 = .ok (.bipush 10, 2) := by decide +kernel
theorem dW_isHouse_62 : decode bW_isHouse 62 = .ok (.iload 14, 2) := by decide +kernel
theorem dW_isHouse_64 : decode bW_isHouse 64 = .ok (.imul, 1) := by decide +kernel
theorem dW_isHouse_65 : decode bW_isHouse 65 = .ok (.iconst 5, 1) := by decide +kernel
theorem dW_isHouse_66 : decode bW_isHouse 66 = .ok (.iadd, 1) := by decide +kernel
theorem dW_isHouse_67 : decode bW_isHouse 67 = .ok (.iaload, 1) := by decide +kernel
theorem dW_isHouse_68 : decode bW_isHouse 68 = .ok (.istore 16, 2) := by decide +kernel
theorem dW_isHouse_70 : decode bW_isHouse 70 = .ok (.iconst 0, 1) := by decide +kernel
theorem dW_isHouse_71 : decode bW_isHouse 71 = .ok (.istore 17, 2) := by decide +kernel
theorem dW_isHouse_73 : decode bW_isHouse 73 = .ok (.bipush 10, 2) := by decide +kernel
theorem dW_isHouse_75 : decode bW_isHouse 75 = .ok (.iload 14, 2) := by decide +kernel
theorem dW_isHouse_77 : decode bW_isHouse 77 = .ok (.imul, 1) := by decide +kernel
theorem dW_isHouse_78 : decode bW_isHouse 78 = .ok (.istore 18, 2) := by decide +kernel
theorem dW_isHouse_80 : decode bW_isHouse 80 = .ok (.iload 18, 2) := by decide +kernel
theorem dW_isHouse_82 : decode bW_isHouse 82 = .ok (.bipush 10, 2) := by decide +kernel
theorem dW_isHouse_84 : decode bW_isHouse 84 = .ok (.iload 14, 2) := by decide +kernel
theorem dW_isHouse_86 : decode bW_isHouse 86 = .ok (.imul, 1) := by decide +kernel
theorem dW_isHouse_87 : decode bW_isHouse 87 = .ok (.bipush 10, 2) := by decide +kernel
theorem dW_isHouse_89 : decode bW_isHouse 89 = .ok (.iadd, 1) := by decide +kernel
theorem dW_isHouse_90 : decode bW_isHouse 90 = .ok (.if_icmp .ge 27, 3) := by decide +kernel
theorem dW_isHouse_93 : decode bW_isHouse 93 = .ok (.iload 17, 2) := by decide +kernel
theorem dW_isHouse_95 : decode bW_isHouse 95 = .ok (.aload 4, 2) := by decide +kernel
theorem dW_isHouse_97 : decode bW_isHouse 97 = .ok (.iload 18, 2) := by decide +kernel
theorem dW_isHouse_99 : decode bW_isHouse 99 = .ok (.iaload, 1) := by decide +kernel
theorem dW_isHouse_100 : decode bW_isHouse 100 = .ok (.ifCond .le 7, 3) := by decide +kernel
theorem dW_isHouse_103 : decode bW_isHouse 103 = .ok (.iconst 1, 1) := by decide +kernel
theorem dW_isHouse_104 : decode bW_isHouse 104 = .ok (.goto 4, 3) := by decide +kernel
theorem dW_isHouse_107 : decode bW_isHouse 107 = .ok (.iconst 0, 1) := by decide +kernel
theorem dW_isHouse_108 : decode bW_isHouse 108 = .ok (.iadd, 1) := by decide +kernel
theorem dW_isHouse_109 : decode bW_isHouse 109 = .ok (.istore 17, 2) := by decide +kernel
theorem dW_isHouse_111 : decode bW_isHouse 111 = .ok (.iinc 18 1, 3) := by decide +kernel
theorem dW_isHouse_114 : decode bW_isHouse 114 = .ok (.goto (-34), 3) := by decide +kernel
theorem dW_isHouse_117 : decode bW_isHouse 117 = .ok (.aload_n 0, 1) := by decide +kernel
theorem dW_isHouse_118 : decode bW_isHouse 118 = .ok (.iload 14, 2) := by decide +kernel
theorem dW_isHouse_120 : decode bW_isHouse 120 = .ok (.invokevirtual 72, 3) := by decide +kernel
theorem dW_isHouse_123 : decode bW_isHouse 123 = .ok (.iload 15, 2) := by decide +kernel
theorem dW_isHouse_125 : decode bW_isHouse 125 = .ok (.if_icmp .ne 99, 3) := by decide +kernel
theorem dW_isHouse_128 : decode bW_isHouse 128 = .ok (.aload_n 0, 1) := by decide +kernel
theorem dW_isHouse_129 : decode bW_isHouse 129 = .ok (.iload 14, 2) := by decide +kernel
theorem dW_isHouse_131 : decode bW_isHouse 131 = .ok (.invokevirtual 75, 3) := by decide +kernel
theorem dW_isHouse_134 : decode bW_isHouse 134 = .ok (.iload 15, 2) := by decide +kernel
theorem dW_isHouse_136 : decode bW_isHouse 136 = .ok (.iconst 2, 1) := by decide +kernel
theorem dW_isHouse_137 : decode bW_isHouse 137 = .ok (.if_icmp .ge 7, 3) := by decide +kernel
theorem dW_isHouse_140 : decode bW_isHouse 140 = .ok (.iconst (-1), 1) := by decide +kernel
theorem dW_isHouse_141 : decode bW_isHouse 141 = .ok (.goto 12, 3) := by decide +kernel
theorem dW_isHouse_144 : decode bW_isHouse 144 = .ok (.aload_n 2, 1) := by decide +kernel
theorem dW_isHouse_145 : decode bW_isHouse 145 = .ok (.bipush 10, 2) := by decide +kernel
theorem dW_isHouse_147 : decode bW_isHouse 147 = .ok (.iload 14, 2) := by decide +kernel
theorem dW_isHouse_149 : decode bW_isHouse 149 = .ok (.imul, 1) := by decide +kernel
theorem dW_isHouse_150 : decode bW_isHouse 150 = .ok (.iconst 4, 1) := by decide +kernel
theorem dW_isHouse_151 : decode bW_isHouse 151 = .ok (.iadd, 1) := by decide +kernel
theorem dW_isHouse_152 : decode bW_isHouse 152 = .ok (.iaload, 1) := by decide +kernel
theorem dW_isHouse_153 : decode bW_isHouse 153 = .ok (.if_icmp .ne 71, 3) := by decide +kernel
theorem dW_isHouse_156 : decode bW_isHouse 156 = .ok (.aload_n 0, 1) := by decide +kernel
theorem dW_isHouse_157 : decode bW_isHouse 157 = .ok (.iload 14, 2) := by decide +kernel
theorem dW_isHouse_159 : decode bW_isHouse 159 = .ok (.invokevirtual 78, 3) := by decide +kernel
theorem dW_isHouse_162 : decode bW_isHouse 162 = .ok (.iload 15, 2) := by decide +kernel
theorem dW_isHouse_164 : decode bW_isHouse 164 = .ok (.iconst 2, 1) := by decide +kernel
theorem dW_isHouse_165 : decode bW_isHouse 165 = .ok (.if_icmp .ge 7, 3) := by decide +kernel
theorem dW_isHouse_168 : decode bW_isHouse 168 = .ok (.iconst (-1), 1) := by decide +kernel
theorem dW_isHouse_169 : decode bW_isHouse 169 = .ok (.goto 5, 3) := by decide +kernel
theorem dW_isHouse_172 : decode bW_isHouse 172 = .ok (.iload 16, 2) := by decide +kernel
theorem dW_isHouse_174 : decode bW_isHouse 174 = .ok (.if_icmp .ne 50, 3) := by decide +kernel
theorem dW_isHouse_177 : decode bW_isHouse 177 = .ok (.aload_n 0, 1) := by decide +kernel
theorem dW_isHouse_178 : decode bW_isHouse 178 = .ok (.iload 14, 2) := by decide +kernel
theorem dW_isHouse_180 : decode bW_isHouse 180 = .ok (.invokevirtual 81, 3) := by decide +kernel
theorem dW_isHouse_183 : decode bW_isHouse 183 = .ok (.iload 17, 2) := by decide +kernel
theorem dW_isHouse_185 : decode bW_isHouse 185 = .ok (.if_icmp .ne 39, 3) := by decide +kernel
theorem dW_isHouse_188 : decode bW_isHouse 188 = .ok (.aload_n 0, 1) := by decide +kernel
theorem dW_isHouse_189 : decode bW_isHouse 189 = .ok (.iload 14, 2) := by decide +kernel
theorem dW_isHouse_191 : decode bW_isHouse 191 = .ok (.invokevirtual 84, 3) := by decide +kernel
theorem dW_isHouse_194 : decode bW_isHouse 194 = .ok (.aload_n 2, 1) := by decide +kernel
theorem dW_isHouse_195 : decode bW_isHouse 195 = .ok (.iload 14, 2) := by decide +kernel
theorem dW_isHouse_197 : decode bW_isHouse 197 = .ok (.invokestatic 87, 3) := by decide +kernel
theorem dW_isHouse_200 : decode bW_isHouse 200 = .ok (.if_icmp .ne 24, 3) := by decide +kernel
theorem dW_isHouse_203 : decode bW_isHouse 203 = .ok (.aload_n 0, 1) := by decide +kernel
theorem dW_isHouse_204 : decode bW_isHouse 204 = .ok (.iload 14, 2) := by decide +kernel
theorem dW_isHouse_206 : decode bW_isHouse 206 = .ok (.invokevirtual 90, 3) := by decide +kernel
theorem dW_isHouse_209 : decode bW_isHouse 209 = .ok (.aload_n 1, 1) := by decide +kernel
theorem dW_isHouse_210 : decode bW_isHouse 210 = .ok (.aload_n 2, 1) := by decide +kernel
theorem dW_isHouse_211 : decode bW_isHouse 211 = .ok (.aload_n 3, 1) := by decide +kernel
theorem dW_isHouse_212 : decode bW_isHouse 212 = .ok (.iload 14, 2) := by decide +kernel
theorem dW_isHouse_214 : decode bW_isHouse 214 = .ok (.invokestatic 93, 3) := by decide +kernel
theorem dW_isHouse_217 : decode bW_isHouse 217 = .ok (.if_icmp .ne 7, 3) := by decide +kernel
theorem dW_isHouse_220 : decode bW_isHouse 220 = .ok (.iconst 1, 1) := by decide +kernel
theorem dW_isHouse_221 : decode bW_isHouse 221 = .ok (.goto 4, 3) := by decide +kernel
theorem dW_isHouse_225 : decode bW_isHouse 225 = .ok (.istore 13, 2) := by decide +kernel
theorem dW_isHouse_227 : decode bW_isHouse 227 = .ok (.lload 7, 2) := by decide +kernel
theorem dW_isHouse_229 : decode bW_isHouse 229 = .ok (.iload 15, 2) := by decide +kernel
theorem dW_isHouse_231 : decode bW_isHouse 231 = .ok (.iconst 2, 1) := by decide +kernel
theorem dW_isHouse_232 : decode bW_isHouse 232 = .ok (.if_icmp .le 15, 3) := by decide +kernel
theorem dW_isHouse_235 : decode bW_isHouse 235 = .ok (.iload 16, 2) := by decide +kernel
theorem dW_isHouse_237 : decode bW_isHouse 237 = .ok (.iload 16, 2) := by decide +kernel
theorem dW_isHouse_239 : decode bW_isHouse 239 = .ok (.invokestatic 96, 3) := by decide +kernel
theorem dW_isHouse_242 : decode bW_isHouse 242 = .ok (.iadd, 1) := by decide +kernel
theorem dW_isHouse_243 : decode bW_isHouse 243 = .ok (.i2l, 1) := by decide +kernel
theorem dW_isHouse_244 : decode bW_isHouse 244 = .ok (.goto 4, 3) := by decide +kernel
theorem dW_isHouse_247 : decode bW_isHouse 247 = .ok (.lconst 0, 1) := by decide +kernel
theorem dW_isHouse_248 : decode bW_isHouse 248 = .ok (.ladd, 1) := by decide +kernel
theorem dW_isHouse_249 : decode bW_isHouse 249 = .ok (.lstore 7, 2) := by decide +kernel
theorem dW_isHouse_251 : decode bW_isHouse 251 = .ok (.lload 11, 2) := by decide +kernel
theorem dW_isHouse_253 : decode bW_isHouse 253 = .ok (.iload 15, 2) := by decide +kernel
theorem dW_isHouse_255 : decode bW_isHouse 255 = .ok (.iconst 2, 1) := by decide +kernel
theorem dW_isHouse_256 : decode bW_isHouse 256 = .ok (.if_icmp .le 12, 3) := by decide +kernel
theorem dW_isHouse_259 : decode bW_isHouse 259 = .ok (.iload 16, 2) := by decide +kernel
theorem dW_isHouse_261 : decode bW_isHouse 261 = .ok (.invokestatic 96, 3) := by decide +kernel
theorem dW_isHouse_264 : decode bW_isHouse 264 = .ok (.i2l, 1) := by decide +kernel
theorem dW_isHouse_265 : decode bW_isHouse 265 = .ok (.goto 4, 3) := by decide +kernel
theorem dW_isHouse_268 : decode bW_isHouse 268 = .ok (.lconst 0, 1) := by decide +kernel
theorem dW_isHouse_269 : decode bW_isHouse 269 = .ok (.ladd, 1) := by decide +kernel
theorem dW_isHouse_270 : decode bW_isHouse 270 = .ok (.lstore 11, 2) := by decide +kernel
theorem dW_isHouse_272 : decode bW_isHouse 272 = .ok (.lload 9, 2) := by decide +kernel
theorem dW_isHouse_274 : decode bW_isHouse 274 = .ok (.aload_n 3, 1) := by decide +kernel
theorem dW_isHouse_275 : decode bW_isHouse 275 = .ok (.iconst 3, 1) := by decide +kernel
theorem dW_isHouse_276 : decode bW_isHouse 276 = .ok (.iload 14, 2) := by decide +kernel
theorem dW_isHouse_278 : decode bW_isHouse 278 = .ok (.imul, 1) := by decide +kernel
theorem dW_isHouse_279 : decode bW_isHouse 279 = .ok (.iaload, 1) := by decide +kernel
theorem dW_isHouse_280 : decode bW_isHouse 280 = .ok (.i2l, 1) := by decide +kernel
theorem dW_isHouse_281 : decode bW_isHouse 281 = .ok (.ladd, 1) := by decide +kernel
theorem dW_isHouse_282 : decode bW_isHouse 282 = .ok (.lstore 9, 2) := by decide +kernel
theorem dW_isHouse_284 : decode bW_isHouse 284 = .ok (.iload 15, 2) := by decide +kernel
theorem dW_isHouse_286 : decode bW_isHouse 286 = .ok (.iconst 4, 1) := by decide +kernel
theorem dW_isHouse_287 : decode bW_isHouse 287 = .ok (.if_icmp .ne 55, 3) := by decide +kernel
theorem dW_isHouse_290 : decode bW_isHouse 290 = .ok (.aload_n 2, 1) := by decide +kernel
theorem dW_isHouse_291 : decode bW_isHouse 291 = .ok (.bipush 10, 2) := by decide +kernel
theorem dW_isHouse_293 : decode bW_isHouse 293 = .ok (.iload 14, 2) := by decide +kernel
theorem dW_isHouse_295 : decode bW_isHouse 295 = .ok (.imul, 1) := by decide +kernel
theorem dW_isHouse_296 : decode bW_isHouse 296 = .ok (.bipush 9, 2) := by decide +kernel
theorem dW_isHouse_298 : decode bW_isHouse 298 = .ok (.iadd, 1) := by decide +kernel
theorem dW_isHouse_299 : decode bW_isHouse 299 = .ok (.iaload, 1) := by decide +kernel
theorem dW_isHouse_300 : decode bW_isHouse 300 = .ok (.istore 18, 2) := by decide +kernel
theorem dW_isHouse_302 : decode bW_isHouse 302 = .ok (.lload 9, 2) := by decide +kernel
theorem dW_isHouse_304 : decode bW_isHouse 304 = .ok (.iload 18, 2) := by decide +kernel
theorem dW_isHouse_306 : decode bW_isHouse 306 = .ok (.aload_n 2, 1) := by decide +kernel
theorem dW_isHouse_307 : decode bW_isHouse 307 = .ok (.iload 14, 2) := by decide +kernel
theorem dW_isHouse_309 : decode bW_isHouse 309 = .ok (.invokestatic 87, 3) := by decide +kernel
theorem dW_isHouse_312 : decode bW_isHouse 312 = .ok (.iadd, 1) := by decide +kernel
theorem dW_isHouse_313 : decode bW_isHouse 313 = .ok (.i2l, 1) := by decide +kernel
theorem dW_isHouse_314 : decode bW_isHouse 314 = .ok (.ladd, 1) := by decide +kernel
theorem dW_isHouse_315 : decode bW_isHouse 315 = .ok (.lstore 9, 2) := by decide +kernel
theorem dW_isHouse_317 : decode bW_isHouse 317 = .ok (.lload 11, 2) := by decide +kernel
theorem dW_isHouse_319 : decode bW_isHouse 319 = .ok (.iload 16, 2) := by decide +kernel
theorem dW_isHouse_321 : decode bW_isHouse 321 = .ok (.iload 18, 2) := by decide +kernel
theorem dW_isHouse_323 : decode bW_isHouse 323 = .ok (.isub, 1) := by decide +kernel
theorem dW_isHouse_324 : decode bW_isHouse 324 = .ok (.aload_n 2, 1) := by decide +kernel
theorem dW_isHouse_325 : decode bW_isHouse 325 = .ok (.iload 14, 2) := by decide +kernel
theorem dW_isHouse_327 : decode bW_isHouse 327 = .ok (.invokestatic 87, 3) := by decide +kernel
theorem dW_isHouse_330 : decode bW_isHouse 330 = .ok (.isub, 1) := by decide +kernel
theorem dW_isHouse_331 : decode bW_isHouse 331 = .ok (.aload_n 3, 1) := by decide +kernel
theorem dW_isHouse_332 : decode bW_isHouse 332 = .ok (.iconst 3, 1) := by decide +kernel
theorem dW_isHouse_333 : decode bW_isHouse 333 = .ok (.iload 14, 2) := by decide +kernel
theorem dW_isHouse_335 : decode bW_isHouse 335 = .ok (.imul, 1) := by decide +kernel
theorem dW_isHouse_336 : decode bW_isHouse 336 = .ok (.iaload, 1) := by decide +kernel
theorem dW_isHouse_337 : decode bW_isHouse 337 = .ok (.isub, 1) := by decide +kernel
theorem dW_isHouse_338 : decode bW_isHouse 338 = .ok (.i2l, 1) := by decide +kernel
theorem dW_isHouse_339 : decode bW_isHouse 339 = .ok (.ladd, 1) := by decide +kernel
theorem dW_isHouse_340 : decode bW_isHouse 340 = .ok (.lstore 11, 2) := by decide +kernel
theorem dW_isHouse_342 : decode bW_isHouse 342 = .ok (.iinc 14 1, 3) := by decide +kernel
theorem dW_isHouse_345 : decode bW_isHouse 345 = .ok (.goto (-310), 3) := by decide +kernel
theorem dW_isHouse_348 : decode bW_isHouse 348 = .ok (.iconst 0, 1) := by decide +kernel
theorem dW_isHouse_349 : decode bW_isHouse 349 = .ok (.istore 14, 2) := by decide +kernel
theorem dW_isHouse_351 : decode bW_isHouse 351 = .ok (.iload 14, 2) := by decide +kernel
theorem dW_isHouse_353 : decode bW_isHouse 353 = .ok (.bipush 10, 2) := by decide +kernel
theorem dW_isHouse_355 : decode bW_isHouse 355 = .ok (.if_icmp .ge 35, 3) := by decide +kernel
theorem dW_isHouse_358 : decode bW_isHouse 358 = .ok (.iload 13, 2) := by decide +kernel
theorem dW_isHouse_360 : decode bW_isHouse 360 = .ok (.ifCond .eq 30, 3) := by decide +kernel
theorem dW_isHouse_363 : decode bW_isHouse 363 = .ok (.aload_n 0, 1) := by decide +kernel
theorem dW_isHouse_364 : decode bW_isHouse 364 = .ok (.iload 14, 2) := by decide +kernel
theorem dW_isHouse_366 : decode bW_isHouse 366 = .ok (.invokevirtual 99, 3) := by decide +kernel
theorem dW_isHouse_369 : decode bW_isHouse 369 = .ok (.aload 5, 2) := by decide +kernel
theorem dW_isHouse_371 : decode bW_isHouse 371 = .ok (.iload 14, 2) := by decide +kernel
theorem dW_isHouse_373 : decode bW_isHouse 373 = .ok (.iaload, 1) := by decide +kernel
theorem dW_isHouse_374 : decode bW_isHouse 374 = .ok (.if_icmp .ne 7, 3) := by decide +kernel
theorem dW_isHouse_377 : decode bW_isHouse 377 = .ok (.iconst 1, 1) := by decide +kernel
theorem dW_isHouse_378 : decode bW_isHouse 378 = .ok (.goto 4, 3) := by decide +kernel
theorem dW_isHouse_382 : decode bW_isHouse 382 = .ok (.istore 13, 2) := by decide +kernel
theorem dW_isHouse_384 : decode bW_isHouse 384 = .ok (.iinc 14 1, 3) := by decide +kernel
theorem dW_isHouse_387 : decode bW_isHouse 387 = .ok (.goto (-36), 3) := by decide +kernel
theorem dW_isHouse_390 : decode bW_isHouse 390 = .ok (.iload 6, 2) := by decide +kernel
theorem dW_isHouse_392 : decode bW_isHouse 392 = .ok (.iconst 3, 1) := by decide +kernel
theorem dW_isHouse_393 : decode bW_isHouse 393 = .ok (.irem, 1) := by decide +kernel
theorem dW_isHouse_394 : decode bW_isHouse 394 = .ok (.ifCond .ne 11, 3) := by decide +kernel
theorem dW_isHouse_397 : decode bW_isHouse 397 = .ok (.iload 6, 2) := by decide +kernel
theorem dW_isHouse_399 : decode bW_isHouse 399 = .ok (.ldc 102, 2) := by decide +kernel
theorem dW_isHouse_401 : decode bW_isHouse 401 = .ok (.irem, 1) := by decide +kernel
theorem dW_isHouse_402 : decode bW_isHouse 402 = .ok (.goto 9, 3) := by decide +kernel
theorem dW_isHouse_405 : decode bW_isHouse 405 = .ok (.iload 6, 2) := by decide +kernel
theorem dW_isHouse_407 : decode bW_isHouse 407 = .ok (.sipush 30000, 3) := by decide +kernel
theorem dW_isHouse_410 : decode bW_isHouse 410 = .ok (.irem, 1) := by decide +kernel
theorem dW_isHouse_411 : decode bW_isHouse 411 = .ok (.istore 14, 2) := by decide +kernel
theorem dW_isHouse_413 : decode bW_isHouse 413 = .ok (.iload 13, 2) := by decide +kernel
theorem dW_isHouse_415 : decode bW_isHouse 415 = .ok (.ifCond .eq 97, 3) := by decide +kernel
theorem dW_isHouse_418 : decode bW_isHouse 418 = .ok (.aload_n 0, 1) := by decide +kernel
theorem dW_isHouse_419 : decode bW_isHouse 419 = .ok (.invokevirtual 103, 3) := by decide +kernel
theorem dW_isHouse_422 : decode bW_isHouse 422 = .ok (.lload 7, 2) := by decide +kernel
theorem dW_isHouse_424 : decode bW_isHouse 424 = .ok (.lcmp, 1) := by decide +kernel
theorem dW_isHouse_425 : decode bW_isHouse 425 = .ok (.ifCond .ne 87, 3) := by decide +kernel
theorem dW_isHouse_428 : decode bW_isHouse 428 = .ok (.aload_n 0, 1) := by decide +kernel
theorem dW_isHouse_429 : decode bW_isHouse 429 = .ok (.invokevirtual 107, 3) := by decide +kernel
theorem dW_isHouse_432 : decode bW_isHouse 432 = .ok (.lload 9, 2) := by decide +kernel
theorem dW_isHouse_434 : decode bW_isHouse 434 = .ok (.lcmp, 1) := by decide +kernel
theorem dW_isHouse_435 : decode bW_isHouse 435 = .ok (.ifCond .ne 77, 3) := by decide +kernel
theorem dW_isHouse_438 : decode bW_isHouse 438 = .ok (.aload_n 0, 1) := by decide +kernel
theorem dW_isHouse_439 : decode bW_isHouse 439 = .ok (.invokevirtual 110, 3) := by decide +kernel
theorem dW_isHouse_442 : decode bW_isHouse 442 = .ok (.lload 11, 2) := by decide +kernel
theorem dW_isHouse_444 : decode bW_isHouse 444 = .ok (.lcmp, 1) := by decide +kernel
theorem dW_isHouse_445 : decode bW_isHouse 445 = .ok (.ifCond .ne 67, 3) := by decide +kernel
theorem dW_isHouse_448 : decode bW_isHouse 448 = .ok (.aload_n 0, 1) := by decide +kernel
theorem dW_isHouse_449 : decode bW_isHouse 449 = .ok (.invokevirtual 113, 3) := by decide +kernel
theorem dW_isHouse_452 : decode bW_isHouse 452 = .ok (.lload 7, 2) := by decide +kernel
theorem dW_isHouse_454 : decode bW_isHouse 454 = .ok (.lload 9, 2) := by decide +kernel
theorem dW_isHouse_456 : decode bW_isHouse 456 = .ok (.lsub, 1) := by decide +kernel
theorem dW_isHouse_457 : decode bW_isHouse 457 = .ok (.lload 11, 2) := by decide +kernel
theorem dW_isHouse_459 : decode bW_isHouse 459 = .ok (.lsub, 1) := by decide +kernel
theorem dW_isHouse_460 : decode bW_isHouse 460 = .ok (.lcmp, 1) := by decide +kernel
theorem dW_isHouse_461 : decode bW_isHouse 461 = .ok (.ifCond .ne 51, 3) := by decide +kernel
theorem dW_isHouse_464 : decode bW_isHouse 464 = .ok (.aload_n 0, 1) := by decide +kernel
theorem dW_isHouse_465 : decode bW_isHouse 465 = .ok (.invokevirtual 116, 3) := by decide +kernel
theorem dW_isHouse_468 : decode bW_isHouse 468 = .ok (.lload 7, 2) := by decide +kernel
theorem dW_isHouse_470 : decode bW_isHouse 470 = .ok (.lload 9, 2) := by decide +kernel
theorem dW_isHouse_472 : decode bW_isHouse 472 = .ok (.lsub, 1) := by decide +kernel
theorem dW_isHouse_473 : decode bW_isHouse 473 = .ok (.lload 11, 2) := by decide +kernel
theorem dW_isHouse_475 : decode bW_isHouse 475 = .ok (.lsub, 1) := by decide +kernel
theorem dW_isHouse_476 : decode bW_isHouse 476 = .ok (.lcmp, 1) := by decide +kernel
theorem dW_isHouse_477 : decode bW_isHouse 477 = .ok (.ifCond .ne 35, 3) := by decide +kernel
theorem dW_isHouse_480 : decode bW_isHouse 480 = .ok (.aload_n 0, 1) := by decide +kernel
theorem dW_isHouse_481 : decode bW_isHouse 481 = .ok (.iload 14, 2) := by decide +kernel
theorem dW_isHouse_483 : decode bW_isHouse 483 = .ok (.invokevirtual 119, 3) := by decide +kernel
theorem dW_isHouse_486 : decode bW_isHouse 486 = .ok (.iload 14, 2) := by decide +kernel
theorem dW_isHouse_488 : decode bW_isHouse 488 = .ok (.invokestatic 8, 3) := by decide +kernel
theorem dW_isHouse_491 : decode bW_isHouse 491 = .ok (.if_icmp .ne 21, 3) := by decide +kernel
theorem dW_isHouse_494 : decode bW_isHouse 494 = .ok (.aload_n 0, 1) := by decide +kernel
theorem dW_isHouse_495 : decode bW_isHouse 495 = .ok (.iload 14, 2) := by decide +kernel
theorem dW_isHouse_497 : decode bW_isHouse 497 = .ok (.invokevirtual 122, 3) := by decide +kernel
theorem dW_isHouse_500 : decode bW_isHouse 500 = .ok (.iload 14, 2) := by decide +kernel
theorem dW_isHouse_502 : decode bW_isHouse 502 = .ok (.invokestatic 96, 3) := by decide +kernel
theorem dW_isHouse_505 : decode bW_isHouse 505 = .ok (.if_icmp .ne 7, 3) := by decide +kernel
theorem dW_isHouse_508 : decode bW_isHouse 508 = .ok (.iconst 1, 1) := by decide +kernel
theorem dW_isHouse_509 : decode bW_isHouse 509 = .ok (.goto 4, 3) := by decide +kernel
theorem dW_isHouse_513 : decode bW_isHouse 513 = .ok (.ireturn, 1) := by decide +kernel
set_option maxHeartbeats 8000000 in
set_option maxRecDepth 100000 in
theorem cW_isHouse (l : Launch) (hl9 : l.stackTraces = false) (D : va_G) (tI tJ tL : ClassId) (A : Nat → Prop) (sg ad : Nat → Nat) (n : Nat) (sL : NL) (sA : NA) (K : Nat) (hI : INV n K sL sA) (x : Nat) (hx31 : x < 2 ^ 31) : Met l yW_isHouse (Cond.code yW_isHouse bW_isHouse 19 (some FieldType.boolean) :: wNeed) { frames := 9, cells := 58, slots := 344, locals := 152 } (va_Pc [.ref (ad 0), .ref (ad 4), .ref (ad 5), .ref (ad 6), .ref (ad 7), .ref (ad 10), .int (nI x)] (GP D tI tJ tL A sg ad n sL sA)) (va_Qi (fun r (_ : Unit) => r = 1) (fun _ t => GW D tI tJ tL A ad n sL sA t.heap) A) 58 344 A := by
  have hn6 := hI.n6
  refine en_G (av := [.ref (ad 0), .ref (ad 4), .ref (ad 5), .ref (ad 6), .ref (ad 7), .ref (ad 10), .int (nI x)]) (by decide) (Nat.le_of_ble_eq_true rfl) ?_
  intro p e s m below meth c hx hb hml hown hts hr hlocks hmname hC H locs hG hS ls hl
  have htail : ∀ (H : Heap) (locs : List Loc) (ls : Array Slot) (xi xo xk : Int64), xi = (sA 4 4).toInt64 + sm (mI sA) n → xo = sm (mO sA) n → xk = (sA 4 4).toInt64 + sm (mK sA) n → GW D tI tJ tL A ad n sL sA H → va_S A s.heap H locs → lv_has ls 19 [(13, .int 1), (11, .long xk), (9, .long xo), (7, .long xi), (6, .int (nI x)), (5, .ref (ad 10)), (4, .ref (ad 7)), (3, .ref (ad 6)), (2, .ref (ad 5)), (1, .ref (ad 4)), (0, .ref (ad 0))] → W p l e { frames := 9, cells := 58, slots := 344, locals := 152 } s m #[.ref (ad 0), .ref (ad 4), .ref (ad 5), .ref (ad 6), .ref (ad 7), .ref (ad 10), .int (nI x)] below meth c H locs  50 300 (MQ below (va_Qi (fun r (_ : Unit) => r = 1) (fun _ t => GW D tI tJ tL A ad n sL sA t.heap) A) #[.ref (ad 0), .ref (ad 4), .ref (ad 5), .ref (ad 6), .ref (ad 7), .ref (ad 10), .int (nI x)] s 58 344 A) (F0 m 390 ls []) := by
    intro H locs ls xi xo xk hxi hxo hxk hG hS hl
    refine W_keyP (P := fun a => a ≤ 1000000) (fun a => F0 m 411 ls [.int (nI a)]) (fun key => ?_) (fun a ha => ?_)
    · refine lv_iload hx hb dW_isHouse_390 (lv_at hl 4 rfl) ?_
      refine lv_iconst (v := 3) hx hb dW_isHouse_392 (by decide) ?_
      refine lv_irem hx hb dW_isHouse_393 (by decide) ?_
      rw [show (nI x) - (nI x) / (3 : Int32) * (3 : Int32) = nI (x % 3) from pk_rem (a := x) (d := 3) (by omega) (by omega) (by omega)]
      refine lv_if_ne (tgt := 405) hx hb dW_isHouse_394 (by decide) (fun c_1 => ?_) (fun c_1 => ?_)
      · refine lv_iload hx hb dW_isHouse_405 (lv_at hl 4 rfl) ?_
        refine lv_sipush (v := 30000) hx hb dW_isHouse_407 (by decide) ?_
        refine lv_irem hx hb dW_isHouse_410 (by decide) ?_
        rw [show (nI x) - (nI x) / (30000 : Int32) * (30000 : Int32) = nI (x % 30000) from pk_rem (a := x) (d := 30000) (by omega) (by omega) (by omega)]
        exact key (x % 30000) (by omega)
      · refine lv_iload hx hb dW_isHouse_397 (lv_at hl 4 rfl) ?_
        refine lv_ldc (v := 1000001) hx hb hown (hts _ q_445) dW_isHouse_399 ?_
        refine lv_irem hx hb dW_isHouse_401 (by decide) ?_
        rw [show (nI x) - (nI x) / (1000001 : Int32) * (1000001 : Int32) = nI (x % 1000001) from pk_rem (a := x) (d := 1000001) (by omega) (by omega) (by omega)]
        refine lv_goto (tgt := 411) hx hb dW_isHouse_402 (by decide) ?_
        exact key (x % 1000001) (by omega)
    · refine lv_istore (lv' := [(14, .int (nI a)), (13, .int 1), (11, .long xk), (9, .long xo), (7, .long xi), (6, .int (nI x)), (5, .ref (ad 10)), (4, .ref (ad 7)), (3, .ref (ad 6)), (2, .ref (ad 5)), (1, .ref (ad 4)), (0, .ref (ad 0))]) hx hb dW_isHouse_411 hl (by decide) rfl (fun ls hl => ?_)
      refine lv_iload hx hb dW_isHouse_413 (lv_at hl 1 rfl) ?_
      refine lv_if_eq (tgt := 512) hx hb dW_isHouse_415 (by decide) (fun c_2 => ?_) (fun c_2 => ?_)
      · exact absurd c_2 (by decide)
      · refine lv_aload_n hx hb dW_isHouse_418 rfl (lv_at hl 11 rfl) ?_
        refine rcV2l (rest := []) (As := []) hx hb hml hown hts hC hG hS (cX_in l D tI tJ tL A sg ad n sL sA) (recX hC hG) (gV q_446 q_447 q_448 q_1 q_449) rfl rfl ⟨rfl, hdyX_in⟩ ⟨Nat.le_of_ble_eq_true rfl, Nat.le_of_ble_eq_true rfl⟩ hl.1 rfl (Nat.le_of_ble_eq_true rfl) dW_isHouse_419 ⟨by show _ ≤ 58; omega, by show _ ≤ 344; omega⟩ ?_
        refine lv_lload hx hb dW_isHouse_422 (lv_at hl 4 rfl) ?_
        refine W.lcmp hx hb dW_isHouse_424 ?_
        refine lv_if_ne (tgt := 512) hx hb dW_isHouse_425 (by decide) (fun c_3 => ?_) (fun c_3 => ?_)
        · exact absurd c_3 (fun q => q (lgc (by rw [hI.r_in, hxi])))
        · refine lv_aload_n hx hb dW_isHouse_428 rfl (lv_at hl 11 rfl) ?_
          refine rcV2l (rest := []) (As := []) hx hb hml hown hts hC hG hS (cX_out l D tI tJ tL A sg ad n sL sA) (recX hC hG) (gV q_450 q_451 q_452 q_1 q_453) rfl rfl ⟨rfl, hdyX_out⟩ ⟨Nat.le_of_ble_eq_true rfl, Nat.le_of_ble_eq_true rfl⟩ hl.1 rfl (Nat.le_of_ble_eq_true rfl) dW_isHouse_429 ⟨by show _ ≤ 58; omega, by show _ ≤ 344; omega⟩ ?_
          refine lv_lload hx hb dW_isHouse_432 (lv_at hl 3 rfl) ?_
          refine W.lcmp hx hb dW_isHouse_434 ?_
          refine lv_if_ne (tgt := 512) hx hb dW_isHouse_435 (by decide) (fun c_4 => ?_) (fun c_4 => ?_)
          · exact absurd c_4 (fun q => q (lgc (by rw [hI.r_out, hxo])))
          · refine lv_aload_n hx hb dW_isHouse_438 rfl (lv_at hl 11 rfl) ?_
            refine rcV2l (rest := []) (As := []) hx hb hml hown hts hC hG hS (cX_kept l D tI tJ tL A sg ad n sL sA) (recX hC hG) (gV q_454 q_455 q_456 q_1 q_457) rfl rfl ⟨rfl, hdyX_kept⟩ ⟨Nat.le_of_ble_eq_true rfl, Nat.le_of_ble_eq_true rfl⟩ hl.1 rfl (Nat.le_of_ble_eq_true rfl) dW_isHouse_439 ⟨by show _ ≤ 58; omega, by show _ ≤ 344; omega⟩ ?_
            refine lv_lload hx hb dW_isHouse_442 (lv_at hl 2 rfl) ?_
            refine W.lcmp hx hb dW_isHouse_444 ?_
            refine lv_if_ne (tgt := 512) hx hb dW_isHouse_445 (by decide) (fun c_5 => ?_) (fun c_5 => ?_)
            · exact absurd c_5 (fun q => q (lgc (by rw [hI.r_kept, hxk])))
            · refine lv_aload_n hx hb dW_isHouse_448 rfl (lv_at hl 11 rfl) ?_
              refine rcV2l (rest := []) (As := []) hx hb hml hown hts hC hG hS (cX_held l D tI tJ tL A sg ad n sL sA) (recX hC hG) (gV q_458 q_459 q_460 q_1 q_461) rfl rfl ⟨rfl, hdyX_held⟩ ⟨Nat.le_of_ble_eq_true rfl, Nat.le_of_ble_eq_true rfl⟩ hl.1 rfl (Nat.le_of_ble_eq_true rfl) dW_isHouse_449 ⟨by show _ ≤ 58; omega, by show _ ≤ 344; omega⟩ ?_
              refine lv_lload hx hb dW_isHouse_452 (lv_at hl 4 rfl) ?_
              refine lv_lload hx hb dW_isHouse_454 (lv_at hl 3 rfl) ?_
              refine lv_lsub hx hb dW_isHouse_456 ?_
              refine lv_lload hx hb dW_isHouse_457 (lv_at hl 2 rfl) ?_
              refine lv_lsub hx hb dW_isHouse_459 ?_
              refine W.lcmp hx hb dW_isHouse_460 ?_
              refine lv_if_ne (tgt := 512) hx hb dW_isHouse_461 (by decide) (fun c_6 => ?_) (fun c_6 => ?_)
              · exact absurd c_6 (fun q => q (lgc (by rw [hI.r_held, hxi, hxo, hxk])))
              · refine lv_aload_n hx hb dW_isHouse_464 rfl (lv_at hl 11 rfl) ?_
                refine rcV2l (rest := []) (As := []) hx hb hml hown hts hC hG hS (cX_heldByLots l D tI tJ tL A sg ad n sL sA) (recX hC hG) (gV q_462 q_463 q_464 q_1 q_465) rfl rfl ⟨rfl, hdyX_heldByLots⟩ ⟨Nat.le_of_ble_eq_true rfl, Nat.le_of_ble_eq_true rfl⟩ hl.1 rfl (Nat.le_of_ble_eq_true rfl) dW_isHouse_465 ⟨by show _ ≤ 58; omega, by show _ ≤ 344; omega⟩ ?_
                refine lv_lload hx hb dW_isHouse_468 (lv_at hl 4 rfl) ?_
                refine lv_lload hx hb dW_isHouse_470 (lv_at hl 3 rfl) ?_
                refine lv_lsub hx hb dW_isHouse_472 ?_
                refine lv_lload hx hb dW_isHouse_473 (lv_at hl 2 rfl) ?_
                refine lv_lsub hx hb dW_isHouse_475 ?_
                refine W.lcmp hx hb dW_isHouse_476 ?_
                refine lv_if_ne (tgt := 512) hx hb dW_isHouse_477 (by decide) (fun c_7 => ?_) (fun c_7 => ?_)
                · exact absurd c_7 (fun q => q (lgc (by rw [hI.r_heldByLots, hxi, hxo, hxk])))
                · refine lv_aload_n hx hb dW_isHouse_480 rfl (lv_at hl 11 rfl) ?_
                  refine lv_iload hx hb dW_isHouse_481 (lv_at hl 0 rfl) ?_
                  refine rcV5n (rest := []) (As := [.int (nI a)]) hx hb hml hown hts hC hG hS (cX_callOf l hl9 D tI tJ tL A sg ad n sL sA (nI a)) (recX hC hG) (gV q_470 q_471 q_472 q_1 q_473) rfl rfl ⟨rfl, hdyX_callOf⟩ ⟨Nat.le_of_ble_eq_true rfl, Nat.le_of_ble_eq_true rfl⟩ hl.1 rfl (Nat.le_of_ble_eq_true rfl) dW_isHouse_483 ⟨by show _ ≤ 58; omega, by show _ ≤ 344; omega⟩ (r_callOf ha) (fun H locs hG hS => ?_)
                  refine lv_iload hx hb dW_isHouse_486 (lv_at hl 0 rfl) ?_
                  refine rcS1c (rest := [.int (fW_call (nI a))]) (As := [.int (nI a)]) hx hb hml hown hts hS (cW_call l D (nI a)) (gS q_148 q_149 q_0 q_150) rfl rfl ⟨rfl, hdyW_call⟩ ⟨Nat.le_of_ble_eq_true rfl, Nat.le_of_ble_eq_true rfl⟩ hl.1 rfl (Nat.le_of_ble_eq_true rfl) dW_isHouse_488 ⟨by show _ ≤ 58; omega, by show _ ≤ 344; omega⟩ (fun H1 locs hk9 hS => ?_)
                  replace hG := hG.kept hk9
                  clear hk9
                  generalize H1 = H at hG hS ⊢
                  refine lv_icmp_ne (tgt := 512) hx hb dW_isHouse_491 (by decide) (fun c_8 => ?_) (fun c_8 => ?_)
                  · exact absurd c_8 (fun q => q rfl)
                  · refine lv_aload_n hx hb dW_isHouse_494 rfl (lv_at hl 11 rfl) ?_
                    refine lv_iload hx hb dW_isHouse_495 (lv_at hl 0 rfl) ?_
                    refine rcV5n (rest := []) (As := [.int (nI a)]) hx hb hml hown hts hC hG hS (cX_fee l hl9 D tI tJ tL A sg ad n sL sA (nI a)) (recX hC hG) (gV q_474 q_475 q_476 q_1 q_477) rfl rfl ⟨rfl, hdyX_fee⟩ ⟨Nat.le_of_ble_eq_true rfl, Nat.le_of_ble_eq_true rfl⟩ hl.1 rfl (Nat.le_of_ble_eq_true rfl) dW_isHouse_497 ⟨by show _ ≤ 58; omega, by show _ ≤ 344; omega⟩ (r_fee ha) (fun H locs hG hS => ?_)
                    refine lv_iload hx hb dW_isHouse_500 (lv_at hl 0 rfl) ?_
                    refine rcS1 (rest := [.int (fW_fee (nI a))]) (As := [.int (nI a)]) hx hb hml hown hts (cW_fee l (nI a)) (gS q_152 q_153 q_0 q_154) rfl rfl ⟨rfl, hdyW_fee⟩ ⟨Nat.le_of_ble_eq_true rfl, Nat.le_of_ble_eq_true rfl⟩ hl.1 rfl (Nat.le_of_ble_eq_true rfl) dW_isHouse_502 ⟨by show _ ≤ 58; omega, by show _ ≤ 344; omega⟩ ?_
                    refine lv_icmp_ne (tgt := 512) hx hb dW_isHouse_505 (by decide) (fun c_9 => ?_) (fun c_9 => ?_)
                    · exact absurd c_9 (fun q => q rfl)
                    · refine lv_iconst (v := 1) hx hb dW_isHouse_508 (by decide) ?_
                      refine lv_goto (tgt := 513) hx hb dW_isHouse_509 (by decide) ?_
                      refine W.widen (k := 58) (n := 344) (by omega) (by omega) ?_
                      exact W.zret (v := 1) hx hb hr rfl (fun t ht hW => ⟨⟨1, (), rfl, rfl, gw_at hG ht⟩, hS.F ht⟩) hS.2.2 dW_isHouse_513
  have howes : ∀ (f k : Nat), k + f = 11 → k ≤ 10 → ∀ (H : Heap) (locs : List Loc) (ls : Array Slot) (xi xo xk : Int64), xi = (sA 4 4).toInt64 + sm (mI sA) n → xo = sm (mO sA) n → xk = (sA 4 4).toInt64 + sm (mK sA) n → GW D tI tJ tL A ad n sL sA H → va_S A s.heap H locs → lv_has ls 19 [(14, .int (nI k)), (13, .int 1), (11, .long xk), (9, .long xo), (7, .long xi), (6, .int (nI x)), (5, .ref (ad 10)), (4, .ref (ad 7)), (3, .ref (ad 6)), (2, .ref (ad 5)), (1, .ref (ad 4)), (0, .ref (ad 0))] → W p l e { frames := 9, cells := 58, slots := 344, locals := 152 } s m #[.ref (ad 0), .ref (ad 4), .ref (ad 5), .ref (ad 6), .ref (ad 7), .ref (ad 10), .int (nI x)] below meth c H locs  (38 + 1 * k) (228 + 6 * k) (MQ below (va_Qi (fun r (_ : Unit) => r = 1) (fun _ t => GW D tI tJ tL A ad n sL sA t.heap) A) #[.ref (ad 0), .ref (ad 4), .ref (ad 5), .ref (ad 6), .ref (ad 7), .ref (ad 10), .int (nI x)] s 58 344 A) (F0 m 351 ls []) := by
    intro f
    induction f with
    | zero => intro k h1 h2; omega
    | succ f ih =>
      intro k hf hk10 H locs ls xi xo xk hxi hxo hxk hG hS hl
      refine lv_iload hx hb dW_isHouse_351 (lv_at hl 0 rfl) ?_
      refine lv_bipush (v := 10) hx hb dW_isHouse_353 (by decide) ?_
      refine lv_icmp_ge (tgt := 390) hx hb dW_isHouse_355 (by decide) (fun c_1 => ?_) (fun c_1 => ?_)
      · refine W.widen (k := 50) (n := 300) (by omega) (by omega) ?_
        exact htail _ _ _ xi xo xk hxi hxo hxk hG hS (lv_sub hl [1, 2, 3, 4, 5, 6, 7, 8, 9, 10, 11] rfl)
      · have hk : k < 10 := lt_guard10 (by omega) c_1
        refine lv_iload hx hb dW_isHouse_358 (lv_at hl 1 rfl) ?_
        refine lv_if_eq (tgt := 390) hx hb dW_isHouse_360 (by decide) (fun c_2 => ?_) (fun c_2 => ?_)
        · exact absurd c_2 (by decide)
        · refine lv_aload_n hx hb dW_isHouse_363 rfl (lv_at hl 11 rfl) ?_
          refine lv_iload hx hb dW_isHouse_364 (lv_at hl 0 rfl) ?_
          refine rcV5n (rest := []) (As := [.int (nI k)]) hx hb hml hown hts hC hG hS (cX_owes l hl9 D tI tJ tL A sg ad n sL sA (nI k)) (recX hC hG) (gV q_441 q_442 q_443 q_1 q_444) rfl rfl ⟨rfl, hdyX_owes⟩ ⟨Nat.le_of_ble_eq_true rfl, Nat.le_of_ble_eq_true rfl⟩ hl.1 rfl (Nat.le_of_ble_eq_true rfl) dW_isHouse_366 ⟨by show _ ≤ 58; omega, by show _ ≤ 344; omega⟩ (hI.r_owes hk) (fun H locs hG hS => ?_)
          refine lv_aload hx hb dW_isHouse_369 (lv_at hl 6 rfl) ?_
          refine lv_iload hx hb dW_isHouse_371 (lv_at hl 0 rfl) ?_
          refine ra_ld hx hb hC hG 10 10 (by omega) (fun _ _ => rfl) (vp_in_nI (by omega) (by omega)) dW_isHouse_373 ?_
          rw [show (nI k).toNatClampNeg = k from nI_clamp (by omega)]
          refine lv_icmp_ne (tgt := 381) hx hb dW_isHouse_374 (by decide) (fun c_10 => ?_) (fun c_10 => ?_)
          · exact absurd c_10 (fun q => q rfl)
          · refine lv_iconst (v := 1) hx hb dW_isHouse_377 (by decide) ?_
            refine lv_goto (tgt := 382) hx hb dW_isHouse_378 (by decide) ?_
            refine lv_istore (lv' := [(13, .int 1), (14, .int (nI k)), (11, .long xk), (9, .long xo), (7, .long xi), (6, .int (nI x)), (5, .ref (ad 10)), (4, .ref (ad 7)), (3, .ref (ad 6)), (2, .ref (ad 5)), (1, .ref (ad 4)), (0, .ref (ad 0))]) hx hb dW_isHouse_382 hl (by decide) rfl (fun ls hl => ?_)
            refine lv_iinc (v := nI (k + 1)) (lv' := [(14, .int (nI (k + 1))), (13, .int 1), (11, .long xk), (9, .long xo), (7, .long xi), (6, .int (nI x)), (5, .ref (ad 10)), (4, .ref (ad 7)), (3, .ref (ad 6)), (2, .ref (ad 5)), (1, .ref (ad 4)), (0, .ref (ad 0))]) hx hb dW_isHouse_384 hl (k := 1) rfl (nI_1 k) (by decide) rfl (fun ls hl => ?_)
            refine lv_goto (tgt := 351) hx hb dW_isHouse_387 (by decide) ?_
            refine W.widen (k := 38 + 1 * (k + 1)) (n := 228 + 6 * (k + 1)) (by omega) (by omega) ?_
            exact ih (k + 1) (by omega) (by omega) _ _ _ xi xo xk hxi hxo hxk hG hS (lv_sub hl [0, 1, 2, 3, 4, 5, 6, 7, 8, 9, 10, 11] rfl)
  have hlots : ∀ (f j : Nat), j + f = 7 → j ≤ n → ∀ (H : Heap) (locs : List Loc) (ls : Array Slot) (xi xo xk : Int64), xi = (sA 4 4).toInt64 + sm (mI sA) j → xo = sm (mO sA) j → xk = (sA 4 4).toInt64 + sm (mK sA) j → GW D tI tJ tL A ad n sL sA H → va_S A s.heap H locs → lv_has ls 19 [(14, .int (nI j)), (13, .int 1), (11, .long xk), (9, .long xo), (7, .long xi), (6, .int (nI x)), (5, .ref (ad 10)), (4, .ref (ad 7)), (3, .ref (ad 6)), (2, .ref (ad 5)), (1, .ref (ad 4)), (0, .ref (ad 0))] → W p l e { frames := 9, cells := 58, slots := 344, locals := 152 } s m #[.ref (ad 0), .ref (ad 4), .ref (ad 5), .ref (ad 6), .ref (ad 7), .ref (ad 10), .int (nI x)] below meth c H locs  (6 * j) (36 * j) (MQ below (va_Qi (fun r (_ : Unit) => r = 1) (fun _ t => GW D tI tJ tL A ad n sL sA t.heap) A) #[.ref (ad 0), .ref (ad 4), .ref (ad 5), .ref (ad 6), .ref (ad 7), .ref (ad 10), .int (nI x)] s 58 344 A) (F0 m 35 ls []) := by
    intro f
    induction f with
    | zero => intro j h1 h2; omega
    | succ f ih =>
      intro j hf hj H locs ls xi xo xk hxi hxo hxk hG hS hl
      refine lv_iload hx hb dW_isHouse_35 (lv_at hl 0 rfl) ?_
      refine lv_aload_n hx hb dW_isHouse_37 rfl (lv_at hl 10 rfl) ?_
      refine lv_iconst (v := 0) hx hb dW_isHouse_38 (by decide) ?_
      refine ra_ld hx hb hC hG 4 5 (by omega) (fun _ _ => rfl) (by rw [vp_in_iff]; decide) dW_isHouse_39 ?_
      rw [show (0 : Int32).toNatClampNeg = 0 from rfl, hI.1.1.2.2]
      refine lv_icmp_ge (tgt := 348) hx hb dW_isHouse_40 (by decide) (fun c_1 => ?_) (fun c_1 => ?_)
      · have hjn : n ≤ j := (nI_leI (by omega) (by omega)).1 c_1
        have e : j = n := by omega
        subst e
        refine lv_iconst (v := 0) hx hb dW_isHouse_348 (by decide) ?_
        refine lv_istore (lv' := [(14, .int (nI 0)), (13, .int 1), (11, .long xk), (9, .long xo), (7, .long xi), (6, .int (nI x)), (5, .ref (ad 10)), (4, .ref (ad 7)), (3, .ref (ad 6)), (2, .ref (ad 5)), (1, .ref (ad 4)), (0, .ref (ad 0))]) hx hb dW_isHouse_349 hl (by decide) rfl (fun ls hl => ?_)
        refine W.widen (k := 38 + 1 * 0) (n := 228 + 6 * 0) (by omega) (by omega) ?_
        exact howes 11 0 rfl (by omega) _ _ _ xi xo xk hxi hxo hxk hG hS hl
      · have hi : j < n := Nat.lt_of_not_le fun q => c_1 ((nI_leI (a := n) (b := j) (by omega) (by omega)).2 q)
        refine lv_iload hx hb dW_isHouse_43 (lv_at hl 1 rfl) ?_
        refine lv_if_eq (tgt := 348) hx hb dW_isHouse_45 (by decide) (fun c_2 => ?_) (fun c_2 => ?_)
        · exact absurd c_2 (by decide)
        · refine lv_aload_n hx hb dW_isHouse_48 rfl (lv_at hl 9 rfl) ?_
          refine lv_bipush (v := 10) hx hb dW_isHouse_49 (by decide) ?_
          refine lv_iload hx hb dW_isHouse_51 (lv_at hl 0 rfl) ?_
          refine lv_imul hx hb dW_isHouse_53 ?_
          rw [show (10 : Int32) * (nI j) = nI (10 * j) from pk_mul 10 j]
          refine lv_iconst (v := 3) hx hb dW_isHouse_54 (by decide) ?_
          refine lv_iadd hx hb dW_isHouse_55 ?_
          rw [show (nI (10 * j)) + (3 : Int32) = nI (10 * j + 3) from nI_add (10 * j) 3]
          refine ra_ld hx hb hC hG 5 60 (by omega) (fun _ _ => rfl) (vp_in_nI (by omega) (by omega)) dW_isHouse_56 ?_
          rw [show (nI (10 * j + 3)).toNatClampNeg = (10 * j + 3) from nI_clamp (by omega)]
          refine lv_istore (lv' := [(15, .int (sA 5 (10 * j + 3))), (14, .int (nI j)), (13, .int 1), (11, .long xk), (9, .long xo), (7, .long xi), (6, .int (nI x)), (5, .ref (ad 10)), (4, .ref (ad 7)), (3, .ref (ad 6)), (2, .ref (ad 5)), (1, .ref (ad 4)), (0, .ref (ad 0))]) hx hb dW_isHouse_57 hl (by decide) rfl (fun ls hl => ?_)
          refine lv_aload_n hx hb dW_isHouse_59 rfl (lv_at hl 10 rfl) ?_
          refine lv_bipush (v := 10) hx hb dW_isHouse_60 (by decide) ?_
          refine lv_iload hx hb dW_isHouse_62 (lv_at hl 1 rfl) ?_
          refine lv_imul hx hb dW_isHouse_64 ?_
          rw [show (10 : Int32) * (nI j) = nI (10 * j) from pk_mul 10 j]
          refine lv_iconst (v := 5) hx hb dW_isHouse_65 (by decide) ?_
          refine lv_iadd hx hb dW_isHouse_66 ?_
          rw [show (nI (10 * j)) + (5 : Int32) = nI (10 * j + 5) from nI_add (10 * j) 5]
          refine ra_ld hx hb hC hG 5 60 (by omega) (fun _ _ => rfl) (vp_in_nI (by omega) (by omega)) dW_isHouse_67 ?_
          rw [show (nI (10 * j + 5)).toNatClampNeg = (10 * j + 5) from nI_clamp (by omega)]
          refine lv_istore (lv' := [(16, .int (sA 5 (10 * j + 5))), (15, .int (sA 5 (10 * j + 3))), (14, .int (nI j)), (13, .int 1), (11, .long xk), (9, .long xo), (7, .long xi), (6, .int (nI x)), (5, .ref (ad 10)), (4, .ref (ad 7)), (3, .ref (ad 6)), (2, .ref (ad 5)), (1, .ref (ad 4)), (0, .ref (ad 0))]) hx hb dW_isHouse_68 hl (by decide) rfl (fun ls hl => ?_)
          refine lv_iconst (v := 0) hx hb dW_isHouse_70 (by decide) ?_
          refine lv_istore (lv' := [(17, .int 0), (16, .int (sA 5 (10 * j + 5))), (15, .int (sA 5 (10 * j + 3))), (14, .int (nI j)), (13, .int 1), (11, .long xk), (9, .long xo), (7, .long xi), (6, .int (nI x)), (5, .ref (ad 10)), (4, .ref (ad 7)), (3, .ref (ad 6)), (2, .ref (ad 5)), (1, .ref (ad 4)), (0, .ref (ad 0))]) hx hb dW_isHouse_71 hl (by decide) rfl (fun ls hl => ?_)
          refine lv_bipush (v := 10) hx hb dW_isHouse_73 (by decide) ?_
          refine lv_iload hx hb dW_isHouse_75 (lv_at hl 3 rfl) ?_
          refine lv_imul hx hb dW_isHouse_77 ?_
          rw [show (10 : Int32) * (nI j) = nI (10 * j) from pk_mul 10 j]
          refine lv_istore (lv' := [(18, .int (nI (10 * j))), (17, .int 0), (16, .int (sA 5 (10 * j + 5))), (15, .int (sA 5 (10 * j + 3))), (14, .int (nI j)), (13, .int 1), (11, .long xk), (9, .long xo), (7, .long xi), (6, .int (nI x)), (5, .ref (ad 10)), (4, .ref (ad 7)), (3, .ref (ad 6)), (2, .ref (ad 5)), (1, .ref (ad 4)), (0, .ref (ad 0))]) hx hb dW_isHouse_78 hl (by decide) rfl (fun ls hl => ?_)
          have hin : ∀ (f k : Nat), k + f = 11 → k ≤ 10 → ∀ (ls : Array Slot), lv_has ls 19 [(18, .int (nI (10 * j + k))), (17, .int (nI (cnt (leftB sA j) k))), (16, .int (sA 5 (10 * j + 5))), (15, .int (sA 5 (10 * j + 3))), (14, .int (nI j)), (13, .int 1), (11, .long xk), (9, .long xo), (7, .long xi), (6, .int (nI x)), (5, .ref (ad 10)), (4, .ref (ad 7)), (3, .ref (ad 6)), (2, .ref (ad 5)), (1, .ref (ad 4)), (0, .ref (ad 0))] → W p l e { frames := 9, cells := 58, slots := 344, locals := 152 } s m #[.ref (ad 0), .ref (ad 4), .ref (ad 5), .ref (ad 6), .ref (ad 7), .ref (ad 10), .int (nI x)] below meth c H locs  (6 * j) (36 * j) (MQ below (va_Qi (fun r (_ : Unit) => r = 1) (fun _ t => GW D tI tJ tL A ad n sL sA t.heap) A) #[.ref (ad 0), .ref (ad 4), .ref (ad 5), .ref (ad 6), .ref (ad 7), .ref (ad 10), .int (nI x)] s 58 344 A) (F0 m 80 ls []) := by
            intro f
            induction f with
            | zero => intro k h1 h2; omega
            | succ f ih9 =>
              intro k hf9 hk9 ls hl
              refine lv_iload hx hb dW_isHouse_80 (lv_at hl 0 rfl) ?_
              refine lv_bipush (v := 10) hx hb dW_isHouse_82 (by decide) ?_
              refine lv_iload hx hb dW_isHouse_84 (lv_at hl 4 rfl) ?_
              refine lv_imul hx hb dW_isHouse_86 ?_
              rw [show (10 : Int32) * nI j = nI (10 * j) from pk_mul 10 j]
              refine lv_bipush (v := 10) hx hb dW_isHouse_87 (by decide) ?_
              refine lv_iadd hx hb dW_isHouse_89 ?_
              rw [show nI (10 * j) + (10 : Int32) = nI (10 * j + 10) from nI_add _ 10]
              refine lv_icmp_ge (tgt := 117) hx hb dW_isHouse_90 (by decide) (fun c_3 => ?_) (fun c_3 => ?_)
              · have e : k = 10 := by
                  have := (nI_leI (by omega) (by omega)).1 c_3
                  omega
                subst e
                refine lv_aload_n hx hb dW_isHouse_117 rfl (lv_at hl 15 rfl) ?_
                refine lv_iload hx hb dW_isHouse_118 (lv_at hl 4 rfl) ?_
                refine rcV5n (rest := []) (As := [.int (nI j)]) hx hb hml hown hts hC hG hS (cX_state l hl9 D tI tJ tL A sg ad n sL sA (nI j)) (recX hC hG) (gV q_417 q_418 q_419 q_1 q_420) rfl rfl ⟨rfl, hdyX_state⟩ ⟨Nat.le_of_ble_eq_true rfl, Nat.le_of_ble_eq_true rfl⟩ hl.1 rfl (Nat.le_of_ble_eq_true rfl) dW_isHouse_120 ⟨by show _ ≤ 58; omega, by show _ ≤ 344; omega⟩ (hI.r_state hi) (fun H locs hG hS => ?_)
                refine lv_iload hx hb dW_isHouse_123 (lv_at hl 3 rfl) ?_
                refine lv_icmp_ne (tgt := 224) hx hb dW_isHouse_125 (by decide) (fun c_11 => ?_) (fun c_11 => ?_)
                · exact absurd c_11 (fun q => q rfl)
                · refine lv_aload_n hx hb dW_isHouse_128 rfl (lv_at hl 15 rfl) ?_
                  refine lv_iload hx hb dW_isHouse_129 (lv_at hl 4 rfl) ?_
                  refine rcV5n (rest := []) (As := [.int (nI j)]) hx hb hml hown hts hC hG hS (cX_buyerOf l hl9 D tI tJ tL A sg ad n sL sA (nI j)) (recX hC hG) (gV q_421 q_422 q_423 q_1 q_424) rfl rfl ⟨rfl, hdyX_buyerOf⟩ ⟨Nat.le_of_ble_eq_true rfl, Nat.le_of_ble_eq_true rfl⟩ hl.1 rfl (Nat.le_of_ble_eq_true rfl) dW_isHouse_131 ⟨by show _ ≤ 58; omega, by show _ ≤ 344; omega⟩ (hI.r_buyerOf hi) (fun H locs hG hS => ?_)
                  refine W_key (g2 := F0 m 153 ls (.int (if 2 ≤ (sA 5 (10 * j + 3)) then sA 5 (10 * j + 4) else (-1)) :: .int (if 2 ≤ (sA 5 (10 * j + 3)) then sA 5 (10 * j + 4) else (-1)) :: [])) (fun key => ?_) ?_
                  · refine lv_iload hx hb dW_isHouse_134 (lv_at hl 3 rfl) ?_
                    refine lv_iconst (v := 2) hx hb dW_isHouse_136 (by decide) ?_
                    refine lv_icmp_ge (tgt := 144) hx hb dW_isHouse_137 (by decide) (fun c_12 => ?_) (fun c_12 => ?_)
                    · refine lv_aload_n hx hb dW_isHouse_144 rfl (lv_at hl 13 rfl) ?_
                      refine lv_bipush (v := 10) hx hb dW_isHouse_145 (by decide) ?_
                      refine lv_iload hx hb dW_isHouse_147 (lv_at hl 4 rfl) ?_
                      refine lv_imul hx hb dW_isHouse_149 ?_
                      rw [show (10 : Int32) * (nI j) = nI (10 * j) from pk_mul 10 j]
                      refine lv_iconst (v := 4) hx hb dW_isHouse_150 (by decide) ?_
                      refine lv_iadd hx hb dW_isHouse_151 ?_
                      rw [show (nI (10 * j)) + (4 : Int32) = nI (10 * j + 4) from nI_add (10 * j) 4]
                      refine ra_ld hx hb hC hG 5 60 (by omega) (fun _ _ => rfl) (vp_in_nI (by omega) (by omega)) dW_isHouse_152 ?_
                      rw [show (nI (10 * j + 4)).toNatClampNeg = (10 * j + 4) from nI_clamp (by omega)]
                      exact W.eq (by rw [if_pos c_12]) key
                    · refine lv_iconst (v := (-1)) hx hb dW_isHouse_140 (by decide) ?_
                      refine lv_goto (tgt := 153) hx hb dW_isHouse_141 (by decide) ?_
                      exact W.eq (by rw [if_neg c_12]) key
                  refine lv_icmp_ne (tgt := 224) hx hb dW_isHouse_153 (by decide) (fun c_13 => ?_) (fun c_13 => ?_)
                  · exact absurd c_13 (fun q => q rfl)
                  · refine lv_aload_n hx hb dW_isHouse_156 rfl (lv_at hl 15 rfl) ?_
                    refine lv_iload hx hb dW_isHouse_157 (lv_at hl 4 rfl) ?_
                    refine rcV5n (rest := []) (As := [.int (nI j)]) hx hb hml hown hts hC hG hS (cX_price l hl9 D tI tJ tL A sg ad n sL sA (nI j)) (recX hC hG) (gV q_425 q_426 q_427 q_1 q_428) rfl rfl ⟨rfl, hdyX_price⟩ ⟨Nat.le_of_ble_eq_true rfl, Nat.le_of_ble_eq_true rfl⟩ hl.1 rfl (Nat.le_of_ble_eq_true rfl) dW_isHouse_159 ⟨by show _ ≤ 58; omega, by show _ ≤ 344; omega⟩ (hI.r_price hi) (fun H locs hG hS => ?_)
                    refine W_key (g2 := F0 m 174 ls (.int (if 2 ≤ (sA 5 (10 * j + 3)) then sA 5 (10 * j + 5) else (-1)) :: .int (if 2 ≤ (sA 5 (10 * j + 3)) then sA 5 (10 * j + 5) else (-1)) :: [])) (fun key => ?_) ?_
                    · refine lv_iload hx hb dW_isHouse_162 (lv_at hl 3 rfl) ?_
                      refine lv_iconst (v := 2) hx hb dW_isHouse_164 (by decide) ?_
                      refine lv_icmp_ge (tgt := 172) hx hb dW_isHouse_165 (by decide) (fun c_14 => ?_) (fun c_14 => ?_)
                      · refine lv_iload hx hb dW_isHouse_172 (lv_at hl 2 rfl) ?_
                        exact W.eq (by rw [if_pos c_14]) key
                      · refine lv_iconst (v := (-1)) hx hb dW_isHouse_168 (by decide) ?_
                        refine lv_goto (tgt := 174) hx hb dW_isHouse_169 (by decide) ?_
                        exact W.eq (by rw [if_neg c_14]) key
                    refine lv_icmp_ne (tgt := 224) hx hb dW_isHouse_174 (by decide) (fun c_15 => ?_) (fun c_15 => ?_)
                    · exact absurd c_15 (fun q => q rfl)
                    · refine lv_aload_n hx hb dW_isHouse_177 rfl (lv_at hl 15 rfl) ?_
                      refine lv_iload hx hb dW_isHouse_178 (lv_at hl 4 rfl) ?_
                      refine rcV5n (rest := []) (As := [.int (nI j)]) hx hb hml hown hts hC hG hS (cX_bids l hl9 D tI tJ tL A sg ad n sL sA (nI j)) (recX hC hG) (gV q_429 q_430 q_431 q_1 q_432) rfl rfl ⟨rfl, hdyX_bids⟩ ⟨Nat.le_of_ble_eq_true rfl, Nat.le_of_ble_eq_true rfl⟩ hl.1 rfl (Nat.le_of_ble_eq_true rfl) dW_isHouse_180 ⟨by show _ ≤ 58; omega, by show _ ≤ 344; omega⟩ (hI.r_bids hi) (fun H locs hG hS => ?_)
                      refine lv_iload hx hb dW_isHouse_183 (lv_at hl 1 rfl) ?_
                      refine lv_icmp_ne (tgt := 224) hx hb dW_isHouse_185 (by decide) (fun c_16 => ?_) (fun c_16 => ?_)
                      · exact absurd c_16 (fun q => q rfl)
                      · refine lv_aload_n hx hb dW_isHouse_188 rfl (lv_at hl 15 rfl) ?_
                        refine lv_iload hx hb dW_isHouse_189 (lv_at hl 4 rfl) ?_
                        refine rcV5n (rest := []) (As := [.int (nI j)]) hx hb hml hown hts hC hG hS (cX_share l hl9 D tI tJ tL A sg ad n sL sA (nI j)) (recX hC hG) (gV q_433 q_434 q_435 q_1 q_436) rfl rfl ⟨rfl, hdyX_share⟩ ⟨Nat.le_of_ble_eq_true rfl, Nat.le_of_ble_eq_true rfl⟩ hl.1 rfl (Nat.le_of_ble_eq_true rfl) dW_isHouse_191 ⟨by show _ ≤ 58; omega, by show _ ≤ 344; omega⟩ (hI.r_share hi) (fun H locs hG hS => ?_)
                        refine lv_aload_n hx hb dW_isHouse_194 rfl (lv_at hl 13 rfl) ?_
                        refine lv_iload hx hb dW_isHouse_195 (lv_at hl 4 rfl) ?_
                        refine rcS2 (rest := [.int (fW_share sL sA j)]) (As := [.ref (ad 5), .int (nI j)]) hx hb hml hown hts hC hG hS (cW_share l D tI tJ tL A sg ad n sL sA j (by omega)) (gS q_159 q_160 q_0 q_161) rfl rfl ⟨rfl, hdyW_share⟩ ⟨Nat.le_of_ble_eq_true rfl, Nat.le_of_ble_eq_true rfl⟩ hl.1 rfl (Nat.le_of_ble_eq_true rfl) dW_isHouse_197 ⟨by show _ ≤ 58; omega, by show _ ≤ 344; omega⟩ ?_
                        refine lv_icmp_ne (tgt := 224) hx hb dW_isHouse_200 (by decide) (fun c_17 => ?_) (fun c_17 => ?_)
                        · exact absurd c_17 (fun q => q rfl)
                        · refine lv_aload_n hx hb dW_isHouse_203 rfl (lv_at hl 15 rfl) ?_
                          refine lv_iload hx hb dW_isHouse_204 (lv_at hl 4 rfl) ?_
                          refine rcV5n (rest := []) (As := [.int (nI j)]) hx hb hml hown hts hC hG hS (cX_interest l hl9 D tI tJ tL A sg ad n sL sA (nI j)) (recX hC hG) (gV q_437 q_438 q_439 q_1 q_440) rfl rfl ⟨rfl, hdyX_interest⟩ ⟨Nat.le_of_ble_eq_true rfl, Nat.le_of_ble_eq_true rfl⟩ hl.1 rfl (Nat.le_of_ble_eq_true rfl) dW_isHouse_206 ⟨by show _ ≤ 58; omega, by show _ ≤ 344; omega⟩ (hI.r_interest hi) (fun H locs hG hS => ?_)
                          refine lv_aload_n hx hb dW_isHouse_209 rfl (lv_at hl 14 rfl) ?_
                          refine lv_aload_n hx hb dW_isHouse_210 rfl (lv_at hl 13 rfl) ?_
                          refine lv_aload_n hx hb dW_isHouse_211 rfl (lv_at hl 12 rfl) ?_
                          refine lv_iload hx hb dW_isHouse_212 (lv_at hl 4 rfl) ?_
                          refine rcS2 (rest := [.int (fW_interest sL sA j)]) (As := [.ref (ad 4), .ref (ad 5), .ref (ad 6), .int (nI j)]) hx hb hml hown hts hC hG hS (cW_interest l D tI tJ tL A sg ad n sL sA j (by omega)) (gS q_163 q_164 q_0 q_165) rfl rfl ⟨rfl, hdyW_interest⟩ ⟨Nat.le_of_ble_eq_true rfl, Nat.le_of_ble_eq_true rfl⟩ hl.1 rfl (Nat.le_of_ble_eq_true rfl) dW_isHouse_214 ⟨by show _ ≤ 58; omega, by show _ ≤ 344; omega⟩ ?_
                          refine lv_icmp_ne (tgt := 224) hx hb dW_isHouse_217 (by decide) (fun c_18 => ?_) (fun c_18 => ?_)
                          · exact absurd c_18 (fun q => q rfl)
                          · refine lv_iconst (v := 1) hx hb dW_isHouse_220 (by decide) ?_
                            refine lv_goto (tgt := 225) hx hb dW_isHouse_221 (by decide) ?_
                            refine lv_istore (lv' := [(13, .int 1), (18, .int (nI (10 * j + 10))), (17, .int (nI (cnt (leftB sA j) 10))), (16, .int (sA 5 (10 * j + 5))), (15, .int (sA 5 (10 * j + 3))), (14, .int (nI j)), (11, .long xk), (9, .long xo), (7, .long xi), (6, .int (nI x)), (5, .ref (ad 10)), (4, .ref (ad 7)), (3, .ref (ad 6)), (2, .ref (ad 5)), (1, .ref (ad 4)), (0, .ref (ad 0))]) hx hb dW_isHouse_225 hl (by decide) rfl (fun ls hl => ?_)
                            refine lv_lload hx hb dW_isHouse_227 (lv_at hl 8 rfl) ?_
                            refine W_key (g2 := F0 m 248 ls (.long (if (sA 5 (10 * j + 3)) ≤ 2 then 0 else ((sA 5 (10 * j + 5)) + (fW_fee (sA 5 (10 * j + 5))) : Int32).toInt64) :: .long xi :: [])) (fun key => ?_) ?_
                            · refine lv_iload hx hb dW_isHouse_229 (lv_at hl 4 rfl) ?_
                              refine lv_iconst (v := 2) hx hb dW_isHouse_231 (by decide) ?_
                              refine lv_icmp_le (tgt := 247) hx hb dW_isHouse_232 (by decide) (fun c_19 => ?_) (fun c_19 => ?_)
                              · refine lv_lconst (v := 0) hx hb dW_isHouse_247 (by decide) ?_
                                exact W.eq (by rw [if_pos c_19]) key
                              · refine lv_iload hx hb dW_isHouse_235 (lv_at hl 3 rfl) ?_
                                refine lv_iload hx hb dW_isHouse_237 (lv_at hl 3 rfl) ?_
                                refine rcS1 (rest := [.int (sA 5 (10 * j + 5)), .long xi]) (As := [.int (sA 5 (10 * j + 5))]) hx hb hml hown hts (cW_fee l (sA 5 (10 * j + 5))) (gS q_152 q_153 q_0 q_154) rfl rfl ⟨rfl, hdyW_fee⟩ ⟨Nat.le_of_ble_eq_true rfl, Nat.le_of_ble_eq_true rfl⟩ hl.1 rfl (Nat.le_of_ble_eq_true rfl) dW_isHouse_239 ⟨by show _ ≤ 58; omega, by show _ ≤ 344; omega⟩ ?_
                                refine lv_iadd hx hb dW_isHouse_242 ?_
                                refine lv_i2l (v := ((sA 5 (10 * j + 5)) + (fW_fee (sA 5 (10 * j + 5))) : Int32).toInt64) hx hb dW_isHouse_243 rfl ?_
                                refine lv_goto (tgt := 248) hx hb dW_isHouse_244 (by decide) ?_
                                exact W.eq (by rw [if_neg c_19]) key
                            refine lv_ladd hx hb dW_isHouse_248 ?_
                            refine lv_lstore (lv' := [(7, .long (xi + (if (sA 5 (10 * j + 3)) ≤ 2 then 0 else ((sA 5 (10 * j + 5)) + (fW_fee (sA 5 (10 * j + 5))) : Int32).toInt64))), (13, .int 1), (18, .int (nI (10 * j + 10))), (17, .int (nI (cnt (leftB sA j) 10))), (16, .int (sA 5 (10 * j + 5))), (15, .int (sA 5 (10 * j + 3))), (14, .int (nI j)), (11, .long xk), (9, .long xo), (6, .int (nI x)), (5, .ref (ad 10)), (4, .ref (ad 7)), (3, .ref (ad 6)), (2, .ref (ad 5)), (1, .ref (ad 4)), (0, .ref (ad 0))]) hx hb dW_isHouse_249 hl (by decide) rfl (fun ls hl => ?_)
                            refine lv_lload hx hb dW_isHouse_251 (lv_at hl 7 rfl) ?_
                            refine W_key (g2 := F0 m 269 ls (.long (if (sA 5 (10 * j + 3)) ≤ 2 then 0 else (fW_fee (sA 5 (10 * j + 5)) : Int32).toInt64) :: .long xk :: [])) (fun key => ?_) ?_
                            · refine lv_iload hx hb dW_isHouse_253 (lv_at hl 5 rfl) ?_
                              refine lv_iconst (v := 2) hx hb dW_isHouse_255 (by decide) ?_
                              refine lv_icmp_le (tgt := 268) hx hb dW_isHouse_256 (by decide) (fun c_20 => ?_) (fun c_20 => ?_)
                              · refine lv_lconst (v := 0) hx hb dW_isHouse_268 (by decide) ?_
                                exact W.eq (by rw [if_pos c_20]) key
                              · refine lv_iload hx hb dW_isHouse_259 (lv_at hl 4 rfl) ?_
                                refine rcS1 (rest := [.long xk]) (As := [.int (sA 5 (10 * j + 5))]) hx hb hml hown hts (cW_fee l (sA 5 (10 * j + 5))) (gS q_152 q_153 q_0 q_154) rfl rfl ⟨rfl, hdyW_fee⟩ ⟨Nat.le_of_ble_eq_true rfl, Nat.le_of_ble_eq_true rfl⟩ hl.1 rfl (Nat.le_of_ble_eq_true rfl) dW_isHouse_261 ⟨by show _ ≤ 58; omega, by show _ ≤ 344; omega⟩ ?_
                                refine lv_i2l (v := (fW_fee (sA 5 (10 * j + 5)) : Int32).toInt64) hx hb dW_isHouse_264 rfl ?_
                                refine lv_goto (tgt := 269) hx hb dW_isHouse_265 (by decide) ?_
                                exact W.eq (by rw [if_neg c_20]) key
                            refine lv_ladd hx hb dW_isHouse_269 ?_
                            refine lv_lstore (lv' := [(11, .long (xk + (if (sA 5 (10 * j + 3)) ≤ 2 then 0 else (fW_fee (sA 5 (10 * j + 5)) : Int32).toInt64))), (7, .long (xi + (if (sA 5 (10 * j + 3)) ≤ 2 then 0 else ((sA 5 (10 * j + 5)) + (fW_fee (sA 5 (10 * j + 5))) : Int32).toInt64))), (13, .int 1), (18, .int (nI (10 * j + 10))), (17, .int (nI (cnt (leftB sA j) 10))), (16, .int (sA 5 (10 * j + 5))), (15, .int (sA 5 (10 * j + 3))), (14, .int (nI j)), (9, .long xo), (6, .int (nI x)), (5, .ref (ad 10)), (4, .ref (ad 7)), (3, .ref (ad 6)), (2, .ref (ad 5)), (1, .ref (ad 4)), (0, .ref (ad 0))]) hx hb dW_isHouse_270 hl (by decide) rfl (fun ls hl => ?_)
                            refine lv_lload hx hb dW_isHouse_272 (lv_at hl 8 rfl) ?_
                            refine lv_aload_n hx hb dW_isHouse_274 rfl (lv_at hl 12 rfl) ?_
                            refine lv_iconst (v := 3) hx hb dW_isHouse_275 (by decide) ?_
                            refine lv_iload hx hb dW_isHouse_276 (lv_at hl 7 rfl) ?_
                            refine lv_imul hx hb dW_isHouse_278 ?_
                            rw [show (3 : Int32) * (nI j) = nI (3 * j) from pk_mul 3 j]
                            refine ra_ld hx hb hC hG 6 18 (by omega) (fun _ _ => rfl) (vp_in_nI (by omega) (by omega)) dW_isHouse_279 ?_
                            rw [show (nI (3 * j)).toNatClampNeg = (3 * j) from nI_clamp (by omega)]
                            refine lv_i2l (v := (sA 6 (3 * j) : Int32).toInt64) hx hb dW_isHouse_280 rfl ?_
                            refine lv_ladd hx hb dW_isHouse_281 ?_
                            refine lv_lstore (lv' := [(9, .long (xo + ((sA 6 (3 * j) : Int32).toInt64))), (11, .long (xk + (if (sA 5 (10 * j + 3)) ≤ 2 then 0 else (fW_fee (sA 5 (10 * j + 5)) : Int32).toInt64))), (7, .long (xi + (if (sA 5 (10 * j + 3)) ≤ 2 then 0 else ((sA 5 (10 * j + 5)) + (fW_fee (sA 5 (10 * j + 5))) : Int32).toInt64))), (13, .int 1), (18, .int (nI (10 * j + 10))), (17, .int (nI (cnt (leftB sA j) 10))), (16, .int (sA 5 (10 * j + 5))), (15, .int (sA 5 (10 * j + 3))), (14, .int (nI j)), (6, .int (nI x)), (5, .ref (ad 10)), (4, .ref (ad 7)), (3, .ref (ad 6)), (2, .ref (ad 5)), (1, .ref (ad 4)), (0, .ref (ad 0))]) hx hb dW_isHouse_282 hl (by decide) rfl (fun ls hl => ?_)
                            refine lv_iload hx hb dW_isHouse_284 (lv_at hl 7 rfl) ?_
                            refine lv_iconst (v := 4) hx hb dW_isHouse_286 (by decide) ?_
                            refine lv_icmp_ne (tgt := 342) hx hb dW_isHouse_287 (by decide) (fun c_21 => ?_) (fun c_21 => ?_)
                            · refine lv_iinc (v := nI (j + 1)) (lv' := [(14, .int (nI (j + 1))), (9, .long (xo + ((sA 6 (3 * j) : Int32).toInt64))), (11, .long (xk + (if (sA 5 (10 * j + 3)) ≤ 2 then 0 else (fW_fee (sA 5 (10 * j + 5)) : Int32).toInt64))), (7, .long (xi + (if (sA 5 (10 * j + 3)) ≤ 2 then 0 else ((sA 5 (10 * j + 5)) + (fW_fee (sA 5 (10 * j + 5))) : Int32).toInt64))), (13, .int 1), (18, .int (nI (10 * j + 10))), (17, .int (nI (cnt (leftB sA j) 10))), (16, .int (sA 5 (10 * j + 5))), (15, .int (sA 5 (10 * j + 3))), (6, .int (nI x)), (5, .ref (ad 10)), (4, .ref (ad 7)), (3, .ref (ad 6)), (2, .ref (ad 5)), (1, .ref (ad 4)), (0, .ref (ad 0))]) hx hb dW_isHouse_342 hl (k := 8) rfl (nI_1 j) (by decide) rfl (fun ls hl => ?_)
                              refine lv_goto (tgt := 35) hx hb dW_isHouse_345 (by decide) ?_
                              refine W.widen (k := 6 * (j + 1)) (n := 36 * (j + 1)) (by omega) (by omega) ?_
                              exact ih (j + 1) (by omega) (by omega) _ _ _ _ _ _ (by rw [sm, mI, hxi, Int64.add_assoc]) (by rw [sm, ← hxo, mO, if_neg c_21, Int64.add_zero]) (by rw [sm, mK, if_neg c_21, Int64.add_zero, hxk, Int64.add_assoc]) hG hS (lv_sub hl [0, 4, 2, 1, 3, 9, 10, 11, 12, 13, 14, 15] rfl)
                            · refine lv_aload_n hx hb dW_isHouse_290 rfl (lv_at hl 13 rfl) ?_
                              refine lv_bipush (v := 10) hx hb dW_isHouse_291 (by decide) ?_
                              refine lv_iload hx hb dW_isHouse_293 (lv_at hl 8 rfl) ?_
                              refine lv_imul hx hb dW_isHouse_295 ?_
                              rw [show (10 : Int32) * (nI j) = nI (10 * j) from pk_mul 10 j]
                              refine lv_bipush (v := 9) hx hb dW_isHouse_296 (by decide) ?_
                              refine lv_iadd hx hb dW_isHouse_298 ?_
                              rw [show (nI (10 * j)) + (9 : Int32) = nI (10 * j + 9) from nI_add (10 * j) 9]
                              refine ra_ld hx hb hC hG 5 60 (by omega) (fun _ _ => rfl) (vp_in_nI (by omega) (by omega)) dW_isHouse_299 ?_
                              rw [show (nI (10 * j + 9)).toNatClampNeg = (10 * j + 9) from nI_clamp (by omega)]
                              refine lv_istore (lv' := [(18, .int (sA 5 (10 * j + 9))), (9, .long (xo + ((sA 6 (3 * j) : Int32).toInt64))), (11, .long (xk + (if (sA 5 (10 * j + 3)) ≤ 2 then 0 else (fW_fee (sA 5 (10 * j + 5)) : Int32).toInt64))), (7, .long (xi + (if (sA 5 (10 * j + 3)) ≤ 2 then 0 else ((sA 5 (10 * j + 5)) + (fW_fee (sA 5 (10 * j + 5))) : Int32).toInt64))), (13, .int 1), (17, .int (nI (cnt (leftB sA j) 10))), (16, .int (sA 5 (10 * j + 5))), (15, .int (sA 5 (10 * j + 3))), (14, .int (nI j)), (6, .int (nI x)), (5, .ref (ad 10)), (4, .ref (ad 7)), (3, .ref (ad 6)), (2, .ref (ad 5)), (1, .ref (ad 4)), (0, .ref (ad 0))]) hx hb dW_isHouse_300 hl (by decide) rfl (fun ls hl => ?_)
                              refine lv_lload hx hb dW_isHouse_302 (lv_at hl 1 rfl) ?_
                              refine lv_iload hx hb dW_isHouse_304 (lv_at hl 0 rfl) ?_
                              refine lv_aload_n hx hb dW_isHouse_306 rfl (lv_at hl 13 rfl) ?_
                              refine lv_iload hx hb dW_isHouse_307 (lv_at hl 8 rfl) ?_
                              refine rcS2 (rest := [.int (sA 5 (10 * j + 9)), .long (xo + ((sA 6 (3 * j) : Int32).toInt64))]) (As := [.ref (ad 5), .int (nI j)]) hx hb hml hown hts hC hG hS (cW_share l D tI tJ tL A sg ad n sL sA j (by omega)) (gS q_159 q_160 q_0 q_161) rfl rfl ⟨rfl, hdyW_share⟩ ⟨Nat.le_of_ble_eq_true rfl, Nat.le_of_ble_eq_true rfl⟩ hl.1 rfl (Nat.le_of_ble_eq_true rfl) dW_isHouse_309 ⟨by show _ ≤ 58; omega, by show _ ≤ 344; omega⟩ ?_
                              refine lv_iadd hx hb dW_isHouse_312 ?_
                              refine lv_i2l (v := ((sA 5 (10 * j + 9)) + (fW_share sL sA j) : Int32).toInt64) hx hb dW_isHouse_313 rfl ?_
                              refine lv_ladd hx hb dW_isHouse_314 ?_
                              refine lv_lstore (lv' := [(9, .long ((xo + ((sA 6 (3 * j) : Int32).toInt64)) + (((sA 5 (10 * j + 9)) + (fW_share sL sA j) : Int32).toInt64))), (18, .int (sA 5 (10 * j + 9))), (11, .long (xk + (if (sA 5 (10 * j + 3)) ≤ 2 then 0 else (fW_fee (sA 5 (10 * j + 5)) : Int32).toInt64))), (7, .long (xi + (if (sA 5 (10 * j + 3)) ≤ 2 then 0 else ((sA 5 (10 * j + 5)) + (fW_fee (sA 5 (10 * j + 5))) : Int32).toInt64))), (13, .int 1), (17, .int (nI (cnt (leftB sA j) 10))), (16, .int (sA 5 (10 * j + 5))), (15, .int (sA 5 (10 * j + 3))), (14, .int (nI j)), (6, .int (nI x)), (5, .ref (ad 10)), (4, .ref (ad 7)), (3, .ref (ad 6)), (2, .ref (ad 5)), (1, .ref (ad 4)), (0, .ref (ad 0))]) hx hb dW_isHouse_315 hl (by decide) rfl (fun ls hl => ?_)
                              refine lv_lload hx hb dW_isHouse_317 (lv_at hl 2 rfl) ?_
                              refine lv_iload hx hb dW_isHouse_319 (lv_at hl 6 rfl) ?_
                              refine lv_iload hx hb dW_isHouse_321 (lv_at hl 1 rfl) ?_
                              refine lv_isub hx hb dW_isHouse_323 ?_
                              refine lv_aload_n hx hb dW_isHouse_324 rfl (lv_at hl 13 rfl) ?_
                              refine lv_iload hx hb dW_isHouse_325 (lv_at hl 8 rfl) ?_
                              refine rcS2 (rest := [.int ((sA 5 (10 * j + 5)) - (sA 5 (10 * j + 9))), .long (xk + (if (sA 5 (10 * j + 3)) ≤ 2 then 0 else (fW_fee (sA 5 (10 * j + 5)) : Int32).toInt64))]) (As := [.ref (ad 5), .int (nI j)]) hx hb hml hown hts hC hG hS (cW_share l D tI tJ tL A sg ad n sL sA j (by omega)) (gS q_159 q_160 q_0 q_161) rfl rfl ⟨rfl, hdyW_share⟩ ⟨Nat.le_of_ble_eq_true rfl, Nat.le_of_ble_eq_true rfl⟩ hl.1 rfl (Nat.le_of_ble_eq_true rfl) dW_isHouse_327 ⟨by show _ ≤ 58; omega, by show _ ≤ 344; omega⟩ ?_
                              refine lv_isub hx hb dW_isHouse_330 ?_
                              refine lv_aload_n hx hb dW_isHouse_331 rfl (lv_at hl 12 rfl) ?_
                              refine lv_iconst (v := 3) hx hb dW_isHouse_332 (by decide) ?_
                              refine lv_iload hx hb dW_isHouse_333 (lv_at hl 8 rfl) ?_
                              refine lv_imul hx hb dW_isHouse_335 ?_
                              rw [show (3 : Int32) * (nI j) = nI (3 * j) from pk_mul 3 j]
                              refine ra_ld hx hb hC hG 6 18 (by omega) (fun _ _ => rfl) (vp_in_nI (by omega) (by omega)) dW_isHouse_336 ?_
                              rw [show (nI (3 * j)).toNatClampNeg = (3 * j) from nI_clamp (by omega)]
                              refine lv_isub hx hb dW_isHouse_337 ?_
                              refine lv_i2l (v := ((((sA 5 (10 * j + 5)) - (sA 5 (10 * j + 9))) - (fW_share sL sA j)) - (sA 6 (3 * j)) : Int32).toInt64) hx hb dW_isHouse_338 rfl ?_
                              refine lv_ladd hx hb dW_isHouse_339 ?_
                              refine lv_lstore (lv' := [(11, .long ((xk + (if (sA 5 (10 * j + 3)) ≤ 2 then 0 else (fW_fee (sA 5 (10 * j + 5)) : Int32).toInt64)) + (((((sA 5 (10 * j + 5)) - (sA 5 (10 * j + 9))) - (fW_share sL sA j)) - (sA 6 (3 * j)) : Int32).toInt64))), (9, .long ((xo + ((sA 6 (3 * j) : Int32).toInt64)) + (((sA 5 (10 * j + 9)) + (fW_share sL sA j) : Int32).toInt64))), (18, .int (sA 5 (10 * j + 9))), (7, .long (xi + (if (sA 5 (10 * j + 3)) ≤ 2 then 0 else ((sA 5 (10 * j + 5)) + (fW_fee (sA 5 (10 * j + 5))) : Int32).toInt64))), (13, .int 1), (17, .int (nI (cnt (leftB sA j) 10))), (16, .int (sA 5 (10 * j + 5))), (15, .int (sA 5 (10 * j + 3))), (14, .int (nI j)), (6, .int (nI x)), (5, .ref (ad 10)), (4, .ref (ad 7)), (3, .ref (ad 6)), (2, .ref (ad 5)), (1, .ref (ad 4)), (0, .ref (ad 0))]) hx hb dW_isHouse_340 hl (by decide) rfl (fun ls hl => ?_)
                              refine lv_iinc (v := nI (j + 1)) (lv' := [(14, .int (nI (j + 1))), (11, .long ((xk + (if (sA 5 (10 * j + 3)) ≤ 2 then 0 else (fW_fee (sA 5 (10 * j + 5)) : Int32).toInt64)) + (((((sA 5 (10 * j + 5)) - (sA 5 (10 * j + 9))) - (fW_share sL sA j)) - (sA 6 (3 * j)) : Int32).toInt64))), (9, .long ((xo + ((sA 6 (3 * j) : Int32).toInt64)) + (((sA 5 (10 * j + 9)) + (fW_share sL sA j) : Int32).toInt64))), (18, .int (sA 5 (10 * j + 9))), (7, .long (xi + (if (sA 5 (10 * j + 3)) ≤ 2 then 0 else ((sA 5 (10 * j + 5)) + (fW_fee (sA 5 (10 * j + 5))) : Int32).toInt64))), (13, .int 1), (17, .int (nI (cnt (leftB sA j) 10))), (16, .int (sA 5 (10 * j + 5))), (15, .int (sA 5 (10 * j + 3))), (6, .int (nI x)), (5, .ref (ad 10)), (4, .ref (ad 7)), (3, .ref (ad 6)), (2, .ref (ad 5)), (1, .ref (ad 4)), (0, .ref (ad 0))]) hx hb dW_isHouse_342 hl (k := 8) rfl (nI_1 j) (by decide) rfl (fun ls hl => ?_)
                              refine lv_goto (tgt := 35) hx hb dW_isHouse_345 (by decide) ?_
                              refine W.widen (k := 6 * (j + 1)) (n := 36 * (j + 1)) (by omega) (by omega) ?_
                              exact ih (j + 1) (by omega) (by omega) _ _ _ _ _ _ (by rw [sm, mI, hxi, Int64.add_assoc]) (by rw [sm, ← hxo, mO, if_pos c_21, ← shW_at sL, Int64.add_assoc]) (by rw [sm, mK, if_pos c_21, ← shW_at sL, hxk, Int64.add_assoc, Int64.add_assoc]) hG hS (lv_sub hl [0, 5, 1, 2, 4, 9, 10, 11, 12, 13, 14, 15] rfl)
              · have hk : k < 10 := Nat.lt_of_not_le fun q => c_3 ((nI_leI (a := 10 * j + 10) (b := 10 * j + k) (by omega) (by omega)).2 (by omega))
                refine lv_iload hx hb dW_isHouse_93 (lv_at hl 1 rfl) ?_
                refine lv_aload hx hb dW_isHouse_95 (lv_at hl 11 rfl) ?_
                refine lv_iload hx hb dW_isHouse_97 (lv_at hl 0 rfl) ?_
                refine ra_ld hx hb hC hG 7 60 (by omega) (fun _ _ => rfl) (vp_in_nI (by omega) (by omega)) dW_isHouse_99 ?_
                rw [show (nI (10 * j + k)).toNatClampNeg = 10 * j + k from nI_clamp (by omega)]
                refine W_key (g2 := F0 m 108 ls (.int (if 0 < sA 7 (10 * j + k) then 1 else 0) :: .int (nI (cnt (leftB sA j) k)) :: [])) (fun key => ?_) ?_
                · refine lv_if_le (tgt := 107) hx hb dW_isHouse_100 (by decide) (fun c_4 => ?_) (fun c_4 => ?_)
                  · refine lv_iconst (v := 0) hx hb dW_isHouse_107 (by decide) ?_
                    exact W.eq (by rw [if_neg (Int32.not_lt.mpr c_4)]) key
                  · refine lv_iconst (v := 1) hx hb dW_isHouse_103 (by decide) ?_
                    refine lv_goto (tgt := 108) hx hb dW_isHouse_104 (by decide) ?_
                    exact W.eq (by rw [if_pos (Int32.not_le.mp c_4)]) key
                refine lv_iadd hx hb dW_isHouse_108 ?_
                rw [show nI (cnt (leftB sA j) k) + (if 0 < sA 7 (10 * j + k) then 1 else 0 : Int32) = nI (cnt (leftB sA j) (k + 1)) from cnt_step]
                refine lv_istore (lv' := [(17, .int (nI (cnt (leftB sA j) (k + 1)))), (18, .int (nI (10 * j + k))), (16, .int (sA 5 (10 * j + 5))), (15, .int (sA 5 (10 * j + 3))), (14, .int (nI j)), (13, .int 1), (11, .long xk), (9, .long xo), (7, .long xi), (6, .int (nI x)), (5, .ref (ad 10)), (4, .ref (ad 7)), (3, .ref (ad 6)), (2, .ref (ad 5)), (1, .ref (ad 4)), (0, .ref (ad 0))]) hx hb dW_isHouse_109 hl (by decide) rfl (fun ls hl => ?_)
                refine lv_iinc (v := nI (10 * j + (k + 1))) (lv' := [(18, .int (nI (10 * j + (k + 1)))), (17, .int (nI (cnt (leftB sA j) (k + 1)))), (16, .int (sA 5 (10 * j + 5))), (15, .int (sA 5 (10 * j + 3))), (14, .int (nI j)), (13, .int 1), (11, .long xk), (9, .long xo), (7, .long xi), (6, .int (nI x)), (5, .ref (ad 10)), (4, .ref (ad 7)), (3, .ref (ad 6)), (2, .ref (ad 5)), (1, .ref (ad 4)), (0, .ref (ad 0))]) hx hb dW_isHouse_111 hl (k := 1) rfl (nI_1 (10 * j + k)) (by decide) rfl (fun ls hl => ?_)
                refine lv_goto (tgt := 80) hx hb dW_isHouse_114 (by decide) ?_
                exact ih9 (k + 1) (by omega) (by omega) ls hl
          exact hin 11 0 rfl (by omega) ls (lv_sub hl [0, 1, 2, 3, 4, 5, 6, 7, 8, 9, 10, 11, 12, 13, 14, 15] rfl)
  replace hl : lv_has ls 19 [(0, .ref (ad 0)), (1, .ref (ad 4)), (2, .ref (ad 5)), (3, .ref (ad 6)), (4, .ref (ad 7)), (5, .ref (ad 10)), (6, .int (nI x))] := hl
  refine lv_aload_n hx hb dW_isHouse_0 rfl (lv_at hl 1 rfl) ?_
  refine lv_iconst (v := 4) hx hb dW_isHouse_1 (by decide) ?_
  refine ra_ld hx hb hC hG 4 5 (by omega) (fun _ _ => rfl) (by rw [vp_in_iff]; decide) dW_isHouse_2 ?_
  rw [show (4 : Int32).toNatClampNeg = 4 from rfl]
  refine lv_i2l (v := (sA 4 4 : Int32).toInt64) hx hb dW_isHouse_3 rfl ?_
  refine lv_lstore (lv' := [(7, .long ((sA 4 4 : Int32).toInt64)), (0, .ref (ad 0)), (1, .ref (ad 4)), (2, .ref (ad 5)), (3, .ref (ad 6)), (4, .ref (ad 7)), (5, .ref (ad 10)), (6, .int (nI x))]) hx hb dW_isHouse_4 hl (by decide) rfl (fun ls hl => ?_)
  refine lv_lconst (v := 0) hx hb dW_isHouse_6 (by decide) ?_
  refine lv_lstore (lv' := [(9, .long 0), (7, .long ((sA 4 4 : Int32).toInt64)), (0, .ref (ad 0)), (1, .ref (ad 4)), (2, .ref (ad 5)), (3, .ref (ad 6)), (4, .ref (ad 7)), (5, .ref (ad 10)), (6, .int (nI x))]) hx hb dW_isHouse_7 hl (by decide) rfl (fun ls hl => ?_)
  refine lv_aload_n hx hb dW_isHouse_9 rfl (lv_at hl 3 rfl) ?_
  refine lv_iconst (v := 4) hx hb dW_isHouse_10 (by decide) ?_
  refine ra_ld hx hb hC hG 4 5 (by omega) (fun _ _ => rfl) (by rw [vp_in_iff]; decide) dW_isHouse_11 ?_
  rw [show (4 : Int32).toNatClampNeg = 4 from rfl]
  refine lv_i2l (v := (sA 4 4 : Int32).toInt64) hx hb dW_isHouse_12 rfl ?_
  refine lv_lstore (lv' := [(11, .long ((sA 4 4 : Int32).toInt64)), (9, .long 0), (7, .long ((sA 4 4 : Int32).toInt64)), (0, .ref (ad 0)), (1, .ref (ad 4)), (2, .ref (ad 5)), (3, .ref (ad 6)), (4, .ref (ad 7)), (5, .ref (ad 10)), (6, .int (nI x))]) hx hb dW_isHouse_13 hl (by decide) rfl (fun ls hl => ?_)
  refine lv_aload_n hx hb dW_isHouse_15 rfl (lv_at hl 3 rfl) ?_
  refine rcV2 (rest := []) (As := []) hx hb hml hown hts hC hG hS (cX_lots l D tI tJ tL A sg ad n sL sA) (recX hC hG) (gV q_413 q_414 q_415 q_1 q_416) rfl rfl ⟨rfl, hdyX_lots⟩ ⟨Nat.le_of_ble_eq_true rfl, Nat.le_of_ble_eq_true rfl⟩ hl.1 rfl (Nat.le_of_ble_eq_true rfl) dW_isHouse_16 ⟨by show _ ≤ 58; omega, by show _ ≤ 344; omega⟩ ?_
  refine lv_aload_n hx hb dW_isHouse_19 rfl (lv_at hl 4 rfl) ?_
  refine lv_iconst (v := 0) hx hb dW_isHouse_20 (by decide) ?_
  refine ra_ld hx hb hC hG 4 5 (by omega) (fun _ _ => rfl) (by rw [vp_in_iff]; decide) dW_isHouse_21 ?_
  rw [show (0 : Int32).toNatClampNeg = 0 from rfl]
  refine lv_icmp_ne (tgt := 29) hx hb dW_isHouse_22 (by decide) (fun c_22 => ?_) (fun c_22 => ?_)
  · exact absurd c_22 (fun q => q hI.r_lots)
  · refine lv_iconst (v := 1) hx hb dW_isHouse_25 (by decide) ?_
    refine lv_goto (tgt := 30) hx hb dW_isHouse_26 (by decide) ?_
    refine lv_istore (lv' := [(13, .int 1), (11, .long ((sA 4 4 : Int32).toInt64)), (9, .long 0), (7, .long ((sA 4 4 : Int32).toInt64)), (0, .ref (ad 0)), (1, .ref (ad 4)), (2, .ref (ad 5)), (3, .ref (ad 6)), (4, .ref (ad 7)), (5, .ref (ad 10)), (6, .int (nI x))]) hx hb dW_isHouse_30 hl (by decide) rfl (fun ls hl => ?_)
    refine lv_iconst (v := 0) hx hb dW_isHouse_32 (by decide) ?_
    refine lv_istore (lv' := [(14, .int 0), (13, .int 1), (11, .long ((sA 4 4 : Int32).toInt64)), (9, .long 0), (7, .long ((sA 4 4 : Int32).toInt64)), (0, .ref (ad 0)), (1, .ref (ad 4)), (2, .ref (ad 5)), (3, .ref (ad 6)), (4, .ref (ad 7)), (5, .ref (ad 10)), (6, .int (nI x))]) hx hb dW_isHouse_33 hl (by decide) rfl (fun ls hl => ?_)
    refine W.widen (k := 6 * 0) (n := 36 * 0) (by omega) (by omega) ?_
    exact hlots 7 0 rfl (by omega) _ _ _ _ _ _ (by rw [sm, Int64.add_zero]) rfl (by rw [sm, Int64.add_zero]) hG hS (lv_sub hl [0, 1, 2, 3, 4, 11, 10, 9, 8, 7, 6, 5] rfl)
