abbrev A0 (s : State) : Nat → Prop := fun q => s.heap.size ≤ q
section G7
variable {p : Program} {l : Launch} {e : Env} {R : Room} {s : State} {m : MethodId} {args : Array Value} {below : List Frame} {meth : Method} {c : Code} {H : Heap} {locs : List Loc} {cells slots : Nat} {Q : State → Prop}
variable {D : va_G} {tI tJ tL : ClassId} {A : Nat → Prop} {sg ad : Nat → Nat} {n : Nat} {sL : NL} {sA : NA}
variable {cc : ByteArray} {pc : Nat} {ls : Array Slot} {rest st0 : List Value}
theorem rcSW {y : MethodName} {bytes : ByteArray} {maxL nL index mc ms : Nat} {ret : Option FieldType} {hh : List (Nat × Nat × Nat × Nat)} {rm : Room} {own : String} {As : List Value} {F : Int32 × NL × NA} (hx : p.tables.exec = Jvm.exec) (hb : c.code = cc) (hml : c.maxLocals = nL) (hown : s.vm.findClass own = some m.cls) (hts : ∀ w ∈ wNeed, w.before args s = true) (hC : GC D tI tJ tL A sg s) (hG : GW D tI tJ tL A ad n sL sA H) (hS : va_S A s.heap H locs)
    (hM : Met l y (Cond.codeWith y bytes maxL ret hh :: wNeed) rm (va_Pc As (GP D tI tJ tL A sg ad n sL sA)) (va_Qi (fun r (u : NL × NA) => F = (r, u.1, u.2)) (fun u t => GW D tI tJ tL A ad n u.1 u.2 t.heap) A) mc ms A) (hg : GoodIn wNeed (va_wsS own index y (Cond.codeWith y bytes maxL ret hh :: wNeed))) (hrc : rm.cells = mc) (hrs : rm.slots = ms)
    (hd : y.cls ≠ "java/lang/invoke/MethodHandle" ∧ y.cls ≠ "java/lang/invoke/VarHandle" ∧ (parseMethodDescriptor y.desc).map (fun d => d.parameters.length) = some As.length) (hR : rm.frames + 1 ≤ R.frames ∧ 8 + (maxL + 11) + rm.locals ≤ R.locals)
    (hsz : ls.size = nL) (hst : st0 = As.reverse ++ rest) (hr8 : (rest.map fun v => v.category).sum ≤ 8) (hdg : decode cc pc = .ok (.invokestatic index, 3)) (hf : cells + mc ≤ R.cells ∧ slots + ms ≤ R.slots)
    (kk : ∀ (H1 : Heap) (locs1 : List Loc), GW D tI tJ tL A ad n F.2.1 F.2.2 H1 → va_S A s.heap H1 locs1 → W p l e R s m args below meth c H1 locs1 (cells + mc) (slots + ms) Q (F0 m (pc + 3) ls (.int F.1 :: rest))) : W p l e R s m args below meth c H locs cells slots Q (F0 m pc ls st0) := by
  refine va_calli (rest := rest) (vx_runSW (As := As) ⟨hx, hb, hml, hown, hts⟩ hM (vx_cwSW As.length hts hg rfl hrc hrs hd hR) ⟨GP.blind, fun U hU hW => ⟨rfl, GP.call hC hG hS hU hW⟩⟩ rfl rfl hsz hst (lv_room hr8) hdg hf) hS (fun _ _ h => h) (fun _ h => h) fun r u t H1 locs1 ht hvm hw hB hz1 hk1 hS1 => ?_
  subst hw; subst ht
  exact kk _ _ hB hS1
theorem rcSWL {y : MethodName} {bytes : ByteArray} {maxL nL index mc ms k : Nat} {ret : Option FieldType} {hh : List (Nat × Nat × Nat × Nat)} {rm : Room} {own : String} {As : List Value} {sA2 : NA} (hx : p.tables.exec = Jvm.exec) (hb : c.code = cc) (hml : c.maxLocals = nL) (hown : s.vm.findClass own = some m.cls) (hts : ∀ w ∈ wNeed, w.before args s = true) (hC : GC D tI tJ tL A sg s) (hG : GW D tI tJ tL A ad n sL sA H) (hS : va_S A s.heap H locs)
    (hM : Met l y (Cond.codeWith y bytes maxL ret hh :: wNeed) rm (va_Pc As (GP D tI tJ tL A sg ad n sL sA)) (va_Qi (fun r u => lotRel (4 * n + 22) k r ad n sL sA sA2 u) (fun u t => GW D tI tJ tL A u.1 u.2.1 u.2.2.1 u.2.2.2 t.heap) A) mc ms A) (hg : GoodIn wNeed (va_wsS own index y (Cond.codeWith y bytes maxL ret hh :: wNeed))) (hrc : rm.cells = mc) (hrs : rm.slots = ms)
    (hd : y.cls ≠ "java/lang/invoke/MethodHandle" ∧ y.cls ≠ "java/lang/invoke/VarHandle" ∧ (parseMethodDescriptor y.desc).map (fun d => d.parameters.length) = some As.length) (hR : rm.frames + 1 ≤ R.frames ∧ 8 + (maxL + 11) + rm.locals ≤ R.locals)
    (hsz : ls.size = nL) (hst : st0 = As.reverse ++ rest) (hr8 : (rest.map fun v => v.category).sum ≤ 8) (hdg : decode cc pc = .ok (.invokestatic index, 3)) (hf : cells + mc ≤ R.cells ∧ slots + ms ≤ R.slots)
    (kk : ∀ (ad2 : Nat → Nat) (S : Nat × NL × NA), S = lotS k n sL sA sA2 → (∀ j, j < 22 → ad2 j = ad j) → ∀ (H1 : Heap) (locs1 : List Loc), GW D tI tJ tL A ad2 S.1 S.2.1 S.2.2 H1 → va_S A s.heap H1 locs1 → W p l e R s m args below meth c H1 locs1 (cells + mc) (slots + ms) Q (F0 m (pc + 3) ls (.int (nI k) :: rest))) : W p l e R s m args below meth c H locs cells slots Q (F0 m pc ls st0) := by
  refine va_calli (rest := rest) (vx_runSW (As := As) ⟨hx, hb, hml, hown, hts⟩ hM (vx_cwSW As.length hts hg rfl hrc hrs hd hR) ⟨GP.blind, fun U hU hW => ⟨rfl, GP.call hC hG hS hU hW⟩⟩ rfl rfl hsz hst (lv_room hr8) hdg hf) hS (fun _ _ h => h) (fun _ h => h) fun r u t H1 locs1 ht hvm hw hB hz1 hk1 hS1 => ?_
  subst ht
  rcases hw with ⟨h1, h2, h3, h4⟩ | ⟨h1, h2, h3⟩
  · obtain ⟨ad2, u2⟩ := u
    have h3' : u2 = (n + 1, up2L sL 4 0 (nI n).toInt64, sA2) := h3
    subst h3'
    rw [h2, show (0 : Int32) = nI k from by rw [h1]; rfl]
    exact kk ad2 _ (by rw [lotS, if_pos h1]) (fun j hj => h4 j (by omega)) _ _ hB hS1
  · subst h3
    rw [h2]
    exact kk ad _ (by rw [lotS, if_neg h1]) (fun j hj => rfl) _ _ hB hS1
end G7
theorem lgc {a b : Int64} (h : a = b) : lg_cmp a b = 0 := by subst h; simp [lg_cmp]
theorem INV.hcnt {n K : Nat} {sL : NL} {sA : NA} (h : INV n K sL sA) : ∀ i, i < n → ∃ cn : Nat, cn ≤ 10 ∧ sA (4 * i + 23) 2 = nI cn := by
  obtain ⟨-, -, -, -, -, lm, -, -, hl, -⟩ := h
  intro i hi
  obtain ⟨-, c, bs, la, h1, h2, -⟩ := hl i hi
  exact ⟨c, h1, h2⟩
theorem buyer_of {x : Int32} (h : vp_in x 10) : fX_checkBuyer x = 0 := by
  have h1 := vin_nat h
  have e := vin_eq h
  unfold fX_checkBuyer
  rw [if_neg (fun q => h (Or.inl q)), if_pos (by rw [e, show (10 : Int32) = nI 10 from rfl, nI_ltI (by omega) (by omega)]; exact h1)]
theorem INV.hgap {n K : Nat} {sL : NL} {sA : NA} (h : INV n K sL sA) : ∀ i, i < n → sA (4 * i + 22) 8 = (-1) ∨ fX_checkBuyer (sA (4 * i + 22) 8) = 0 := by
  obtain ⟨-, -, -, -, -, lm, -, -, hl, -⟩ := h
  intro i hi
  obtain ⟨-, -, -, -, -, ⟨h1, h2⟩, -⟩ := (hl i hi).1
  rw [h1]
  rcases h2 with h2 | h2
  · exact Or.inl h2
  · exact Or.inr (buyer_of h2)
/-- where the law goes on behind a case -/
def CONT (p : Program) (l : Launch) (e : Env) (s : State) (m : MethodId) (b : Nat) (below : List Frame) (meth : Method) (c : Code) (D : va_G) (tI tJ tL : ClassId) (i K cells slots : Nat) : Prop :=
  ∀ (ad2 : Nat → Nat) (n2 : Nat) (sL2 : NL) (sA2 : NA) (H2 : Heap) (locs2 : List Loc) (ls2 : Array Slot), INV n2 (K + 1) sL2 sA2 → GW D tI tJ tL (A0 s) ad2 n2 sL2 sA2 H2 → va_S (A0 s) s.heap H2 locs2 → lv_has ls2 7 [(4, .int (nI i)), (3, .ref (ad2 4)), (2, .ref (ad2 5)), (1, .ref (ad2 0)), (0, .ref b)] →
    W p l e room_1 s m #[Value.ref b] below meth c H2 locs2 (cells + 30) (slots + 200) (lw_Z below #[Value.ref b] s) (F0 m 1503 ls2 [])
theorem vin_s {i k L : Nat} (hL : L ≤ 2048) (hi : i + 4 ≤ L) (hk : k < 4) : vp_in (nI i + nI k) L := by
  rw [nI_add]
  exact vp_in_nI (by omega) (by omega)
theorem lot_le {sL : NL} {sA : NA} {p0 p1 p2 : Int32} : fX_lot sL sA p0 p1 p2 ≤ 3 := by
  have h1 : fX_checkSeller p0 ≤ 3 := by unfold fX_checkSeller; (repeat' split) <;> omega
  have h2 : fX_checkRange p1 0 1000000 ≤ 3 := by unfold fX_checkRange; (repeat' split) <;> omega
  have h3 : fX_checkArtist p2 ≤ 3 := by
    unfold fX_checkArtist
    have : fX_checkRange p2 1800 2000 ≤ 3 := by unfold fX_checkRange; (repeat' split) <;> omega
    unfold bnd4
    (repeat' split) <;> omega
  unfold fX_lot bnd4
  (repeat' split) <;> omega
theorem lot0 {sL : NL} {sA : NA} {p0 p1 p2 : Int32} (h : nI (fX_lot sL sA p0 p1 p2) = 0) : fX_lot sL sA p0 p1 p2 = 0 := by
  have e : (0 : Int32) = nI 0 := rfl
  have := lot_le (sL := sL) (sA := sA) (p0 := p0) (p1 := p1) (p2 := p2)
  rw [e, nI_eq (by omega) (by omega)] at h
  exact h
theorem dW_law_160 : decode code 160 = .ok (.aload_n 1, 1) := by decide +kernel
theorem dW_law_161 : decode code 161 = .ok (.aload_n 0, 1) := by decide +kernel
theorem dW_law_162 : decode code 162 = .ok (.iload 4, 2) := by decide +kernel
theorem dW_law_164 : decode code 164 = .ok (.iconst 1, 1) := by decide +kernel
theorem dW_law_165 : decode code 165 = .ok (.iadd, 1) := by decide +kernel
theorem dW_law_166 : decode code 166 = .ok (.iaload, 1) := by decide +kernel
theorem dW_law_167 : decode code 167 = .ok (.aload_n 0, 1) := by decide +kernel
theorem dW_law_168 : decode code 168 = .ok (.iload 4, 2) := by decide +kernel
theorem dW_law_170 : decode code 170 = .ok (.iconst 2, 1) := by decide +kernel
theorem dW_law_171 : decode code 171 = .ok (.iadd, 1) := by decide +kernel
theorem dW_law_172 : decode code 172 = .ok (.iaload, 1) := by decide +kernel
theorem dW_law_173 : decode code 173 = .ok (.aload_n 0, 1) := by decide +kernel
theorem dW_law_174 : decode code 174 = .ok (.iload 4, 2) := by decide +kernel
theorem dW_law_176 : decode code 176 = .ok (.iconst 3, 1) := by decide +kernel
theorem dW_law_177 : decode code 177 = .ok (.iadd, 1) := by decide +kernel
theorem dW_law_178 : decode code 178 = .ok (.iaload, 1) := by decide +kernel
theorem dW_law_179 : decode code 179 = .ok (.aload_n 3, 1) := by decide +kernel
theorem dW_law_180 : decode code 180 = .ok (.invokestatic 85, 3) := by decide +kernel
theorem dW_law_183 : decode code 183 = .ok (.istore 5, 2) := by decide +kernel
theorem dW_law_185 : decode code 185 = .ok (.aload_n 2, 1) := by decide +kernel
theorem dW_law_186 : decode code 186 = .ok (.aload_n 0, 1) := by decide +kernel
theorem dW_law_187 : decode code 187 = .ok (.iload 4, 2) := by decide +kernel
theorem dW_law_189 : decode code 189 = .ok (.iconst 1, 1) := by decide +kernel
theorem dW_law_190 : decode code 190 = .ok (.iadd, 1) := by decide +kernel
theorem dW_law_191 : decode code 191 = .ok (.iaload, 1) := by decide +kernel
theorem dW_law_192 : decode code 192 = .ok (.aload_n 0, 1) := by decide +kernel
theorem dW_law_193 : decode code 193 = .ok (.iload 4, 2) := by decide +kernel
theorem dW_law_195 : decode code 195 = .ok (.iconst 2, 1) := by decide +kernel
theorem dW_law_196 : decode code 196 = .ok (.iadd, 1) := by decide +kernel
theorem dW_law_197 : decode code 197 = .ok (.iaload, 1) := by decide +kernel
theorem dW_law_198 : decode code 198 = .ok (.aload_n 0, 1) := by decide +kernel
theorem dW_law_199 : decode code 199 = .ok (.iload 4, 2) := by decide +kernel
theorem dW_law_201 : decode code 201 = .ok (.iconst 3, 1) := by decide +kernel
theorem dW_law_202 : decode code 202 = .ok (.iadd, 1) := by decide +kernel
theorem dW_law_203 : decode code 203 = .ok (.iaload, 1) := by decide +kernel
theorem dW_law_204 : decode code 204 = .ok (.invokevirtual 90, 3) := by decide +kernel
theorem dW_law_207 : decode code 207 = .ok (.istore 6, 2) := by decide +kernel
theorem dW_law_209 : decode code 209 = .ok (.aload_n 2, 1) := by decide +kernel
theorem dW_law_210 : decode code 210 = .ok (.invokevirtual 91, 3) := by decide +kernel
theorem dW_law_213 : decode code 213 = .ok (.iload 5, 2) := by decide +kernel
theorem dW_law_215 : decode code 215 = .ok (.if_icmp .eq 5, 3) := by decide +kernel
theorem dW_law_220 : decode code 220 = .ok (.iload 5, 2) := by decide +kernel
theorem dW_law_222 : decode code 222 = .ok (.ifCond .ne 15, 3) := by decide +kernel
theorem dW_law_225 : decode code 225 = .ok (.aload_n 3, 1) := by decide +kernel
theorem dW_law_226 : decode code 226 = .ok (.iconst 0, 1) := by decide +kernel
theorem dW_law_227 : decode code 227 = .ok (.laload, 1) := by decide +kernel
theorem dW_law_228 : decode code 228 = .ok (.iload 6, 2) := by decide +kernel
theorem dW_law_230 : decode code 230 = .ok (.i2l, 1) := by decide +kernel
theorem dW_law_231 : decode code 231 = .ok (.lcmp, 1) := by decide +kernel
theorem dW_law_232 : decode code 232 = .ok (.ifCond .eq 5, 3) := by decide +kernel
theorem dW_law_237 : decode code 237 = .ok (.goto 1266, 3) := by decide +kernel
theorem dW_law_240 : decode code 240 = .ok (.aload_n 1, 1) := by decide +kernel
theorem dW_law_241 : decode code 241 = .ok (.aload_n 0, 1) := by decide +kernel
theorem dW_law_242 : decode code 242 = .ok (.iload 4, 2) := by decide +kernel
theorem dW_law_244 : decode code 244 = .ok (.iconst 1, 1) := by decide +kernel
theorem dW_law_245 : decode code 245 = .ok (.iadd, 1) := by decide +kernel
theorem dW_law_246 : decode code 246 = .ok (.iaload, 1) := by decide +kernel
theorem dW_law_247 : decode code 247 = .ok (.aload_n 0, 1) := by decide +kernel
theorem dW_law_248 : decode code 248 = .ok (.iload 4, 2) := by decide +kernel
theorem dW_law_250 : decode code 250 = .ok (.iconst 2, 1) := by decide +kernel
theorem dW_law_251 : decode code 251 = .ok (.iadd, 1) := by decide +kernel
theorem dW_law_252 : decode code 252 = .ok (.iaload, 1) := by decide +kernel
theorem dW_law_253 : decode code 253 = .ok (.aload_n 0, 1) := by decide +kernel
theorem dW_law_254 : decode code 254 = .ok (.iload 4, 2) := by decide +kernel
theorem dW_law_256 : decode code 256 = .ok (.iconst 3, 1) := by decide +kernel
theorem dW_law_257 : decode code 257 = .ok (.iadd, 1) := by decide +kernel
theorem dW_law_258 : decode code 258 = .ok (.iaload, 1) := by decide +kernel
theorem dW_law_259 : decode code 259 = .ok (.aload_n 3, 1) := by decide +kernel
theorem dW_law_260 : decode code 260 = .ok (.invokestatic 95, 3) := by decide +kernel
theorem dW_law_263 : decode code 263 = .ok (.istore 5, 2) := by decide +kernel
theorem dW_law_265 : decode code 265 = .ok (.aload_n 2, 1) := by decide +kernel
theorem dW_law_266 : decode code 266 = .ok (.aload_n 0, 1) := by decide +kernel
theorem dW_law_267 : decode code 267 = .ok (.iload 4, 2) := by decide +kernel
theorem dW_law_269 : decode code 269 = .ok (.iconst 1, 1) := by decide +kernel
theorem dW_law_270 : decode code 270 = .ok (.iadd, 1) := by decide +kernel
theorem dW_law_271 : decode code 271 = .ok (.iaload, 1) := by decide +kernel
theorem dW_law_272 : decode code 272 = .ok (.aload_n 0, 1) := by decide +kernel
theorem dW_law_273 : decode code 273 = .ok (.iload 4, 2) := by decide +kernel
theorem dW_law_275 : decode code 275 = .ok (.iconst 2, 1) := by decide +kernel
theorem dW_law_276 : decode code 276 = .ok (.iadd, 1) := by decide +kernel
theorem dW_law_277 : decode code 277 = .ok (.iaload, 1) := by decide +kernel
theorem dW_law_278 : decode code 278 = .ok (.aload_n 0, 1) := by decide +kernel
theorem dW_law_279 : decode code 279 = .ok (.iload 4, 2) := by decide +kernel
theorem dW_law_281 : decode code 281 = .ok (.iconst 3, 1) := by decide +kernel
theorem dW_law_282 : decode code 282 = .ok (.iadd, 1) := by decide +kernel
theorem dW_law_283 : decode code 283 = .ok (.iaload, 1) := by decide +kernel
theorem dW_law_284 : decode code 284 = .ok (.invokevirtual 97, 3) := by decide +kernel
theorem dW_law_287 : decode code 287 = .ok (.istore 6, 2) := by decide +kernel
theorem dW_law_289 : decode code 289 = .ok (.aload_n 2, 1) := by decide +kernel
theorem dW_law_290 : decode code 290 = .ok (.invokevirtual 91, 3) := by decide +kernel
theorem dW_law_293 : decode code 293 = .ok (.iload 5, 2) := by decide +kernel
theorem dW_law_295 : decode code 295 = .ok (.if_icmp .eq 5, 3) := by decide +kernel
theorem dW_law_300 : decode code 300 = .ok (.iload 5, 2) := by decide +kernel
theorem dW_law_302 : decode code 302 = .ok (.ifCond .ne 15, 3) := by decide +kernel
theorem dW_law_305 : decode code 305 = .ok (.aload_n 3, 1) := by decide +kernel
theorem dW_law_306 : decode code 306 = .ok (.iconst 0, 1) := by decide +kernel
theorem dW_law_307 : decode code 307 = .ok (.laload, 1) := by decide +kernel
theorem dW_law_308 : decode code 308 = .ok (.iload 6, 2) := by decide +kernel
theorem dW_law_310 : decode code 310 = .ok (.i2l, 1) := by decide +kernel
theorem dW_law_311 : decode code 311 = .ok (.lcmp, 1) := by decide +kernel
theorem dW_law_312 : decode code 312 = .ok (.ifCond .eq 5, 3) := by decide +kernel
theorem dW_law_317 : decode code 317 = .ok (.goto 1186, 3) := by decide +kernel
theorem dW_law_320 : decode code 320 = .ok (.aload_n 1, 1) := by decide +kernel
theorem dW_law_321 : decode code 321 = .ok (.aload_n 0, 1) := by decide +kernel
theorem dW_law_322 : decode code 322 = .ok (.iload 4, 2) := by decide +kernel
theorem dW_law_324 : decode code 324 = .ok (.iconst 1, 1) := by decide +kernel
theorem dW_law_325 : decode code 325 = .ok (.iadd, 1) := by decide +kernel
theorem dW_law_326 : decode code 326 = .ok (.iaload, 1) := by decide +kernel
theorem dW_law_327 : decode code 327 = .ok (.aload_n 3, 1) := by decide +kernel
theorem dW_law_328 : decode code 328 = .ok (.invokestatic 98, 3) := by decide +kernel
theorem dW_law_331 : decode code 331 = .ok (.istore 5, 2) := by decide +kernel
theorem dW_law_333 : decode code 333 = .ok (.aload_n 2, 1) := by decide +kernel
theorem dW_law_334 : decode code 334 = .ok (.aload_n 0, 1) := by decide +kernel
theorem dW_law_335 : decode code 335 = .ok (.iload 4, 2) := by decide +kernel
theorem dW_law_337 : decode code 337 = .ok (.iconst 1, 1) := by decide +kernel
theorem dW_law_338 : decode code 338 = .ok (.iadd, 1) := by decide +kernel
theorem dW_law_339 : decode code 339 = .ok (.iaload, 1) := by decide +kernel
theorem dW_law_340 : decode code 340 = .ok (.invokevirtual 101, 3) := by decide +kernel
theorem dW_law_343 : decode code 343 = .ok (.istore 6, 2) := by decide +kernel
theorem dW_law_345 : decode code 345 = .ok (.aload_n 2, 1) := by decide +kernel
theorem dW_law_346 : decode code 346 = .ok (.invokevirtual 91, 3) := by decide +kernel
theorem dW_law_349 : decode code 349 = .ok (.iload 5, 2) := by decide +kernel
theorem dW_law_351 : decode code 351 = .ok (.if_icmp .eq 5, 3) := by decide +kernel
theorem dW_law_356 : decode code 356 = .ok (.iload 5, 2) := by decide +kernel
theorem dW_law_358 : decode code 358 = .ok (.ifCond .ne 15, 3) := by decide +kernel
theorem dW_law_361 : decode code 361 = .ok (.aload_n 3, 1) := by decide +kernel
theorem dW_law_362 : decode code 362 = .ok (.iconst 0, 1) := by decide +kernel
theorem dW_law_363 : decode code 363 = .ok (.laload, 1) := by decide +kernel
theorem dW_law_364 : decode code 364 = .ok (.iload 6, 2) := by decide +kernel
theorem dW_law_366 : decode code 366 = .ok (.i2l, 1) := by decide +kernel
theorem dW_law_367 : decode code 367 = .ok (.lcmp, 1) := by decide +kernel
theorem dW_law_368 : decode code 368 = .ok (.ifCond .eq 5, 3) := by decide +kernel
theorem dW_law_373 : decode code 373 = .ok (.goto 1130, 3) := by decide +kernel
theorem dW_law_376 : decode code 376 = .ok (.aload_n 1, 1) := by decide +kernel
theorem dW_law_377 : decode code 377 = .ok (.aload_n 0, 1) := by decide +kernel
theorem dW_law_378 : decode code 378 = .ok (.iload 4, 2) := by decide +kernel
theorem dW_law_380 : decode code 380 = .ok (.iconst 1, 1) := by decide +kernel
theorem dW_law_381 : decode code 381 = .ok (.iadd, 1) := by decide +kernel
theorem dW_law_382 : decode code 382 = .ok (.iaload, 1) := by decide +kernel
theorem dW_law_383 : decode code 383 = .ok (.aload_n 0, 1) := by decide +kernel
theorem dW_law_384 : decode code 384 = .ok (.iload 4, 2) := by decide +kernel
theorem dW_law_386 : decode code 386 = .ok (.iconst 2, 1) := by decide +kernel
theorem dW_law_387 : decode code 387 = .ok (.iadd, 1) := by decide +kernel
theorem dW_law_388 : decode code 388 = .ok (.iaload, 1) := by decide +kernel
theorem dW_law_389 : decode code 389 = .ok (.aload_n 3, 1) := by decide +kernel
theorem dW_law_390 : decode code 390 = .ok (.invokestatic 102, 3) := by decide +kernel
theorem dW_law_393 : decode code 393 = .ok (.istore 5, 2) := by decide +kernel
theorem dW_law_395 : decode code 395 = .ok (.aload_n 2, 1) := by decide +kernel
theorem dW_law_396 : decode code 396 = .ok (.aload_n 0, 1) := by decide +kernel
theorem dW_law_397 : decode code 397 = .ok (.iload 4, 2) := by decide +kernel
theorem dW_law_399 : decode code 399 = .ok (.iconst 1, 1) := by decide +kernel
theorem dW_law_400 : decode code 400 = .ok (.iadd, 1) := by decide +kernel
theorem dW_law_401 : decode code 401 = .ok (.iaload, 1) := by decide +kernel
theorem dW_law_402 : decode code 402 = .ok (.aload_n 0, 1) := by decide +kernel
theorem dW_law_403 : decode code 403 = .ok (.iload 4, 2) := by decide +kernel
theorem dW_law_405 : decode code 405 = .ok (.iconst 2, 1) := by decide +kernel
theorem dW_law_406 : decode code 406 = .ok (.iadd, 1) := by decide +kernel
theorem dW_law_407 : decode code 407 = .ok (.iaload, 1) := by decide +kernel
theorem dW_law_408 : decode code 408 = .ok (.invokevirtual 105, 3) := by decide +kernel
theorem dW_law_411 : decode code 411 = .ok (.istore 6, 2) := by decide +kernel
theorem dW_law_413 : decode code 413 = .ok (.aload_n 2, 1) := by decide +kernel
theorem dW_law_414 : decode code 414 = .ok (.invokevirtual 91, 3) := by decide +kernel
theorem dW_law_417 : decode code 417 = .ok (.iload 5, 2) := by decide +kernel
theorem dW_law_419 : decode code 419 = .ok (.if_icmp .eq 5, 3) := by decide +kernel
theorem dW_law_424 : decode code 424 = .ok (.iload 5, 2) := by decide +kernel
theorem dW_law_426 : decode code 426 = .ok (.ifCond .ne 15, 3) := by decide +kernel
theorem dW_law_429 : decode code 429 = .ok (.aload_n 3, 1) := by decide +kernel
theorem dW_law_430 : decode code 430 = .ok (.iconst 0, 1) := by decide +kernel
theorem dW_law_431 : decode code 431 = .ok (.laload, 1) := by decide +kernel
theorem dW_law_432 : decode code 432 = .ok (.iload 6, 2) := by decide +kernel
theorem dW_law_434 : decode code 434 = .ok (.i2l, 1) := by decide +kernel
theorem dW_law_435 : decode code 435 = .ok (.lcmp, 1) := by decide +kernel
theorem dW_law_436 : decode code 436 = .ok (.ifCond .eq 5, 3) := by decide +kernel
theorem dW_law_441 : decode code 441 = .ok (.goto 1062, 3) := by decide +kernel
theorem dW_law_444 : decode code 444 = .ok (.aload_n 1, 1) := by decide +kernel
theorem dW_law_445 : decode code 445 = .ok (.invokevirtual 106, 3) := by decide +kernel
theorem dW_law_448 : decode code 448 = .ok (.aload_n 2, 1) := by decide +kernel
theorem dW_law_449 : decode code 449 = .ok (.invokevirtual 109, 3) := by decide +kernel
theorem dW_law_452 : decode code 452 = .ok (.if_icmp .eq 1051, 3) := by decide +kernel
theorem dW_law_457 : decode code 457 = .ok (.aload_n 1, 1) := by decide +kernel
theorem dW_law_458 : decode code 458 = .ok (.aload_n 0, 1) := by decide +kernel
theorem dW_law_459 : decode code 459 = .ok (.iload 4, 2) := by decide +kernel
theorem dW_law_461 : decode code 461 = .ok (.iconst 1, 1) := by decide +kernel
theorem dW_law_462 : decode code 462 = .ok (.iadd, 1) := by decide +kernel
theorem dW_law_463 : decode code 463 = .ok (.iaload, 1) := by decide +kernel
theorem dW_law_464 : decode code 464 = .ok (.aload_n 3, 1) := by decide +kernel
theorem dW_law_465 : decode code 465 = .ok (.invokestatic 110, 3) := by decide +kernel
theorem dW_law_468 : decode code 468 = .ok (.istore 5, 2) := by decide +kernel
theorem dW_law_470 : decode code 470 = .ok (.aload_n 2, 1) := by decide +kernel
theorem dW_law_471 : decode code 471 = .ok (.aload_n 0, 1) := by decide +kernel
theorem dW_law_472 : decode code 472 = .ok (.iload 4, 2) := by decide +kernel
theorem dW_law_474 : decode code 474 = .ok (.iconst 1, 1) := by decide +kernel
theorem dW_law_475 : decode code 475 = .ok (.iadd, 1) := by decide +kernel
theorem dW_law_476 : decode code 476 = .ok (.iaload, 1) := by decide +kernel
theorem dW_law_477 : decode code 477 = .ok (.invokevirtual 112, 3) := by decide +kernel
theorem dW_law_480 : decode code 480 = .ok (.istore 6, 2) := by decide +kernel
theorem dW_law_482 : decode code 482 = .ok (.aload_n 2, 1) := by decide +kernel
theorem dW_law_483 : decode code 483 = .ok (.invokevirtual 91, 3) := by decide +kernel
theorem dW_law_486 : decode code 486 = .ok (.iload 5, 2) := by decide +kernel
theorem dW_law_488 : decode code 488 = .ok (.if_icmp .eq 5, 3) := by decide +kernel
theorem dW_law_493 : decode code 493 = .ok (.iload 5, 2) := by decide +kernel
theorem dW_law_495 : decode code 495 = .ok (.ifCond .ne 15, 3) := by decide +kernel
theorem dW_law_498 : decode code 498 = .ok (.aload_n 3, 1) := by decide +kernel
theorem dW_law_499 : decode code 499 = .ok (.iconst 0, 1) := by decide +kernel
theorem dW_law_500 : decode code 500 = .ok (.laload, 1) := by decide +kernel
theorem dW_law_501 : decode code 501 = .ok (.iload 6, 2) := by decide +kernel
theorem dW_law_503 : decode code 503 = .ok (.i2l, 1) := by decide +kernel
theorem dW_law_504 : decode code 504 = .ok (.lcmp, 1) := by decide +kernel
theorem dW_law_505 : decode code 505 = .ok (.ifCond .eq 5, 3) := by decide +kernel
theorem dW_law_510 : decode code 510 = .ok (.goto 993, 3) := by decide +kernel
theorem dW_law_513 : decode code 513 = .ok (.aload_n 1, 1) := by decide +kernel
theorem dW_law_514 : decode code 514 = .ok (.aload_n 0, 1) := by decide +kernel
theorem dW_law_515 : decode code 515 = .ok (.iload 4, 2) := by decide +kernel
theorem dW_law_517 : decode code 517 = .ok (.iconst 1, 1) := by decide +kernel
theorem dW_law_518 : decode code 518 = .ok (.iadd, 1) := by decide +kernel
theorem dW_law_519 : decode code 519 = .ok (.iaload, 1) := by decide +kernel
theorem dW_law_520 : decode code 520 = .ok (.aload_n 3, 1) := by decide +kernel
theorem dW_law_521 : decode code 521 = .ok (.invokestatic 113, 3) := by decide +kernel
theorem dW_law_524 : decode code 524 = .ok (.istore 5, 2) := by decide +kernel
theorem dW_law_526 : decode code 526 = .ok (.aload_n 2, 1) := by decide +kernel
theorem dW_law_527 : decode code 527 = .ok (.aload_n 0, 1) := by decide +kernel
theorem dW_law_528 : decode code 528 = .ok (.iload 4, 2) := by decide +kernel
theorem dW_law_530 : decode code 530 = .ok (.iconst 1, 1) := by decide +kernel
theorem dW_law_531 : decode code 531 = .ok (.iadd, 1) := by decide +kernel
theorem dW_law_532 : decode code 532 = .ok (.iaload, 1) := by decide +kernel
theorem dW_law_533 : decode code 533 = .ok (.invokevirtual 115, 3) := by decide +kernel
theorem dW_law_536 : decode code 536 = .ok (.istore 6, 2) := by decide +kernel
theorem dW_law_538 : decode code 538 = .ok (.aload_n 2, 1) := by decide +kernel
theorem dW_law_539 : decode code 539 = .ok (.invokevirtual 91, 3) := by decide +kernel
theorem dW_law_542 : decode code 542 = .ok (.iload 5, 2) := by decide +kernel
theorem dW_law_544 : decode code 544 = .ok (.if_icmp .eq 5, 3) := by decide +kernel
theorem dW_law_549 : decode code 549 = .ok (.iload 5, 2) := by decide +kernel
theorem dW_law_551 : decode code 551 = .ok (.ifCond .ne 15, 3) := by decide +kernel
theorem dW_law_554 : decode code 554 = .ok (.aload_n 3, 1) := by decide +kernel
theorem dW_law_555 : decode code 555 = .ok (.iconst 0, 1) := by decide +kernel
theorem dW_law_556 : decode code 556 = .ok (.laload, 1) := by decide +kernel
theorem dW_law_557 : decode code 557 = .ok (.iload 6, 2) := by decide +kernel
theorem dW_law_559 : decode code 559 = .ok (.i2l, 1) := by decide +kernel
theorem dW_law_560 : decode code 560 = .ok (.lcmp, 1) := by decide +kernel
theorem dW_law_561 : decode code 561 = .ok (.ifCond .eq 5, 3) := by decide +kernel
theorem dW_law_566 : decode code 566 = .ok (.goto 937, 3) := by decide +kernel
theorem dW_law_569 : decode code 569 = .ok (.aload_n 1, 1) := by decide +kernel
theorem dW_law_570 : decode code 570 = .ok (.aload_n 0, 1) := by decide +kernel
theorem dW_law_571 : decode code 571 = .ok (.iload 4, 2) := by decide +kernel
theorem dW_law_573 : decode code 573 = .ok (.iconst 1, 1) := by decide +kernel
theorem dW_law_574 : decode code 574 = .ok (.iadd, 1) := by decide +kernel
theorem dW_law_575 : decode code 575 = .ok (.iaload, 1) := by decide +kernel
theorem dW_law_576 : decode code 576 = .ok (.aload_n 3, 1) := by decide +kernel
theorem dW_law_577 : decode code 577 = .ok (.invokestatic 116, 3) := by decide +kernel
theorem dW_law_580 : decode code 580 = .ok (.istore 5, 2) := by decide +kernel
theorem dW_law_582 : decode code 582 = .ok (.aload_n 2, 1) := by decide +kernel
theorem dW_law_583 : decode code 583 = .ok (.aload_n 0, 1) := by decide +kernel
theorem dW_law_584 : decode code 584 = .ok (.iload 4, 2) := by decide +kernel
theorem dW_law_586 : decode code 586 = .ok (.iconst 1, 1) := by decide +kernel
theorem dW_law_587 : decode code 587 = .ok (.iadd, 1) := by decide +kernel
theorem dW_law_588 : decode code 588 = .ok (.iaload, 1) := by decide +kernel
theorem dW_law_589 : decode code 589 = .ok (.invokevirtual 118, 3) := by decide +kernel
theorem dW_law_592 : decode code 592 = .ok (.istore 6, 2) := by decide +kernel
theorem dW_law_594 : decode code 594 = .ok (.aload_n 2, 1) := by decide +kernel
theorem dW_law_595 : decode code 595 = .ok (.invokevirtual 91, 3) := by decide +kernel
theorem dW_law_598 : decode code 598 = .ok (.iload 5, 2) := by decide +kernel
theorem dW_law_600 : decode code 600 = .ok (.if_icmp .eq 5, 3) := by decide +kernel
theorem dW_law_605 : decode code 605 = .ok (.iload 5, 2) := by decide +kernel
theorem dW_law_607 : decode code 607 = .ok (.ifCond .ne 15, 3) := by decide +kernel
theorem dW_law_610 : decode code 610 = .ok (.aload_n 3, 1) := by decide +kernel
theorem dW_law_611 : decode code 611 = .ok (.iconst 0, 1) := by decide +kernel
theorem dW_law_612 : decode code 612 = .ok (.laload, 1) := by decide +kernel
theorem dW_law_613 : decode code 613 = .ok (.iload 6, 2) := by decide +kernel
theorem dW_law_615 : decode code 615 = .ok (.i2l, 1) := by decide +kernel
theorem dW_law_616 : decode code 616 = .ok (.lcmp, 1) := by decide +kernel
theorem dW_law_617 : decode code 617 = .ok (.ifCond .eq 5, 3) := by decide +kernel
theorem dW_law_622 : decode code 622 = .ok (.goto 881, 3) := by decide +kernel
theorem dW_law_625 : decode code 625 = .ok (.aload_n 1, 1) := by decide +kernel
theorem dW_law_626 : decode code 626 = .ok (.aload_n 0, 1) := by decide +kernel
theorem dW_law_627 : decode code 627 = .ok (.iload 4, 2) := by decide +kernel
theorem dW_law_629 : decode code 629 = .ok (.iconst 1, 1) := by decide +kernel
theorem dW_law_630 : decode code 630 = .ok (.iadd, 1) := by decide +kernel
theorem dW_law_631 : decode code 631 = .ok (.iaload, 1) := by decide +kernel
theorem dW_law_632 : decode code 632 = .ok (.aload_n 3, 1) := by decide +kernel
theorem dW_law_633 : decode code 633 = .ok (.invokestatic 119, 3) := by decide +kernel
theorem dW_law_636 : decode code 636 = .ok (.istore 5, 2) := by decide +kernel
theorem dW_law_638 : decode code 638 = .ok (.aload_n 2, 1) := by decide +kernel
theorem dW_law_639 : decode code 639 = .ok (.aload_n 0, 1) := by decide +kernel
theorem dW_law_640 : decode code 640 = .ok (.iload 4, 2) := by decide +kernel
theorem dW_law_642 : decode code 642 = .ok (.iconst 1, 1) := by decide +kernel
theorem dW_law_643 : decode code 643 = .ok (.iadd, 1) := by decide +kernel
theorem dW_law_644 : decode code 644 = .ok (.iaload, 1) := by decide +kernel
theorem dW_law_645 : decode code 645 = .ok (.invokevirtual 121, 3) := by decide +kernel
theorem dW_law_648 : decode code 648 = .ok (.istore 6, 2) := by decide +kernel
theorem dW_law_650 : decode code 650 = .ok (.aload_n 2, 1) := by decide +kernel
theorem dW_law_651 : decode code 651 = .ok (.invokevirtual 91, 3) := by decide +kernel
theorem dW_law_654 : decode code 654 = .ok (.iload 5, 2) := by decide +kernel
theorem dW_law_656 : decode code 656 = .ok (.if_icmp .eq 5, 3) := by decide +kernel
theorem dW_law_661 : decode code 661 = .ok (.iload 5, 2) := by decide +kernel
theorem dW_law_663 : decode code 663 = .ok (.ifCond .ne 15, 3) := by decide +kernel
theorem dW_law_666 : decode code 666 = .ok (.aload_n 3, 1) := by decide +kernel
theorem dW_law_667 : decode code 667 = .ok (.iconst 0, 1) := by decide +kernel
theorem dW_law_668 : decode code 668 = .ok (.laload, 1) := by decide +kernel
theorem dW_law_669 : decode code 669 = .ok (.iload 6, 2) := by decide +kernel
theorem dW_law_671 : decode code 671 = .ok (.i2l, 1) := by decide +kernel
theorem dW_law_672 : decode code 672 = .ok (.lcmp, 1) := by decide +kernel
theorem dW_law_673 : decode code 673 = .ok (.ifCond .eq 5, 3) := by decide +kernel
theorem dW_law_678 : decode code 678 = .ok (.goto 825, 3) := by decide +kernel
theorem dW_law_681 : decode code 681 = .ok (.aload_n 1, 1) := by decide +kernel
theorem dW_law_682 : decode code 682 = .ok (.aload_n 0, 1) := by decide +kernel
theorem dW_law_683 : decode code 683 = .ok (.iload 4, 2) := by decide +kernel
theorem dW_law_685 : decode code 685 = .ok (.iconst 1, 1) := by decide +kernel
theorem dW_law_686 : decode code 686 = .ok (.iadd, 1) := by decide +kernel
theorem dW_law_687 : decode code 687 = .ok (.iaload, 1) := by decide +kernel
theorem dW_law_688 : decode code 688 = .ok (.aload_n 0, 1) := by decide +kernel
theorem dW_law_689 : decode code 689 = .ok (.iload 4, 2) := by decide +kernel
theorem dW_law_691 : decode code 691 = .ok (.iconst 2, 1) := by decide +kernel
theorem dW_law_692 : decode code 692 = .ok (.iadd, 1) := by decide +kernel
theorem dW_law_693 : decode code 693 = .ok (.iaload, 1) := by decide +kernel
theorem dW_law_694 : decode code 694 = .ok (.aload_n 3, 1) := by decide +kernel
theorem dW_law_695 : decode code 695 = .ok (.invokestatic 122, 3) := by decide +kernel
theorem dW_law_698 : decode code 698 = .ok (.istore 5, 2) := by decide +kernel
theorem dW_law_700 : decode code 700 = .ok (.aload_n 2, 1) := by decide +kernel
theorem dW_law_701 : decode code 701 = .ok (.aload_n 0, 1) := by decide +kernel
theorem dW_law_702 : decode code 702 = .ok (.iload 4, 2) := by decide +kernel
theorem dW_law_704 : decode code 704 = .ok (.iconst 1, 1) := by decide +kernel
theorem dW_law_705 : decode code 705 = .ok (.iadd, 1) := by decide +kernel
theorem dW_law_706 : decode code 706 = .ok (.iaload, 1) := by decide +kernel
theorem dW_law_707 : decode code 707 = .ok (.aload_n 0, 1) := by decide +kernel
theorem dW_law_708 : decode code 708 = .ok (.iload 4, 2) := by decide +kernel
theorem dW_law_710 : decode code 710 = .ok (.iconst 2, 1) := by decide +kernel
theorem dW_law_711 : decode code 711 = .ok (.iadd, 1) := by decide +kernel
theorem dW_law_712 : decode code 712 = .ok (.iaload, 1) := by decide +kernel
theorem dW_law_713 : decode code 713 = .ok (.invokevirtual 124, 3) := by decide +kernel
theorem dW_law_716 : decode code 716 = .ok (.istore 6, 2) := by decide +kernel
theorem dW_law_718 : decode code 718 = .ok (.aload_n 2, 1) := by decide +kernel
theorem dW_law_719 : decode code 719 = .ok (.invokevirtual 91, 3) := by decide +kernel
theorem dW_law_722 : decode code 722 = .ok (.iload 5, 2) := by decide +kernel
theorem dW_law_724 : decode code 724 = .ok (.if_icmp .eq 5, 3) := by decide +kernel
theorem dW_law_729 : decode code 729 = .ok (.iload 5, 2) := by decide +kernel
theorem dW_law_731 : decode code 731 = .ok (.ifCond .ne 15, 3) := by decide +kernel
theorem dW_law_734 : decode code 734 = .ok (.aload_n 3, 1) := by decide +kernel
theorem dW_law_735 : decode code 735 = .ok (.iconst 0, 1) := by decide +kernel
theorem dW_law_736 : decode code 736 = .ok (.laload, 1) := by decide +kernel
theorem dW_law_737 : decode code 737 = .ok (.iload 6, 2) := by decide +kernel
theorem dW_law_739 : decode code 739 = .ok (.i2l, 1) := by decide +kernel
theorem dW_law_740 : decode code 740 = .ok (.lcmp, 1) := by decide +kernel
theorem dW_law_741 : decode code 741 = .ok (.ifCond .eq 5, 3) := by decide +kernel
theorem dW_law_746 : decode code 746 = .ok (.goto 757, 3) := by decide +kernel
theorem dW_law_749 : decode code 749 = .ok (.aload_n 1, 1) := by decide +kernel
theorem dW_law_750 : decode code 750 = .ok (.aload_n 0, 1) := by decide +kernel
theorem dW_law_751 : decode code 751 = .ok (.iload 4, 2) := by decide +kernel
theorem dW_law_753 : decode code 753 = .ok (.iconst 1, 1) := by decide +kernel
theorem dW_law_754 : decode code 754 = .ok (.iadd, 1) := by decide +kernel
theorem dW_law_755 : decode code 755 = .ok (.iaload, 1) := by decide +kernel
theorem dW_law_756 : decode code 756 = .ok (.aload_n 3, 1) := by decide +kernel
theorem dW_law_757 : decode code 757 = .ok (.invokestatic 125, 3) := by decide +kernel
theorem dW_law_760 : decode code 760 = .ok (.istore 5, 2) := by decide +kernel
theorem dW_law_762 : decode code 762 = .ok (.aload_n 2, 1) := by decide +kernel
theorem dW_law_763 : decode code 763 = .ok (.aload_n 0, 1) := by decide +kernel
theorem dW_law_764 : decode code 764 = .ok (.iload 4, 2) := by decide +kernel
theorem dW_law_766 : decode code 766 = .ok (.iconst 1, 1) := by decide +kernel
theorem dW_law_767 : decode code 767 = .ok (.iadd, 1) := by decide +kernel
theorem dW_law_768 : decode code 768 = .ok (.iaload, 1) := by decide +kernel
theorem dW_law_769 : decode code 769 = .ok (.invokevirtual 127, 3) := by decide +kernel
theorem dW_law_772 : decode code 772 = .ok (.istore 6, 2) := by decide +kernel
theorem dW_law_774 : decode code 774 = .ok (.aload_n 2, 1) := by decide +kernel
theorem dW_law_775 : decode code 775 = .ok (.invokevirtual 91, 3) := by decide +kernel
theorem dW_law_778 : decode code 778 = .ok (.iload 5, 2) := by decide +kernel
theorem dW_law_780 : decode code 780 = .ok (.if_icmp .eq 5, 3) := by decide +kernel
theorem dW_law_785 : decode code 785 = .ok (.iload 5, 2) := by decide +kernel
theorem dW_law_787 : decode code 787 = .ok (.ifCond .ne 15, 3) := by decide +kernel
theorem dW_law_790 : decode code 790 = .ok (.aload_n 3, 1) := by decide +kernel
theorem dW_law_791 : decode code 791 = .ok (.iconst 0, 1) := by decide +kernel
theorem dW_law_792 : decode code 792 = .ok (.laload, 1) := by decide +kernel
theorem dW_law_793 : decode code 793 = .ok (.iload 6, 2) := by decide +kernel
theorem dW_law_795 : decode code 795 = .ok (.i2l, 1) := by decide +kernel
theorem dW_law_796 : decode code 796 = .ok (.lcmp, 1) := by decide +kernel
theorem dW_law_797 : decode code 797 = .ok (.ifCond .eq 5, 3) := by decide +kernel
theorem dW_law_802 : decode code 802 = .ok (.goto 701, 3) := by decide +kernel
theorem dW_law_805 : decode code 805 = .ok (.aload_n 1, 1) := by decide +kernel
theorem dW_law_806 : decode code 806 = .ok (.aload_n 0, 1) := by decide +kernel
theorem dW_law_807 : decode code 807 = .ok (.iload 4, 2) := by decide +kernel
theorem dW_law_809 : decode code 809 = .ok (.iconst 1, 1) := by decide +kernel
theorem dW_law_810 : decode code 810 = .ok (.iadd, 1) := by decide +kernel
theorem dW_law_811 : decode code 811 = .ok (.iaload, 1) := by decide +kernel
theorem dW_law_812 : decode code 812 = .ok (.aload_n 0, 1) := by decide +kernel
theorem dW_law_813 : decode code 813 = .ok (.iload 4, 2) := by decide +kernel
theorem dW_law_815 : decode code 815 = .ok (.iconst 2, 1) := by decide +kernel
theorem dW_law_816 : decode code 816 = .ok (.iadd, 1) := by decide +kernel
theorem dW_law_817 : decode code 817 = .ok (.iaload, 1) := by decide +kernel
theorem dW_law_818 : decode code 818 = .ok (.aload_n 3, 1) := by decide +kernel
theorem dW_law_819 : decode code 819 = .ok (.invokestatic 128, 3) := by decide +kernel
theorem dW_law_822 : decode code 822 = .ok (.istore 5, 2) := by decide +kernel
theorem dW_law_824 : decode code 824 = .ok (.aload_n 2, 1) := by decide +kernel
theorem dW_law_825 : decode code 825 = .ok (.aload_n 0, 1) := by decide +kernel
theorem dW_law_826 : decode code 826 = .ok (.iload 4, 2) := by decide +kernel
theorem dW_law_828 : decode code 828 = .ok (.iconst 1, 1) := by decide +kernel
theorem dW_law_829 : decode code 829 = .ok (.iadd, 1) := by decide +kernel
theorem dW_law_830 : decode code 830 = .ok (.iaload, 1) := by decide +kernel
theorem dW_law_831 : decode code 831 = .ok (.aload_n 0, 1) := by decide +kernel
theorem dW_law_832 : decode code 832 = .ok (.iload 4, 2) := by decide +kernel
theorem dW_law_834 : decode code 834 = .ok (.iconst 2, 1) := by decide +kernel
theorem dW_law_835 : decode code 835 = .ok (.iadd, 1) := by decide +kernel
theorem dW_law_836 : decode code 836 = .ok (.iaload, 1) := by decide +kernel
theorem dW_law_837 : decode code 837 = .ok (.invokevirtual 130, 3) := by decide +kernel
theorem dW_law_840 : decode code 840 = .ok (.istore 6, 2) := by decide +kernel
theorem dW_law_842 : decode code 842 = .ok (.aload_n 2, 1) := by decide +kernel
theorem dW_law_843 : decode code 843 = .ok (.invokevirtual 91, 3) := by decide +kernel
theorem dW_law_846 : decode code 846 = .ok (.iload 5, 2) := by decide +kernel
theorem dW_law_848 : decode code 848 = .ok (.if_icmp .eq 5, 3) := by decide +kernel
theorem dW_law_853 : decode code 853 = .ok (.iload 5, 2) := by decide +kernel
theorem dW_law_855 : decode code 855 = .ok (.ifCond .ne 15, 3) := by decide +kernel
theorem dW_law_858 : decode code 858 = .ok (.aload_n 3, 1) := by decide +kernel
theorem dW_law_859 : decode code 859 = .ok (.iconst 0, 1) := by decide +kernel
theorem dW_law_860 : decode code 860 = .ok (.laload, 1) := by decide +kernel
theorem dW_law_861 : decode code 861 = .ok (.iload 6, 2) := by decide +kernel
theorem dW_law_863 : decode code 863 = .ok (.i2l, 1) := by decide +kernel
theorem dW_law_864 : decode code 864 = .ok (.lcmp, 1) := by decide +kernel
theorem dW_law_865 : decode code 865 = .ok (.ifCond .eq 5, 3) := by decide +kernel
theorem dW_law_870 : decode code 870 = .ok (.goto 633, 3) := by decide +kernel
theorem dW_law_873 : decode code 873 = .ok (.aload_n 1, 1) := by decide +kernel
theorem dW_law_874 : decode code 874 = .ok (.aload_n 0, 1) := by decide +kernel
theorem dW_law_875 : decode code 875 = .ok (.iload 4, 2) := by decide +kernel
theorem dW_law_877 : decode code 877 = .ok (.iconst 1, 1) := by decide +kernel
theorem dW_law_878 : decode code 878 = .ok (.iadd, 1) := by decide +kernel
theorem dW_law_879 : decode code 879 = .ok (.iaload, 1) := by decide +kernel
theorem dW_law_880 : decode code 880 = .ok (.aload_n 3, 1) := by decide +kernel
theorem dW_law_881 : decode code 881 = .ok (.invokestatic 131, 3) := by decide +kernel
theorem dW_law_884 : decode code 884 = .ok (.istore 5, 2) := by decide +kernel
theorem dW_law_886 : decode code 886 = .ok (.aload_n 2, 1) := by decide +kernel
theorem dW_law_887 : decode code 887 = .ok (.aload_n 0, 1) := by decide +kernel
theorem dW_law_888 : decode code 888 = .ok (.iload 4, 2) := by decide +kernel
theorem dW_law_890 : decode code 890 = .ok (.iconst 1, 1) := by decide +kernel
theorem dW_law_891 : decode code 891 = .ok (.iadd, 1) := by decide +kernel
theorem dW_law_892 : decode code 892 = .ok (.iaload, 1) := by decide +kernel
theorem dW_law_893 : decode code 893 = .ok (.invokevirtual 133, 3) := by decide +kernel
theorem dW_law_896 : decode code 896 = .ok (.istore 6, 2) := by decide +kernel
theorem dW_law_898 : decode code 898 = .ok (.aload_n 2, 1) := by decide +kernel
theorem dW_law_899 : decode code 899 = .ok (.invokevirtual 91, 3) := by decide +kernel
theorem dW_law_902 : decode code 902 = .ok (.iload 5, 2) := by decide +kernel
theorem dW_law_904 : decode code 904 = .ok (.if_icmp .eq 5, 3) := by decide +kernel
theorem dW_law_909 : decode code 909 = .ok (.iload 5, 2) := by decide +kernel
theorem dW_law_911 : decode code 911 = .ok (.ifCond .ne 15, 3) := by decide +kernel
theorem dW_law_914 : decode code 914 = .ok (.aload_n 3, 1) := by decide +kernel
theorem dW_law_915 : decode code 915 = .ok (.iconst 0, 1) := by decide +kernel
theorem dW_law_916 : decode code 916 = .ok (.laload, 1) := by decide +kernel
theorem dW_law_917 : decode code 917 = .ok (.iload 6, 2) := by decide +kernel
theorem dW_law_919 : decode code 919 = .ok (.i2l, 1) := by decide +kernel
theorem dW_law_920 : decode code 920 = .ok (.lcmp, 1) := by decide +kernel
theorem dW_law_921 : decode code 921 = .ok (.ifCond .eq 5, 3) := by decide +kernel
theorem dW_law_926 : decode code 926 = .ok (.goto 577, 3) := by decide +kernel
theorem dW_law_929 : decode code 929 = .ok (.aload_n 1, 1) := by decide +kernel
theorem dW_law_930 : decode code 930 = .ok (.aload_n 0, 1) := by decide +kernel
theorem dW_law_931 : decode code 931 = .ok (.iload 4, 2) := by decide +kernel
theorem dW_law_933 : decode code 933 = .ok (.iconst 1, 1) := by decide +kernel
theorem dW_law_934 : decode code 934 = .ok (.iadd, 1) := by decide +kernel
theorem dW_law_935 : decode code 935 = .ok (.iaload, 1) := by decide +kernel
theorem dW_law_936 : decode code 936 = .ok (.aload_n 3, 1) := by decide +kernel
theorem dW_law_937 : decode code 937 = .ok (.invokestatic 134, 3) := by decide +kernel
theorem dW_law_940 : decode code 940 = .ok (.istore 5, 2) := by decide +kernel
theorem dW_law_942 : decode code 942 = .ok (.aload_n 2, 1) := by decide +kernel
theorem dW_law_943 : decode code 943 = .ok (.aload_n 0, 1) := by decide +kernel
theorem dW_law_944 : decode code 944 = .ok (.iload 4, 2) := by decide +kernel
theorem dW_law_946 : decode code 946 = .ok (.iconst 1, 1) := by decide +kernel
theorem dW_law_947 : decode code 947 = .ok (.iadd, 1) := by decide +kernel
theorem dW_law_948 : decode code 948 = .ok (.iaload, 1) := by decide +kernel
theorem dW_law_949 : decode code 949 = .ok (.invokevirtual 136, 3) := by decide +kernel
theorem dW_law_952 : decode code 952 = .ok (.istore 6, 2) := by decide +kernel
theorem dW_law_954 : decode code 954 = .ok (.aload_n 2, 1) := by decide +kernel
theorem dW_law_955 : decode code 955 = .ok (.invokevirtual 91, 3) := by decide +kernel
theorem dW_law_958 : decode code 958 = .ok (.iload 5, 2) := by decide +kernel
theorem dW_law_960 : decode code 960 = .ok (.if_icmp .eq 5, 3) := by decide +kernel
theorem dW_law_965 : decode code 965 = .ok (.iload 5, 2) := by decide +kernel
theorem dW_law_967 : decode code 967 = .ok (.ifCond .ne 15, 3) := by decide +kernel
theorem dW_law_970 : decode code 970 = .ok (.aload_n 3, 1) := by decide +kernel
theorem dW_law_971 : decode code 971 = .ok (.iconst 0, 1) := by decide +kernel
theorem dW_law_972 : decode code 972 = .ok (.laload, 1) := by decide +kernel
theorem dW_law_973 : decode code 973 = .ok (.iload 6, 2) := by decide +kernel
theorem dW_law_975 : decode code 975 = .ok (.i2l, 1) := by decide +kernel
theorem dW_law_976 : decode code 976 = .ok (.lcmp, 1) := by decide +kernel
theorem dW_law_977 : decode code 977 = .ok (.ifCond .eq 5, 3) := by decide +kernel
theorem dW_law_982 : decode code 982 = .ok (.goto 521, 3) := by decide +kernel
theorem dW_law_985 : decode code 985 = .ok (.aload_n 1, 1) := by decide +kernel
theorem dW_law_986 : decode code 986 = .ok (.aload_n 0, 1) := by decide +kernel
theorem dW_law_987 : decode code 987 = .ok (.iload 4, 2) := by decide +kernel
theorem dW_law_989 : decode code 989 = .ok (.iconst 1, 1) := by decide +kernel
theorem dW_law_990 : decode code 990 = .ok (.iadd, 1) := by decide +kernel
theorem dW_law_991 : decode code 991 = .ok (.iaload, 1) := by decide +kernel
theorem dW_law_992 : decode code 992 = .ok (.aload_n 3, 1) := by decide +kernel
theorem dW_law_993 : decode code 993 = .ok (.invokestatic 137, 3) := by decide +kernel
theorem dW_law_996 : decode code 996 = .ok (.istore 5, 2) := by decide +kernel
theorem dW_law_998 : decode code 998 = .ok (.aload_n 2, 1) := by decide +kernel
theorem dW_law_999 : decode code 999 = .ok (.aload_n 0, 1) := by decide +kernel
theorem dW_law_1000 : decode code 1000 = .ok (.iload 4, 2) := by decide +kernel
theorem dW_law_1002 : decode code 1002 = .ok (.iconst 1, 1) := by decide +kernel
theorem dW_law_1003 : decode code 1003 = .ok (.iadd, 1) := by decide +kernel
theorem dW_law_1004 : decode code 1004 = .ok (.iaload, 1) := by decide +kernel
theorem dW_law_1005 : decode code 1005 = .ok (.invokevirtual 139, 3) := by decide +kernel
theorem dW_law_1008 : decode code 1008 = .ok (.istore 6, 2) := by decide +kernel
theorem dW_law_1010 : decode code 1010 = .ok (.aload_n 2, 1) := by decide +kernel
theorem dW_law_1011 : decode code 1011 = .ok (.invokevirtual 91, 3) := by decide +kernel
theorem dW_law_1014 : decode code 1014 = .ok (.iload 5, 2) := by decide +kernel
theorem dW_law_1016 : decode code 1016 = .ok (.if_icmp .eq 5, 3) := by decide +kernel
theorem dW_law_1021 : decode code 1021 = .ok (.iload 5, 2) := by decide +kernel
theorem dW_law_1023 : decode code 1023 = .ok (.ifCond .ne 15, 3) := by decide +kernel
theorem dW_law_1026 : decode code 1026 = .ok (.aload_n 3, 1) := by decide +kernel
theorem dW_law_1027 : decode code 1027 = .ok (.iconst 0, 1) := by decide +kernel
theorem dW_law_1028 : decode code 1028 = .ok (.laload, 1) := by decide +kernel
theorem dW_law_1029 : decode code 1029 = .ok (.iload 6, 2) := by decide +kernel
theorem dW_law_1031 : decode code 1031 = .ok (.i2l, 1) := by decide +kernel
theorem dW_law_1032 : decode code 1032 = .ok (.lcmp, 1) := by decide +kernel
theorem dW_law_1033 : decode code 1033 = .ok (.ifCond .eq 5, 3) := by decide +kernel
theorem dW_law_1038 : decode code 1038 = .ok (.goto 465, 3) := by decide +kernel
theorem dW_law_1041 : decode code 1041 = .ok (.aload_n 1, 1) := by decide +kernel
theorem dW_law_1042 : decode code 1042 = .ok (.aload_n 0, 1) := by decide +kernel
theorem dW_law_1043 : decode code 1043 = .ok (.iload 4, 2) := by decide +kernel
theorem dW_law_1045 : decode code 1045 = .ok (.iconst 1, 1) := by decide +kernel
theorem dW_law_1046 : decode code 1046 = .ok (.iadd, 1) := by decide +kernel
theorem dW_law_1047 : decode code 1047 = .ok (.iaload, 1) := by decide +kernel
theorem dW_law_1048 : decode code 1048 = .ok (.aload_n 3, 1) := by decide +kernel
theorem dW_law_1049 : decode code 1049 = .ok (.invokestatic 140, 3) := by decide +kernel
theorem dW_law_1052 : decode code 1052 = .ok (.istore 5, 2) := by decide +kernel
theorem dW_law_1054 : decode code 1054 = .ok (.aload_n 2, 1) := by decide +kernel
theorem dW_law_1055 : decode code 1055 = .ok (.aload_n 0, 1) := by decide +kernel
theorem dW_law_1056 : decode code 1056 = .ok (.iload 4, 2) := by decide +kernel
theorem dW_law_1058 : decode code 1058 = .ok (.iconst 1, 1) := by decide +kernel
theorem dW_law_1059 : decode code 1059 = .ok (.iadd, 1) := by decide +kernel
theorem dW_law_1060 : decode code 1060 = .ok (.iaload, 1) := by decide +kernel
theorem dW_law_1061 : decode code 1061 = .ok (.invokevirtual 142, 3) := by decide +kernel
theorem dW_law_1064 : decode code 1064 = .ok (.istore 6, 2) := by decide +kernel
theorem dW_law_1066 : decode code 1066 = .ok (.aload_n 2, 1) := by decide +kernel
theorem dW_law_1067 : decode code 1067 = .ok (.invokevirtual 91, 3) := by decide +kernel
theorem dW_law_1070 : decode code 1070 = .ok (.iload 5, 2) := by decide +kernel
theorem dW_law_1072 : decode code 1072 = .ok (.if_icmp .eq 5, 3) := by decide +kernel
theorem dW_law_1077 : decode code 1077 = .ok (.iload 5, 2) := by decide +kernel
theorem dW_law_1079 : decode code 1079 = .ok (.ifCond .ne 15, 3) := by decide +kernel
theorem dW_law_1082 : decode code 1082 = .ok (.aload_n 3, 1) := by decide +kernel
theorem dW_law_1083 : decode code 1083 = .ok (.iconst 0, 1) := by decide +kernel
theorem dW_law_1084 : decode code 1084 = .ok (.laload, 1) := by decide +kernel
theorem dW_law_1085 : decode code 1085 = .ok (.iload 6, 2) := by decide +kernel
theorem dW_law_1087 : decode code 1087 = .ok (.i2l, 1) := by decide +kernel
theorem dW_law_1088 : decode code 1088 = .ok (.lcmp, 1) := by decide +kernel
theorem dW_law_1089 : decode code 1089 = .ok (.ifCond .eq 5, 3) := by decide +kernel
theorem dW_law_1094 : decode code 1094 = .ok (.goto 409, 3) := by decide +kernel
theorem dW_law_1097 : decode code 1097 = .ok (.aload_n 1, 1) := by decide +kernel
theorem dW_law_1098 : decode code 1098 = .ok (.aload_n 0, 1) := by decide +kernel
theorem dW_law_1099 : decode code 1099 = .ok (.iload 4, 2) := by decide +kernel
theorem dW_law_1101 : decode code 1101 = .ok (.iconst 1, 1) := by decide +kernel
theorem dW_law_1102 : decode code 1102 = .ok (.iadd, 1) := by decide +kernel
theorem dW_law_1103 : decode code 1103 = .ok (.iaload, 1) := by decide +kernel
theorem dW_law_1104 : decode code 1104 = .ok (.aload_n 3, 1) := by decide +kernel
theorem dW_law_1105 : decode code 1105 = .ok (.invokestatic 143, 3) := by decide +kernel
theorem dW_law_1108 : decode code 1108 = .ok (.istore 5, 2) := by decide +kernel
theorem dW_law_1110 : decode code 1110 = .ok (.aload_n 2, 1) := by decide +kernel
theorem dW_law_1111 : decode code 1111 = .ok (.aload_n 0, 1) := by decide +kernel
theorem dW_law_1112 : decode code 1112 = .ok (.iload 4, 2) := by decide +kernel
theorem dW_law_1114 : decode code 1114 = .ok (.iconst 1, 1) := by decide +kernel
theorem dW_law_1115 : decode code 1115 = .ok (.iadd, 1) := by decide +kernel
theorem dW_law_1116 : decode code 1116 = .ok (.iaload, 1) := by decide +kernel
theorem dW_law_1117 : decode code 1117 = .ok (.invokevirtual 145, 3) := by decide +kernel
theorem dW_law_1120 : decode code 1120 = .ok (.istore 6, 2) := by decide +kernel
theorem dW_law_1122 : decode code 1122 = .ok (.aload_n 2, 1) := by decide +kernel
theorem dW_law_1123 : decode code 1123 = .ok (.invokevirtual 91, 3) := by decide +kernel
theorem dW_law_1126 : decode code 1126 = .ok (.iload 5, 2) := by decide +kernel
theorem dW_law_1128 : decode code 1128 = .ok (.if_icmp .eq 5, 3) := by decide +kernel
theorem dW_law_1133 : decode code 1133 = .ok (.iload 5, 2) := by decide +kernel
theorem dW_law_1135 : decode code 1135 = .ok (.ifCond .ne 15, 3) := by decide +kernel
theorem dW_law_1138 : decode code 1138 = .ok (.aload_n 3, 1) := by decide +kernel
theorem dW_law_1139 : decode code 1139 = .ok (.iconst 0, 1) := by decide +kernel
theorem dW_law_1140 : decode code 1140 = .ok (.laload, 1) := by decide +kernel
theorem dW_law_1141 : decode code 1141 = .ok (.iload 6, 2) := by decide +kernel
theorem dW_law_1143 : decode code 1143 = .ok (.i2l, 1) := by decide +kernel
theorem dW_law_1144 : decode code 1144 = .ok (.lcmp, 1) := by decide +kernel
theorem dW_law_1145 : decode code 1145 = .ok (.ifCond .eq 5, 3) := by decide +kernel
theorem dW_law_1150 : decode code 1150 = .ok (.goto 353, 3) := by decide +kernel
theorem dW_law_1153 : decode code 1153 = .ok (.aload_n 1, 1) := by decide +kernel
theorem dW_law_1154 : decode code 1154 = .ok (.aload_n 0, 1) := by decide +kernel
theorem dW_law_1155 : decode code 1155 = .ok (.iload 4, 2) := by decide +kernel
theorem dW_law_1157 : decode code 1157 = .ok (.iconst 1, 1) := by decide +kernel
theorem dW_law_1158 : decode code 1158 = .ok (.iadd, 1) := by decide +kernel
theorem dW_law_1159 : decode code 1159 = .ok (.iaload, 1) := by decide +kernel
theorem dW_law_1160 : decode code 1160 = .ok (.aload_n 3, 1) := by decide +kernel
theorem dW_law_1161 : decode code 1161 = .ok (.invokestatic 146, 3) := by decide +kernel
theorem dW_law_1164 : decode code 1164 = .ok (.istore 5, 2) := by decide +kernel
theorem dW_law_1166 : decode code 1166 = .ok (.aload_n 2, 1) := by decide +kernel
theorem dW_law_1167 : decode code 1167 = .ok (.aload_n 0, 1) := by decide +kernel
theorem dW_law_1168 : decode code 1168 = .ok (.iload 4, 2) := by decide +kernel
theorem dW_law_1170 : decode code 1170 = .ok (.iconst 1, 1) := by decide +kernel
theorem dW_law_1171 : decode code 1171 = .ok (.iadd, 1) := by decide +kernel
theorem dW_law_1172 : decode code 1172 = .ok (.iaload, 1) := by decide +kernel
theorem dW_law_1173 : decode code 1173 = .ok (.invokevirtual 148, 3) := by decide +kernel
theorem dW_law_1176 : decode code 1176 = .ok (.istore 6, 2) := by decide +kernel
theorem dW_law_1178 : decode code 1178 = .ok (.aload_n 2, 1) := by decide +kernel
theorem dW_law_1179 : decode code 1179 = .ok (.invokevirtual 91, 3) := by decide +kernel
theorem dW_law_1182 : decode code 1182 = .ok (.iload 5, 2) := by decide +kernel
theorem dW_law_1184 : decode code 1184 = .ok (.if_icmp .eq 5, 3) := by decide +kernel
theorem dW_law_1189 : decode code 1189 = .ok (.iload 5, 2) := by decide +kernel
theorem dW_law_1191 : decode code 1191 = .ok (.ifCond .ne 15, 3) := by decide +kernel
theorem dW_law_1194 : decode code 1194 = .ok (.aload_n 3, 1) := by decide +kernel
theorem dW_law_1195 : decode code 1195 = .ok (.iconst 0, 1) := by decide +kernel
theorem dW_law_1196 : decode code 1196 = .ok (.laload, 1) := by decide +kernel
theorem dW_law_1197 : decode code 1197 = .ok (.iload 6, 2) := by decide +kernel
theorem dW_law_1199 : decode code 1199 = .ok (.i2l, 1) := by decide +kernel
theorem dW_law_1200 : decode code 1200 = .ok (.lcmp, 1) := by decide +kernel
theorem dW_law_1201 : decode code 1201 = .ok (.ifCond .eq 5, 3) := by decide +kernel
theorem dW_law_1206 : decode code 1206 = .ok (.goto 297, 3) := by decide +kernel
theorem dW_law_1209 : decode code 1209 = .ok (.aload_n 1, 1) := by decide +kernel
theorem dW_law_1210 : decode code 1210 = .ok (.aload_n 0, 1) := by decide +kernel
theorem dW_law_1211 : decode code 1211 = .ok (.iload 4, 2) := by decide +kernel
theorem dW_law_1213 : decode code 1213 = .ok (.iconst 1, 1) := by decide +kernel
theorem dW_law_1214 : decode code 1214 = .ok (.iadd, 1) := by decide +kernel
theorem dW_law_1215 : decode code 1215 = .ok (.iaload, 1) := by decide +kernel
theorem dW_law_1216 : decode code 1216 = .ok (.aload_n 3, 1) := by decide +kernel
theorem dW_law_1217 : decode code 1217 = .ok (.invokestatic 149, 3) := by decide +kernel
theorem dW_law_1220 : decode code 1220 = .ok (.istore 5, 2) := by decide +kernel
theorem dW_law_1222 : decode code 1222 = .ok (.aload_n 2, 1) := by decide +kernel
theorem dW_law_1223 : decode code 1223 = .ok (.aload_n 0, 1) := by decide +kernel
theorem dW_law_1224 : decode code 1224 = .ok (.iload 4, 2) := by decide +kernel
theorem dW_law_1226 : decode code 1226 = .ok (.iconst 1, 1) := by decide +kernel
theorem dW_law_1227 : decode code 1227 = .ok (.iadd, 1) := by decide +kernel
theorem dW_law_1228 : decode code 1228 = .ok (.iaload, 1) := by decide +kernel
theorem dW_law_1229 : decode code 1229 = .ok (.invokevirtual 151, 3) := by decide +kernel
theorem dW_law_1232 : decode code 1232 = .ok (.istore 6, 2) := by decide +kernel
theorem dW_law_1234 : decode code 1234 = .ok (.aload_n 2, 1) := by decide +kernel
theorem dW_law_1235 : decode code 1235 = .ok (.invokevirtual 91, 3) := by decide +kernel
theorem dW_law_1238 : decode code 1238 = .ok (.iload 5, 2) := by decide +kernel
theorem dW_law_1240 : decode code 1240 = .ok (.if_icmp .eq 5, 3) := by decide +kernel
theorem dW_law_1245 : decode code 1245 = .ok (.iload 5, 2) := by decide +kernel
theorem dW_law_1247 : decode code 1247 = .ok (.ifCond .ne 15, 3) := by decide +kernel
theorem dW_law_1250 : decode code 1250 = .ok (.aload_n 3, 1) := by decide +kernel
theorem dW_law_1251 : decode code 1251 = .ok (.iconst 0, 1) := by decide +kernel
theorem dW_law_1252 : decode code 1252 = .ok (.laload, 1) := by decide +kernel
theorem dW_law_1253 : decode code 1253 = .ok (.iload 6, 2) := by decide +kernel
theorem dW_law_1255 : decode code 1255 = .ok (.i2l, 1) := by decide +kernel
theorem dW_law_1256 : decode code 1256 = .ok (.lcmp, 1) := by decide +kernel
theorem dW_law_1257 : decode code 1257 = .ok (.ifCond .eq 5, 3) := by decide +kernel
theorem dW_law_1262 : decode code 1262 = .ok (.goto 241, 3) := by decide +kernel
theorem dW_law_1265 : decode code 1265 = .ok (.aload_n 1, 1) := by decide +kernel
theorem dW_law_1266 : decode code 1266 = .ok (.aload_n 0, 1) := by decide +kernel
theorem dW_law_1267 : decode code 1267 = .ok (.iload 4, 2) := by decide +kernel
theorem dW_law_1269 : decode code 1269 = .ok (.iconst 1, 1) := by decide +kernel
theorem dW_law_1270 : decode code 1270 = .ok (.iadd, 1) := by decide +kernel
theorem dW_law_1271 : decode code 1271 = .ok (.iaload, 1) := by decide +kernel
theorem dW_law_1272 : decode code 1272 = .ok (.aload_n 3, 1) := by decide +kernel
theorem dW_law_1273 : decode code 1273 = .ok (.invokestatic 152, 3) := by decide +kernel
theorem dW_law_1276 : decode code 1276 = .ok (.istore 5, 2) := by decide +kernel
theorem dW_law_1278 : decode code 1278 = .ok (.aload_n 2, 1) := by decide +kernel
theorem dW_law_1279 : decode code 1279 = .ok (.aload_n 0, 1) := by decide +kernel
theorem dW_law_1280 : decode code 1280 = .ok (.iload 4, 2) := by decide +kernel
theorem dW_law_1282 : decode code 1282 = .ok (.iconst 1, 1) := by decide +kernel
theorem dW_law_1283 : decode code 1283 = .ok (.iadd, 1) := by decide +kernel
theorem dW_law_1284 : decode code 1284 = .ok (.iaload, 1) := by decide +kernel
theorem dW_law_1285 : decode code 1285 = .ok (.invokevirtual 154, 3) := by decide +kernel
theorem dW_law_1288 : decode code 1288 = .ok (.istore 6, 2) := by decide +kernel
theorem dW_law_1290 : decode code 1290 = .ok (.aload_n 2, 1) := by decide +kernel
theorem dW_law_1291 : decode code 1291 = .ok (.invokevirtual 91, 3) := by decide +kernel
theorem dW_law_1294 : decode code 1294 = .ok (.iload 5, 2) := by decide +kernel
theorem dW_law_1296 : decode code 1296 = .ok (.if_icmp .eq 5, 3) := by decide +kernel
theorem dW_law_1301 : decode code 1301 = .ok (.iload 5, 2) := by decide +kernel
theorem dW_law_1303 : decode code 1303 = .ok (.ifCond .ne 15, 3) := by decide +kernel
theorem dW_law_1306 : decode code 1306 = .ok (.aload_n 3, 1) := by decide +kernel
theorem dW_law_1307 : decode code 1307 = .ok (.iconst 0, 1) := by decide +kernel
theorem dW_law_1308 : decode code 1308 = .ok (.laload, 1) := by decide +kernel
theorem dW_law_1309 : decode code 1309 = .ok (.iload 6, 2) := by decide +kernel
theorem dW_law_1311 : decode code 1311 = .ok (.i2l, 1) := by decide +kernel
theorem dW_law_1312 : decode code 1312 = .ok (.lcmp, 1) := by decide +kernel
theorem dW_law_1313 : decode code 1313 = .ok (.ifCond .eq 5, 3) := by decide +kernel
theorem dW_law_1318 : decode code 1318 = .ok (.goto 185, 3) := by decide +kernel
theorem dW_law_1321 : decode code 1321 = .ok (.aload_n 1, 1) := by decide +kernel
theorem dW_law_1322 : decode code 1322 = .ok (.aload_n 0, 1) := by decide +kernel
theorem dW_law_1323 : decode code 1323 = .ok (.iload 4, 2) := by decide +kernel
theorem dW_law_1325 : decode code 1325 = .ok (.iconst 1, 1) := by decide +kernel
theorem dW_law_1326 : decode code 1326 = .ok (.iadd, 1) := by decide +kernel
theorem dW_law_1327 : decode code 1327 = .ok (.iaload, 1) := by decide +kernel
theorem dW_law_1328 : decode code 1328 = .ok (.aload_n 3, 1) := by decide +kernel
theorem dW_law_1329 : decode code 1329 = .ok (.invokestatic 155, 3) := by decide +kernel
theorem dW_law_1332 : decode code 1332 = .ok (.istore 5, 2) := by decide +kernel
theorem dW_law_1334 : decode code 1334 = .ok (.aload_n 2, 1) := by decide +kernel
theorem dW_law_1335 : decode code 1335 = .ok (.aload_n 0, 1) := by decide +kernel
theorem dW_law_1336 : decode code 1336 = .ok (.iload 4, 2) := by decide +kernel
theorem dW_law_1338 : decode code 1338 = .ok (.iconst 1, 1) := by decide +kernel
theorem dW_law_1339 : decode code 1339 = .ok (.iadd, 1) := by decide +kernel
theorem dW_law_1340 : decode code 1340 = .ok (.iaload, 1) := by decide +kernel
theorem dW_law_1341 : decode code 1341 = .ok (.invokevirtual 157, 3) := by decide +kernel
theorem dW_law_1344 : decode code 1344 = .ok (.istore 6, 2) := by decide +kernel
theorem dW_law_1346 : decode code 1346 = .ok (.aload_n 2, 1) := by decide +kernel
theorem dW_law_1347 : decode code 1347 = .ok (.invokevirtual 91, 3) := by decide +kernel
theorem dW_law_1350 : decode code 1350 = .ok (.iload 5, 2) := by decide +kernel
theorem dW_law_1352 : decode code 1352 = .ok (.if_icmp .eq 5, 3) := by decide +kernel
theorem dW_law_1357 : decode code 1357 = .ok (.iload 5, 2) := by decide +kernel
theorem dW_law_1359 : decode code 1359 = .ok (.ifCond .ne 15, 3) := by decide +kernel
theorem dW_law_1362 : decode code 1362 = .ok (.aload_n 3, 1) := by decide +kernel
theorem dW_law_1363 : decode code 1363 = .ok (.iconst 0, 1) := by decide +kernel
theorem dW_law_1364 : decode code 1364 = .ok (.laload, 1) := by decide +kernel
theorem dW_law_1365 : decode code 1365 = .ok (.iload 6, 2) := by decide +kernel
theorem dW_law_1367 : decode code 1367 = .ok (.i2l, 1) := by decide +kernel
theorem dW_law_1368 : decode code 1368 = .ok (.lcmp, 1) := by decide +kernel
theorem dW_law_1369 : decode code 1369 = .ok (.ifCond .eq 5, 3) := by decide +kernel
theorem dW_law_1374 : decode code 1374 = .ok (.goto 129, 3) := by decide +kernel
theorem dW_law_1377 : decode code 1377 = .ok (.aload_n 1, 1) := by decide +kernel
theorem dW_law_1378 : decode code 1378 = .ok (.aload_n 0, 1) := by decide +kernel
theorem dW_law_1379 : decode code 1379 = .ok (.iload 4, 2) := by decide +kernel
theorem dW_law_1381 : decode code 1381 = .ok (.iconst 1, 1) := by decide +kernel
theorem dW_law_1382 : decode code 1382 = .ok (.iadd, 1) := by decide +kernel
theorem dW_law_1383 : decode code 1383 = .ok (.iaload, 1) := by decide +kernel
theorem dW_law_1384 : decode code 1384 = .ok (.aload_n 3, 1) := by decide +kernel
theorem dW_law_1385 : decode code 1385 = .ok (.invokestatic 158, 3) := by decide +kernel
theorem dW_law_1388 : decode code 1388 = .ok (.istore 5, 2) := by decide +kernel
theorem dW_law_1390 : decode code 1390 = .ok (.aload_n 2, 1) := by decide +kernel
theorem dW_law_1391 : decode code 1391 = .ok (.aload_n 0, 1) := by decide +kernel
theorem dW_law_1392 : decode code 1392 = .ok (.iload 4, 2) := by decide +kernel
theorem dW_law_1394 : decode code 1394 = .ok (.iconst 1, 1) := by decide +kernel
theorem dW_law_1395 : decode code 1395 = .ok (.iadd, 1) := by decide +kernel
theorem dW_law_1396 : decode code 1396 = .ok (.iaload, 1) := by decide +kernel
theorem dW_law_1397 : decode code 1397 = .ok (.invokevirtual 160, 3) := by decide +kernel
theorem dW_law_1400 : decode code 1400 = .ok (.istore 6, 2) := by decide +kernel
theorem dW_law_1402 : decode code 1402 = .ok (.aload_n 2, 1) := by decide +kernel
theorem dW_law_1403 : decode code 1403 = .ok (.invokevirtual 91, 3) := by decide +kernel
theorem dW_law_1406 : decode code 1406 = .ok (.iload 5, 2) := by decide +kernel
theorem dW_law_1408 : decode code 1408 = .ok (.if_icmp .eq 5, 3) := by decide +kernel
theorem dW_law_1413 : decode code 1413 = .ok (.iload 5, 2) := by decide +kernel
theorem dW_law_1415 : decode code 1415 = .ok (.ifCond .ne 15, 3) := by decide +kernel
theorem dW_law_1418 : decode code 1418 = .ok (.aload_n 3, 1) := by decide +kernel
theorem dW_law_1419 : decode code 1419 = .ok (.iconst 0, 1) := by decide +kernel
theorem dW_law_1420 : decode code 1420 = .ok (.laload, 1) := by decide +kernel
theorem dW_law_1421 : decode code 1421 = .ok (.iload 6, 2) := by decide +kernel
theorem dW_law_1423 : decode code 1423 = .ok (.i2l, 1) := by decide +kernel
theorem dW_law_1424 : decode code 1424 = .ok (.lcmp, 1) := by decide +kernel
theorem dW_law_1425 : decode code 1425 = .ok (.ifCond .eq 5, 3) := by decide +kernel
theorem dW_law_1430 : decode code 1430 = .ok (.goto 73, 3) := by decide +kernel
theorem dW_law_1433 : decode code 1433 = .ok (.aload_n 1, 1) := by decide +kernel
theorem dW_law_1434 : decode code 1434 = .ok (.invokevirtual 161, 3) := by decide +kernel
theorem dW_law_1437 : decode code 1437 = .ok (.aload_n 2, 1) := by decide +kernel
theorem dW_law_1438 : decode code 1438 = .ok (.invokevirtual 165, 3) := by decide +kernel
theorem dW_law_1441 : decode code 1441 = .ok (.lcmp, 1) := by decide +kernel
theorem dW_law_1442 : decode code 1442 = .ok (.ifCond .eq 61, 3) := by decide +kernel
theorem dW_law_1447 : decode code 1447 = .ok (.aload_n 1, 1) := by decide +kernel
theorem dW_law_1448 : decode code 1448 = .ok (.invokevirtual 166, 3) := by decide +kernel
theorem dW_law_1451 : decode code 1451 = .ok (.aload_n 2, 1) := by decide +kernel
theorem dW_law_1452 : decode code 1452 = .ok (.invokevirtual 169, 3) := by decide +kernel
theorem dW_law_1455 : decode code 1455 = .ok (.lcmp, 1) := by decide +kernel
theorem dW_law_1456 : decode code 1456 = .ok (.ifCond .eq 47, 3) := by decide +kernel
theorem dW_law_1461 : decode code 1461 = .ok (.aload_n 1, 1) := by decide +kernel
theorem dW_law_1462 : decode code 1462 = .ok (.invokevirtual 170, 3) := by decide +kernel
theorem dW_law_1465 : decode code 1465 = .ok (.aload_n 2, 1) := by decide +kernel
theorem dW_law_1466 : decode code 1466 = .ok (.invokevirtual 173, 3) := by decide +kernel
theorem dW_law_1469 : decode code 1469 = .ok (.lcmp, 1) := by decide +kernel
theorem dW_law_1470 : decode code 1470 = .ok (.ifCond .eq 33, 3) := by decide +kernel
theorem dW_law_1475 : decode code 1475 = .ok (.aload_n 1, 1) := by decide +kernel
theorem dW_law_1476 : decode code 1476 = .ok (.invokevirtual 174, 3) := by decide +kernel
theorem dW_law_1479 : decode code 1479 = .ok (.aload_n 2, 1) := by decide +kernel
theorem dW_law_1480 : decode code 1480 = .ok (.invokevirtual 177, 3) := by decide +kernel
theorem dW_law_1483 : decode code 1483 = .ok (.lcmp, 1) := by decide +kernel
theorem dW_law_1484 : decode code 1484 = .ok (.ifCond .eq 19, 3) := by decide +kernel
theorem dW_law_1489 : decode code 1489 = .ok (.aload_n 1, 1) := by decide +kernel
theorem dW_law_1490 : decode code 1490 = .ok (.invokevirtual 178, 3) := by decide +kernel
theorem dW_law_1493 : decode code 1493 = .ok (.aload_n 2, 1) := by decide +kernel
theorem dW_law_1494 : decode code 1494 = .ok (.invokevirtual 181, 3) := by decide +kernel
theorem dW_law_1497 : decode code 1497 = .ok (.lcmp, 1) := by decide +kernel
theorem dW_law_1498 : decode code 1498 = .ok (.ifCond .eq 5, 3) := by decide +kernel
