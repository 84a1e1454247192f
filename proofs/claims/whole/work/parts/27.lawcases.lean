set_option maxHeartbeats 4000000 in
set_option maxRecDepth 100000 in
theorem lc_lot {p : Program} {l : Launch} {e : Env} {s : State} {m : MethodId} {below : List Frame} {meth : Method} {c : Code} {b L : Nat} {xs : Nat → Int32} (hl9 : l.stackTraces = false) (hL : L ≤ 2048) (hx : p.tables.exec = Jvm.exec) (hb : c.code = code) (hml : c.maxLocals = 7) (hown : s.vm.findClass "DroitLineLaw" = some m.cls) (hts : ∀ w ∈ wNeed, w.before #[Value.ref b] s = true) (hX : va_X b L xs s s.heap) (hbl : b < s.heap.size)
    {D : va_G} {tI tJ tL : ClassId} {sg : Nat → Nat} (hC : GC D tI tJ tL (A0 s) sg s) {i K cells slots : Nat} (hi : i + 4 ≤ L) (hK : K ≤ 600) (hcl : cells + 30 ≤ 601024) (hsl : slots + 200 ≤ 7293034) {ad : Nat → Nat} {n : Nat} {sL : NL} {sA : NA} (hI : INV n K sL sA) {H : Heap} {locs : List Loc} (hG : GW D tI tJ tL (A0 s) ad n sL sA H) (hS : va_S (A0 s) s.heap H locs) {ls : Array Slot} (hl : lv_has ls 7 [(4, .int (nI i)), (3, .ref (ad 4)), (2, .ref (ad 5)), (1, .ref (ad 0)), (0, .ref b)]) (cont : CONT p l e s m b below meth c D tI tJ tL i K cells slots) :
    W p l e room_1 s m #[Value.ref b] below meth c H locs cells slots (lw_Z below #[Value.ref b] s) (F0 m 160 ls []) := by
  have hbA : ¬ (A0 s) b := Nat.not_le.mpr hbl
  refine lv_aload_n hx hb dW_law_160 rfl (lv_at hl 3 rfl) ?_
  refine lv_aload_n hx hb dW_law_161 rfl (lv_at hl 4 rfl) ?_
  refine lv_iload hx hb dW_law_162 (lv_at hl 0 rfl) ?_
  refine lv_iconst (v := 1) hx hb dW_law_164 (by decide) ?_
  refine lv_iadd hx hb dW_law_165 ?_
  refine va_sld hx hb hX hbl hbA hS (show vp_in (nI i + 1) L from vin_s (k := 1) hL hi (by omega)) dW_law_166 ?_
  refine lv_aload_n hx hb dW_law_167 rfl (lv_at hl 4 rfl) ?_
  refine lv_iload hx hb dW_law_168 (lv_at hl 0 rfl) ?_
  refine lv_iconst (v := 2) hx hb dW_law_170 (by decide) ?_
  refine lv_iadd hx hb dW_law_171 ?_
  refine va_sld hx hb hX hbl hbA hS (show vp_in (nI i + 2) L from vin_s (k := 2) hL hi (by omega)) dW_law_172 ?_
  refine lv_aload_n hx hb dW_law_173 rfl (lv_at hl 4 rfl) ?_
  refine lv_iload hx hb dW_law_174 (lv_at hl 0 rfl) ?_
  refine lv_iconst (v := 3) hx hb dW_law_176 (by decide) ?_
  refine lv_iadd hx hb dW_law_177 ?_
  refine va_sld hx hb hX hbl hbA hS (show vp_in (nI i + 3) L from vin_s (k := 3) hL hi (by omega)) dW_law_178 ?_
  refine lv_aload_n hx hb dW_law_179 rfl (lv_at hl 1 rfl) ?_
  refine rcSWL (rest := []) (As := [.ref (ad 0), .int (xs ((nI i + 1).toNatClampNeg)), .int (xs ((nI i + 2).toNatClampNeg)), .int (xs ((nI i + 3).toNatClampNeg)), .ref (ad 4)]) hx hb hml hown hts hC hG hS (cW_lot l hl9 D tI tJ tL (A0 s) sg ad n sL sA (xs ((nI i + 1).toNatClampNeg)) (xs ((nI i + 2).toNatClampNeg)) (xs ((nI i + 3).toNatClampNeg)) hI.1.1 hI.1.2.1) (gW q_79 q_80 q_0 q_81) rfl rfl hdyW_lot ⟨Nat.le_of_ble_eq_true rfl, Nat.le_of_ble_eq_true rfl⟩ hl.1 rfl (Nat.le_of_ble_eq_true rfl) dW_law_180 ⟨by show _ ≤ 601024; omega, by show _ ≤ 7293034; omega⟩ (fun ad2 S hSe had H locs hG hS => ?_)
  have hE := E_lot hI hK (xs ((nI i + 1).toNatClampNeg)) (xs ((nI i + 2).toNatClampNeg)) (xs ((nI i + 3).toNatClampNeg)) _ rfl S hSe
  refine lv_istore (lv' := [(5, .int (nI (fX_lot sL sA (xs ((nI i + 1).toNatClampNeg)) (xs ((nI i + 2).toNatClampNeg)) (xs ((nI i + 3).toNatClampNeg))))), (4, .int (nI i)), (3, .ref (ad 4)), (2, .ref (ad 5)), (1, .ref (ad 0)), (0, .ref b)]) hx hb dW_law_183 hl (by decide) rfl (fun ls hl => ?_)
  refine lv_aload_n hx hb dW_law_185 rfl (lv_at hl 3 rfl) ?_
  refine lv_aload_n hx hb dW_law_186 rfl (lv_at hl 5 rfl) ?_
  refine lv_iload hx hb dW_law_187 (lv_at hl 1 rfl) ?_
  refine lv_iconst (v := 1) hx hb dW_law_189 (by decide) ?_
  refine lv_iadd hx hb dW_law_190 ?_
  refine va_sld hx hb hX hbl hbA hS (show vp_in (nI i + 1) L from vin_s (k := 1) hL hi (by omega)) dW_law_191 ?_
  refine lv_aload_n hx hb dW_law_192 rfl (lv_at hl 5 rfl) ?_
  refine lv_iload hx hb dW_law_193 (lv_at hl 1 rfl) ?_
  refine lv_iconst (v := 2) hx hb dW_law_195 (by decide) ?_
  refine lv_iadd hx hb dW_law_196 ?_
  refine va_sld hx hb hX hbl hbA hS (show vp_in (nI i + 2) L from vin_s (k := 2) hL hi (by omega)) dW_law_197 ?_
  refine lv_aload_n hx hb dW_law_198 rfl (lv_at hl 5 rfl) ?_
  refine lv_iload hx hb dW_law_199 (lv_at hl 1 rfl) ?_
  refine lv_iconst (v := 3) hx hb dW_law_201 (by decide) ?_
  refine lv_iadd hx hb dW_law_202 ?_
  refine va_sld hx hb hX hbl hbA hS (show vp_in (nI i + 3) L from vin_s (k := 3) hL hi (by omega)) dW_law_203 ?_
  refine W.eq (g2 := F0 m 204 ls (.int (xs ((nI i + 3).toNatClampNeg)) :: .int (xs ((nI i + 2).toNatClampNeg)) :: .int (xs ((nI i + 1).toNatClampNeg)) :: .ref (ad2 5) :: [])) (by rw [had 5 (by omega)]) ?_
  refine rcV3 (rest := []) (As := [.int (xs ((nI i + 1).toNatClampNeg)), .int (xs ((nI i + 2).toNatClampNeg)), .int (xs ((nI i + 3).toNatClampNeg))]) hx hb hml hown hts hC hG hS (cM_lot l D tI tJ tL (A0 s) sg ad2 S.1 S.2.1 S.2.2 (xs ((nI i + 1).toNatClampNeg)) (xs ((nI i + 2).toNatClampNeg)) (xs ((nI i + 3).toNatClampNeg)) n hE.1.1 hE.1.2) (recM hC hG) (gV q_587 q_588 q_589 q_2 q_590) rfl rfl ⟨rfl, hdyM_lot⟩ ⟨Nat.le_of_ble_eq_true rfl, Nat.le_of_ble_eq_true rfl⟩ hl.1 rfl (Nat.le_of_ble_eq_true rfl) dW_law_204 ⟨by show _ ≤ 601024; omega, by show _ ≤ 7293034; omega⟩ (fun H locs hG hS => ?_)
  generalize hMe : fM_lot S.2.1 S.2.2 (xs ((nI i + 1).toNatClampNeg)) (xs ((nI i + 2).toNatClampNeg)) (xs ((nI i + 3).toNatClampNeg)) = Mf at hE hG ⊢
  refine lv_istore (lv' := [(6, .int Mf.1), (5, .int (nI (fX_lot sL sA (xs ((nI i + 1).toNatClampNeg)) (xs ((nI i + 2).toNatClampNeg)) (xs ((nI i + 3).toNatClampNeg))))), (4, .int (nI i)), (3, .ref (ad 4)), (2, .ref (ad 5)), (1, .ref (ad 0)), (0, .ref b)]) hx hb dW_law_207 hl (by decide) rfl (fun ls hl => ?_)
  refine lv_aload_n hx hb dW_law_209 rfl (lv_at hl 4 rfl) ?_
  refine W.eq (g2 := F0 m 210 ls (.ref (ad2 5) :: [])) (by rw [had 5 (by omega)]) ?_
  refine rcV2 (rest := []) (As := []) hx hb hml hown hts hC hG hS (cM_thrown l D tI tJ tL (A0 s) sg ad2 S.1 Mf.2.1 Mf.2.2) (recM hC hG) (gV q_583 q_584 q_585 q_2 q_586) rfl rfl ⟨rfl, hdyM_thrown⟩ ⟨Nat.le_of_ble_eq_true rfl, Nat.le_of_ble_eq_true rfl⟩ hl.1 rfl (Nat.le_of_ble_eq_true rfl) dW_law_210 ⟨by show _ ≤ 601024; omega, by show _ ≤ 7293034; omega⟩ ?_
  refine lv_iload hx hb dW_law_213 (lv_at hl 1 rfl) ?_
  refine lv_icmp_eq (tgt := 220) hx hb dW_law_215 (by decide) (fun c9 => ?_) (fun c9 => absurd hE.2.1 c9)
  refine lv_iload hx hb dW_law_220 (lv_at hl 1 rfl) ?_
  refine lv_if_ne (tgt := 237) hx hb dW_law_222 (by decide) (fun c8 => ?_) (fun c8 => ?_)
  · refine lv_goto (tgt := 1503) hx hb dW_law_237 (by decide) ?_
    refine W.widen (k := cells + 30) (n := slots + 200) (by omega) (by omega) ?_
    refine cont ad2 _ _ _ H locs ls hE.2.2.2 hG hS ?_
    rw [had 4 (by omega), had 5 (by omega), had 0 (by omega)]
    exact lv_sub hl [2, 3, 4, 5, 6] rfl
  · refine lv_aload_n hx hb dW_law_225 rfl (lv_at hl 3 rfl) ?_
    refine lv_iconst (v := 0) hx hb dW_law_226 (by decide) ?_
    refine W.eq (g2 := F0 m 227 ls [.int 0, .ref (ad2 4)]) (by rw [had 4 (by omega)]) ?_
    refine rt_ld hx hb hC hG dW_law_227 ?_
    refine lv_iload hx hb dW_law_228 (lv_at hl 0 rfl) ?_
    refine lv_i2l (v := (Mf.1 : Int32).toInt64) hx hb dW_law_230 rfl ?_
    refine W.lcmp hx hb dW_law_231 ?_
    refine lv_if_eq (tgt := 237) hx hb dW_law_232 (by decide) (fun c7 => ?_) (fun c7 => absurd (lgc (hE.2.2.1 (lot0 c8))) c7)
    refine lv_goto (tgt := 1503) hx hb dW_law_237 (by decide) ?_
    refine W.widen (k := cells + 30) (n := slots + 200) (by omega) (by omega) ?_
    refine cont ad2 _ _ _ H locs ls hE.2.2.2 hG hS ?_
    rw [had 4 (by omega), had 5 (by omega), had 0 (by omega)]
    exact lv_sub hl [2, 3, 4, 5, 6] rfl
set_option maxHeartbeats 4000000 in
set_option maxRecDepth 100000 in
theorem lc_bid {p : Program} {l : Launch} {e : Env} {s : State} {m : MethodId} {below : List Frame} {meth : Method} {c : Code} {b L : Nat} {xs : Nat → Int32} (hl9 : l.stackTraces = false) (hL : L ≤ 2048) (hx : p.tables.exec = Jvm.exec) (hb : c.code = code) (hml : c.maxLocals = 7) (hown : s.vm.findClass "DroitLineLaw" = some m.cls) (hts : ∀ w ∈ wNeed, w.before #[Value.ref b] s = true) (hX : va_X b L xs s s.heap) (hbl : b < s.heap.size)
    {D : va_G} {tI tJ tL : ClassId} {sg : Nat → Nat} (hC : GC D tI tJ tL (A0 s) sg s) {i K cells slots : Nat} (hi : i + 4 ≤ L) (hK : K ≤ 600) (hcl : cells + 30 ≤ 601024) (hsl : slots + 200 ≤ 7293034) {ad : Nat → Nat} {n : Nat} {sL : NL} {sA : NA} (hI : INV n K sL sA) {H : Heap} {locs : List Loc} (hG : GW D tI tJ tL (A0 s) ad n sL sA H) (hS : va_S (A0 s) s.heap H locs) {ls : Array Slot} (hl : lv_has ls 7 [(4, .int (nI i)), (3, .ref (ad 4)), (2, .ref (ad 5)), (1, .ref (ad 0)), (0, .ref b)]) (cont : CONT p l e s m b below meth c D tI tJ tL i K cells slots) :
    W p l e room_1 s m #[Value.ref b] below meth c H locs cells slots (lw_Z below #[Value.ref b] s) (F0 m 240 ls []) := by
  have hbA : ¬ (A0 s) b := Nat.not_le.mpr hbl
  refine lv_aload_n hx hb dW_law_240 rfl (lv_at hl 3 rfl) ?_
  refine lv_aload_n hx hb dW_law_241 rfl (lv_at hl 4 rfl) ?_
  refine lv_iload hx hb dW_law_242 (lv_at hl 0 rfl) ?_
  refine lv_iconst (v := 1) hx hb dW_law_244 (by decide) ?_
  refine lv_iadd hx hb dW_law_245 ?_
  refine va_sld hx hb hX hbl hbA hS (show vp_in (nI i + 1) L from vin_s (k := 1) hL hi (by omega)) dW_law_246 ?_
  refine lv_aload_n hx hb dW_law_247 rfl (lv_at hl 4 rfl) ?_
  refine lv_iload hx hb dW_law_248 (lv_at hl 0 rfl) ?_
  refine lv_iconst (v := 2) hx hb dW_law_250 (by decide) ?_
  refine lv_iadd hx hb dW_law_251 ?_
  refine va_sld hx hb hX hbl hbA hS (show vp_in (nI i + 2) L from vin_s (k := 2) hL hi (by omega)) dW_law_252 ?_
  refine lv_aload_n hx hb dW_law_253 rfl (lv_at hl 4 rfl) ?_
  refine lv_iload hx hb dW_law_254 (lv_at hl 0 rfl) ?_
  refine lv_iconst (v := 3) hx hb dW_law_256 (by decide) ?_
  refine lv_iadd hx hb dW_law_257 ?_
  refine va_sld hx hb hX hbl hbA hS (show vp_in (nI i + 3) L from vin_s (k := 3) hL hi (by omega)) dW_law_258 ?_
  refine lv_aload_n hx hb dW_law_259 rfl (lv_at hl 1 rfl) ?_
  refine rcSW (rest := []) (As := [.ref (ad 0), .int (xs ((nI i + 1).toNatClampNeg)), .int (xs ((nI i + 2).toNatClampNeg)), .int (xs ((nI i + 3).toNatClampNeg)), .ref (ad 4)]) hx hb hml hown hts hC hG hS (cW_bid l hl9 D tI tJ tL (A0 s) sg ad n sL sA (xs ((nI i + 1).toNatClampNeg)) (xs ((nI i + 2).toNatClampNeg)) (xs ((nI i + 3).toNatClampNeg)) hI.hcnt) (gW q_277 q_278 q_0 q_279) rfl rfl hdyW_bid ⟨Nat.le_of_ble_eq_true rfl, Nat.le_of_ble_eq_true rfl⟩ hl.1 rfl (Nat.le_of_ble_eq_true rfl) dW_law_260 ⟨by show _ ≤ 601024; omega, by show _ ≤ 7293034; omega⟩ (fun H locs hG hS => ?_)
  have hE := E_bid hI hK (xs ((nI i + 1).toNatClampNeg)) (xs ((nI i + 2).toNatClampNeg)) (xs ((nI i + 3).toNatClampNeg))
  generalize hWe : fW_bid n sL sA (xs ((nI i + 1).toNatClampNeg)) (xs ((nI i + 2).toNatClampNeg)) (xs ((nI i + 3).toNatClampNeg)) = Wr at hE hG ⊢
  refine lv_istore (lv' := [(5, .int Wr.1), (4, .int (nI i)), (3, .ref (ad 4)), (2, .ref (ad 5)), (1, .ref (ad 0)), (0, .ref b)]) hx hb dW_law_263 hl (by decide) rfl (fun ls hl => ?_)
  refine lv_aload_n hx hb dW_law_265 rfl (lv_at hl 3 rfl) ?_
  refine lv_aload_n hx hb dW_law_266 rfl (lv_at hl 5 rfl) ?_
  refine lv_iload hx hb dW_law_267 (lv_at hl 1 rfl) ?_
  refine lv_iconst (v := 1) hx hb dW_law_269 (by decide) ?_
  refine lv_iadd hx hb dW_law_270 ?_
  refine va_sld hx hb hX hbl hbA hS (show vp_in (nI i + 1) L from vin_s (k := 1) hL hi (by omega)) dW_law_271 ?_
  refine lv_aload_n hx hb dW_law_272 rfl (lv_at hl 5 rfl) ?_
  refine lv_iload hx hb dW_law_273 (lv_at hl 1 rfl) ?_
  refine lv_iconst (v := 2) hx hb dW_law_275 (by decide) ?_
  refine lv_iadd hx hb dW_law_276 ?_
  refine va_sld hx hb hX hbl hbA hS (show vp_in (nI i + 2) L from vin_s (k := 2) hL hi (by omega)) dW_law_277 ?_
  refine lv_aload_n hx hb dW_law_278 rfl (lv_at hl 5 rfl) ?_
  refine lv_iload hx hb dW_law_279 (lv_at hl 1 rfl) ?_
  refine lv_iconst (v := 3) hx hb dW_law_281 (by decide) ?_
  refine lv_iadd hx hb dW_law_282 ?_
  refine va_sld hx hb hX hbl hbA hS (show vp_in (nI i + 3) L from vin_s (k := 3) hL hi (by omega)) dW_law_283 ?_
  refine rcV3 (rest := []) (As := [.int (xs ((nI i + 1).toNatClampNeg)), .int (xs ((nI i + 2).toNatClampNeg)), .int (xs ((nI i + 3).toNatClampNeg))]) hx hb hml hown hts hC hG hS (cM_bid l D tI tJ tL (A0 s) sg ad n Wr.2.1 Wr.2.2 (xs ((nI i + 1).toNatClampNeg)) (xs ((nI i + 2).toNatClampNeg)) (xs ((nI i + 3).toNatClampNeg)) n hE.1.1 hE.1.2.1) (recM hC hG) (gV q_605 q_606 q_607 q_2 q_608) rfl rfl ⟨rfl, hdyM_bid⟩ ⟨Nat.le_of_ble_eq_true rfl, Nat.le_of_ble_eq_true rfl⟩ hl.1 rfl (Nat.le_of_ble_eq_true rfl) dW_law_284 ⟨by show _ ≤ 601024; omega, by show _ ≤ 7293034; omega⟩ (fun H locs hG hS => ?_)
  generalize hMe : fM_bid Wr.2.1 Wr.2.2 (xs ((nI i + 1).toNatClampNeg)) (xs ((nI i + 2).toNatClampNeg)) (xs ((nI i + 3).toNatClampNeg)) = Mf at hE hG ⊢
  refine lv_istore (lv' := [(6, .int Mf.1), (5, .int Wr.1), (4, .int (nI i)), (3, .ref (ad 4)), (2, .ref (ad 5)), (1, .ref (ad 0)), (0, .ref b)]) hx hb dW_law_287 hl (by decide) rfl (fun ls hl => ?_)
  refine lv_aload_n hx hb dW_law_289 rfl (lv_at hl 4 rfl) ?_
  refine rcV2 (rest := []) (As := []) hx hb hml hown hts hC hG hS (cM_thrown l D tI tJ tL (A0 s) sg ad n Mf.2.1 Mf.2.2) (recM hC hG) (gV q_583 q_584 q_585 q_2 q_586) rfl rfl ⟨rfl, hdyM_thrown⟩ ⟨Nat.le_of_ble_eq_true rfl, Nat.le_of_ble_eq_true rfl⟩ hl.1 rfl (Nat.le_of_ble_eq_true rfl) dW_law_290 ⟨by show _ ≤ 601024; omega, by show _ ≤ 7293034; omega⟩ ?_
  refine lv_iload hx hb dW_law_293 (lv_at hl 1 rfl) ?_
  refine lv_icmp_eq (tgt := 300) hx hb dW_law_295 (by decide) (fun c9 => ?_) (fun c9 => absurd hE.2.1 c9)
  refine lv_iload hx hb dW_law_300 (lv_at hl 1 rfl) ?_
  refine lv_if_ne (tgt := 317) hx hb dW_law_302 (by decide) (fun c8 => ?_) (fun c8 => ?_)
  · refine lv_goto (tgt := 1503) hx hb dW_law_317 (by decide) ?_
    refine W.widen (k := cells + 30) (n := slots + 200) (by omega) (by omega) ?_
    exact cont ad _ _ _ H locs ls hE.2.2.2 hG hS (lv_sub hl [2, 3, 4, 5, 6] rfl)
  · refine lv_aload_n hx hb dW_law_305 rfl (lv_at hl 3 rfl) ?_
    refine lv_iconst (v := 0) hx hb dW_law_306 (by decide) ?_
    refine rt_ld hx hb hC hG dW_law_307 ?_
    refine lv_iload hx hb dW_law_308 (lv_at hl 0 rfl) ?_
    refine lv_i2l (v := (Mf.1 : Int32).toInt64) hx hb dW_law_310 rfl ?_
    refine W.lcmp hx hb dW_law_311 ?_
    refine lv_if_eq (tgt := 317) hx hb dW_law_312 (by decide) (fun c7 => ?_) (fun c7 => absurd (lgc (hE.2.2.1 c8)) c7)
    refine lv_goto (tgt := 1503) hx hb dW_law_317 (by decide) ?_
    refine W.widen (k := cells + 30) (n := slots + 200) (by omega) (by omega) ?_
    exact cont ad _ _ _ H locs ls hE.2.2.2 hG hS (lv_sub hl [2, 3, 4, 5, 6] rfl)
set_option maxHeartbeats 4000000 in
set_option maxRecDepth 100000 in
theorem lc_hammer {p : Program} {l : Launch} {e : Env} {s : State} {m : MethodId} {below : List Frame} {meth : Method} {c : Code} {b L : Nat} {xs : Nat → Int32} (hl9 : l.stackTraces = false) (hL : L ≤ 2048) (hx : p.tables.exec = Jvm.exec) (hb : c.code = code) (hml : c.maxLocals = 7) (hown : s.vm.findClass "DroitLineLaw" = some m.cls) (hts : ∀ w ∈ wNeed, w.before #[Value.ref b] s = true) (hX : va_X b L xs s s.heap) (hbl : b < s.heap.size)
    {D : va_G} {tI tJ tL : ClassId} {sg : Nat → Nat} (hC : GC D tI tJ tL (A0 s) sg s) {i K cells slots : Nat} (hi : i + 4 ≤ L) (hK : K ≤ 600) (hcl : cells + 30 ≤ 601024) (hsl : slots + 200 ≤ 7293034) {ad : Nat → Nat} {n : Nat} {sL : NL} {sA : NA} (hI : INV n K sL sA) {H : Heap} {locs : List Loc} (hG : GW D tI tJ tL (A0 s) ad n sL sA H) (hS : va_S (A0 s) s.heap H locs) {ls : Array Slot} (hl : lv_has ls 7 [(4, .int (nI i)), (3, .ref (ad 4)), (2, .ref (ad 5)), (1, .ref (ad 0)), (0, .ref b)]) (cont : CONT p l e s m b below meth c D tI tJ tL i K cells slots) :
    W p l e room_1 s m #[Value.ref b] below meth c H locs cells slots (lw_Z below #[Value.ref b] s) (F0 m 320 ls []) := by
  have hbA : ¬ (A0 s) b := Nat.not_le.mpr hbl
  refine lv_aload_n hx hb dW_law_320 rfl (lv_at hl 3 rfl) ?_
  refine lv_aload_n hx hb dW_law_321 rfl (lv_at hl 4 rfl) ?_
  refine lv_iload hx hb dW_law_322 (lv_at hl 0 rfl) ?_
  refine lv_iconst (v := 1) hx hb dW_law_324 (by decide) ?_
  refine lv_iadd hx hb dW_law_325 ?_
  refine va_sld hx hb hX hbl hbA hS (show vp_in (nI i + 1) L from vin_s (k := 1) hL hi (by omega)) dW_law_326 ?_
  refine lv_aload_n hx hb dW_law_327 rfl (lv_at hl 1 rfl) ?_
  refine rcSW (rest := []) (As := [.ref (ad 0), .int (xs ((nI i + 1).toNatClampNeg)), .ref (ad 4)]) hx hb hml hown hts hC hG hS (cW_hammer l hl9 D tI tJ tL (A0 s) sg ad n sL sA (xs ((nI i + 1).toNatClampNeg)) hI.hcnt) (gW q_308 q_309 q_0 q_310) rfl rfl hdyW_hammer ⟨Nat.le_of_ble_eq_true rfl, Nat.le_of_ble_eq_true rfl⟩ hl.1 rfl (Nat.le_of_ble_eq_true rfl) dW_law_328 ⟨by show _ ≤ 601024; omega, by show _ ≤ 7293034; omega⟩ (fun H locs hG hS => ?_)
  have hE := E_hammer hI hK (xs ((nI i + 1).toNatClampNeg))
  generalize hWe : fW_hammer n sL sA (xs ((nI i + 1).toNatClampNeg)) = Wr at hE hG ⊢
  refine lv_istore (lv' := [(5, .int Wr.1), (4, .int (nI i)), (3, .ref (ad 4)), (2, .ref (ad 5)), (1, .ref (ad 0)), (0, .ref b)]) hx hb dW_law_331 hl (by decide) rfl (fun ls hl => ?_)
  refine lv_aload_n hx hb dW_law_333 rfl (lv_at hl 3 rfl) ?_
  refine lv_aload_n hx hb dW_law_334 rfl (lv_at hl 5 rfl) ?_
  refine lv_iload hx hb dW_law_335 (lv_at hl 1 rfl) ?_
  refine lv_iconst (v := 1) hx hb dW_law_337 (by decide) ?_
  refine lv_iadd hx hb dW_law_338 ?_
  refine va_sld hx hb hX hbl hbA hS (show vp_in (nI i + 1) L from vin_s (k := 1) hL hi (by omega)) dW_law_339 ?_
  refine rcV3 (rest := []) (As := [.int (xs ((nI i + 1).toNatClampNeg))]) hx hb hml hown hts hC hG hS (cM_hammer l D tI tJ tL (A0 s) sg ad n Wr.2.1 Wr.2.2 (xs ((nI i + 1).toNatClampNeg)) n hE.1.1 hE.1.2.1) (recM hC hG) (gV q_616 q_617 q_618 q_2 q_619) rfl rfl ⟨rfl, hdyM_hammer⟩ ⟨Nat.le_of_ble_eq_true rfl, Nat.le_of_ble_eq_true rfl⟩ hl.1 rfl (Nat.le_of_ble_eq_true rfl) dW_law_340 ⟨by show _ ≤ 601024; omega, by show _ ≤ 7293034; omega⟩ (fun H locs hG hS => ?_)
  generalize hMe : fM_hammer Wr.2.1 Wr.2.2 (xs ((nI i + 1).toNatClampNeg)) = Mf at hE hG ⊢
  refine lv_istore (lv' := [(6, .int Mf.1), (5, .int Wr.1), (4, .int (nI i)), (3, .ref (ad 4)), (2, .ref (ad 5)), (1, .ref (ad 0)), (0, .ref b)]) hx hb dW_law_343 hl (by decide) rfl (fun ls hl => ?_)
  refine lv_aload_n hx hb dW_law_345 rfl (lv_at hl 4 rfl) ?_
  refine rcV2 (rest := []) (As := []) hx hb hml hown hts hC hG hS (cM_thrown l D tI tJ tL (A0 s) sg ad n Mf.2.1 Mf.2.2) (recM hC hG) (gV q_583 q_584 q_585 q_2 q_586) rfl rfl ⟨rfl, hdyM_thrown⟩ ⟨Nat.le_of_ble_eq_true rfl, Nat.le_of_ble_eq_true rfl⟩ hl.1 rfl (Nat.le_of_ble_eq_true rfl) dW_law_346 ⟨by show _ ≤ 601024; omega, by show _ ≤ 7293034; omega⟩ ?_
  refine lv_iload hx hb dW_law_349 (lv_at hl 1 rfl) ?_
  refine lv_icmp_eq (tgt := 356) hx hb dW_law_351 (by decide) (fun c9 => ?_) (fun c9 => absurd hE.2.1 c9)
  refine lv_iload hx hb dW_law_356 (lv_at hl 1 rfl) ?_
  refine lv_if_ne (tgt := 373) hx hb dW_law_358 (by decide) (fun c8 => ?_) (fun c8 => ?_)
  · refine lv_goto (tgt := 1503) hx hb dW_law_373 (by decide) ?_
    refine W.widen (k := cells + 30) (n := slots + 200) (by omega) (by omega) ?_
    exact cont ad _ _ _ H locs ls hE.2.2.2 hG hS (lv_sub hl [2, 3, 4, 5, 6] rfl)
  · refine lv_aload_n hx hb dW_law_361 rfl (lv_at hl 3 rfl) ?_
    refine lv_iconst (v := 0) hx hb dW_law_362 (by decide) ?_
    refine rt_ld hx hb hC hG dW_law_363 ?_
    refine lv_iload hx hb dW_law_364 (lv_at hl 0 rfl) ?_
    refine lv_i2l (v := (Mf.1 : Int32).toInt64) hx hb dW_law_366 rfl ?_
    refine W.lcmp hx hb dW_law_367 ?_
    refine lv_if_eq (tgt := 373) hx hb dW_law_368 (by decide) (fun c7 => ?_) (fun c7 => absurd (lgc (hE.2.2.1 c8)) c7)
    refine lv_goto (tgt := 1503) hx hb dW_law_373 (by decide) ?_
    refine W.widen (k := cells + 30) (n := slots + 200) (by omega) (by omega) ?_
    exact cont ad _ _ _ H locs ls hE.2.2.2 hG hS (lv_sub hl [2, 3, 4, 5, 6] rfl)
set_option maxHeartbeats 4000000 in
set_option maxRecDepth 100000 in
theorem lc_again {p : Program} {l : Launch} {e : Env} {s : State} {m : MethodId} {below : List Frame} {meth : Method} {c : Code} {b L : Nat} {xs : Nat → Int32} (hl9 : l.stackTraces = false) (hL : L ≤ 2048) (hx : p.tables.exec = Jvm.exec) (hb : c.code = code) (hml : c.maxLocals = 7) (hown : s.vm.findClass "DroitLineLaw" = some m.cls) (hts : ∀ w ∈ wNeed, w.before #[Value.ref b] s = true) (hX : va_X b L xs s s.heap) (hbl : b < s.heap.size)
    {D : va_G} {tI tJ tL : ClassId} {sg : Nat → Nat} (hC : GC D tI tJ tL (A0 s) sg s) {i K cells slots : Nat} (hi : i + 4 ≤ L) (hK : K ≤ 600) (hcl : cells + 30 ≤ 601024) (hsl : slots + 200 ≤ 7293034) {ad : Nat → Nat} {n : Nat} {sL : NL} {sA : NA} (hI : INV n K sL sA) {H : Heap} {locs : List Loc} (hG : GW D tI tJ tL (A0 s) ad n sL sA H) (hS : va_S (A0 s) s.heap H locs) {ls : Array Slot} (hl : lv_has ls 7 [(4, .int (nI i)), (3, .ref (ad 4)), (2, .ref (ad 5)), (1, .ref (ad 0)), (0, .ref b)]) (cont : CONT p l e s m b below meth c D tI tJ tL i K cells slots) :
    W p l e room_1 s m #[Value.ref b] below meth c H locs cells slots (lw_Z below #[Value.ref b] s) (F0 m 376 ls []) := by
  have hbA : ¬ (A0 s) b := Nat.not_le.mpr hbl
  refine lv_aload_n hx hb dW_law_376 rfl (lv_at hl 3 rfl) ?_
  refine lv_aload_n hx hb dW_law_377 rfl (lv_at hl 4 rfl) ?_
  refine lv_iload hx hb dW_law_378 (lv_at hl 0 rfl) ?_
  refine lv_iconst (v := 1) hx hb dW_law_380 (by decide) ?_
  refine lv_iadd hx hb dW_law_381 ?_
  refine va_sld hx hb hX hbl hbA hS (show vp_in (nI i + 1) L from vin_s (k := 1) hL hi (by omega)) dW_law_382 ?_
  refine lv_aload_n hx hb dW_law_383 rfl (lv_at hl 4 rfl) ?_
  refine lv_iload hx hb dW_law_384 (lv_at hl 0 rfl) ?_
  refine lv_iconst (v := 2) hx hb dW_law_386 (by decide) ?_
  refine lv_iadd hx hb dW_law_387 ?_
  refine va_sld hx hb hX hbl hbA hS (show vp_in (nI i + 2) L from vin_s (k := 2) hL hi (by omega)) dW_law_388 ?_
  refine lv_aload_n hx hb dW_law_389 rfl (lv_at hl 1 rfl) ?_
  refine rcSW (rest := []) (As := [.ref (ad 0), .int (xs ((nI i + 1).toNatClampNeg)), .int (xs ((nI i + 2).toNatClampNeg)), .ref (ad 4)]) hx hb hml hown hts hC hG hS (cW_again l hl9 D tI tJ tL (A0 s) sg ad n sL sA (xs ((nI i + 1).toNatClampNeg)) (xs ((nI i + 2).toNatClampNeg))) (gW q_336 q_337 q_0 q_338) rfl rfl hdyW_again ⟨Nat.le_of_ble_eq_true rfl, Nat.le_of_ble_eq_true rfl⟩ hl.1 rfl (Nat.le_of_ble_eq_true rfl) dW_law_390 ⟨by show _ ≤ 601024; omega, by show _ ≤ 7293034; omega⟩ (fun H locs hG hS => ?_)
  have hE := E_again hI hK (xs ((nI i + 1).toNatClampNeg)) (xs ((nI i + 2).toNatClampNeg))
  generalize hWe : fW_again n sL sA (xs ((nI i + 1).toNatClampNeg)) (xs ((nI i + 2).toNatClampNeg)) = Wr at hE hG ⊢
  refine lv_istore (lv' := [(5, .int Wr.1), (4, .int (nI i)), (3, .ref (ad 4)), (2, .ref (ad 5)), (1, .ref (ad 0)), (0, .ref b)]) hx hb dW_law_393 hl (by decide) rfl (fun ls hl => ?_)
  refine lv_aload_n hx hb dW_law_395 rfl (lv_at hl 3 rfl) ?_
  refine lv_aload_n hx hb dW_law_396 rfl (lv_at hl 5 rfl) ?_
  refine lv_iload hx hb dW_law_397 (lv_at hl 1 rfl) ?_
  refine lv_iconst (v := 1) hx hb dW_law_399 (by decide) ?_
  refine lv_iadd hx hb dW_law_400 ?_
  refine va_sld hx hb hX hbl hbA hS (show vp_in (nI i + 1) L from vin_s (k := 1) hL hi (by omega)) dW_law_401 ?_
  refine lv_aload_n hx hb dW_law_402 rfl (lv_at hl 5 rfl) ?_
  refine lv_iload hx hb dW_law_403 (lv_at hl 1 rfl) ?_
  refine lv_iconst (v := 2) hx hb dW_law_405 (by decide) ?_
  refine lv_iadd hx hb dW_law_406 ?_
  refine va_sld hx hb hX hbl hbA hS (show vp_in (nI i + 2) L from vin_s (k := 2) hL hi (by omega)) dW_law_407 ?_
  refine rcV3 (rest := []) (As := [.int (xs ((nI i + 1).toNatClampNeg)), .int (xs ((nI i + 2).toNatClampNeg))]) hx hb hml hown hts hC hG hS (cM_again l D tI tJ tL (A0 s) sg ad n Wr.2.1 Wr.2.2 (xs ((nI i + 1).toNatClampNeg)) (xs ((nI i + 2).toNatClampNeg)) n hE.1.1 hE.1.2.1) (recM hC hG) (gV q_628 q_629 q_630 q_2 q_631) rfl rfl ⟨rfl, hdyM_again⟩ ⟨Nat.le_of_ble_eq_true rfl, Nat.le_of_ble_eq_true rfl⟩ hl.1 rfl (Nat.le_of_ble_eq_true rfl) dW_law_408 ⟨by show _ ≤ 601024; omega, by show _ ≤ 7293034; omega⟩ (fun H locs hG hS => ?_)
  generalize hMe : fM_again Wr.2.1 Wr.2.2 (xs ((nI i + 1).toNatClampNeg)) (xs ((nI i + 2).toNatClampNeg)) = Mf at hE hG ⊢
  refine lv_istore (lv' := [(6, .int Mf.1), (5, .int Wr.1), (4, .int (nI i)), (3, .ref (ad 4)), (2, .ref (ad 5)), (1, .ref (ad 0)), (0, .ref b)]) hx hb dW_law_411 hl (by decide) rfl (fun ls hl => ?_)
  refine lv_aload_n hx hb dW_law_413 rfl (lv_at hl 4 rfl) ?_
  refine rcV2 (rest := []) (As := []) hx hb hml hown hts hC hG hS (cM_thrown l D tI tJ tL (A0 s) sg ad n Mf.2.1 Mf.2.2) (recM hC hG) (gV q_583 q_584 q_585 q_2 q_586) rfl rfl ⟨rfl, hdyM_thrown⟩ ⟨Nat.le_of_ble_eq_true rfl, Nat.le_of_ble_eq_true rfl⟩ hl.1 rfl (Nat.le_of_ble_eq_true rfl) dW_law_414 ⟨by show _ ≤ 601024; omega, by show _ ≤ 7293034; omega⟩ ?_
  refine lv_iload hx hb dW_law_417 (lv_at hl 1 rfl) ?_
  refine lv_icmp_eq (tgt := 424) hx hb dW_law_419 (by decide) (fun c9 => ?_) (fun c9 => absurd hE.2.1 c9)
  refine lv_iload hx hb dW_law_424 (lv_at hl 1 rfl) ?_
  refine lv_if_ne (tgt := 441) hx hb dW_law_426 (by decide) (fun c8 => ?_) (fun c8 => ?_)
  · refine lv_goto (tgt := 1503) hx hb dW_law_441 (by decide) ?_
    refine W.widen (k := cells + 30) (n := slots + 200) (by omega) (by omega) ?_
    exact cont ad _ _ _ H locs ls hE.2.2.2 hG hS (lv_sub hl [2, 3, 4, 5, 6] rfl)
  · refine lv_aload_n hx hb dW_law_429 rfl (lv_at hl 3 rfl) ?_
    refine lv_iconst (v := 0) hx hb dW_law_430 (by decide) ?_
    refine rt_ld hx hb hC hG dW_law_431 ?_
    refine lv_iload hx hb dW_law_432 (lv_at hl 0 rfl) ?_
    refine lv_i2l (v := (Mf.1 : Int32).toInt64) hx hb dW_law_434 rfl ?_
    refine W.lcmp hx hb dW_law_435 ?_
    refine lv_if_eq (tgt := 441) hx hb dW_law_436 (by decide) (fun c7 => ?_) (fun c7 => absurd (lgc (hE.2.2.1 c8)) c7)
    refine lv_goto (tgt := 1503) hx hb dW_law_441 (by decide) ?_
    refine W.widen (k := cells + 30) (n := slots + 200) (by omega) (by omega) ?_
    exact cont ad _ _ _ H locs ls hE.2.2.2 hG hS (lv_sub hl [2, 3, 4, 5, 6] rfl)
set_option maxHeartbeats 4000000 in
set_option maxRecDepth 100000 in
theorem lc_lots {p : Program} {l : Launch} {e : Env} {s : State} {m : MethodId} {below : List Frame} {meth : Method} {c : Code} {b L : Nat} {xs : Nat → Int32} (hl9 : l.stackTraces = false) (hL : L ≤ 2048) (hx : p.tables.exec = Jvm.exec) (hb : c.code = code) (hml : c.maxLocals = 7) (hown : s.vm.findClass "DroitLineLaw" = some m.cls) (hts : ∀ w ∈ wNeed, w.before #[Value.ref b] s = true) (hX : va_X b L xs s s.heap) (hbl : b < s.heap.size)
    {D : va_G} {tI tJ tL : ClassId} {sg : Nat → Nat} (hC : GC D tI tJ tL (A0 s) sg s) {i K cells slots : Nat} (hi : i + 4 ≤ L) (hK : K ≤ 600) (hcl : cells + 30 ≤ 601024) (hsl : slots + 200 ≤ 7293034) {ad : Nat → Nat} {n : Nat} {sL : NL} {sA : NA} (hI : INV n K sL sA) {H : Heap} {locs : List Loc} (hG : GW D tI tJ tL (A0 s) ad n sL sA H) (hS : va_S (A0 s) s.heap H locs) {ls : Array Slot} (hl : lv_has ls 7 [(4, .int (nI i)), (3, .ref (ad 4)), (2, .ref (ad 5)), (1, .ref (ad 0)), (0, .ref b)]) (cont : CONT p l e s m b below meth c D tI tJ tL i K cells slots) :
    W p l e room_1 s m #[Value.ref b] below meth c H locs cells slots (lw_Z below #[Value.ref b] s) (F0 m 444 ls []) := by
  have hbA : ¬ (A0 s) b := Nat.not_le.mpr hbl
  have hE := E_lots hI
  refine lv_aload_n hx hb dW_law_444 rfl (lv_at hl 3 rfl) ?_
  refine rcV2 (rest := []) (As := []) hx hb hml hown hts hC hG hS (cX_lots l D tI tJ tL (A0 s) sg ad n sL sA) (recX hC hG) (gV q_51 q_52 q_53 q_1 q_54) rfl rfl ⟨rfl, hdyX_lots⟩ ⟨Nat.le_of_ble_eq_true rfl, Nat.le_of_ble_eq_true rfl⟩ hl.1 rfl (Nat.le_of_ble_eq_true rfl) dW_law_445 ⟨by show _ ≤ 601024; omega, by show _ ≤ 7293034; omega⟩ ?_
  refine lv_aload_n hx hb dW_law_448 rfl (lv_at hl 2 rfl) ?_
  refine rcV3 (rest := [.int (fX_lots sL sA)]) (As := []) hx hb hml hown hts hC hG hS (cM_lots l D tI tJ tL (A0 s) sg ad n sL sA) (recM hC hG) (gV q_636 q_637 q_638 q_2 q_639) rfl rfl ⟨rfl, hdyM_lots⟩ ⟨Nat.le_of_ble_eq_true rfl, Nat.le_of_ble_eq_true rfl⟩ hl.1 rfl (Nat.le_of_ble_eq_true rfl) dW_law_449 ⟨by show _ ≤ 601024; omega, by show _ ≤ 7293034; omega⟩ (fun H locs hG hS => ?_)
  generalize hMe : fM_lots sL sA = Mf at hE hG ⊢
  refine lv_icmp_eq (tgt := 1503) hx hb dW_law_452 (by decide) (fun c9 => ?_) (fun c9 => absurd hE.2.1 c9)
  refine W.widen (k := cells + 30) (n := slots + 200) (by omega) (by omega) ?_
  exact cont ad _ _ _ H locs ls hE.2.2 hG hS (lv_sub hl [0, 1, 2, 3, 4] rfl)
set_option maxHeartbeats 4000000 in
set_option maxRecDepth 100000 in
theorem lc_callOf {p : Program} {l : Launch} {e : Env} {s : State} {m : MethodId} {below : List Frame} {meth : Method} {c : Code} {b L : Nat} {xs : Nat → Int32} (hl9 : l.stackTraces = false) (hL : L ≤ 2048) (hx : p.tables.exec = Jvm.exec) (hb : c.code = code) (hml : c.maxLocals = 7) (hown : s.vm.findClass "DroitLineLaw" = some m.cls) (hts : ∀ w ∈ wNeed, w.before #[Value.ref b] s = true) (hX : va_X b L xs s s.heap) (hbl : b < s.heap.size)
    {D : va_G} {tI tJ tL : ClassId} {sg : Nat → Nat} (hC : GC D tI tJ tL (A0 s) sg s) {i K cells slots : Nat} (hi : i + 4 ≤ L) (hK : K ≤ 600) (hcl : cells + 30 ≤ 601024) (hsl : slots + 200 ≤ 7293034) {ad : Nat → Nat} {n : Nat} {sL : NL} {sA : NA} (hI : INV n K sL sA) {H : Heap} {locs : List Loc} (hG : GW D tI tJ tL (A0 s) ad n sL sA H) (hS : va_S (A0 s) s.heap H locs) {ls : Array Slot} (hl : lv_has ls 7 [(4, .int (nI i)), (3, .ref (ad 4)), (2, .ref (ad 5)), (1, .ref (ad 0)), (0, .ref b)]) (cont : CONT p l e s m b below meth c D tI tJ tL i K cells slots) :
    W p l e room_1 s m #[Value.ref b] below meth c H locs cells slots (lw_Z below #[Value.ref b] s) (F0 m 457 ls []) := by
  have hbA : ¬ (A0 s) b := Nat.not_le.mpr hbl
  refine lv_aload_n hx hb dW_law_457 rfl (lv_at hl 3 rfl) ?_
  refine lv_aload_n hx hb dW_law_458 rfl (lv_at hl 4 rfl) ?_
  refine lv_iload hx hb dW_law_459 (lv_at hl 0 rfl) ?_
  refine lv_iconst (v := 1) hx hb dW_law_461 (by decide) ?_
  refine lv_iadd hx hb dW_law_462 ?_
  refine va_sld hx hb hX hbl hbA hS (show vp_in (nI i + 1) L from vin_s (k := 1) hL hi (by omega)) dW_law_463 ?_
  refine lv_aload_n hx hb dW_law_464 rfl (lv_at hl 1 rfl) ?_
  refine rcSW (rest := []) (As := [.ref (ad 0), .int (xs ((nI i + 1).toNatClampNeg)), .ref (ad 4)]) hx hb hml hown hts hC hG hS (cW_callOf l hl9 D tI tJ tL (A0 s) sg ad n sL sA (xs ((nI i + 1).toNatClampNeg))) (gW q_347 q_348 q_0 q_349) rfl rfl hdyW_callOf ⟨Nat.le_of_ble_eq_true rfl, Nat.le_of_ble_eq_true rfl⟩ hl.1 rfl (Nat.le_of_ble_eq_true rfl) dW_law_465 ⟨by show _ ≤ 601024; omega, by show _ ≤ 7293034; omega⟩ (fun H locs hG hS => ?_)
  have hE := E_callOf hI hK (xs ((nI i + 1).toNatClampNeg))
  generalize hWe : fW_callOf sL sA (xs ((nI i + 1).toNatClampNeg)) = Wr at hE hG ⊢
  refine lv_istore (lv' := [(5, .int Wr.1), (4, .int (nI i)), (3, .ref (ad 4)), (2, .ref (ad 5)), (1, .ref (ad 0)), (0, .ref b)]) hx hb dW_law_468 hl (by decide) rfl (fun ls hl => ?_)
  refine lv_aload_n hx hb dW_law_470 rfl (lv_at hl 3 rfl) ?_
  refine lv_aload_n hx hb dW_law_471 rfl (lv_at hl 5 rfl) ?_
  refine lv_iload hx hb dW_law_472 (lv_at hl 1 rfl) ?_
  refine lv_iconst (v := 1) hx hb dW_law_474 (by decide) ?_
  refine lv_iadd hx hb dW_law_475 ?_
  refine va_sld hx hb hX hbl hbA hS (show vp_in (nI i + 1) L from vin_s (k := 1) hL hi (by omega)) dW_law_476 ?_
  refine rcV3 (rest := []) (As := [.int (xs ((nI i + 1).toNatClampNeg))]) hx hb hml hown hts hC hG hS (cM_callOf l D tI tJ tL (A0 s) sg ad n Wr.2.1 Wr.2.2 (xs ((nI i + 1).toNatClampNeg))) (recM hC hG) (gV q_640 q_641 q_642 q_2 q_643) rfl rfl ⟨rfl, hdyM_callOf⟩ ⟨Nat.le_of_ble_eq_true rfl, Nat.le_of_ble_eq_true rfl⟩ hl.1 rfl (Nat.le_of_ble_eq_true rfl) dW_law_477 ⟨by show _ ≤ 601024; omega, by show _ ≤ 7293034; omega⟩ (fun H locs hG hS => ?_)
  generalize hMe : fM_callOf Wr.2.1 Wr.2.2 (xs ((nI i + 1).toNatClampNeg)) = Mf at hE hG ⊢
  refine lv_istore (lv' := [(6, .int Mf.1), (5, .int Wr.1), (4, .int (nI i)), (3, .ref (ad 4)), (2, .ref (ad 5)), (1, .ref (ad 0)), (0, .ref b)]) hx hb dW_law_480 hl (by decide) rfl (fun ls hl => ?_)
  refine lv_aload_n hx hb dW_law_482 rfl (lv_at hl 4 rfl) ?_
  refine rcV2 (rest := []) (As := []) hx hb hml hown hts hC hG hS (cM_thrown l D tI tJ tL (A0 s) sg ad n Mf.2.1 Mf.2.2) (recM hC hG) (gV q_583 q_584 q_585 q_2 q_586) rfl rfl ⟨rfl, hdyM_thrown⟩ ⟨Nat.le_of_ble_eq_true rfl, Nat.le_of_ble_eq_true rfl⟩ hl.1 rfl (Nat.le_of_ble_eq_true rfl) dW_law_483 ⟨by show _ ≤ 601024; omega, by show _ ≤ 7293034; omega⟩ ?_
  refine lv_iload hx hb dW_law_486 (lv_at hl 1 rfl) ?_
  refine lv_icmp_eq (tgt := 493) hx hb dW_law_488 (by decide) (fun c9 => ?_) (fun c9 => absurd hE.2.1 c9)
  refine lv_iload hx hb dW_law_493 (lv_at hl 1 rfl) ?_
  refine lv_if_ne (tgt := 510) hx hb dW_law_495 (by decide) (fun c8 => ?_) (fun c8 => ?_)
  · refine lv_goto (tgt := 1503) hx hb dW_law_510 (by decide) ?_
    refine W.widen (k := cells + 30) (n := slots + 200) (by omega) (by omega) ?_
    exact cont ad _ _ _ H locs ls hE.2.2.2 hG hS (lv_sub hl [2, 3, 4, 5, 6] rfl)
  · refine lv_aload_n hx hb dW_law_498 rfl (lv_at hl 3 rfl) ?_
    refine lv_iconst (v := 0) hx hb dW_law_499 (by decide) ?_
    refine rt_ld hx hb hC hG dW_law_500 ?_
    refine lv_iload hx hb dW_law_501 (lv_at hl 0 rfl) ?_
    refine lv_i2l (v := (Mf.1 : Int32).toInt64) hx hb dW_law_503 rfl ?_
    refine W.lcmp hx hb dW_law_504 ?_
    refine lv_if_eq (tgt := 510) hx hb dW_law_505 (by decide) (fun c7 => ?_) (fun c7 => absurd (lgc (hE.2.2.1 c8)) c7)
    refine lv_goto (tgt := 1503) hx hb dW_law_510 (by decide) ?_
    refine W.widen (k := cells + 30) (n := slots + 200) (by omega) (by omega) ?_
    exact cont ad _ _ _ H locs ls hE.2.2.2 hG hS (lv_sub hl [2, 3, 4, 5, 6] rfl)
set_option maxHeartbeats 4000000 in
set_option maxRecDepth 100000 in
theorem lc_pay {p : Program} {l : Launch} {e : Env} {s : State} {m : MethodId} {below : List Frame} {meth : Method} {c : Code} {b L : Nat} {xs : Nat → Int32} (hl9 : l.stackTraces = false) (hL : L ≤ 2048) (hx : p.tables.exec = Jvm.exec) (hb : c.code = code) (hml : c.maxLocals = 7) (hown : s.vm.findClass "DroitLineLaw" = some m.cls) (hts : ∀ w ∈ wNeed, w.before #[Value.ref b] s = true) (hX : va_X b L xs s s.heap) (hbl : b < s.heap.size)
    {D : va_G} {tI tJ tL : ClassId} {sg : Nat → Nat} (hC : GC D tI tJ tL (A0 s) sg s) {i K cells slots : Nat} (hi : i + 4 ≤ L) (hK : K ≤ 600) (hcl : cells + 30 ≤ 601024) (hsl : slots + 200 ≤ 7293034) {ad : Nat → Nat} {n : Nat} {sL : NL} {sA : NA} (hI : INV n K sL sA) {H : Heap} {locs : List Loc} (hG : GW D tI tJ tL (A0 s) ad n sL sA H) (hS : va_S (A0 s) s.heap H locs) {ls : Array Slot} (hl : lv_has ls 7 [(4, .int (nI i)), (3, .ref (ad 4)), (2, .ref (ad 5)), (1, .ref (ad 0)), (0, .ref b)]) (cont : CONT p l e s m b below meth c D tI tJ tL i K cells slots) :
    W p l e room_1 s m #[Value.ref b] below meth c H locs cells slots (lw_Z below #[Value.ref b] s) (F0 m 513 ls []) := by
  have hbA : ¬ (A0 s) b := Nat.not_le.mpr hbl
  refine lv_aload_n hx hb dW_law_513 rfl (lv_at hl 3 rfl) ?_
  refine lv_aload_n hx hb dW_law_514 rfl (lv_at hl 4 rfl) ?_
  refine lv_iload hx hb dW_law_515 (lv_at hl 0 rfl) ?_
  refine lv_iconst (v := 1) hx hb dW_law_517 (by decide) ?_
  refine lv_iadd hx hb dW_law_518 ?_
  refine va_sld hx hb hX hbl hbA hS (show vp_in (nI i + 1) L from vin_s (k := 1) hL hi (by omega)) dW_law_519 ?_
  refine lv_aload_n hx hb dW_law_520 rfl (lv_at hl 1 rfl) ?_
  refine rcSW (rest := []) (As := [.ref (ad 0), .int (xs ((nI i + 1).toNatClampNeg)), .ref (ad 4)]) hx hb hml hown hts hC hG hS (cW_pay l hl9 D tI tJ tL (A0 s) sg ad n sL sA (xs ((nI i + 1).toNatClampNeg)) hI.hgap) (gW q_354 q_355 q_0 q_356) rfl rfl hdyW_pay ⟨Nat.le_of_ble_eq_true rfl, Nat.le_of_ble_eq_true rfl⟩ hl.1 rfl (Nat.le_of_ble_eq_true rfl) dW_law_521 ⟨by show _ ≤ 601024; omega, by show _ ≤ 7293034; omega⟩ (fun H locs hG hS => ?_)
  have hE := E_pay hI hK (xs ((nI i + 1).toNatClampNeg))
  generalize hWe : fW_pay n sL sA (xs ((nI i + 1).toNatClampNeg)) = Wr at hE hG ⊢
  refine lv_istore (lv' := [(5, .int Wr.1), (4, .int (nI i)), (3, .ref (ad 4)), (2, .ref (ad 5)), (1, .ref (ad 0)), (0, .ref b)]) hx hb dW_law_524 hl (by decide) rfl (fun ls hl => ?_)
  refine lv_aload_n hx hb dW_law_526 rfl (lv_at hl 3 rfl) ?_
  refine lv_aload_n hx hb dW_law_527 rfl (lv_at hl 5 rfl) ?_
  refine lv_iload hx hb dW_law_528 (lv_at hl 1 rfl) ?_
  refine lv_iconst (v := 1) hx hb dW_law_530 (by decide) ?_
  refine lv_iadd hx hb dW_law_531 ?_
  refine va_sld hx hb hX hbl hbA hS (show vp_in (nI i + 1) L from vin_s (k := 1) hL hi (by omega)) dW_law_532 ?_
  refine rcV3 (rest := []) (As := [.int (xs ((nI i + 1).toNatClampNeg))]) hx hb hml hown hts hC hG hS (cM_pay l D tI tJ tL (A0 s) sg ad n Wr.2.1 Wr.2.2 (xs ((nI i + 1).toNatClampNeg)) n hE.1.1 hE.1.2.1 hE.1.2.2.1) (recM hC hG) (gV q_644 q_645 q_646 q_2 q_647) rfl rfl ⟨rfl, hdyM_pay⟩ ⟨Nat.le_of_ble_eq_true rfl, Nat.le_of_ble_eq_true rfl⟩ hl.1 rfl (Nat.le_of_ble_eq_true rfl) dW_law_533 ⟨by show _ ≤ 601024; omega, by show _ ≤ 7293034; omega⟩ (fun H locs hG hS => ?_)
  generalize hMe : fM_pay Wr.2.1 Wr.2.2 (xs ((nI i + 1).toNatClampNeg)) = Mf at hE hG ⊢
  refine lv_istore (lv' := [(6, .int Mf.1), (5, .int Wr.1), (4, .int (nI i)), (3, .ref (ad 4)), (2, .ref (ad 5)), (1, .ref (ad 0)), (0, .ref b)]) hx hb dW_law_536 hl (by decide) rfl (fun ls hl => ?_)
  refine lv_aload_n hx hb dW_law_538 rfl (lv_at hl 4 rfl) ?_
  refine rcV2 (rest := []) (As := []) hx hb hml hown hts hC hG hS (cM_thrown l D tI tJ tL (A0 s) sg ad n Mf.2.1 Mf.2.2) (recM hC hG) (gV q_583 q_584 q_585 q_2 q_586) rfl rfl ⟨rfl, hdyM_thrown⟩ ⟨Nat.le_of_ble_eq_true rfl, Nat.le_of_ble_eq_true rfl⟩ hl.1 rfl (Nat.le_of_ble_eq_true rfl) dW_law_539 ⟨by show _ ≤ 601024; omega, by show _ ≤ 7293034; omega⟩ ?_
  refine lv_iload hx hb dW_law_542 (lv_at hl 1 rfl) ?_
  refine lv_icmp_eq (tgt := 549) hx hb dW_law_544 (by decide) (fun c9 => ?_) (fun c9 => absurd hE.2.1 c9)
  refine lv_iload hx hb dW_law_549 (lv_at hl 1 rfl) ?_
  refine lv_if_ne (tgt := 566) hx hb dW_law_551 (by decide) (fun c8 => ?_) (fun c8 => ?_)
  · refine lv_goto (tgt := 1503) hx hb dW_law_566 (by decide) ?_
    refine W.widen (k := cells + 30) (n := slots + 200) (by omega) (by omega) ?_
    exact cont ad _ _ _ H locs ls hE.2.2.2 hG hS (lv_sub hl [2, 3, 4, 5, 6] rfl)
  · refine lv_aload_n hx hb dW_law_554 rfl (lv_at hl 3 rfl) ?_
    refine lv_iconst (v := 0) hx hb dW_law_555 (by decide) ?_
    refine rt_ld hx hb hC hG dW_law_556 ?_
    refine lv_iload hx hb dW_law_557 (lv_at hl 0 rfl) ?_
    refine lv_i2l (v := (Mf.1 : Int32).toInt64) hx hb dW_law_559 rfl ?_
    refine W.lcmp hx hb dW_law_560 ?_
    refine lv_if_eq (tgt := 566) hx hb dW_law_561 (by decide) (fun c7 => ?_) (fun c7 => absurd (lgc (hE.2.2.1 c8)) c7)
    refine lv_goto (tgt := 1503) hx hb dW_law_566 (by decide) ?_
    refine W.widen (k := cells + 30) (n := slots + 200) (by omega) (by omega) ?_
    exact cont ad _ _ _ H locs ls hE.2.2.2 hG hS (lv_sub hl [2, 3, 4, 5, 6] rfl)
set_option maxHeartbeats 4000000 in
set_option maxRecDepth 100000 in
theorem lc_defaults {p : Program} {l : Launch} {e : Env} {s : State} {m : MethodId} {below : List Frame} {meth : Method} {c : Code} {b L : Nat} {xs : Nat → Int32} (hl9 : l.stackTraces = false) (hL : L ≤ 2048) (hx : p.tables.exec = Jvm.exec) (hb : c.code = code) (hml : c.maxLocals = 7) (hown : s.vm.findClass "DroitLineLaw" = some m.cls) (hts : ∀ w ∈ wNeed, w.before #[Value.ref b] s = true) (hX : va_X b L xs s s.heap) (hbl : b < s.heap.size)
    {D : va_G} {tI tJ tL : ClassId} {sg : Nat → Nat} (hC : GC D tI tJ tL (A0 s) sg s) {i K cells slots : Nat} (hi : i + 4 ≤ L) (hK : K ≤ 600) (hcl : cells + 30 ≤ 601024) (hsl : slots + 200 ≤ 7293034) {ad : Nat → Nat} {n : Nat} {sL : NL} {sA : NA} (hI : INV n K sL sA) {H : Heap} {locs : List Loc} (hG : GW D tI tJ tL (A0 s) ad n sL sA H) (hS : va_S (A0 s) s.heap H locs) {ls : Array Slot} (hl : lv_has ls 7 [(4, .int (nI i)), (3, .ref (ad 4)), (2, .ref (ad 5)), (1, .ref (ad 0)), (0, .ref b)]) (cont : CONT p l e s m b below meth c D tI tJ tL i K cells slots) :
    W p l e room_1 s m #[Value.ref b] below meth c H locs cells slots (lw_Z below #[Value.ref b] s) (F0 m 569 ls []) := by
  have hbA : ¬ (A0 s) b := Nat.not_le.mpr hbl
  refine lv_aload_n hx hb dW_law_569 rfl (lv_at hl 3 rfl) ?_
  refine lv_aload_n hx hb dW_law_570 rfl (lv_at hl 4 rfl) ?_
  refine lv_iload hx hb dW_law_571 (lv_at hl 0 rfl) ?_
  refine lv_iconst (v := 1) hx hb dW_law_573 (by decide) ?_
  refine lv_iadd hx hb dW_law_574 ?_
  refine va_sld hx hb hX hbl hbA hS (show vp_in (nI i + 1) L from vin_s (k := 1) hL hi (by omega)) dW_law_575 ?_
  refine lv_aload_n hx hb dW_law_576 rfl (lv_at hl 1 rfl) ?_
  refine rcSW (rest := []) (As := [.ref (ad 0), .int (xs ((nI i + 1).toNatClampNeg)), .ref (ad 4)]) hx hb hml hown hts hC hG hS (cW_defaults l hl9 D tI tJ tL (A0 s) sg ad n sL sA (xs ((nI i + 1).toNatClampNeg))) (gW q_376 q_377 q_0 q_378) rfl rfl hdyW_defaults ⟨Nat.le_of_ble_eq_true rfl, Nat.le_of_ble_eq_true rfl⟩ hl.1 rfl (Nat.le_of_ble_eq_true rfl) dW_law_577 ⟨by show _ ≤ 601024; omega, by show _ ≤ 7293034; omega⟩ (fun H locs hG hS => ?_)
  have hE := E_defaults hI hK (xs ((nI i + 1).toNatClampNeg))
  generalize hWe : fW_defaults n sL sA (xs ((nI i + 1).toNatClampNeg)) = Wr at hE hG ⊢
  refine lv_istore (lv' := [(5, .int Wr.1), (4, .int (nI i)), (3, .ref (ad 4)), (2, .ref (ad 5)), (1, .ref (ad 0)), (0, .ref b)]) hx hb dW_law_580 hl (by decide) rfl (fun ls hl => ?_)
  refine lv_aload_n hx hb dW_law_582 rfl (lv_at hl 3 rfl) ?_
  refine lv_aload_n hx hb dW_law_583 rfl (lv_at hl 5 rfl) ?_
  refine lv_iload hx hb dW_law_584 (lv_at hl 1 rfl) ?_
  refine lv_iconst (v := 1) hx hb dW_law_586 (by decide) ?_
  refine lv_iadd hx hb dW_law_587 ?_
  refine va_sld hx hb hX hbl hbA hS (show vp_in (nI i + 1) L from vin_s (k := 1) hL hi (by omega)) dW_law_588 ?_
  refine rcV3 (rest := []) (As := [.int (xs ((nI i + 1).toNatClampNeg))]) hx hb hml hown hts hC hG hS (cM_defaults l D tI tJ tL (A0 s) sg ad n Wr.2.1 Wr.2.2 (xs ((nI i + 1).toNatClampNeg)) n hE.1.1 hE.1.2.1) (recM hC hG) (gV q_653 q_654 q_655 q_2 q_656) rfl rfl ⟨rfl, hdyM_defaults⟩ ⟨Nat.le_of_ble_eq_true rfl, Nat.le_of_ble_eq_true rfl⟩ hl.1 rfl (Nat.le_of_ble_eq_true rfl) dW_law_589 ⟨by show _ ≤ 601024; omega, by show _ ≤ 7293034; omega⟩ (fun H locs hG hS => ?_)
  generalize hMe : fM_defaults Wr.2.1 Wr.2.2 (xs ((nI i + 1).toNatClampNeg)) = Mf at hE hG ⊢
  refine lv_istore (lv' := [(6, .int Mf.1), (5, .int Wr.1), (4, .int (nI i)), (3, .ref (ad 4)), (2, .ref (ad 5)), (1, .ref (ad 0)), (0, .ref b)]) hx hb dW_law_592 hl (by decide) rfl (fun ls hl => ?_)
  refine lv_aload_n hx hb dW_law_594 rfl (lv_at hl 4 rfl) ?_
  refine rcV2 (rest := []) (As := []) hx hb hml hown hts hC hG hS (cM_thrown l D tI tJ tL (A0 s) sg ad n Mf.2.1 Mf.2.2) (recM hC hG) (gV q_583 q_584 q_585 q_2 q_586) rfl rfl ⟨rfl, hdyM_thrown⟩ ⟨Nat.le_of_ble_eq_true rfl, Nat.le_of_ble_eq_true rfl⟩ hl.1 rfl (Nat.le_of_ble_eq_true rfl) dW_law_595 ⟨by show _ ≤ 601024; omega, by show _ ≤ 7293034; omega⟩ ?_
  refine lv_iload hx hb dW_law_598 (lv_at hl 1 rfl) ?_
  refine lv_icmp_eq (tgt := 605) hx hb dW_law_600 (by decide) (fun c9 => ?_) (fun c9 => absurd hE.2.1 c9)
  refine lv_iload hx hb dW_law_605 (lv_at hl 1 rfl) ?_
  refine lv_if_ne (tgt := 622) hx hb dW_law_607 (by decide) (fun c8 => ?_) (fun c8 => ?_)
  · refine lv_goto (tgt := 1503) hx hb dW_law_622 (by decide) ?_
    refine W.widen (k := cells + 30) (n := slots + 200) (by omega) (by omega) ?_
    exact cont ad _ _ _ H locs ls hE.2.2.2 hG hS (lv_sub hl [2, 3, 4, 5, 6] rfl)
  · refine lv_aload_n hx hb dW_law_610 rfl (lv_at hl 3 rfl) ?_
    refine lv_iconst (v := 0) hx hb dW_law_611 (by decide) ?_
    refine rt_ld hx hb hC hG dW_law_612 ?_
    refine lv_iload hx hb dW_law_613 (lv_at hl 0 rfl) ?_
    refine lv_i2l (v := (Mf.1 : Int32).toInt64) hx hb dW_law_615 rfl ?_
    refine W.lcmp hx hb dW_law_616 ?_
    refine lv_if_eq (tgt := 622) hx hb dW_law_617 (by decide) (fun c7 => ?_) (fun c7 => absurd (lgc (hE.2.2.1 c8)) c7)
    refine lv_goto (tgt := 1503) hx hb dW_law_622 (by decide) ?_
    refine W.widen (k := cells + 30) (n := slots + 200) (by omega) (by omega) ?_
    exact cont ad _ _ _ H locs ls hE.2.2.2 hG hS (lv_sub hl [2, 3, 4, 5, 6] rfl)
set_option maxHeartbeats 4000000 in
set_option maxRecDepth 100000 in
theorem lc_payGaps {p : Program} {l : Launch} {e : Env} {s : State} {m : MethodId} {below : List Frame} {meth : Method} {c : Code} {b L : Nat} {xs : Nat → Int32} (hl9 : l.stackTraces = false) (hL : L ≤ 2048) (hx : p.tables.exec = Jvm.exec) (hb : c.code = code) (hml : c.maxLocals = 7) (hown : s.vm.findClass "DroitLineLaw" = some m.cls) (hts : ∀ w ∈ wNeed, w.before #[Value.ref b] s = true) (hX : va_X b L xs s s.heap) (hbl : b < s.heap.size)
    {D : va_G} {tI tJ tL : ClassId} {sg : Nat → Nat} (hC : GC D tI tJ tL (A0 s) sg s) {i K cells slots : Nat} (hi : i + 4 ≤ L) (hK : K ≤ 600) (hcl : cells + 30 ≤ 601024) (hsl : slots + 200 ≤ 7293034) {ad : Nat → Nat} {n : Nat} {sL : NL} {sA : NA} (hI : INV n K sL sA) {H : Heap} {locs : List Loc} (hG : GW D tI tJ tL (A0 s) ad n sL sA H) (hS : va_S (A0 s) s.heap H locs) {ls : Array Slot} (hl : lv_has ls 7 [(4, .int (nI i)), (3, .ref (ad 4)), (2, .ref (ad 5)), (1, .ref (ad 0)), (0, .ref b)]) (cont : CONT p l e s m b below meth c D tI tJ tL i K cells slots) :
    W p l e room_1 s m #[Value.ref b] below meth c H locs cells slots (lw_Z below #[Value.ref b] s) (F0 m 625 ls []) := by
  have hbA : ¬ (A0 s) b := Nat.not_le.mpr hbl
  refine lv_aload_n hx hb dW_law_625 rfl (lv_at hl 3 rfl) ?_
  refine lv_aload_n hx hb dW_law_626 rfl (lv_at hl 4 rfl) ?_
  refine lv_iload hx hb dW_law_627 (lv_at hl 0 rfl) ?_
  refine lv_iconst (v := 1) hx hb dW_law_629 (by decide) ?_
  refine lv_iadd hx hb dW_law_630 ?_
  refine va_sld hx hb hX hbl hbA hS (show vp_in (nI i + 1) L from vin_s (k := 1) hL hi (by omega)) dW_law_631 ?_
  refine lv_aload_n hx hb dW_law_632 rfl (lv_at hl 1 rfl) ?_
  refine rcSW (rest := []) (As := [.ref (ad 0), .int (xs ((nI i + 1).toNatClampNeg)), .ref (ad 4)]) hx hb hml hown hts hC hG hS (cW_payGaps l hl9 D tI tJ tL (A0 s) sg ad n sL sA (xs ((nI i + 1).toNatClampNeg))) (gW q_383 q_384 q_0 q_385) rfl rfl hdyW_payGaps ⟨Nat.le_of_ble_eq_true rfl, Nat.le_of_ble_eq_true rfl⟩ hl.1 rfl (Nat.le_of_ble_eq_true rfl) dW_law_633 ⟨by show _ ≤ 601024; omega, by show _ ≤ 7293034; omega⟩ (fun H locs hG hS => ?_)
  have hE := E_payGaps hI hK (xs ((nI i + 1).toNatClampNeg))
  generalize hWe : fW_payGaps sL sA (xs ((nI i + 1).toNatClampNeg)) = Wr at hE hG ⊢
  refine lv_istore (lv' := [(5, .int Wr.1), (4, .int (nI i)), (3, .ref (ad 4)), (2, .ref (ad 5)), (1, .ref (ad 0)), (0, .ref b)]) hx hb dW_law_636 hl (by decide) rfl (fun ls hl => ?_)
  refine lv_aload_n hx hb dW_law_638 rfl (lv_at hl 3 rfl) ?_
  refine lv_aload_n hx hb dW_law_639 rfl (lv_at hl 5 rfl) ?_
  refine lv_iload hx hb dW_law_640 (lv_at hl 1 rfl) ?_
  refine lv_iconst (v := 1) hx hb dW_law_642 (by decide) ?_
  refine lv_iadd hx hb dW_law_643 ?_
  refine va_sld hx hb hX hbl hbA hS (show vp_in (nI i + 1) L from vin_s (k := 1) hL hi (by omega)) dW_law_644 ?_
  refine rcV3 (rest := []) (As := [.int (xs ((nI i + 1).toNatClampNeg))]) hx hb hml hown hts hC hG hS (cM_payGaps l D tI tJ tL (A0 s) sg ad n Wr.2.1 Wr.2.2 (xs ((nI i + 1).toNatClampNeg))) (recM hC hG) (gV q_657 q_658 q_659 q_2 q_660) rfl rfl ⟨rfl, hdyM_payGaps⟩ ⟨Nat.le_of_ble_eq_true rfl, Nat.le_of_ble_eq_true rfl⟩ hl.1 rfl (Nat.le_of_ble_eq_true rfl) dW_law_645 ⟨by show _ ≤ 601024; omega, by show _ ≤ 7293034; omega⟩ (fun H locs hG hS => ?_)
  generalize hMe : fM_payGaps Wr.2.1 Wr.2.2 (xs ((nI i + 1).toNatClampNeg)) = Mf at hE hG ⊢
  refine lv_istore (lv' := [(6, .int Mf.1), (5, .int Wr.1), (4, .int (nI i)), (3, .ref (ad 4)), (2, .ref (ad 5)), (1, .ref (ad 0)), (0, .ref b)]) hx hb dW_law_648 hl (by decide) rfl (fun ls hl => ?_)
  refine lv_aload_n hx hb dW_law_650 rfl (lv_at hl 4 rfl) ?_
  refine rcV2 (rest := []) (As := []) hx hb hml hown hts hC hG hS (cM_thrown l D tI tJ tL (A0 s) sg ad n Mf.2.1 Mf.2.2) (recM hC hG) (gV q_583 q_584 q_585 q_2 q_586) rfl rfl ⟨rfl, hdyM_thrown⟩ ⟨Nat.le_of_ble_eq_true rfl, Nat.le_of_ble_eq_true rfl⟩ hl.1 rfl (Nat.le_of_ble_eq_true rfl) dW_law_651 ⟨by show _ ≤ 601024; omega, by show _ ≤ 7293034; omega⟩ ?_
  refine lv_iload hx hb dW_law_654 (lv_at hl 1 rfl) ?_
  refine lv_icmp_eq (tgt := 661) hx hb dW_law_656 (by decide) (fun c9 => ?_) (fun c9 => absurd hE.2.1 c9)
  refine lv_iload hx hb dW_law_661 (lv_at hl 1 rfl) ?_
  refine lv_if_ne (tgt := 678) hx hb dW_law_663 (by decide) (fun c8 => ?_) (fun c8 => ?_)
  · refine lv_goto (tgt := 1503) hx hb dW_law_678 (by decide) ?_
    refine W.widen (k := cells + 30) (n := slots + 200) (by omega) (by omega) ?_
    exact cont ad _ _ _ H locs ls hE.2.2.2 hG hS (lv_sub hl [2, 3, 4, 5, 6] rfl)
  · refine lv_aload_n hx hb dW_law_666 rfl (lv_at hl 3 rfl) ?_
    refine lv_iconst (v := 0) hx hb dW_law_667 (by decide) ?_
    refine rt_ld hx hb hC hG dW_law_668 ?_
    refine lv_iload hx hb dW_law_669 (lv_at hl 0 rfl) ?_
    refine lv_i2l (v := (Mf.1 : Int32).toInt64) hx hb dW_law_671 rfl ?_
    refine W.lcmp hx hb dW_law_672 ?_
    refine lv_if_eq (tgt := 678) hx hb dW_law_673 (by decide) (fun c7 => ?_) (fun c7 => absurd (lgc (hE.2.2.1 c8)) c7)
    refine lv_goto (tgt := 1503) hx hb dW_law_678 (by decide) ?_
    refine W.widen (k := cells + 30) (n := slots + 200) (by omega) (by omega) ?_
    exact cont ad _ _ _ H locs ls hE.2.2.2 hG hS (lv_sub hl [2, 3, 4, 5, 6] rfl)
set_option maxHeartbeats 4000000 in
set_option maxRecDepth 100000 in
theorem lc_advance {p : Program} {l : Launch} {e : Env} {s : State} {m : MethodId} {below : List Frame} {meth : Method} {c : Code} {b L : Nat} {xs : Nat → Int32} (hl9 : l.stackTraces = false) (hL : L ≤ 2048) (hx : p.tables.exec = Jvm.exec) (hb : c.code = code) (hml : c.maxLocals = 7) (hown : s.vm.findClass "DroitLineLaw" = some m.cls) (hts : ∀ w ∈ wNeed, w.before #[Value.ref b] s = true) (hX : va_X b L xs s s.heap) (hbl : b < s.heap.size)
    {D : va_G} {tI tJ tL : ClassId} {sg : Nat → Nat} (hC : GC D tI tJ tL (A0 s) sg s) {i K cells slots : Nat} (hi : i + 4 ≤ L) (hK : K ≤ 600) (hcl : cells + 30 ≤ 601024) (hsl : slots + 200 ≤ 7293034) {ad : Nat → Nat} {n : Nat} {sL : NL} {sA : NA} (hI : INV n K sL sA) {H : Heap} {locs : List Loc} (hG : GW D tI tJ tL (A0 s) ad n sL sA H) (hS : va_S (A0 s) s.heap H locs) {ls : Array Slot} (hl : lv_has ls 7 [(4, .int (nI i)), (3, .ref (ad 4)), (2, .ref (ad 5)), (1, .ref (ad 0)), (0, .ref b)]) (cont : CONT p l e s m b below meth c D tI tJ tL i K cells slots) :
    W p l e room_1 s m #[Value.ref b] below meth c H locs cells slots (lw_Z below #[Value.ref b] s) (F0 m 681 ls []) := by
  have hbA : ¬ (A0 s) b := Nat.not_le.mpr hbl
  refine lv_aload_n hx hb dW_law_681 rfl (lv_at hl 3 rfl) ?_
  refine lv_aload_n hx hb dW_law_682 rfl (lv_at hl 4 rfl) ?_
  refine lv_iload hx hb dW_law_683 (lv_at hl 0 rfl) ?_
  refine lv_iconst (v := 1) hx hb dW_law_685 (by decide) ?_
  refine lv_iadd hx hb dW_law_686 ?_
  refine va_sld hx hb hX hbl hbA hS (show vp_in (nI i + 1) L from vin_s (k := 1) hL hi (by omega)) dW_law_687 ?_
  refine lv_aload_n hx hb dW_law_688 rfl (lv_at hl 4 rfl) ?_
  refine lv_iload hx hb dW_law_689 (lv_at hl 0 rfl) ?_
  refine lv_iconst (v := 2) hx hb dW_law_691 (by decide) ?_
  refine lv_iadd hx hb dW_law_692 ?_
  refine va_sld hx hb hX hbl hbA hS (show vp_in (nI i + 2) L from vin_s (k := 2) hL hi (by omega)) dW_law_693 ?_
  refine lv_aload_n hx hb dW_law_694 rfl (lv_at hl 1 rfl) ?_
  refine rcSW (rest := []) (As := [.ref (ad 0), .int (xs ((nI i + 1).toNatClampNeg)), .int (xs ((nI i + 2).toNatClampNeg)), .ref (ad 4)]) hx hb hml hown hts hC hG hS (cW_advance l hl9 D tI tJ tL (A0 s) sg ad n sL sA (xs ((nI i + 1).toNatClampNeg)) (xs ((nI i + 2).toNatClampNeg))) (gW q_395 q_396 q_0 q_397) rfl rfl hdyW_advance ⟨Nat.le_of_ble_eq_true rfl, Nat.le_of_ble_eq_true rfl⟩ hl.1 rfl (Nat.le_of_ble_eq_true rfl) dW_law_695 ⟨by show _ ≤ 601024; omega, by show _ ≤ 7293034; omega⟩ (fun H locs hG hS => ?_)
  have hE := E_advance hI hK (xs ((nI i + 1).toNatClampNeg)) (xs ((nI i + 2).toNatClampNeg))
  generalize hWe : fW_advance n sL sA (xs ((nI i + 1).toNatClampNeg)) (xs ((nI i + 2).toNatClampNeg)) = Wr at hE hG ⊢
  refine lv_istore (lv' := [(5, .int Wr.1), (4, .int (nI i)), (3, .ref (ad 4)), (2, .ref (ad 5)), (1, .ref (ad 0)), (0, .ref b)]) hx hb dW_law_698 hl (by decide) rfl (fun ls hl => ?_)
  refine lv_aload_n hx hb dW_law_700 rfl (lv_at hl 3 rfl) ?_
  refine lv_aload_n hx hb dW_law_701 rfl (lv_at hl 5 rfl) ?_
  refine lv_iload hx hb dW_law_702 (lv_at hl 1 rfl) ?_
  refine lv_iconst (v := 1) hx hb dW_law_704 (by decide) ?_
  refine lv_iadd hx hb dW_law_705 ?_
  refine va_sld hx hb hX hbl hbA hS (show vp_in (nI i + 1) L from vin_s (k := 1) hL hi (by omega)) dW_law_706 ?_
  refine lv_aload_n hx hb dW_law_707 rfl (lv_at hl 5 rfl) ?_
  refine lv_iload hx hb dW_law_708 (lv_at hl 1 rfl) ?_
  refine lv_iconst (v := 2) hx hb dW_law_710 (by decide) ?_
  refine lv_iadd hx hb dW_law_711 ?_
  refine va_sld hx hb hX hbl hbA hS (show vp_in (nI i + 2) L from vin_s (k := 2) hL hi (by omega)) dW_law_712 ?_
  refine rcV3 (rest := []) (As := [.int (xs ((nI i + 1).toNatClampNeg)), .int (xs ((nI i + 2).toNatClampNeg))]) hx hb hml hown hts hC hG hS (cM_advance l D tI tJ tL (A0 s) sg ad n Wr.2.1 Wr.2.2 (xs ((nI i + 1).toNatClampNeg)) (xs ((nI i + 2).toNatClampNeg)) n hE.1.1 hE.1.2.1) (recM hC hG) (gV q_661 q_662 q_663 q_2 q_664) rfl rfl ⟨rfl, hdyM_advance⟩ ⟨Nat.le_of_ble_eq_true rfl, Nat.le_of_ble_eq_true rfl⟩ hl.1 rfl (Nat.le_of_ble_eq_true rfl) dW_law_713 ⟨by show _ ≤ 601024; omega, by show _ ≤ 7293034; omega⟩ (fun H locs hG hS => ?_)
  generalize hMe : fM_advance Wr.2.1 Wr.2.2 (xs ((nI i + 1).toNatClampNeg)) (xs ((nI i + 2).toNatClampNeg)) = Mf at hE hG ⊢
  refine lv_istore (lv' := [(6, .int Mf.1), (5, .int Wr.1), (4, .int (nI i)), (3, .ref (ad 4)), (2, .ref (ad 5)), (1, .ref (ad 0)), (0, .ref b)]) hx hb dW_law_716 hl (by decide) rfl (fun ls hl => ?_)
  refine lv_aload_n hx hb dW_law_718 rfl (lv_at hl 4 rfl) ?_
  refine rcV2 (rest := []) (As := []) hx hb hml hown hts hC hG hS (cM_thrown l D tI tJ tL (A0 s) sg ad n Mf.2.1 Mf.2.2) (recM hC hG) (gV q_583 q_584 q_585 q_2 q_586) rfl rfl ⟨rfl, hdyM_thrown⟩ ⟨Nat.le_of_ble_eq_true rfl, Nat.le_of_ble_eq_true rfl⟩ hl.1 rfl (Nat.le_of_ble_eq_true rfl) dW_law_719 ⟨by show _ ≤ 601024; omega, by show _ ≤ 7293034; omega⟩ ?_
  refine lv_iload hx hb dW_law_722 (lv_at hl 1 rfl) ?_
  refine lv_icmp_eq (tgt := 729) hx hb dW_law_724 (by decide) (fun c9 => ?_) (fun c9 => absurd hE.2.1 c9)
  refine lv_iload hx hb dW_law_729 (lv_at hl 1 rfl) ?_
  refine lv_if_ne (tgt := 746) hx hb dW_law_731 (by decide) (fun c8 => ?_) (fun c8 => ?_)
  · refine lv_goto (tgt := 1503) hx hb dW_law_746 (by decide) ?_
    refine W.widen (k := cells + 30) (n := slots + 200) (by omega) (by omega) ?_
    exact cont ad _ _ _ H locs ls hE.2.2.2 hG hS (lv_sub hl [2, 3, 4, 5, 6] rfl)
  · refine lv_aload_n hx hb dW_law_734 rfl (lv_at hl 3 rfl) ?_
    refine lv_iconst (v := 0) hx hb dW_law_735 (by decide) ?_
    refine rt_ld hx hb hC hG dW_law_736 ?_
    refine lv_iload hx hb dW_law_737 (lv_at hl 0 rfl) ?_
    refine lv_i2l (v := (Mf.1 : Int32).toInt64) hx hb dW_law_739 rfl ?_
    refine W.lcmp hx hb dW_law_740 ?_
    refine lv_if_eq (tgt := 746) hx hb dW_law_741 (by decide) (fun c7 => ?_) (fun c7 => absurd (lgc (hE.2.2.1 c8)) c7)
    refine lv_goto (tgt := 1503) hx hb dW_law_746 (by decide) ?_
    refine W.widen (k := cells + 30) (n := slots + 200) (by omega) (by omega) ?_
    exact cont ad _ _ _ H locs ls hE.2.2.2 hG hS (lv_sub hl [2, 3, 4, 5, 6] rfl)
set_option maxHeartbeats 4000000 in
set_option maxRecDepth 100000 in
theorem lc_settle {p : Program} {l : Launch} {e : Env} {s : State} {m : MethodId} {below : List Frame} {meth : Method} {c : Code} {b L : Nat} {xs : Nat → Int32} (hl9 : l.stackTraces = false) (hL : L ≤ 2048) (hx : p.tables.exec = Jvm.exec) (hb : c.code = code) (hml : c.maxLocals = 7) (hown : s.vm.findClass "DroitLineLaw" = some m.cls) (hts : ∀ w ∈ wNeed, w.before #[Value.ref b] s = true) (hX : va_X b L xs s s.heap) (hbl : b < s.heap.size)
    {D : va_G} {tI tJ tL : ClassId} {sg : Nat → Nat} (hC : GC D tI tJ tL (A0 s) sg s) {i K cells slots : Nat} (hi : i + 4 ≤ L) (hK : K ≤ 600) (hcl : cells + 30 ≤ 601024) (hsl : slots + 200 ≤ 7293034) {ad : Nat → Nat} {n : Nat} {sL : NL} {sA : NA} (hI : INV n K sL sA) {H : Heap} {locs : List Loc} (hG : GW D tI tJ tL (A0 s) ad n sL sA H) (hS : va_S (A0 s) s.heap H locs) {ls : Array Slot} (hl : lv_has ls 7 [(4, .int (nI i)), (3, .ref (ad 4)), (2, .ref (ad 5)), (1, .ref (ad 0)), (0, .ref b)]) (cont : CONT p l e s m b below meth c D tI tJ tL i K cells slots) :
    W p l e room_1 s m #[Value.ref b] below meth c H locs cells slots (lw_Z below #[Value.ref b] s) (F0 m 749 ls []) := by
  have hbA : ¬ (A0 s) b := Nat.not_le.mpr hbl
  refine lv_aload_n hx hb dW_law_749 rfl (lv_at hl 3 rfl) ?_
  refine lv_aload_n hx hb dW_law_750 rfl (lv_at hl 4 rfl) ?_
  refine lv_iload hx hb dW_law_751 (lv_at hl 0 rfl) ?_
  refine lv_iconst (v := 1) hx hb dW_law_753 (by decide) ?_
  refine lv_iadd hx hb dW_law_754 ?_
  refine va_sld hx hb hX hbl hbA hS (show vp_in (nI i + 1) L from vin_s (k := 1) hL hi (by omega)) dW_law_755 ?_
  refine lv_aload_n hx hb dW_law_756 rfl (lv_at hl 1 rfl) ?_
  refine rcSW (rest := []) (As := [.ref (ad 0), .int (xs ((nI i + 1).toNatClampNeg)), .ref (ad 4)]) hx hb hml hown hts hC hG hS (cW_settle l hl9 D tI tJ tL (A0 s) sg ad n sL sA (xs ((nI i + 1).toNatClampNeg))) (gW q_403 q_404 q_0 q_405) rfl rfl hdyW_settle ⟨Nat.le_of_ble_eq_true rfl, Nat.le_of_ble_eq_true rfl⟩ hl.1 rfl (Nat.le_of_ble_eq_true rfl) dW_law_757 ⟨by show _ ≤ 601024; omega, by show _ ≤ 7293034; omega⟩ (fun H locs hG hS => ?_)
  have hE := E_settle hI hK (xs ((nI i + 1).toNatClampNeg))
  generalize hWe : fW_settle n sL sA (xs ((nI i + 1).toNatClampNeg)) = Wr at hE hG ⊢
  refine lv_istore (lv' := [(5, .int Wr.1), (4, .int (nI i)), (3, .ref (ad 4)), (2, .ref (ad 5)), (1, .ref (ad 0)), (0, .ref b)]) hx hb dW_law_760 hl (by decide) rfl (fun ls hl => ?_)
  refine lv_aload_n hx hb dW_law_762 rfl (lv_at hl 3 rfl) ?_
  refine lv_aload_n hx hb dW_law_763 rfl (lv_at hl 5 rfl) ?_
  refine lv_iload hx hb dW_law_764 (lv_at hl 1 rfl) ?_
  refine lv_iconst (v := 1) hx hb dW_law_766 (by decide) ?_
  refine lv_iadd hx hb dW_law_767 ?_
  refine va_sld hx hb hX hbl hbA hS (show vp_in (nI i + 1) L from vin_s (k := 1) hL hi (by omega)) dW_law_768 ?_
  refine rcV3 (rest := []) (As := [.int (xs ((nI i + 1).toNatClampNeg))]) hx hb hml hown hts hC hG hS (cM_settle l D tI tJ tL (A0 s) sg ad n Wr.2.1 Wr.2.2 (xs ((nI i + 1).toNatClampNeg)) n hE.1.1 hE.1.2.1 hE.1.2.2.2) (recM hC hG) (gV q_665 q_666 q_667 q_2 q_668) rfl rfl ⟨rfl, hdyM_settle⟩ ⟨Nat.le_of_ble_eq_true rfl, Nat.le_of_ble_eq_true rfl⟩ hl.1 rfl (Nat.le_of_ble_eq_true rfl) dW_law_769 ⟨by show _ ≤ 601024; omega, by show _ ≤ 7293034; omega⟩ (fun H locs hG hS => ?_)
  generalize hMe : fM_settle Wr.2.1 Wr.2.2 (xs ((nI i + 1).toNatClampNeg)) = Mf at hE hG ⊢
  refine lv_istore (lv' := [(6, .int Mf.1), (5, .int Wr.1), (4, .int (nI i)), (3, .ref (ad 4)), (2, .ref (ad 5)), (1, .ref (ad 0)), (0, .ref b)]) hx hb dW_law_772 hl (by decide) rfl (fun ls hl => ?_)
  refine lv_aload_n hx hb dW_law_774 rfl (lv_at hl 4 rfl) ?_
  refine rcV2 (rest := []) (As := []) hx hb hml hown hts hC hG hS (cM_thrown l D tI tJ tL (A0 s) sg ad n Mf.2.1 Mf.2.2) (recM hC hG) (gV q_583 q_584 q_585 q_2 q_586) rfl rfl ⟨rfl, hdyM_thrown⟩ ⟨Nat.le_of_ble_eq_true rfl, Nat.le_of_ble_eq_true rfl⟩ hl.1 rfl (Nat.le_of_ble_eq_true rfl) dW_law_775 ⟨by show _ ≤ 601024; omega, by show _ ≤ 7293034; omega⟩ ?_
  refine lv_iload hx hb dW_law_778 (lv_at hl 1 rfl) ?_
  refine lv_icmp_eq (tgt := 785) hx hb dW_law_780 (by decide) (fun c9 => ?_) (fun c9 => absurd hE.2.1 c9)
  refine lv_iload hx hb dW_law_785 (lv_at hl 1 rfl) ?_
  refine lv_if_ne (tgt := 802) hx hb dW_law_787 (by decide) (fun c8 => ?_) (fun c8 => ?_)
  · refine lv_goto (tgt := 1503) hx hb dW_law_802 (by decide) ?_
    refine W.widen (k := cells + 30) (n := slots + 200) (by omega) (by omega) ?_
    exact cont ad _ _ _ H locs ls hE.2.2.2 hG hS (lv_sub hl [2, 3, 4, 5, 6] rfl)
  · refine lv_aload_n hx hb dW_law_790 rfl (lv_at hl 3 rfl) ?_
    refine lv_iconst (v := 0) hx hb dW_law_791 (by decide) ?_
    refine rt_ld hx hb hC hG dW_law_792 ?_
    refine lv_iload hx hb dW_law_793 (lv_at hl 0 rfl) ?_
    refine lv_i2l (v := (Mf.1 : Int32).toInt64) hx hb dW_law_795 rfl ?_
    refine W.lcmp hx hb dW_law_796 ?_
    refine lv_if_eq (tgt := 802) hx hb dW_law_797 (by decide) (fun c7 => ?_) (fun c7 => absurd (lgc (hE.2.2.1 c8)) c7)
    refine lv_goto (tgt := 1503) hx hb dW_law_802 (by decide) ?_
    refine W.widen (k := cells + 30) (n := slots + 200) (by omega) (by omega) ?_
    exact cont ad _ _ _ H locs ls hE.2.2.2 hG hS (lv_sub hl [2, 3, 4, 5, 6] rfl)
set_option maxHeartbeats 4000000 in
set_option maxRecDepth 100000 in
theorem lc_commission {p : Program} {l : Launch} {e : Env} {s : State} {m : MethodId} {below : List Frame} {meth : Method} {c : Code} {b L : Nat} {xs : Nat → Int32} (hl9 : l.stackTraces = false) (hL : L ≤ 2048) (hx : p.tables.exec = Jvm.exec) (hb : c.code = code) (hml : c.maxLocals = 7) (hown : s.vm.findClass "DroitLineLaw" = some m.cls) (hts : ∀ w ∈ wNeed, w.before #[Value.ref b] s = true) (hX : va_X b L xs s s.heap) (hbl : b < s.heap.size)
    {D : va_G} {tI tJ tL : ClassId} {sg : Nat → Nat} (hC : GC D tI tJ tL (A0 s) sg s) {i K cells slots : Nat} (hi : i + 4 ≤ L) (hK : K ≤ 600) (hcl : cells + 30 ≤ 601024) (hsl : slots + 200 ≤ 7293034) {ad : Nat → Nat} {n : Nat} {sL : NL} {sA : NA} (hI : INV n K sL sA) {H : Heap} {locs : List Loc} (hG : GW D tI tJ tL (A0 s) ad n sL sA H) (hS : va_S (A0 s) s.heap H locs) {ls : Array Slot} (hl : lv_has ls 7 [(4, .int (nI i)), (3, .ref (ad 4)), (2, .ref (ad 5)), (1, .ref (ad 0)), (0, .ref b)]) (cont : CONT p l e s m b below meth c D tI tJ tL i K cells slots) :
    W p l e room_1 s m #[Value.ref b] below meth c H locs cells slots (lw_Z below #[Value.ref b] s) (F0 m 805 ls []) := by
  have hbA : ¬ (A0 s) b := Nat.not_le.mpr hbl
  refine lv_aload_n hx hb dW_law_805 rfl (lv_at hl 3 rfl) ?_
  refine lv_aload_n hx hb dW_law_806 rfl (lv_at hl 4 rfl) ?_
  refine lv_iload hx hb dW_law_807 (lv_at hl 0 rfl) ?_
  refine lv_iconst (v := 1) hx hb dW_law_809 (by decide) ?_
  refine lv_iadd hx hb dW_law_810 ?_
  refine va_sld hx hb hX hbl hbA hS (show vp_in (nI i + 1) L from vin_s (k := 1) hL hi (by omega)) dW_law_811 ?_
  refine lv_aload_n hx hb dW_law_812 rfl (lv_at hl 4 rfl) ?_
  refine lv_iload hx hb dW_law_813 (lv_at hl 0 rfl) ?_
  refine lv_iconst (v := 2) hx hb dW_law_815 (by decide) ?_
  refine lv_iadd hx hb dW_law_816 ?_
  refine va_sld hx hb hX hbl hbA hS (show vp_in (nI i + 2) L from vin_s (k := 2) hL hi (by omega)) dW_law_817 ?_
  refine lv_aload_n hx hb dW_law_818 rfl (lv_at hl 1 rfl) ?_
  refine rcSW (rest := []) (As := [.ref (ad 0), .int (xs ((nI i + 1).toNatClampNeg)), .int (xs ((nI i + 2).toNatClampNeg)), .ref (ad 4)]) hx hb hml hown hts hC hG hS (cW_commission l hl9 D tI tJ tL (A0 s) sg ad n sL sA (xs ((nI i + 1).toNatClampNeg)) (xs ((nI i + 2).toNatClampNeg))) (gW q_426 q_427 q_0 q_428) rfl rfl hdyW_commission ⟨Nat.le_of_ble_eq_true rfl, Nat.le_of_ble_eq_true rfl⟩ hl.1 rfl (Nat.le_of_ble_eq_true rfl) dW_law_819 ⟨by show _ ≤ 601024; omega, by show _ ≤ 7293034; omega⟩ (fun H locs hG hS => ?_)
  have hE := E_commission hI hK (xs ((nI i + 1).toNatClampNeg)) (xs ((nI i + 2).toNatClampNeg))
  generalize hWe : fW_commission sL sA (xs ((nI i + 1).toNatClampNeg)) (xs ((nI i + 2).toNatClampNeg)) = Wr at hE hG ⊢
  refine lv_istore (lv' := [(5, .int Wr.1), (4, .int (nI i)), (3, .ref (ad 4)), (2, .ref (ad 5)), (1, .ref (ad 0)), (0, .ref b)]) hx hb dW_law_822 hl (by decide) rfl (fun ls hl => ?_)
  refine lv_aload_n hx hb dW_law_824 rfl (lv_at hl 3 rfl) ?_
  refine lv_aload_n hx hb dW_law_825 rfl (lv_at hl 5 rfl) ?_
  refine lv_iload hx hb dW_law_826 (lv_at hl 1 rfl) ?_
  refine lv_iconst (v := 1) hx hb dW_law_828 (by decide) ?_
  refine lv_iadd hx hb dW_law_829 ?_
  refine va_sld hx hb hX hbl hbA hS (show vp_in (nI i + 1) L from vin_s (k := 1) hL hi (by omega)) dW_law_830 ?_
  refine lv_aload_n hx hb dW_law_831 rfl (lv_at hl 5 rfl) ?_
  refine lv_iload hx hb dW_law_832 (lv_at hl 1 rfl) ?_
  refine lv_iconst (v := 2) hx hb dW_law_834 (by decide) ?_
  refine lv_iadd hx hb dW_law_835 ?_
  refine va_sld hx hb hX hbl hbA hS (show vp_in (nI i + 2) L from vin_s (k := 2) hL hi (by omega)) dW_law_836 ?_
  refine rcV3 (rest := []) (As := [.int (xs ((nI i + 1).toNatClampNeg)), .int (xs ((nI i + 2).toNatClampNeg))]) hx hb hml hown hts hC hG hS (cM_commission l D tI tJ tL (A0 s) sg ad n Wr.2.1 Wr.2.2 (xs ((nI i + 1).toNatClampNeg)) (xs ((nI i + 2).toNatClampNeg))) (recM hC hG) (gV q_680 q_681 q_682 q_2 q_683) rfl rfl ⟨rfl, hdyM_commission⟩ ⟨Nat.le_of_ble_eq_true rfl, Nat.le_of_ble_eq_true rfl⟩ hl.1 rfl (Nat.le_of_ble_eq_true rfl) dW_law_837 ⟨by show _ ≤ 601024; omega, by show _ ≤ 7293034; omega⟩ (fun H locs hG hS => ?_)
  generalize hMe : fM_commission Wr.2.1 Wr.2.2 (xs ((nI i + 1).toNatClampNeg)) (xs ((nI i + 2).toNatClampNeg)) = Mf at hE hG ⊢
  refine lv_istore (lv' := [(6, .int Mf.1), (5, .int Wr.1), (4, .int (nI i)), (3, .ref (ad 4)), (2, .ref (ad 5)), (1, .ref (ad 0)), (0, .ref b)]) hx hb dW_law_840 hl (by decide) rfl (fun ls hl => ?_)
  refine lv_aload_n hx hb dW_law_842 rfl (lv_at hl 4 rfl) ?_
  refine rcV2 (rest := []) (As := []) hx hb hml hown hts hC hG hS (cM_thrown l D tI tJ tL (A0 s) sg ad n Mf.2.1 Mf.2.2) (recM hC hG) (gV q_583 q_584 q_585 q_2 q_586) rfl rfl ⟨rfl, hdyM_thrown⟩ ⟨Nat.le_of_ble_eq_true rfl, Nat.le_of_ble_eq_true rfl⟩ hl.1 rfl (Nat.le_of_ble_eq_true rfl) dW_law_843 ⟨by show _ ≤ 601024; omega, by show _ ≤ 7293034; omega⟩ ?_
  refine lv_iload hx hb dW_law_846 (lv_at hl 1 rfl) ?_
  refine lv_icmp_eq (tgt := 853) hx hb dW_law_848 (by decide) (fun c9 => ?_) (fun c9 => absurd hE.2.1 c9)
  refine lv_iload hx hb dW_law_853 (lv_at hl 1 rfl) ?_
  refine lv_if_ne (tgt := 870) hx hb dW_law_855 (by decide) (fun c8 => ?_) (fun c8 => ?_)
  · refine lv_goto (tgt := 1503) hx hb dW_law_870 (by decide) ?_
    refine W.widen (k := cells + 30) (n := slots + 200) (by omega) (by omega) ?_
    exact cont ad _ _ _ H locs ls hE.2.2.2 hG hS (lv_sub hl [2, 3, 4, 5, 6] rfl)
  · refine lv_aload_n hx hb dW_law_858 rfl (lv_at hl 3 rfl) ?_
    refine lv_iconst (v := 0) hx hb dW_law_859 (by decide) ?_
    refine rt_ld hx hb hC hG dW_law_860 ?_
    refine lv_iload hx hb dW_law_861 (lv_at hl 0 rfl) ?_
    refine lv_i2l (v := (Mf.1 : Int32).toInt64) hx hb dW_law_863 rfl ?_
    refine W.lcmp hx hb dW_law_864 ?_
    refine lv_if_eq (tgt := 870) hx hb dW_law_865 (by decide) (fun c7 => ?_) (fun c7 => absurd (lgc (hE.2.2.1 c8)) c7)
    refine lv_goto (tgt := 1503) hx hb dW_law_870 (by decide) ?_
    refine W.widen (k := cells + 30) (n := slots + 200) (by omega) (by omega) ?_
    exact cont ad _ _ _ H locs ls hE.2.2.2 hG hS (lv_sub hl [2, 3, 4, 5, 6] rfl)
set_option maxHeartbeats 4000000 in
set_option maxRecDepth 100000 in
theorem lc_rate {p : Program} {l : Launch} {e : Env} {s : State} {m : MethodId} {below : List Frame} {meth : Method} {c : Code} {b L : Nat} {xs : Nat → Int32} (hl9 : l.stackTraces = false) (hL : L ≤ 2048) (hx : p.tables.exec = Jvm.exec) (hb : c.code = code) (hml : c.maxLocals = 7) (hown : s.vm.findClass "DroitLineLaw" = some m.cls) (hts : ∀ w ∈ wNeed, w.before #[Value.ref b] s = true) (hX : va_X b L xs s s.heap) (hbl : b < s.heap.size)
    {D : va_G} {tI tJ tL : ClassId} {sg : Nat → Nat} (hC : GC D tI tJ tL (A0 s) sg s) {i K cells slots : Nat} (hi : i + 4 ≤ L) (hK : K ≤ 600) (hcl : cells + 30 ≤ 601024) (hsl : slots + 200 ≤ 7293034) {ad : Nat → Nat} {n : Nat} {sL : NL} {sA : NA} (hI : INV n K sL sA) {H : Heap} {locs : List Loc} (hG : GW D tI tJ tL (A0 s) ad n sL sA H) (hS : va_S (A0 s) s.heap H locs) {ls : Array Slot} (hl : lv_has ls 7 [(4, .int (nI i)), (3, .ref (ad 4)), (2, .ref (ad 5)), (1, .ref (ad 0)), (0, .ref b)]) (cont : CONT p l e s m b below meth c D tI tJ tL i K cells slots) :
    W p l e room_1 s m #[Value.ref b] below meth c H locs cells slots (lw_Z below #[Value.ref b] s) (F0 m 873 ls []) := by
  have hbA : ¬ (A0 s) b := Nat.not_le.mpr hbl
  refine lv_aload_n hx hb dW_law_873 rfl (lv_at hl 3 rfl) ?_
  refine lv_aload_n hx hb dW_law_874 rfl (lv_at hl 4 rfl) ?_
  refine lv_iload hx hb dW_law_875 (lv_at hl 0 rfl) ?_
  refine lv_iconst (v := 1) hx hb dW_law_877 (by decide) ?_
  refine lv_iadd hx hb dW_law_878 ?_
  refine va_sld hx hb hX hbl hbA hS (show vp_in (nI i + 1) L from vin_s (k := 1) hL hi (by omega)) dW_law_879 ?_
  refine lv_aload_n hx hb dW_law_880 rfl (lv_at hl 1 rfl) ?_
  refine rcSW (rest := []) (As := [.ref (ad 0), .int (xs ((nI i + 1).toNatClampNeg)), .ref (ad 4)]) hx hb hml hown hts hC hG hS (cW_rate l hl9 D tI tJ tL (A0 s) sg ad n sL sA (xs ((nI i + 1).toNatClampNeg))) (gW q_433 q_434 q_0 q_435) rfl rfl hdyW_rate ⟨Nat.le_of_ble_eq_true rfl, Nat.le_of_ble_eq_true rfl⟩ hl.1 rfl (Nat.le_of_ble_eq_true rfl) dW_law_881 ⟨by show _ ≤ 601024; omega, by show _ ≤ 7293034; omega⟩ (fun H locs hG hS => ?_)
  have hE := E_rate hI hK (xs ((nI i + 1).toNatClampNeg))
  generalize hWe : fW_rate sL sA (xs ((nI i + 1).toNatClampNeg)) = Wr at hE hG ⊢
  refine lv_istore (lv' := [(5, .int Wr.1), (4, .int (nI i)), (3, .ref (ad 4)), (2, .ref (ad 5)), (1, .ref (ad 0)), (0, .ref b)]) hx hb dW_law_884 hl (by decide) rfl (fun ls hl => ?_)
  refine lv_aload_n hx hb dW_law_886 rfl (lv_at hl 3 rfl) ?_
  refine lv_aload_n hx hb dW_law_887 rfl (lv_at hl 5 rfl) ?_
  refine lv_iload hx hb dW_law_888 (lv_at hl 1 rfl) ?_
  refine lv_iconst (v := 1) hx hb dW_law_890 (by decide) ?_
  refine lv_iadd hx hb dW_law_891 ?_
  refine va_sld hx hb hX hbl hbA hS (show vp_in (nI i + 1) L from vin_s (k := 1) hL hi (by omega)) dW_law_892 ?_
  refine rcV3 (rest := []) (As := [.int (xs ((nI i + 1).toNatClampNeg))]) hx hb hml hown hts hC hG hS (cM_rate l D tI tJ tL (A0 s) sg ad n Wr.2.1 Wr.2.2 (xs ((nI i + 1).toNatClampNeg))) (recM hC hG) (gV q_684 q_685 q_686 q_2 q_687) rfl rfl ⟨rfl, hdyM_rate⟩ ⟨Nat.le_of_ble_eq_true rfl, Nat.le_of_ble_eq_true rfl⟩ hl.1 rfl (Nat.le_of_ble_eq_true rfl) dW_law_893 ⟨by show _ ≤ 601024; omega, by show _ ≤ 7293034; omega⟩ (fun H locs hG hS => ?_)
  generalize hMe : fM_rate Wr.2.1 Wr.2.2 (xs ((nI i + 1).toNatClampNeg)) = Mf at hE hG ⊢
  refine lv_istore (lv' := [(6, .int Mf.1), (5, .int Wr.1), (4, .int (nI i)), (3, .ref (ad 4)), (2, .ref (ad 5)), (1, .ref (ad 0)), (0, .ref b)]) hx hb dW_law_896 hl (by decide) rfl (fun ls hl => ?_)
  refine lv_aload_n hx hb dW_law_898 rfl (lv_at hl 4 rfl) ?_
  refine rcV2 (rest := []) (As := []) hx hb hml hown hts hC hG hS (cM_thrown l D tI tJ tL (A0 s) sg ad n Mf.2.1 Mf.2.2) (recM hC hG) (gV q_583 q_584 q_585 q_2 q_586) rfl rfl ⟨rfl, hdyM_thrown⟩ ⟨Nat.le_of_ble_eq_true rfl, Nat.le_of_ble_eq_true rfl⟩ hl.1 rfl (Nat.le_of_ble_eq_true rfl) dW_law_899 ⟨by show _ ≤ 601024; omega, by show _ ≤ 7293034; omega⟩ ?_
  refine lv_iload hx hb dW_law_902 (lv_at hl 1 rfl) ?_
  refine lv_icmp_eq (tgt := 909) hx hb dW_law_904 (by decide) (fun c9 => ?_) (fun c9 => absurd hE.2.1 c9)
  refine lv_iload hx hb dW_law_909 (lv_at hl 1 rfl) ?_
  refine lv_if_ne (tgt := 926) hx hb dW_law_911 (by decide) (fun c8 => ?_) (fun c8 => ?_)
  · refine lv_goto (tgt := 1503) hx hb dW_law_926 (by decide) ?_
    refine W.widen (k := cells + 30) (n := slots + 200) (by omega) (by omega) ?_
    exact cont ad _ _ _ H locs ls hE.2.2.2 hG hS (lv_sub hl [2, 3, 4, 5, 6] rfl)
  · refine lv_aload_n hx hb dW_law_914 rfl (lv_at hl 3 rfl) ?_
    refine lv_iconst (v := 0) hx hb dW_law_915 (by decide) ?_
    refine rt_ld hx hb hC hG dW_law_916 ?_
    refine lv_iload hx hb dW_law_917 (lv_at hl 0 rfl) ?_
    refine lv_i2l (v := (Mf.1 : Int32).toInt64) hx hb dW_law_919 rfl ?_
    refine W.lcmp hx hb dW_law_920 ?_
    refine lv_if_eq (tgt := 926) hx hb dW_law_921 (by decide) (fun c7 => ?_) (fun c7 => absurd (lgc (hE.2.2.1 c8)) c7)
    refine lv_goto (tgt := 1503) hx hb dW_law_926 (by decide) ?_
    refine W.widen (k := cells + 30) (n := slots + 200) (by omega) (by omega) ?_
    exact cont ad _ _ _ H locs ls hE.2.2.2 hG hS (lv_sub hl [2, 3, 4, 5, 6] rfl)
set_option maxHeartbeats 4000000 in
set_option maxRecDepth 100000 in
theorem lc_days {p : Program} {l : Launch} {e : Env} {s : State} {m : MethodId} {below : List Frame} {meth : Method} {c : Code} {b L : Nat} {xs : Nat → Int32} (hl9 : l.stackTraces = false) (hL : L ≤ 2048) (hx : p.tables.exec = Jvm.exec) (hb : c.code = code) (hml : c.maxLocals = 7) (hown : s.vm.findClass "DroitLineLaw" = some m.cls) (hts : ∀ w ∈ wNeed, w.before #[Value.ref b] s = true) (hX : va_X b L xs s s.heap) (hbl : b < s.heap.size)
    {D : va_G} {tI tJ tL : ClassId} {sg : Nat → Nat} (hC : GC D tI tJ tL (A0 s) sg s) {i K cells slots : Nat} (hi : i + 4 ≤ L) (hK : K ≤ 600) (hcl : cells + 30 ≤ 601024) (hsl : slots + 200 ≤ 7293034) {ad : Nat → Nat} {n : Nat} {sL : NL} {sA : NA} (hI : INV n K sL sA) {H : Heap} {locs : List Loc} (hG : GW D tI tJ tL (A0 s) ad n sL sA H) (hS : va_S (A0 s) s.heap H locs) {ls : Array Slot} (hl : lv_has ls 7 [(4, .int (nI i)), (3, .ref (ad 4)), (2, .ref (ad 5)), (1, .ref (ad 0)), (0, .ref b)]) (cont : CONT p l e s m b below meth c D tI tJ tL i K cells slots) :
    W p l e room_1 s m #[Value.ref b] below meth c H locs cells slots (lw_Z below #[Value.ref b] s) (F0 m 929 ls []) := by
  have hbA : ¬ (A0 s) b := Nat.not_le.mpr hbl
  refine lv_aload_n hx hb dW_law_929 rfl (lv_at hl 3 rfl) ?_
  refine lv_aload_n hx hb dW_law_930 rfl (lv_at hl 4 rfl) ?_
  refine lv_iload hx hb dW_law_931 (lv_at hl 0 rfl) ?_
  refine lv_iconst (v := 1) hx hb dW_law_933 (by decide) ?_
  refine lv_iadd hx hb dW_law_934 ?_
  refine va_sld hx hb hX hbl hbA hS (show vp_in (nI i + 1) L from vin_s (k := 1) hL hi (by omega)) dW_law_935 ?_
  refine lv_aload_n hx hb dW_law_936 rfl (lv_at hl 1 rfl) ?_
  refine rcSW (rest := []) (As := [.ref (ad 0), .int (xs ((nI i + 1).toNatClampNeg)), .ref (ad 4)]) hx hb hml hown hts hC hG hS (cW_days l hl9 D tI tJ tL (A0 s) sg ad n sL sA (xs ((nI i + 1).toNatClampNeg))) (gW q_440 q_441 q_0 q_442) rfl rfl hdyW_days ⟨Nat.le_of_ble_eq_true rfl, Nat.le_of_ble_eq_true rfl⟩ hl.1 rfl (Nat.le_of_ble_eq_true rfl) dW_law_937 ⟨by show _ ≤ 601024; omega, by show _ ≤ 7293034; omega⟩ (fun H locs hG hS => ?_)
  have hE := E_days hI hK (xs ((nI i + 1).toNatClampNeg))
  generalize hWe : fW_days sL sA (xs ((nI i + 1).toNatClampNeg)) = Wr at hE hG ⊢
  refine lv_istore (lv' := [(5, .int Wr.1), (4, .int (nI i)), (3, .ref (ad 4)), (2, .ref (ad 5)), (1, .ref (ad 0)), (0, .ref b)]) hx hb dW_law_940 hl (by decide) rfl (fun ls hl => ?_)
  refine lv_aload_n hx hb dW_law_942 rfl (lv_at hl 3 rfl) ?_
  refine lv_aload_n hx hb dW_law_943 rfl (lv_at hl 5 rfl) ?_
  refine lv_iload hx hb dW_law_944 (lv_at hl 1 rfl) ?_
  refine lv_iconst (v := 1) hx hb dW_law_946 (by decide) ?_
  refine lv_iadd hx hb dW_law_947 ?_
  refine va_sld hx hb hX hbl hbA hS (show vp_in (nI i + 1) L from vin_s (k := 1) hL hi (by omega)) dW_law_948 ?_
  refine rcV3 (rest := []) (As := [.int (xs ((nI i + 1).toNatClampNeg))]) hx hb hml hown hts hC hG hS (cM_days l D tI tJ tL (A0 s) sg ad n Wr.2.1 Wr.2.2 (xs ((nI i + 1).toNatClampNeg))) (recM hC hG) (gV q_688 q_689 q_690 q_2 q_691) rfl rfl ⟨rfl, hdyM_days⟩ ⟨Nat.le_of_ble_eq_true rfl, Nat.le_of_ble_eq_true rfl⟩ hl.1 rfl (Nat.le_of_ble_eq_true rfl) dW_law_949 ⟨by show _ ≤ 601024; omega, by show _ ≤ 7293034; omega⟩ (fun H locs hG hS => ?_)
  generalize hMe : fM_days Wr.2.1 Wr.2.2 (xs ((nI i + 1).toNatClampNeg)) = Mf at hE hG ⊢
  refine lv_istore (lv' := [(6, .int Mf.1), (5, .int Wr.1), (4, .int (nI i)), (3, .ref (ad 4)), (2, .ref (ad 5)), (1, .ref (ad 0)), (0, .ref b)]) hx hb dW_law_952 hl (by decide) rfl (fun ls hl => ?_)
  refine lv_aload_n hx hb dW_law_954 rfl (lv_at hl 4 rfl) ?_
  refine rcV2 (rest := []) (As := []) hx hb hml hown hts hC hG hS (cM_thrown l D tI tJ tL (A0 s) sg ad n Mf.2.1 Mf.2.2) (recM hC hG) (gV q_583 q_584 q_585 q_2 q_586) rfl rfl ⟨rfl, hdyM_thrown⟩ ⟨Nat.le_of_ble_eq_true rfl, Nat.le_of_ble_eq_true rfl⟩ hl.1 rfl (Nat.le_of_ble_eq_true rfl) dW_law_955 ⟨by show _ ≤ 601024; omega, by show _ ≤ 7293034; omega⟩ ?_
  refine lv_iload hx hb dW_law_958 (lv_at hl 1 rfl) ?_
  refine lv_icmp_eq (tgt := 965) hx hb dW_law_960 (by decide) (fun c9 => ?_) (fun c9 => absurd hE.2.1 c9)
  refine lv_iload hx hb dW_law_965 (lv_at hl 1 rfl) ?_
  refine lv_if_ne (tgt := 982) hx hb dW_law_967 (by decide) (fun c8 => ?_) (fun c8 => ?_)
  · refine lv_goto (tgt := 1503) hx hb dW_law_982 (by decide) ?_
    refine W.widen (k := cells + 30) (n := slots + 200) (by omega) (by omega) ?_
    exact cont ad _ _ _ H locs ls hE.2.2.2 hG hS (lv_sub hl [2, 3, 4, 5, 6] rfl)
  · refine lv_aload_n hx hb dW_law_970 rfl (lv_at hl 3 rfl) ?_
    refine lv_iconst (v := 0) hx hb dW_law_971 (by decide) ?_
    refine rt_ld hx hb hC hG dW_law_972 ?_
    refine lv_iload hx hb dW_law_973 (lv_at hl 0 rfl) ?_
    refine lv_i2l (v := (Mf.1 : Int32).toInt64) hx hb dW_law_975 rfl ?_
    refine W.lcmp hx hb dW_law_976 ?_
    refine lv_if_eq (tgt := 982) hx hb dW_law_977 (by decide) (fun c7 => ?_) (fun c7 => absurd (lgc (hE.2.2.1 c8)) c7)
    refine lv_goto (tgt := 1503) hx hb dW_law_982 (by decide) ?_
    refine W.widen (k := cells + 30) (n := slots + 200) (by omega) (by omega) ?_
    exact cont ad _ _ _ H locs ls hE.2.2.2 hG hS (lv_sub hl [2, 3, 4, 5, 6] rfl)
set_option maxHeartbeats 4000000 in
set_option maxRecDepth 100000 in
theorem lc_state {p : Program} {l : Launch} {e : Env} {s : State} {m : MethodId} {below : List Frame} {meth : Method} {c : Code} {b L : Nat} {xs : Nat → Int32} (hl9 : l.stackTraces = false) (hL : L ≤ 2048) (hx : p.tables.exec = Jvm.exec) (hb : c.code = code) (hml : c.maxLocals = 7) (hown : s.vm.findClass "DroitLineLaw" = some m.cls) (hts : ∀ w ∈ wNeed, w.before #[Value.ref b] s = true) (hX : va_X b L xs s s.heap) (hbl : b < s.heap.size)
    {D : va_G} {tI tJ tL : ClassId} {sg : Nat → Nat} (hC : GC D tI tJ tL (A0 s) sg s) {i K cells slots : Nat} (hi : i + 4 ≤ L) (hK : K ≤ 600) (hcl : cells + 30 ≤ 601024) (hsl : slots + 200 ≤ 7293034) {ad : Nat → Nat} {n : Nat} {sL : NL} {sA : NA} (hI : INV n K sL sA) {H : Heap} {locs : List Loc} (hG : GW D tI tJ tL (A0 s) ad n sL sA H) (hS : va_S (A0 s) s.heap H locs) {ls : Array Slot} (hl : lv_has ls 7 [(4, .int (nI i)), (3, .ref (ad 4)), (2, .ref (ad 5)), (1, .ref (ad 0)), (0, .ref b)]) (cont : CONT p l e s m b below meth c D tI tJ tL i K cells slots) :
    W p l e room_1 s m #[Value.ref b] below meth c H locs cells slots (lw_Z below #[Value.ref b] s) (F0 m 985 ls []) := by
  have hbA : ¬ (A0 s) b := Nat.not_le.mpr hbl
  refine lv_aload_n hx hb dW_law_985 rfl (lv_at hl 3 rfl) ?_
  refine lv_aload_n hx hb dW_law_986 rfl (lv_at hl 4 rfl) ?_
  refine lv_iload hx hb dW_law_987 (lv_at hl 0 rfl) ?_
  refine lv_iconst (v := 1) hx hb dW_law_989 (by decide) ?_
  refine lv_iadd hx hb dW_law_990 ?_
  refine va_sld hx hb hX hbl hbA hS (show vp_in (nI i + 1) L from vin_s (k := 1) hL hi (by omega)) dW_law_991 ?_
  refine lv_aload_n hx hb dW_law_992 rfl (lv_at hl 1 rfl) ?_
  refine rcSW (rest := []) (As := [.ref (ad 0), .int (xs ((nI i + 1).toNatClampNeg)), .ref (ad 4)]) hx hb hml hown hts hC hG hS (cW_state l hl9 D tI tJ tL (A0 s) sg ad n sL sA (xs ((nI i + 1).toNatClampNeg))) (gW q_448 q_449 q_0 q_450) rfl rfl hdyW_state ⟨Nat.le_of_ble_eq_true rfl, Nat.le_of_ble_eq_true rfl⟩ hl.1 rfl (Nat.le_of_ble_eq_true rfl) dW_law_993 ⟨by show _ ≤ 601024; omega, by show _ ≤ 7293034; omega⟩ (fun H locs hG hS => ?_)
  have hE := E_state hI hK (xs ((nI i + 1).toNatClampNeg))
  generalize hWe : fW_state n sL sA (xs ((nI i + 1).toNatClampNeg)) = Wr at hE hG ⊢
  refine lv_istore (lv' := [(5, .int Wr.1), (4, .int (nI i)), (3, .ref (ad 4)), (2, .ref (ad 5)), (1, .ref (ad 0)), (0, .ref b)]) hx hb dW_law_996 hl (by decide) rfl (fun ls hl => ?_)
  refine lv_aload_n hx hb dW_law_998 rfl (lv_at hl 3 rfl) ?_
  refine lv_aload_n hx hb dW_law_999 rfl (lv_at hl 5 rfl) ?_
  refine lv_iload hx hb dW_law_1000 (lv_at hl 1 rfl) ?_
  refine lv_iconst (v := 1) hx hb dW_law_1002 (by decide) ?_
  refine lv_iadd hx hb dW_law_1003 ?_
  refine va_sld hx hb hX hbl hbA hS (show vp_in (nI i + 1) L from vin_s (k := 1) hL hi (by omega)) dW_law_1004 ?_
  refine rcV3 (rest := []) (As := [.int (xs ((nI i + 1).toNatClampNeg))]) hx hb hml hown hts hC hG hS (cM_state l D tI tJ tL (A0 s) sg ad n Wr.2.1 Wr.2.2 (xs ((nI i + 1).toNatClampNeg)) n hE.1.1 hE.1.2.1) (recM hC hG) (gV q_692 q_693 q_694 q_2 q_695) rfl rfl ⟨rfl, hdyM_state⟩ ⟨Nat.le_of_ble_eq_true rfl, Nat.le_of_ble_eq_true rfl⟩ hl.1 rfl (Nat.le_of_ble_eq_true rfl) dW_law_1005 ⟨by show _ ≤ 601024; omega, by show _ ≤ 7293034; omega⟩ (fun H locs hG hS => ?_)
  generalize hMe : fM_state Wr.2.1 Wr.2.2 (xs ((nI i + 1).toNatClampNeg)) = Mf at hE hG ⊢
  refine lv_istore (lv' := [(6, .int Mf.1), (5, .int Wr.1), (4, .int (nI i)), (3, .ref (ad 4)), (2, .ref (ad 5)), (1, .ref (ad 0)), (0, .ref b)]) hx hb dW_law_1008 hl (by decide) rfl (fun ls hl => ?_)
  refine lv_aload_n hx hb dW_law_1010 rfl (lv_at hl 4 rfl) ?_
  refine rcV2 (rest := []) (As := []) hx hb hml hown hts hC hG hS (cM_thrown l D tI tJ tL (A0 s) sg ad n Mf.2.1 Mf.2.2) (recM hC hG) (gV q_583 q_584 q_585 q_2 q_586) rfl rfl ⟨rfl, hdyM_thrown⟩ ⟨Nat.le_of_ble_eq_true rfl, Nat.le_of_ble_eq_true rfl⟩ hl.1 rfl (Nat.le_of_ble_eq_true rfl) dW_law_1011 ⟨by show _ ≤ 601024; omega, by show _ ≤ 7293034; omega⟩ ?_
  refine lv_iload hx hb dW_law_1014 (lv_at hl 1 rfl) ?_
  refine lv_icmp_eq (tgt := 1021) hx hb dW_law_1016 (by decide) (fun c9 => ?_) (fun c9 => absurd hE.2.1 c9)
  refine lv_iload hx hb dW_law_1021 (lv_at hl 1 rfl) ?_
  refine lv_if_ne (tgt := 1038) hx hb dW_law_1023 (by decide) (fun c8 => ?_) (fun c8 => ?_)
  · refine lv_goto (tgt := 1503) hx hb dW_law_1038 (by decide) ?_
    refine W.widen (k := cells + 30) (n := slots + 200) (by omega) (by omega) ?_
    exact cont ad _ _ _ H locs ls hE.2.2.2 hG hS (lv_sub hl [2, 3, 4, 5, 6] rfl)
  · refine lv_aload_n hx hb dW_law_1026 rfl (lv_at hl 3 rfl) ?_
    refine lv_iconst (v := 0) hx hb dW_law_1027 (by decide) ?_
    refine rt_ld hx hb hC hG dW_law_1028 ?_
    refine lv_iload hx hb dW_law_1029 (lv_at hl 0 rfl) ?_
    refine lv_i2l (v := (Mf.1 : Int32).toInt64) hx hb dW_law_1031 rfl ?_
    refine W.lcmp hx hb dW_law_1032 ?_
    refine lv_if_eq (tgt := 1038) hx hb dW_law_1033 (by decide) (fun c7 => ?_) (fun c7 => absurd (lgc (hE.2.2.1 c8)) c7)
    refine lv_goto (tgt := 1503) hx hb dW_law_1038 (by decide) ?_
    refine W.widen (k := cells + 30) (n := slots + 200) (by omega) (by omega) ?_
    exact cont ad _ _ _ H locs ls hE.2.2.2 hG hS (lv_sub hl [2, 3, 4, 5, 6] rfl)
set_option maxHeartbeats 4000000 in
set_option maxRecDepth 100000 in
theorem lc_buyerOf {p : Program} {l : Launch} {e : Env} {s : State} {m : MethodId} {below : List Frame} {meth : Method} {c : Code} {b L : Nat} {xs : Nat → Int32} (hl9 : l.stackTraces = false) (hL : L ≤ 2048) (hx : p.tables.exec = Jvm.exec) (hb : c.code = code) (hml : c.maxLocals = 7) (hown : s.vm.findClass "DroitLineLaw" = some m.cls) (hts : ∀ w ∈ wNeed, w.before #[Value.ref b] s = true) (hX : va_X b L xs s s.heap) (hbl : b < s.heap.size)
    {D : va_G} {tI tJ tL : ClassId} {sg : Nat → Nat} (hC : GC D tI tJ tL (A0 s) sg s) {i K cells slots : Nat} (hi : i + 4 ≤ L) (hK : K ≤ 600) (hcl : cells + 30 ≤ 601024) (hsl : slots + 200 ≤ 7293034) {ad : Nat → Nat} {n : Nat} {sL : NL} {sA : NA} (hI : INV n K sL sA) {H : Heap} {locs : List Loc} (hG : GW D tI tJ tL (A0 s) ad n sL sA H) (hS : va_S (A0 s) s.heap H locs) {ls : Array Slot} (hl : lv_has ls 7 [(4, .int (nI i)), (3, .ref (ad 4)), (2, .ref (ad 5)), (1, .ref (ad 0)), (0, .ref b)]) (cont : CONT p l e s m b below meth c D tI tJ tL i K cells slots) :
    W p l e room_1 s m #[Value.ref b] below meth c H locs cells slots (lw_Z below #[Value.ref b] s) (F0 m 1041 ls []) := by
  have hbA : ¬ (A0 s) b := Nat.not_le.mpr hbl
  refine lv_aload_n hx hb dW_law_1041 rfl (lv_at hl 3 rfl) ?_
  refine lv_aload_n hx hb dW_law_1042 rfl (lv_at hl 4 rfl) ?_
  refine lv_iload hx hb dW_law_1043 (lv_at hl 0 rfl) ?_
  refine lv_iconst (v := 1) hx hb dW_law_1045 (by decide) ?_
  refine lv_iadd hx hb dW_law_1046 ?_
  refine va_sld hx hb hX hbl hbA hS (show vp_in (nI i + 1) L from vin_s (k := 1) hL hi (by omega)) dW_law_1047 ?_
  refine lv_aload_n hx hb dW_law_1048 rfl (lv_at hl 1 rfl) ?_
  refine rcSW (rest := []) (As := [.ref (ad 0), .int (xs ((nI i + 1).toNatClampNeg)), .ref (ad 4)]) hx hb hml hown hts hC hG hS (cW_buyerOf l hl9 D tI tJ tL (A0 s) sg ad n sL sA (xs ((nI i + 1).toNatClampNeg))) (gW q_455 q_456 q_0 q_457) rfl rfl hdyW_buyerOf ⟨Nat.le_of_ble_eq_true rfl, Nat.le_of_ble_eq_true rfl⟩ hl.1 rfl (Nat.le_of_ble_eq_true rfl) dW_law_1049 ⟨by show _ ≤ 601024; omega, by show _ ≤ 7293034; omega⟩ (fun H locs hG hS => ?_)
  have hE := E_buyerOf hI hK (xs ((nI i + 1).toNatClampNeg))
  generalize hWe : fW_buyerOf n sL sA (xs ((nI i + 1).toNatClampNeg)) = Wr at hE hG ⊢
  refine lv_istore (lv' := [(5, .int Wr.1), (4, .int (nI i)), (3, .ref (ad 4)), (2, .ref (ad 5)), (1, .ref (ad 0)), (0, .ref b)]) hx hb dW_law_1052 hl (by decide) rfl (fun ls hl => ?_)
  refine lv_aload_n hx hb dW_law_1054 rfl (lv_at hl 3 rfl) ?_
  refine lv_aload_n hx hb dW_law_1055 rfl (lv_at hl 5 rfl) ?_
  refine lv_iload hx hb dW_law_1056 (lv_at hl 1 rfl) ?_
  refine lv_iconst (v := 1) hx hb dW_law_1058 (by decide) ?_
  refine lv_iadd hx hb dW_law_1059 ?_
  refine va_sld hx hb hX hbl hbA hS (show vp_in (nI i + 1) L from vin_s (k := 1) hL hi (by omega)) dW_law_1060 ?_
  refine rcV3 (rest := []) (As := [.int (xs ((nI i + 1).toNatClampNeg))]) hx hb hml hown hts hC hG hS (cM_buyerOf l D tI tJ tL (A0 s) sg ad n Wr.2.1 Wr.2.2 (xs ((nI i + 1).toNatClampNeg)) n hE.1.1 hE.1.2.1) (recM hC hG) (gV q_700 q_701 q_702 q_2 q_703) rfl rfl ⟨rfl, hdyM_buyerOf⟩ ⟨Nat.le_of_ble_eq_true rfl, Nat.le_of_ble_eq_true rfl⟩ hl.1 rfl (Nat.le_of_ble_eq_true rfl) dW_law_1061 ⟨by show _ ≤ 601024; omega, by show _ ≤ 7293034; omega⟩ (fun H locs hG hS => ?_)
  generalize hMe : fM_buyerOf Wr.2.1 Wr.2.2 (xs ((nI i + 1).toNatClampNeg)) = Mf at hE hG ⊢
  refine lv_istore (lv' := [(6, .int Mf.1), (5, .int Wr.1), (4, .int (nI i)), (3, .ref (ad 4)), (2, .ref (ad 5)), (1, .ref (ad 0)), (0, .ref b)]) hx hb dW_law_1064 hl (by decide) rfl (fun ls hl => ?_)
  refine lv_aload_n hx hb dW_law_1066 rfl (lv_at hl 4 rfl) ?_
  refine rcV2 (rest := []) (As := []) hx hb hml hown hts hC hG hS (cM_thrown l D tI tJ tL (A0 s) sg ad n Mf.2.1 Mf.2.2) (recM hC hG) (gV q_583 q_584 q_585 q_2 q_586) rfl rfl ⟨rfl, hdyM_thrown⟩ ⟨Nat.le_of_ble_eq_true rfl, Nat.le_of_ble_eq_true rfl⟩ hl.1 rfl (Nat.le_of_ble_eq_true rfl) dW_law_1067 ⟨by show _ ≤ 601024; omega, by show _ ≤ 7293034; omega⟩ ?_
  refine lv_iload hx hb dW_law_1070 (lv_at hl 1 rfl) ?_
  refine lv_icmp_eq (tgt := 1077) hx hb dW_law_1072 (by decide) (fun c9 => ?_) (fun c9 => absurd hE.2.1 c9)
  refine lv_iload hx hb dW_law_1077 (lv_at hl 1 rfl) ?_
  refine lv_if_ne (tgt := 1094) hx hb dW_law_1079 (by decide) (fun c8 => ?_) (fun c8 => ?_)
  · refine lv_goto (tgt := 1503) hx hb dW_law_1094 (by decide) ?_
    refine W.widen (k := cells + 30) (n := slots + 200) (by omega) (by omega) ?_
    exact cont ad _ _ _ H locs ls hE.2.2.2 hG hS (lv_sub hl [2, 3, 4, 5, 6] rfl)
  · refine lv_aload_n hx hb dW_law_1082 rfl (lv_at hl 3 rfl) ?_
    refine lv_iconst (v := 0) hx hb dW_law_1083 (by decide) ?_
    refine rt_ld hx hb hC hG dW_law_1084 ?_
    refine lv_iload hx hb dW_law_1085 (lv_at hl 0 rfl) ?_
    refine lv_i2l (v := (Mf.1 : Int32).toInt64) hx hb dW_law_1087 rfl ?_
    refine W.lcmp hx hb dW_law_1088 ?_
    refine lv_if_eq (tgt := 1094) hx hb dW_law_1089 (by decide) (fun c7 => ?_) (fun c7 => absurd (lgc (hE.2.2.1 c8)) c7)
    refine lv_goto (tgt := 1503) hx hb dW_law_1094 (by decide) ?_
    refine W.widen (k := cells + 30) (n := slots + 200) (by omega) (by omega) ?_
    exact cont ad _ _ _ H locs ls hE.2.2.2 hG hS (lv_sub hl [2, 3, 4, 5, 6] rfl)
set_option maxHeartbeats 4000000 in
set_option maxRecDepth 100000 in
theorem lc_price {p : Program} {l : Launch} {e : Env} {s : State} {m : MethodId} {below : List Frame} {meth : Method} {c : Code} {b L : Nat} {xs : Nat → Int32} (hl9 : l.stackTraces = false) (hL : L ≤ 2048) (hx : p.tables.exec = Jvm.exec) (hb : c.code = code) (hml : c.maxLocals = 7) (hown : s.vm.findClass "DroitLineLaw" = some m.cls) (hts : ∀ w ∈ wNeed, w.before #[Value.ref b] s = true) (hX : va_X b L xs s s.heap) (hbl : b < s.heap.size)
    {D : va_G} {tI tJ tL : ClassId} {sg : Nat → Nat} (hC : GC D tI tJ tL (A0 s) sg s) {i K cells slots : Nat} (hi : i + 4 ≤ L) (hK : K ≤ 600) (hcl : cells + 30 ≤ 601024) (hsl : slots + 200 ≤ 7293034) {ad : Nat → Nat} {n : Nat} {sL : NL} {sA : NA} (hI : INV n K sL sA) {H : Heap} {locs : List Loc} (hG : GW D tI tJ tL (A0 s) ad n sL sA H) (hS : va_S (A0 s) s.heap H locs) {ls : Array Slot} (hl : lv_has ls 7 [(4, .int (nI i)), (3, .ref (ad 4)), (2, .ref (ad 5)), (1, .ref (ad 0)), (0, .ref b)]) (cont : CONT p l e s m b below meth c D tI tJ tL i K cells slots) :
    W p l e room_1 s m #[Value.ref b] below meth c H locs cells slots (lw_Z below #[Value.ref b] s) (F0 m 1097 ls []) := by
  have hbA : ¬ (A0 s) b := Nat.not_le.mpr hbl
  refine lv_aload_n hx hb dW_law_1097 rfl (lv_at hl 3 rfl) ?_
  refine lv_aload_n hx hb dW_law_1098 rfl (lv_at hl 4 rfl) ?_
  refine lv_iload hx hb dW_law_1099 (lv_at hl 0 rfl) ?_
  refine lv_iconst (v := 1) hx hb dW_law_1101 (by decide) ?_
  refine lv_iadd hx hb dW_law_1102 ?_
  refine va_sld hx hb hX hbl hbA hS (show vp_in (nI i + 1) L from vin_s (k := 1) hL hi (by omega)) dW_law_1103 ?_
  refine lv_aload_n hx hb dW_law_1104 rfl (lv_at hl 1 rfl) ?_
  refine rcSW (rest := []) (As := [.ref (ad 0), .int (xs ((nI i + 1).toNatClampNeg)), .ref (ad 4)]) hx hb hml hown hts hC hG hS (cW_price l hl9 D tI tJ tL (A0 s) sg ad n sL sA (xs ((nI i + 1).toNatClampNeg))) (gW q_462 q_463 q_0 q_464) rfl rfl hdyW_price ⟨Nat.le_of_ble_eq_true rfl, Nat.le_of_ble_eq_true rfl⟩ hl.1 rfl (Nat.le_of_ble_eq_true rfl) dW_law_1105 ⟨by show _ ≤ 601024; omega, by show _ ≤ 7293034; omega⟩ (fun H locs hG hS => ?_)
  have hE := E_price hI hK (xs ((nI i + 1).toNatClampNeg))
  generalize hWe : fW_price n sL sA (xs ((nI i + 1).toNatClampNeg)) = Wr at hE hG ⊢
  refine lv_istore (lv' := [(5, .int Wr.1), (4, .int (nI i)), (3, .ref (ad 4)), (2, .ref (ad 5)), (1, .ref (ad 0)), (0, .ref b)]) hx hb dW_law_1108 hl (by decide) rfl (fun ls hl => ?_)
  refine lv_aload_n hx hb dW_law_1110 rfl (lv_at hl 3 rfl) ?_
  refine lv_aload_n hx hb dW_law_1111 rfl (lv_at hl 5 rfl) ?_
  refine lv_iload hx hb dW_law_1112 (lv_at hl 1 rfl) ?_
  refine lv_iconst (v := 1) hx hb dW_law_1114 (by decide) ?_
  refine lv_iadd hx hb dW_law_1115 ?_
  refine va_sld hx hb hX hbl hbA hS (show vp_in (nI i + 1) L from vin_s (k := 1) hL hi (by omega)) dW_law_1116 ?_
  refine rcV3 (rest := []) (As := [.int (xs ((nI i + 1).toNatClampNeg))]) hx hb hml hown hts hC hG hS (cM_price l D tI tJ tL (A0 s) sg ad n Wr.2.1 Wr.2.2 (xs ((nI i + 1).toNatClampNeg)) n hE.1.1 hE.1.2.1) (recM hC hG) (gV q_704 q_705 q_706 q_2 q_707) rfl rfl ⟨rfl, hdyM_price⟩ ⟨Nat.le_of_ble_eq_true rfl, Nat.le_of_ble_eq_true rfl⟩ hl.1 rfl (Nat.le_of_ble_eq_true rfl) dW_law_1117 ⟨by show _ ≤ 601024; omega, by show _ ≤ 7293034; omega⟩ (fun H locs hG hS => ?_)
  generalize hMe : fM_price Wr.2.1 Wr.2.2 (xs ((nI i + 1).toNatClampNeg)) = Mf at hE hG ⊢
  refine lv_istore (lv' := [(6, .int Mf.1), (5, .int Wr.1), (4, .int (nI i)), (3, .ref (ad 4)), (2, .ref (ad 5)), (1, .ref (ad 0)), (0, .ref b)]) hx hb dW_law_1120 hl (by decide) rfl (fun ls hl => ?_)
  refine lv_aload_n hx hb dW_law_1122 rfl (lv_at hl 4 rfl) ?_
  refine rcV2 (rest := []) (As := []) hx hb hml hown hts hC hG hS (cM_thrown l D tI tJ tL (A0 s) sg ad n Mf.2.1 Mf.2.2) (recM hC hG) (gV q_583 q_584 q_585 q_2 q_586) rfl rfl ⟨rfl, hdyM_thrown⟩ ⟨Nat.le_of_ble_eq_true rfl, Nat.le_of_ble_eq_true rfl⟩ hl.1 rfl (Nat.le_of_ble_eq_true rfl) dW_law_1123 ⟨by show _ ≤ 601024; omega, by show _ ≤ 7293034; omega⟩ ?_
  refine lv_iload hx hb dW_law_1126 (lv_at hl 1 rfl) ?_
  refine lv_icmp_eq (tgt := 1133) hx hb dW_law_1128 (by decide) (fun c9 => ?_) (fun c9 => absurd hE.2.1 c9)
  refine lv_iload hx hb dW_law_1133 (lv_at hl 1 rfl) ?_
  refine lv_if_ne (tgt := 1150) hx hb dW_law_1135 (by decide) (fun c8 => ?_) (fun c8 => ?_)
  · refine lv_goto (tgt := 1503) hx hb dW_law_1150 (by decide) ?_
    refine W.widen (k := cells + 30) (n := slots + 200) (by omega) (by omega) ?_
    exact cont ad _ _ _ H locs ls hE.2.2.2 hG hS (lv_sub hl [2, 3, 4, 5, 6] rfl)
  · refine lv_aload_n hx hb dW_law_1138 rfl (lv_at hl 3 rfl) ?_
    refine lv_iconst (v := 0) hx hb dW_law_1139 (by decide) ?_
    refine rt_ld hx hb hC hG dW_law_1140 ?_
    refine lv_iload hx hb dW_law_1141 (lv_at hl 0 rfl) ?_
    refine lv_i2l (v := (Mf.1 : Int32).toInt64) hx hb dW_law_1143 rfl ?_
    refine W.lcmp hx hb dW_law_1144 ?_
    refine lv_if_eq (tgt := 1150) hx hb dW_law_1145 (by decide) (fun c7 => ?_) (fun c7 => absurd (lgc (hE.2.2.1 c8)) c7)
    refine lv_goto (tgt := 1503) hx hb dW_law_1150 (by decide) ?_
    refine W.widen (k := cells + 30) (n := slots + 200) (by omega) (by omega) ?_
    exact cont ad _ _ _ H locs ls hE.2.2.2 hG hS (lv_sub hl [2, 3, 4, 5, 6] rfl)
set_option maxHeartbeats 4000000 in
set_option maxRecDepth 100000 in
theorem lc_bids {p : Program} {l : Launch} {e : Env} {s : State} {m : MethodId} {below : List Frame} {meth : Method} {c : Code} {b L : Nat} {xs : Nat → Int32} (hl9 : l.stackTraces = false) (hL : L ≤ 2048) (hx : p.tables.exec = Jvm.exec) (hb : c.code = code) (hml : c.maxLocals = 7) (hown : s.vm.findClass "DroitLineLaw" = some m.cls) (hts : ∀ w ∈ wNeed, w.before #[Value.ref b] s = true) (hX : va_X b L xs s s.heap) (hbl : b < s.heap.size)
    {D : va_G} {tI tJ tL : ClassId} {sg : Nat → Nat} (hC : GC D tI tJ tL (A0 s) sg s) {i K cells slots : Nat} (hi : i + 4 ≤ L) (hK : K ≤ 600) (hcl : cells + 30 ≤ 601024) (hsl : slots + 200 ≤ 7293034) {ad : Nat → Nat} {n : Nat} {sL : NL} {sA : NA} (hI : INV n K sL sA) {H : Heap} {locs : List Loc} (hG : GW D tI tJ tL (A0 s) ad n sL sA H) (hS : va_S (A0 s) s.heap H locs) {ls : Array Slot} (hl : lv_has ls 7 [(4, .int (nI i)), (3, .ref (ad 4)), (2, .ref (ad 5)), (1, .ref (ad 0)), (0, .ref b)]) (cont : CONT p l e s m b below meth c D tI tJ tL i K cells slots) :
    W p l e room_1 s m #[Value.ref b] below meth c H locs cells slots (lw_Z below #[Value.ref b] s) (F0 m 1153 ls []) := by
  have hbA : ¬ (A0 s) b := Nat.not_le.mpr hbl
  refine lv_aload_n hx hb dW_law_1153 rfl (lv_at hl 3 rfl) ?_
  refine lv_aload_n hx hb dW_law_1154 rfl (lv_at hl 4 rfl) ?_
  refine lv_iload hx hb dW_law_1155 (lv_at hl 0 rfl) ?_
  refine lv_iconst (v := 1) hx hb dW_law_1157 (by decide) ?_
  refine lv_iadd hx hb dW_law_1158 ?_
  refine va_sld hx hb hX hbl hbA hS (show vp_in (nI i + 1) L from vin_s (k := 1) hL hi (by omega)) dW_law_1159 ?_
  refine lv_aload_n hx hb dW_law_1160 rfl (lv_at hl 1 rfl) ?_
  refine rcSW (rest := []) (As := [.ref (ad 0), .int (xs ((nI i + 1).toNatClampNeg)), .ref (ad 4)]) hx hb hml hown hts hC hG hS (cW_bids l hl9 D tI tJ tL (A0 s) sg ad n sL sA (xs ((nI i + 1).toNatClampNeg))) (gW q_469 q_470 q_0 q_471) rfl rfl hdyW_bids ⟨Nat.le_of_ble_eq_true rfl, Nat.le_of_ble_eq_true rfl⟩ hl.1 rfl (Nat.le_of_ble_eq_true rfl) dW_law_1161 ⟨by show _ ≤ 601024; omega, by show _ ≤ 7293034; omega⟩ (fun H locs hG hS => ?_)
  have hE := E_bids hI hK (xs ((nI i + 1).toNatClampNeg))
  generalize hWe : fW_bids n sL sA (xs ((nI i + 1).toNatClampNeg)) = Wr at hE hG ⊢
  refine lv_istore (lv' := [(5, .int Wr.1), (4, .int (nI i)), (3, .ref (ad 4)), (2, .ref (ad 5)), (1, .ref (ad 0)), (0, .ref b)]) hx hb dW_law_1164 hl (by decide) rfl (fun ls hl => ?_)
  refine lv_aload_n hx hb dW_law_1166 rfl (lv_at hl 3 rfl) ?_
  refine lv_aload_n hx hb dW_law_1167 rfl (lv_at hl 5 rfl) ?_
  refine lv_iload hx hb dW_law_1168 (lv_at hl 1 rfl) ?_
  refine lv_iconst (v := 1) hx hb dW_law_1170 (by decide) ?_
  refine lv_iadd hx hb dW_law_1171 ?_
  refine va_sld hx hb hX hbl hbA hS (show vp_in (nI i + 1) L from vin_s (k := 1) hL hi (by omega)) dW_law_1172 ?_
  refine rcV3 (rest := []) (As := [.int (xs ((nI i + 1).toNatClampNeg))]) hx hb hml hown hts hC hG hS (cM_bids l D tI tJ tL (A0 s) sg ad n Wr.2.1 Wr.2.2 (xs ((nI i + 1).toNatClampNeg)) n hE.1.1 hE.1.2.1) (recM hC hG) (gV q_708 q_709 q_710 q_2 q_711) rfl rfl ⟨rfl, hdyM_bids⟩ ⟨Nat.le_of_ble_eq_true rfl, Nat.le_of_ble_eq_true rfl⟩ hl.1 rfl (Nat.le_of_ble_eq_true rfl) dW_law_1173 ⟨by show _ ≤ 601024; omega, by show _ ≤ 7293034; omega⟩ (fun H locs hG hS => ?_)
  generalize hMe : fM_bids Wr.2.1 Wr.2.2 (xs ((nI i + 1).toNatClampNeg)) = Mf at hE hG ⊢
  refine lv_istore (lv' := [(6, .int Mf.1), (5, .int Wr.1), (4, .int (nI i)), (3, .ref (ad 4)), (2, .ref (ad 5)), (1, .ref (ad 0)), (0, .ref b)]) hx hb dW_law_1176 hl (by decide) rfl (fun ls hl => ?_)
  refine lv_aload_n hx hb dW_law_1178 rfl (lv_at hl 4 rfl) ?_
  refine rcV2 (rest := []) (As := []) hx hb hml hown hts hC hG hS (cM_thrown l D tI tJ tL (A0 s) sg ad n Mf.2.1 Mf.2.2) (recM hC hG) (gV q_583 q_584 q_585 q_2 q_586) rfl rfl ⟨rfl, hdyM_thrown⟩ ⟨Nat.le_of_ble_eq_true rfl, Nat.le_of_ble_eq_true rfl⟩ hl.1 rfl (Nat.le_of_ble_eq_true rfl) dW_law_1179 ⟨by show _ ≤ 601024; omega, by show _ ≤ 7293034; omega⟩ ?_
  refine lv_iload hx hb dW_law_1182 (lv_at hl 1 rfl) ?_
  refine lv_icmp_eq (tgt := 1189) hx hb dW_law_1184 (by decide) (fun c9 => ?_) (fun c9 => absurd hE.2.1 c9)
  refine lv_iload hx hb dW_law_1189 (lv_at hl 1 rfl) ?_
  refine lv_if_ne (tgt := 1206) hx hb dW_law_1191 (by decide) (fun c8 => ?_) (fun c8 => ?_)
  · refine lv_goto (tgt := 1503) hx hb dW_law_1206 (by decide) ?_
    refine W.widen (k := cells + 30) (n := slots + 200) (by omega) (by omega) ?_
    exact cont ad _ _ _ H locs ls hE.2.2.2 hG hS (lv_sub hl [2, 3, 4, 5, 6] rfl)
  · refine lv_aload_n hx hb dW_law_1194 rfl (lv_at hl 3 rfl) ?_
    refine lv_iconst (v := 0) hx hb dW_law_1195 (by decide) ?_
    refine rt_ld hx hb hC hG dW_law_1196 ?_
    refine lv_iload hx hb dW_law_1197 (lv_at hl 0 rfl) ?_
    refine lv_i2l (v := (Mf.1 : Int32).toInt64) hx hb dW_law_1199 rfl ?_
    refine W.lcmp hx hb dW_law_1200 ?_
    refine lv_if_eq (tgt := 1206) hx hb dW_law_1201 (by decide) (fun c7 => ?_) (fun c7 => absurd (lgc (hE.2.2.1 c8)) c7)
    refine lv_goto (tgt := 1503) hx hb dW_law_1206 (by decide) ?_
    refine W.widen (k := cells + 30) (n := slots + 200) (by omega) (by omega) ?_
    exact cont ad _ _ _ H locs ls hE.2.2.2 hG hS (lv_sub hl [2, 3, 4, 5, 6] rfl)
set_option maxHeartbeats 4000000 in
set_option maxRecDepth 100000 in
theorem lc_fee {p : Program} {l : Launch} {e : Env} {s : State} {m : MethodId} {below : List Frame} {meth : Method} {c : Code} {b L : Nat} {xs : Nat → Int32} (hl9 : l.stackTraces = false) (hL : L ≤ 2048) (hx : p.tables.exec = Jvm.exec) (hb : c.code = code) (hml : c.maxLocals = 7) (hown : s.vm.findClass "DroitLineLaw" = some m.cls) (hts : ∀ w ∈ wNeed, w.before #[Value.ref b] s = true) (hX : va_X b L xs s s.heap) (hbl : b < s.heap.size)
    {D : va_G} {tI tJ tL : ClassId} {sg : Nat → Nat} (hC : GC D tI tJ tL (A0 s) sg s) {i K cells slots : Nat} (hi : i + 4 ≤ L) (hK : K ≤ 600) (hcl : cells + 30 ≤ 601024) (hsl : slots + 200 ≤ 7293034) {ad : Nat → Nat} {n : Nat} {sL : NL} {sA : NA} (hI : INV n K sL sA) {H : Heap} {locs : List Loc} (hG : GW D tI tJ tL (A0 s) ad n sL sA H) (hS : va_S (A0 s) s.heap H locs) {ls : Array Slot} (hl : lv_has ls 7 [(4, .int (nI i)), (3, .ref (ad 4)), (2, .ref (ad 5)), (1, .ref (ad 0)), (0, .ref b)]) (cont : CONT p l e s m b below meth c D tI tJ tL i K cells slots) :
    W p l e room_1 s m #[Value.ref b] below meth c H locs cells slots (lw_Z below #[Value.ref b] s) (F0 m 1209 ls []) := by
  have hbA : ¬ (A0 s) b := Nat.not_le.mpr hbl
  refine lv_aload_n hx hb dW_law_1209 rfl (lv_at hl 3 rfl) ?_
  refine lv_aload_n hx hb dW_law_1210 rfl (lv_at hl 4 rfl) ?_
  refine lv_iload hx hb dW_law_1211 (lv_at hl 0 rfl) ?_
  refine lv_iconst (v := 1) hx hb dW_law_1213 (by decide) ?_
  refine lv_iadd hx hb dW_law_1214 ?_
  refine va_sld hx hb hX hbl hbA hS (show vp_in (nI i + 1) L from vin_s (k := 1) hL hi (by omega)) dW_law_1215 ?_
  refine lv_aload_n hx hb dW_law_1216 rfl (lv_at hl 1 rfl) ?_
  refine rcSW (rest := []) (As := [.ref (ad 0), .int (xs ((nI i + 1).toNatClampNeg)), .ref (ad 4)]) hx hb hml hown hts hC hG hS (cW_fee l hl9 D tI tJ tL (A0 s) sg ad n sL sA (xs ((nI i + 1).toNatClampNeg))) (gW q_476 q_477 q_0 q_478) rfl rfl hdyW_fee ⟨Nat.le_of_ble_eq_true rfl, Nat.le_of_ble_eq_true rfl⟩ hl.1 rfl (Nat.le_of_ble_eq_true rfl) dW_law_1217 ⟨by show _ ≤ 601024; omega, by show _ ≤ 7293034; omega⟩ (fun H locs hG hS => ?_)
  have hE := E_fee hI hK (xs ((nI i + 1).toNatClampNeg))
  generalize hWe : fW_fee sL sA (xs ((nI i + 1).toNatClampNeg)) = Wr at hE hG ⊢
  refine lv_istore (lv' := [(5, .int Wr.1), (4, .int (nI i)), (3, .ref (ad 4)), (2, .ref (ad 5)), (1, .ref (ad 0)), (0, .ref b)]) hx hb dW_law_1220 hl (by decide) rfl (fun ls hl => ?_)
  refine lv_aload_n hx hb dW_law_1222 rfl (lv_at hl 3 rfl) ?_
  refine lv_aload_n hx hb dW_law_1223 rfl (lv_at hl 5 rfl) ?_
  refine lv_iload hx hb dW_law_1224 (lv_at hl 1 rfl) ?_
  refine lv_iconst (v := 1) hx hb dW_law_1226 (by decide) ?_
  refine lv_iadd hx hb dW_law_1227 ?_
  refine va_sld hx hb hX hbl hbA hS (show vp_in (nI i + 1) L from vin_s (k := 1) hL hi (by omega)) dW_law_1228 ?_
  refine rcV3 (rest := []) (As := [.int (xs ((nI i + 1).toNatClampNeg))]) hx hb hml hown hts hC hG hS (cM_fee l D tI tJ tL (A0 s) sg ad n Wr.2.1 Wr.2.2 (xs ((nI i + 1).toNatClampNeg))) (recM hC hG) (gV q_712 q_713 q_714 q_2 q_715) rfl rfl ⟨rfl, hdyM_fee⟩ ⟨Nat.le_of_ble_eq_true rfl, Nat.le_of_ble_eq_true rfl⟩ hl.1 rfl (Nat.le_of_ble_eq_true rfl) dW_law_1229 ⟨by show _ ≤ 601024; omega, by show _ ≤ 7293034; omega⟩ (fun H locs hG hS => ?_)
  generalize hMe : fM_fee Wr.2.1 Wr.2.2 (xs ((nI i + 1).toNatClampNeg)) = Mf at hE hG ⊢
  refine lv_istore (lv' := [(6, .int Mf.1), (5, .int Wr.1), (4, .int (nI i)), (3, .ref (ad 4)), (2, .ref (ad 5)), (1, .ref (ad 0)), (0, .ref b)]) hx hb dW_law_1232 hl (by decide) rfl (fun ls hl => ?_)
  refine lv_aload_n hx hb dW_law_1234 rfl (lv_at hl 4 rfl) ?_
  refine rcV2 (rest := []) (As := []) hx hb hml hown hts hC hG hS (cM_thrown l D tI tJ tL (A0 s) sg ad n Mf.2.1 Mf.2.2) (recM hC hG) (gV q_583 q_584 q_585 q_2 q_586) rfl rfl ⟨rfl, hdyM_thrown⟩ ⟨Nat.le_of_ble_eq_true rfl, Nat.le_of_ble_eq_true rfl⟩ hl.1 rfl (Nat.le_of_ble_eq_true rfl) dW_law_1235 ⟨by show _ ≤ 601024; omega, by show _ ≤ 7293034; omega⟩ ?_
  refine lv_iload hx hb dW_law_1238 (lv_at hl 1 rfl) ?_
  refine lv_icmp_eq (tgt := 1245) hx hb dW_law_1240 (by decide) (fun c9 => ?_) (fun c9 => absurd hE.2.1 c9)
  refine lv_iload hx hb dW_law_1245 (lv_at hl 1 rfl) ?_
  refine lv_if_ne (tgt := 1262) hx hb dW_law_1247 (by decide) (fun c8 => ?_) (fun c8 => ?_)
  · refine lv_goto (tgt := 1503) hx hb dW_law_1262 (by decide) ?_
    refine W.widen (k := cells + 30) (n := slots + 200) (by omega) (by omega) ?_
    exact cont ad _ _ _ H locs ls hE.2.2.2 hG hS (lv_sub hl [2, 3, 4, 5, 6] rfl)
  · refine lv_aload_n hx hb dW_law_1250 rfl (lv_at hl 3 rfl) ?_
    refine lv_iconst (v := 0) hx hb dW_law_1251 (by decide) ?_
    refine rt_ld hx hb hC hG dW_law_1252 ?_
    refine lv_iload hx hb dW_law_1253 (lv_at hl 0 rfl) ?_
    refine lv_i2l (v := (Mf.1 : Int32).toInt64) hx hb dW_law_1255 rfl ?_
    refine W.lcmp hx hb dW_law_1256 ?_
    refine lv_if_eq (tgt := 1262) hx hb dW_law_1257 (by decide) (fun c7 => ?_) (fun c7 => absurd (lgc (hE.2.2.1 c8)) c7)
    refine lv_goto (tgt := 1503) hx hb dW_law_1262 (by decide) ?_
    refine W.widen (k := cells + 30) (n := slots + 200) (by omega) (by omega) ?_
    exact cont ad _ _ _ H locs ls hE.2.2.2 hG hS (lv_sub hl [2, 3, 4, 5, 6] rfl)
set_option maxHeartbeats 4000000 in
set_option maxRecDepth 100000 in
theorem lc_share {p : Program} {l : Launch} {e : Env} {s : State} {m : MethodId} {below : List Frame} {meth : Method} {c : Code} {b L : Nat} {xs : Nat → Int32} (hl9 : l.stackTraces = false) (hL : L ≤ 2048) (hx : p.tables.exec = Jvm.exec) (hb : c.code = code) (hml : c.maxLocals = 7) (hown : s.vm.findClass "DroitLineLaw" = some m.cls) (hts : ∀ w ∈ wNeed, w.before #[Value.ref b] s = true) (hX : va_X b L xs s s.heap) (hbl : b < s.heap.size)
    {D : va_G} {tI tJ tL : ClassId} {sg : Nat → Nat} (hC : GC D tI tJ tL (A0 s) sg s) {i K cells slots : Nat} (hi : i + 4 ≤ L) (hK : K ≤ 600) (hcl : cells + 30 ≤ 601024) (hsl : slots + 200 ≤ 7293034) {ad : Nat → Nat} {n : Nat} {sL : NL} {sA : NA} (hI : INV n K sL sA) {H : Heap} {locs : List Loc} (hG : GW D tI tJ tL (A0 s) ad n sL sA H) (hS : va_S (A0 s) s.heap H locs) {ls : Array Slot} (hl : lv_has ls 7 [(4, .int (nI i)), (3, .ref (ad 4)), (2, .ref (ad 5)), (1, .ref (ad 0)), (0, .ref b)]) (cont : CONT p l e s m b below meth c D tI tJ tL i K cells slots) :
    W p l e room_1 s m #[Value.ref b] below meth c H locs cells slots (lw_Z below #[Value.ref b] s) (F0 m 1265 ls []) := by
  have hbA : ¬ (A0 s) b := Nat.not_le.mpr hbl
  refine lv_aload_n hx hb dW_law_1265 rfl (lv_at hl 3 rfl) ?_
  refine lv_aload_n hx hb dW_law_1266 rfl (lv_at hl 4 rfl) ?_
  refine lv_iload hx hb dW_law_1267 (lv_at hl 0 rfl) ?_
  refine lv_iconst (v := 1) hx hb dW_law_1269 (by decide) ?_
  refine lv_iadd hx hb dW_law_1270 ?_
  refine va_sld hx hb hX hbl hbA hS (show vp_in (nI i + 1) L from vin_s (k := 1) hL hi (by omega)) dW_law_1271 ?_
  refine lv_aload_n hx hb dW_law_1272 rfl (lv_at hl 1 rfl) ?_
  refine rcSW (rest := []) (As := [.ref (ad 0), .int (xs ((nI i + 1).toNatClampNeg)), .ref (ad 4)]) hx hb hml hown hts hC hG hS (cW_share l hl9 D tI tJ tL (A0 s) sg ad n sL sA (xs ((nI i + 1).toNatClampNeg))) (gW q_483 q_484 q_0 q_485) rfl rfl hdyW_share ⟨Nat.le_of_ble_eq_true rfl, Nat.le_of_ble_eq_true rfl⟩ hl.1 rfl (Nat.le_of_ble_eq_true rfl) dW_law_1273 ⟨by show _ ≤ 601024; omega, by show _ ≤ 7293034; omega⟩ (fun H locs hG hS => ?_)
  have hE := E_share hI hK (xs ((nI i + 1).toNatClampNeg))
  generalize hWe : fW_share n sL sA (xs ((nI i + 1).toNatClampNeg)) = Wr at hE hG ⊢
  refine lv_istore (lv' := [(5, .int Wr.1), (4, .int (nI i)), (3, .ref (ad 4)), (2, .ref (ad 5)), (1, .ref (ad 0)), (0, .ref b)]) hx hb dW_law_1276 hl (by decide) rfl (fun ls hl => ?_)
  refine lv_aload_n hx hb dW_law_1278 rfl (lv_at hl 3 rfl) ?_
  refine lv_aload_n hx hb dW_law_1279 rfl (lv_at hl 5 rfl) ?_
  refine lv_iload hx hb dW_law_1280 (lv_at hl 1 rfl) ?_
  refine lv_iconst (v := 1) hx hb dW_law_1282 (by decide) ?_
  refine lv_iadd hx hb dW_law_1283 ?_
  refine va_sld hx hb hX hbl hbA hS (show vp_in (nI i + 1) L from vin_s (k := 1) hL hi (by omega)) dW_law_1284 ?_
  refine rcV3 (rest := []) (As := [.int (xs ((nI i + 1).toNatClampNeg))]) hx hb hml hown hts hC hG hS (cM_share l D tI tJ tL (A0 s) sg ad n Wr.2.1 Wr.2.2 (xs ((nI i + 1).toNatClampNeg)) n hE.1.1 hE.1.2.1) (recM hC hG) (gV q_716 q_717 q_718 q_2 q_719) rfl rfl ⟨rfl, hdyM_share⟩ ⟨Nat.le_of_ble_eq_true rfl, Nat.le_of_ble_eq_true rfl⟩ hl.1 rfl (Nat.le_of_ble_eq_true rfl) dW_law_1285 ⟨by show _ ≤ 601024; omega, by show _ ≤ 7293034; omega⟩ (fun H locs hG hS => ?_)
  generalize hMe : fM_share Wr.2.1 Wr.2.2 (xs ((nI i + 1).toNatClampNeg)) = Mf at hE hG ⊢
  refine lv_istore (lv' := [(6, .int Mf.1), (5, .int Wr.1), (4, .int (nI i)), (3, .ref (ad 4)), (2, .ref (ad 5)), (1, .ref (ad 0)), (0, .ref b)]) hx hb dW_law_1288 hl (by decide) rfl (fun ls hl => ?_)
  refine lv_aload_n hx hb dW_law_1290 rfl (lv_at hl 4 rfl) ?_
  refine rcV2 (rest := []) (As := []) hx hb hml hown hts hC hG hS (cM_thrown l D tI tJ tL (A0 s) sg ad n Mf.2.1 Mf.2.2) (recM hC hG) (gV q_583 q_584 q_585 q_2 q_586) rfl rfl ⟨rfl, hdyM_thrown⟩ ⟨Nat.le_of_ble_eq_true rfl, Nat.le_of_ble_eq_true rfl⟩ hl.1 rfl (Nat.le_of_ble_eq_true rfl) dW_law_1291 ⟨by show _ ≤ 601024; omega, by show _ ≤ 7293034; omega⟩ ?_
  refine lv_iload hx hb dW_law_1294 (lv_at hl 1 rfl) ?_
  refine lv_icmp_eq (tgt := 1301) hx hb dW_law_1296 (by decide) (fun c9 => ?_) (fun c9 => absurd hE.2.1 c9)
  refine lv_iload hx hb dW_law_1301 (lv_at hl 1 rfl) ?_
  refine lv_if_ne (tgt := 1318) hx hb dW_law_1303 (by decide) (fun c8 => ?_) (fun c8 => ?_)
  · refine lv_goto (tgt := 1503) hx hb dW_law_1318 (by decide) ?_
    refine W.widen (k := cells + 30) (n := slots + 200) (by omega) (by omega) ?_
    exact cont ad _ _ _ H locs ls hE.2.2.2 hG hS (lv_sub hl [2, 3, 4, 5, 6] rfl)
  · refine lv_aload_n hx hb dW_law_1306 rfl (lv_at hl 3 rfl) ?_
    refine lv_iconst (v := 0) hx hb dW_law_1307 (by decide) ?_
    refine rt_ld hx hb hC hG dW_law_1308 ?_
    refine lv_iload hx hb dW_law_1309 (lv_at hl 0 rfl) ?_
    refine lv_i2l (v := (Mf.1 : Int32).toInt64) hx hb dW_law_1311 rfl ?_
    refine W.lcmp hx hb dW_law_1312 ?_
    refine lv_if_eq (tgt := 1318) hx hb dW_law_1313 (by decide) (fun c7 => ?_) (fun c7 => absurd (lgc (hE.2.2.1 c8)) c7)
    refine lv_goto (tgt := 1503) hx hb dW_law_1318 (by decide) ?_
    refine W.widen (k := cells + 30) (n := slots + 200) (by omega) (by omega) ?_
    exact cont ad _ _ _ H locs ls hE.2.2.2 hG hS (lv_sub hl [2, 3, 4, 5, 6] rfl)
set_option maxHeartbeats 4000000 in
set_option maxRecDepth 100000 in
theorem lc_interest {p : Program} {l : Launch} {e : Env} {s : State} {m : MethodId} {below : List Frame} {meth : Method} {c : Code} {b L : Nat} {xs : Nat → Int32} (hl9 : l.stackTraces = false) (hL : L ≤ 2048) (hx : p.tables.exec = Jvm.exec) (hb : c.code = code) (hml : c.maxLocals = 7) (hown : s.vm.findClass "DroitLineLaw" = some m.cls) (hts : ∀ w ∈ wNeed, w.before #[Value.ref b] s = true) (hX : va_X b L xs s s.heap) (hbl : b < s.heap.size)
    {D : va_G} {tI tJ tL : ClassId} {sg : Nat → Nat} (hC : GC D tI tJ tL (A0 s) sg s) {i K cells slots : Nat} (hi : i + 4 ≤ L) (hK : K ≤ 600) (hcl : cells + 30 ≤ 601024) (hsl : slots + 200 ≤ 7293034) {ad : Nat → Nat} {n : Nat} {sL : NL} {sA : NA} (hI : INV n K sL sA) {H : Heap} {locs : List Loc} (hG : GW D tI tJ tL (A0 s) ad n sL sA H) (hS : va_S (A0 s) s.heap H locs) {ls : Array Slot} (hl : lv_has ls 7 [(4, .int (nI i)), (3, .ref (ad 4)), (2, .ref (ad 5)), (1, .ref (ad 0)), (0, .ref b)]) (cont : CONT p l e s m b below meth c D tI tJ tL i K cells slots) :
    W p l e room_1 s m #[Value.ref b] below meth c H locs cells slots (lw_Z below #[Value.ref b] s) (F0 m 1321 ls []) := by
  have hbA : ¬ (A0 s) b := Nat.not_le.mpr hbl
  refine lv_aload_n hx hb dW_law_1321 rfl (lv_at hl 3 rfl) ?_
  refine lv_aload_n hx hb dW_law_1322 rfl (lv_at hl 4 rfl) ?_
  refine lv_iload hx hb dW_law_1323 (lv_at hl 0 rfl) ?_
  refine lv_iconst (v := 1) hx hb dW_law_1325 (by decide) ?_
  refine lv_iadd hx hb dW_law_1326 ?_
  refine va_sld hx hb hX hbl hbA hS (show vp_in (nI i + 1) L from vin_s (k := 1) hL hi (by omega)) dW_law_1327 ?_
  refine lv_aload_n hx hb dW_law_1328 rfl (lv_at hl 1 rfl) ?_
  refine rcSW (rest := []) (As := [.ref (ad 0), .int (xs ((nI i + 1).toNatClampNeg)), .ref (ad 4)]) hx hb hml hown hts hC hG hS (cW_interest l hl9 D tI tJ tL (A0 s) sg ad n sL sA (xs ((nI i + 1).toNatClampNeg))) (gW q_490 q_491 q_0 q_492) rfl rfl hdyW_interest ⟨Nat.le_of_ble_eq_true rfl, Nat.le_of_ble_eq_true rfl⟩ hl.1 rfl (Nat.le_of_ble_eq_true rfl) dW_law_1329 ⟨by show _ ≤ 601024; omega, by show _ ≤ 7293034; omega⟩ (fun H locs hG hS => ?_)
  have hE := E_interest hI hK (xs ((nI i + 1).toNatClampNeg))
  generalize hWe : fW_interest n sL sA (xs ((nI i + 1).toNatClampNeg)) = Wr at hE hG ⊢
  refine lv_istore (lv' := [(5, .int Wr.1), (4, .int (nI i)), (3, .ref (ad 4)), (2, .ref (ad 5)), (1, .ref (ad 0)), (0, .ref b)]) hx hb dW_law_1332 hl (by decide) rfl (fun ls hl => ?_)
  refine lv_aload_n hx hb dW_law_1334 rfl (lv_at hl 3 rfl) ?_
  refine lv_aload_n hx hb dW_law_1335 rfl (lv_at hl 5 rfl) ?_
  refine lv_iload hx hb dW_law_1336 (lv_at hl 1 rfl) ?_
  refine lv_iconst (v := 1) hx hb dW_law_1338 (by decide) ?_
  refine lv_iadd hx hb dW_law_1339 ?_
  refine va_sld hx hb hX hbl hbA hS (show vp_in (nI i + 1) L from vin_s (k := 1) hL hi (by omega)) dW_law_1340 ?_
  refine rcV3 (rest := []) (As := [.int (xs ((nI i + 1).toNatClampNeg))]) hx hb hml hown hts hC hG hS (cM_interest l D tI tJ tL (A0 s) sg ad n Wr.2.1 Wr.2.2 (xs ((nI i + 1).toNatClampNeg)) n hE.1.1 hE.1.2.1) (recM hC hG) (gV q_720 q_721 q_722 q_2 q_723) rfl rfl ⟨rfl, hdyM_interest⟩ ⟨Nat.le_of_ble_eq_true rfl, Nat.le_of_ble_eq_true rfl⟩ hl.1 rfl (Nat.le_of_ble_eq_true rfl) dW_law_1341 ⟨by show _ ≤ 601024; omega, by show _ ≤ 7293034; omega⟩ (fun H locs hG hS => ?_)
  generalize hMe : fM_interest Wr.2.1 Wr.2.2 (xs ((nI i + 1).toNatClampNeg)) = Mf at hE hG ⊢
  refine lv_istore (lv' := [(6, .int Mf.1), (5, .int Wr.1), (4, .int (nI i)), (3, .ref (ad 4)), (2, .ref (ad 5)), (1, .ref (ad 0)), (0, .ref b)]) hx hb dW_law_1344 hl (by decide) rfl (fun ls hl => ?_)
  refine lv_aload_n hx hb dW_law_1346 rfl (lv_at hl 4 rfl) ?_
  refine rcV2 (rest := []) (As := []) hx hb hml hown hts hC hG hS (cM_thrown l D tI tJ tL (A0 s) sg ad n Mf.2.1 Mf.2.2) (recM hC hG) (gV q_583 q_584 q_585 q_2 q_586) rfl rfl ⟨rfl, hdyM_thrown⟩ ⟨Nat.le_of_ble_eq_true rfl, Nat.le_of_ble_eq_true rfl⟩ hl.1 rfl (Nat.le_of_ble_eq_true rfl) dW_law_1347 ⟨by show _ ≤ 601024; omega, by show _ ≤ 7293034; omega⟩ ?_
  refine lv_iload hx hb dW_law_1350 (lv_at hl 1 rfl) ?_
  refine lv_icmp_eq (tgt := 1357) hx hb dW_law_1352 (by decide) (fun c9 => ?_) (fun c9 => absurd hE.2.1 c9)
  refine lv_iload hx hb dW_law_1357 (lv_at hl 1 rfl) ?_
  refine lv_if_ne (tgt := 1374) hx hb dW_law_1359 (by decide) (fun c8 => ?_) (fun c8 => ?_)
  · refine lv_goto (tgt := 1503) hx hb dW_law_1374 (by decide) ?_
    refine W.widen (k := cells + 30) (n := slots + 200) (by omega) (by omega) ?_
    exact cont ad _ _ _ H locs ls hE.2.2.2 hG hS (lv_sub hl [2, 3, 4, 5, 6] rfl)
  · refine lv_aload_n hx hb dW_law_1362 rfl (lv_at hl 3 rfl) ?_
    refine lv_iconst (v := 0) hx hb dW_law_1363 (by decide) ?_
    refine rt_ld hx hb hC hG dW_law_1364 ?_
    refine lv_iload hx hb dW_law_1365 (lv_at hl 0 rfl) ?_
    refine lv_i2l (v := (Mf.1 : Int32).toInt64) hx hb dW_law_1367 rfl ?_
    refine W.lcmp hx hb dW_law_1368 ?_
    refine lv_if_eq (tgt := 1374) hx hb dW_law_1369 (by decide) (fun c7 => ?_) (fun c7 => absurd (lgc (hE.2.2.1 c8)) c7)
    refine lv_goto (tgt := 1503) hx hb dW_law_1374 (by decide) ?_
    refine W.widen (k := cells + 30) (n := slots + 200) (by omega) (by omega) ?_
    exact cont ad _ _ _ H locs ls hE.2.2.2 hG hS (lv_sub hl [2, 3, 4, 5, 6] rfl)
set_option maxHeartbeats 4000000 in
set_option maxRecDepth 100000 in
theorem lc_owes {p : Program} {l : Launch} {e : Env} {s : State} {m : MethodId} {below : List Frame} {meth : Method} {c : Code} {b L : Nat} {xs : Nat → Int32} (hl9 : l.stackTraces = false) (hL : L ≤ 2048) (hx : p.tables.exec = Jvm.exec) (hb : c.code = code) (hml : c.maxLocals = 7) (hown : s.vm.findClass "DroitLineLaw" = some m.cls) (hts : ∀ w ∈ wNeed, w.before #[Value.ref b] s = true) (hX : va_X b L xs s s.heap) (hbl : b < s.heap.size)
    {D : va_G} {tI tJ tL : ClassId} {sg : Nat → Nat} (hC : GC D tI tJ tL (A0 s) sg s) {i K cells slots : Nat} (hi : i + 4 ≤ L) (hK : K ≤ 600) (hcl : cells + 30 ≤ 601024) (hsl : slots + 200 ≤ 7293034) {ad : Nat → Nat} {n : Nat} {sL : NL} {sA : NA} (hI : INV n K sL sA) {H : Heap} {locs : List Loc} (hG : GW D tI tJ tL (A0 s) ad n sL sA H) (hS : va_S (A0 s) s.heap H locs) {ls : Array Slot} (hl : lv_has ls 7 [(4, .int (nI i)), (3, .ref (ad 4)), (2, .ref (ad 5)), (1, .ref (ad 0)), (0, .ref b)]) (cont : CONT p l e s m b below meth c D tI tJ tL i K cells slots) :
    W p l e room_1 s m #[Value.ref b] below meth c H locs cells slots (lw_Z below #[Value.ref b] s) (F0 m 1377 ls []) := by
  have hbA : ¬ (A0 s) b := Nat.not_le.mpr hbl
  refine lv_aload_n hx hb dW_law_1377 rfl (lv_at hl 3 rfl) ?_
  refine lv_aload_n hx hb dW_law_1378 rfl (lv_at hl 4 rfl) ?_
  refine lv_iload hx hb dW_law_1379 (lv_at hl 0 rfl) ?_
  refine lv_iconst (v := 1) hx hb dW_law_1381 (by decide) ?_
  refine lv_iadd hx hb dW_law_1382 ?_
  refine va_sld hx hb hX hbl hbA hS (show vp_in (nI i + 1) L from vin_s (k := 1) hL hi (by omega)) dW_law_1383 ?_
  refine lv_aload_n hx hb dW_law_1384 rfl (lv_at hl 1 rfl) ?_
  refine rcSW (rest := []) (As := [.ref (ad 0), .int (xs ((nI i + 1).toNatClampNeg)), .ref (ad 4)]) hx hb hml hown hts hC hG hS (cW_owes l hl9 D tI tJ tL (A0 s) sg ad n sL sA (xs ((nI i + 1).toNatClampNeg))) (gW q_497 q_498 q_0 q_499) rfl rfl hdyW_owes ⟨Nat.le_of_ble_eq_true rfl, Nat.le_of_ble_eq_true rfl⟩ hl.1 rfl (Nat.le_of_ble_eq_true rfl) dW_law_1385 ⟨by show _ ≤ 601024; omega, by show _ ≤ 7293034; omega⟩ (fun H locs hG hS => ?_)
  have hE := E_owes hI hK (xs ((nI i + 1).toNatClampNeg))
  generalize hWe : fW_owes sL sA (xs ((nI i + 1).toNatClampNeg)) = Wr at hE hG ⊢
  refine lv_istore (lv' := [(5, .int Wr.1), (4, .int (nI i)), (3, .ref (ad 4)), (2, .ref (ad 5)), (1, .ref (ad 0)), (0, .ref b)]) hx hb dW_law_1388 hl (by decide) rfl (fun ls hl => ?_)
  refine lv_aload_n hx hb dW_law_1390 rfl (lv_at hl 3 rfl) ?_
  refine lv_aload_n hx hb dW_law_1391 rfl (lv_at hl 5 rfl) ?_
  refine lv_iload hx hb dW_law_1392 (lv_at hl 1 rfl) ?_
  refine lv_iconst (v := 1) hx hb dW_law_1394 (by decide) ?_
  refine lv_iadd hx hb dW_law_1395 ?_
  refine va_sld hx hb hX hbl hbA hS (show vp_in (nI i + 1) L from vin_s (k := 1) hL hi (by omega)) dW_law_1396 ?_
  refine rcV3 (rest := []) (As := [.int (xs ((nI i + 1).toNatClampNeg))]) hx hb hml hown hts hC hG hS (cM_owes l D tI tJ tL (A0 s) sg ad n Wr.2.1 Wr.2.2 (xs ((nI i + 1).toNatClampNeg))) (recM hC hG) (gV q_724 q_725 q_726 q_2 q_727) rfl rfl ⟨rfl, hdyM_owes⟩ ⟨Nat.le_of_ble_eq_true rfl, Nat.le_of_ble_eq_true rfl⟩ hl.1 rfl (Nat.le_of_ble_eq_true rfl) dW_law_1397 ⟨by show _ ≤ 601024; omega, by show _ ≤ 7293034; omega⟩ (fun H locs hG hS => ?_)
  generalize hMe : fM_owes Wr.2.1 Wr.2.2 (xs ((nI i + 1).toNatClampNeg)) = Mf at hE hG ⊢
  refine lv_istore (lv' := [(6, .int Mf.1), (5, .int Wr.1), (4, .int (nI i)), (3, .ref (ad 4)), (2, .ref (ad 5)), (1, .ref (ad 0)), (0, .ref b)]) hx hb dW_law_1400 hl (by decide) rfl (fun ls hl => ?_)
  refine lv_aload_n hx hb dW_law_1402 rfl (lv_at hl 4 rfl) ?_
  refine rcV2 (rest := []) (As := []) hx hb hml hown hts hC hG hS (cM_thrown l D tI tJ tL (A0 s) sg ad n Mf.2.1 Mf.2.2) (recM hC hG) (gV q_583 q_584 q_585 q_2 q_586) rfl rfl ⟨rfl, hdyM_thrown⟩ ⟨Nat.le_of_ble_eq_true rfl, Nat.le_of_ble_eq_true rfl⟩ hl.1 rfl (Nat.le_of_ble_eq_true rfl) dW_law_1403 ⟨by show _ ≤ 601024; omega, by show _ ≤ 7293034; omega⟩ ?_
  refine lv_iload hx hb dW_law_1406 (lv_at hl 1 rfl) ?_
  refine lv_icmp_eq (tgt := 1413) hx hb dW_law_1408 (by decide) (fun c9 => ?_) (fun c9 => absurd hE.2.1 c9)
  refine lv_iload hx hb dW_law_1413 (lv_at hl 1 rfl) ?_
  refine lv_if_ne (tgt := 1430) hx hb dW_law_1415 (by decide) (fun c8 => ?_) (fun c8 => ?_)
  · refine lv_goto (tgt := 1503) hx hb dW_law_1430 (by decide) ?_
    refine W.widen (k := cells + 30) (n := slots + 200) (by omega) (by omega) ?_
    exact cont ad _ _ _ H locs ls hE.2.2.2 hG hS (lv_sub hl [2, 3, 4, 5, 6] rfl)
  · refine lv_aload_n hx hb dW_law_1418 rfl (lv_at hl 3 rfl) ?_
    refine lv_iconst (v := 0) hx hb dW_law_1419 (by decide) ?_
    refine rt_ld hx hb hC hG dW_law_1420 ?_
    refine lv_iload hx hb dW_law_1421 (lv_at hl 0 rfl) ?_
    refine lv_i2l (v := (Mf.1 : Int32).toInt64) hx hb dW_law_1423 rfl ?_
    refine W.lcmp hx hb dW_law_1424 ?_
    refine lv_if_eq (tgt := 1430) hx hb dW_law_1425 (by decide) (fun c7 => ?_) (fun c7 => absurd (lgc (hE.2.2.1 c8)) c7)
    refine lv_goto (tgt := 1503) hx hb dW_law_1430 (by decide) ?_
    refine W.widen (k := cells + 30) (n := slots + 200) (by omega) (by omega) ?_
    exact cont ad _ _ _ H locs ls hE.2.2.2 hG hS (lv_sub hl [2, 3, 4, 5, 6] rfl)
set_option maxHeartbeats 4000000 in
set_option maxRecDepth 100000 in
theorem lc_in {p : Program} {l : Launch} {e : Env} {s : State} {m : MethodId} {below : List Frame} {meth : Method} {c : Code} {b L : Nat} {xs : Nat → Int32} (hl9 : l.stackTraces = false) (hL : L ≤ 2048) (hx : p.tables.exec = Jvm.exec) (hb : c.code = code) (hml : c.maxLocals = 7) (hown : s.vm.findClass "DroitLineLaw" = some m.cls) (hts : ∀ w ∈ wNeed, w.before #[Value.ref b] s = true) (hX : va_X b L xs s s.heap) (hbl : b < s.heap.size)
    {D : va_G} {tI tJ tL : ClassId} {sg : Nat → Nat} (hC : GC D tI tJ tL (A0 s) sg s) {i K cells slots : Nat} (hi : i + 4 ≤ L) (hK : K ≤ 600) (hcl : cells + 30 ≤ 601024) (hsl : slots + 200 ≤ 7293034) {ad : Nat → Nat} {n : Nat} {sL : NL} {sA : NA} (hI : INV n K sL sA) {H : Heap} {locs : List Loc} (hG : GW D tI tJ tL (A0 s) ad n sL sA H) (hS : va_S (A0 s) s.heap H locs) {ls : Array Slot} (hl : lv_has ls 7 [(4, .int (nI i)), (3, .ref (ad 4)), (2, .ref (ad 5)), (1, .ref (ad 0)), (0, .ref b)]) (cont : CONT p l e s m b below meth c D tI tJ tL i K cells slots) :
    W p l e room_1 s m #[Value.ref b] below meth c H locs cells slots (lw_Z below #[Value.ref b] s) (F0 m 1433 ls []) := by
  have hbA : ¬ (A0 s) b := Nat.not_le.mpr hbl
  have hE := E_in hI
  refine lv_aload_n hx hb dW_law_1433 rfl (lv_at hl 3 rfl) ?_
  refine rcV2l (rest := []) (As := []) hx hb hml hown hts hC hG hS (cX_in l D tI tJ tL (A0 s) sg ad n sL sA) (recX hC hG) (gV q_55 q_56 q_57 q_1 q_58) rfl rfl ⟨rfl, hdyX_in⟩ ⟨Nat.le_of_ble_eq_true rfl, Nat.le_of_ble_eq_true rfl⟩ hl.1 rfl (Nat.le_of_ble_eq_true rfl) dW_law_1434 ⟨by show _ ≤ 601024; omega, by show _ ≤ 7293034; omega⟩ ?_
  refine lv_aload_n hx hb dW_law_1437 rfl (lv_at hl 2 rfl) ?_
  refine rcV3l (rest := [.long (fX_in sL sA)]) (As := []) hx hb hml hown hts hC hG hS (cM_in l D tI tJ tL (A0 s) sg ad n sL sA) (recM hC hG) (gV q_728 q_729 q_730 q_2 q_731) rfl rfl ⟨rfl, hdyM_in⟩ ⟨Nat.le_of_ble_eq_true rfl, Nat.le_of_ble_eq_true rfl⟩ hl.1 rfl (Nat.le_of_ble_eq_true rfl) dW_law_1438 ⟨by show _ ≤ 601024; omega, by show _ ≤ 7293034; omega⟩ (fun H locs hG hS => ?_)
  generalize hMe : fM_in sL sA = Mf at hE hG ⊢
  refine W.lcmp hx hb dW_law_1441 ?_
  refine lv_if_eq (tgt := 1503) hx hb dW_law_1442 (by decide) (fun c7 => ?_) (fun c7 => absurd (lgc hE.2.1) c7)
  refine W.widen (k := cells + 30) (n := slots + 200) (by omega) (by omega) ?_
  exact cont ad _ _ _ H locs ls hE.2.2 hG hS (lv_sub hl [0, 1, 2, 3, 4] rfl)
set_option maxHeartbeats 4000000 in
set_option maxRecDepth 100000 in
theorem lc_out {p : Program} {l : Launch} {e : Env} {s : State} {m : MethodId} {below : List Frame} {meth : Method} {c : Code} {b L : Nat} {xs : Nat → Int32} (hl9 : l.stackTraces = false) (hL : L ≤ 2048) (hx : p.tables.exec = Jvm.exec) (hb : c.code = code) (hml : c.maxLocals = 7) (hown : s.vm.findClass "DroitLineLaw" = some m.cls) (hts : ∀ w ∈ wNeed, w.before #[Value.ref b] s = true) (hX : va_X b L xs s s.heap) (hbl : b < s.heap.size)
    {D : va_G} {tI tJ tL : ClassId} {sg : Nat → Nat} (hC : GC D tI tJ tL (A0 s) sg s) {i K cells slots : Nat} (hi : i + 4 ≤ L) (hK : K ≤ 600) (hcl : cells + 30 ≤ 601024) (hsl : slots + 200 ≤ 7293034) {ad : Nat → Nat} {n : Nat} {sL : NL} {sA : NA} (hI : INV n K sL sA) {H : Heap} {locs : List Loc} (hG : GW D tI tJ tL (A0 s) ad n sL sA H) (hS : va_S (A0 s) s.heap H locs) {ls : Array Slot} (hl : lv_has ls 7 [(4, .int (nI i)), (3, .ref (ad 4)), (2, .ref (ad 5)), (1, .ref (ad 0)), (0, .ref b)]) (cont : CONT p l e s m b below meth c D tI tJ tL i K cells slots) :
    W p l e room_1 s m #[Value.ref b] below meth c H locs cells slots (lw_Z below #[Value.ref b] s) (F0 m 1447 ls []) := by
  have hbA : ¬ (A0 s) b := Nat.not_le.mpr hbl
  have hE := E_out hI
  refine lv_aload_n hx hb dW_law_1447 rfl (lv_at hl 3 rfl) ?_
  refine rcV2l (rest := []) (As := []) hx hb hml hown hts hC hG hS (cX_out l D tI tJ tL (A0 s) sg ad n sL sA) (recX hC hG) (gV q_59 q_60 q_61 q_1 q_62) rfl rfl ⟨rfl, hdyX_out⟩ ⟨Nat.le_of_ble_eq_true rfl, Nat.le_of_ble_eq_true rfl⟩ hl.1 rfl (Nat.le_of_ble_eq_true rfl) dW_law_1448 ⟨by show _ ≤ 601024; omega, by show _ ≤ 7293034; omega⟩ ?_
  refine lv_aload_n hx hb dW_law_1451 rfl (lv_at hl 2 rfl) ?_
  refine rcV3l (rest := [.long (fX_out sL sA)]) (As := []) hx hb hml hown hts hC hG hS (cM_out l D tI tJ tL (A0 s) sg ad n sL sA) (recM hC hG) (gV q_732 q_733 q_734 q_2 q_735) rfl rfl ⟨rfl, hdyM_out⟩ ⟨Nat.le_of_ble_eq_true rfl, Nat.le_of_ble_eq_true rfl⟩ hl.1 rfl (Nat.le_of_ble_eq_true rfl) dW_law_1452 ⟨by show _ ≤ 601024; omega, by show _ ≤ 7293034; omega⟩ (fun H locs hG hS => ?_)
  generalize hMe : fM_out sL sA = Mf at hE hG ⊢
  refine W.lcmp hx hb dW_law_1455 ?_
  refine lv_if_eq (tgt := 1503) hx hb dW_law_1456 (by decide) (fun c7 => ?_) (fun c7 => absurd (lgc hE.2.1) c7)
  refine W.widen (k := cells + 30) (n := slots + 200) (by omega) (by omega) ?_
  exact cont ad _ _ _ H locs ls hE.2.2 hG hS (lv_sub hl [0, 1, 2, 3, 4] rfl)
set_option maxHeartbeats 4000000 in
set_option maxRecDepth 100000 in
theorem lc_kept {p : Program} {l : Launch} {e : Env} {s : State} {m : MethodId} {below : List Frame} {meth : Method} {c : Code} {b L : Nat} {xs : Nat → Int32} (hl9 : l.stackTraces = false) (hL : L ≤ 2048) (hx : p.tables.exec = Jvm.exec) (hb : c.code = code) (hml : c.maxLocals = 7) (hown : s.vm.findClass "DroitLineLaw" = some m.cls) (hts : ∀ w ∈ wNeed, w.before #[Value.ref b] s = true) (hX : va_X b L xs s s.heap) (hbl : b < s.heap.size)
    {D : va_G} {tI tJ tL : ClassId} {sg : Nat → Nat} (hC : GC D tI tJ tL (A0 s) sg s) {i K cells slots : Nat} (hi : i + 4 ≤ L) (hK : K ≤ 600) (hcl : cells + 30 ≤ 601024) (hsl : slots + 200 ≤ 7293034) {ad : Nat → Nat} {n : Nat} {sL : NL} {sA : NA} (hI : INV n K sL sA) {H : Heap} {locs : List Loc} (hG : GW D tI tJ tL (A0 s) ad n sL sA H) (hS : va_S (A0 s) s.heap H locs) {ls : Array Slot} (hl : lv_has ls 7 [(4, .int (nI i)), (3, .ref (ad 4)), (2, .ref (ad 5)), (1, .ref (ad 0)), (0, .ref b)]) (cont : CONT p l e s m b below meth c D tI tJ tL i K cells slots) :
    W p l e room_1 s m #[Value.ref b] below meth c H locs cells slots (lw_Z below #[Value.ref b] s) (F0 m 1461 ls []) := by
  have hbA : ¬ (A0 s) b := Nat.not_le.mpr hbl
  have hE := E_kept hI
  refine lv_aload_n hx hb dW_law_1461 rfl (lv_at hl 3 rfl) ?_
  refine rcV2l (rest := []) (As := []) hx hb hml hown hts hC hG hS (cX_kept l D tI tJ tL (A0 s) sg ad n sL sA) (recX hC hG) (gV q_63 q_64 q_65 q_1 q_66) rfl rfl ⟨rfl, hdyX_kept⟩ ⟨Nat.le_of_ble_eq_true rfl, Nat.le_of_ble_eq_true rfl⟩ hl.1 rfl (Nat.le_of_ble_eq_true rfl) dW_law_1462 ⟨by show _ ≤ 601024; omega, by show _ ≤ 7293034; omega⟩ ?_
  refine lv_aload_n hx hb dW_law_1465 rfl (lv_at hl 2 rfl) ?_
  refine rcV3l (rest := [.long (fX_kept sL sA)]) (As := []) hx hb hml hown hts hC hG hS (cM_kept l D tI tJ tL (A0 s) sg ad n sL sA) (recM hC hG) (gV q_736 q_737 q_738 q_2 q_739) rfl rfl ⟨rfl, hdyM_kept⟩ ⟨Nat.le_of_ble_eq_true rfl, Nat.le_of_ble_eq_true rfl⟩ hl.1 rfl (Nat.le_of_ble_eq_true rfl) dW_law_1466 ⟨by show _ ≤ 601024; omega, by show _ ≤ 7293034; omega⟩ (fun H locs hG hS => ?_)
  generalize hMe : fM_kept sL sA = Mf at hE hG ⊢
  refine W.lcmp hx hb dW_law_1469 ?_
  refine lv_if_eq (tgt := 1503) hx hb dW_law_1470 (by decide) (fun c7 => ?_) (fun c7 => absurd (lgc hE.2.1) c7)
  refine W.widen (k := cells + 30) (n := slots + 200) (by omega) (by omega) ?_
  exact cont ad _ _ _ H locs ls hE.2.2 hG hS (lv_sub hl [0, 1, 2, 3, 4] rfl)
set_option maxHeartbeats 4000000 in
set_option maxRecDepth 100000 in
theorem lc_held {p : Program} {l : Launch} {e : Env} {s : State} {m : MethodId} {below : List Frame} {meth : Method} {c : Code} {b L : Nat} {xs : Nat → Int32} (hl9 : l.stackTraces = false) (hL : L ≤ 2048) (hx : p.tables.exec = Jvm.exec) (hb : c.code = code) (hml : c.maxLocals = 7) (hown : s.vm.findClass "DroitLineLaw" = some m.cls) (hts : ∀ w ∈ wNeed, w.before #[Value.ref b] s = true) (hX : va_X b L xs s s.heap) (hbl : b < s.heap.size)
    {D : va_G} {tI tJ tL : ClassId} {sg : Nat → Nat} (hC : GC D tI tJ tL (A0 s) sg s) {i K cells slots : Nat} (hi : i + 4 ≤ L) (hK : K ≤ 600) (hcl : cells + 30 ≤ 601024) (hsl : slots + 200 ≤ 7293034) {ad : Nat → Nat} {n : Nat} {sL : NL} {sA : NA} (hI : INV n K sL sA) {H : Heap} {locs : List Loc} (hG : GW D tI tJ tL (A0 s) ad n sL sA H) (hS : va_S (A0 s) s.heap H locs) {ls : Array Slot} (hl : lv_has ls 7 [(4, .int (nI i)), (3, .ref (ad 4)), (2, .ref (ad 5)), (1, .ref (ad 0)), (0, .ref b)]) (cont : CONT p l e s m b below meth c D tI tJ tL i K cells slots) :
    W p l e room_1 s m #[Value.ref b] below meth c H locs cells slots (lw_Z below #[Value.ref b] s) (F0 m 1475 ls []) := by
  have hbA : ¬ (A0 s) b := Nat.not_le.mpr hbl
  have hE := E_held hI
  refine lv_aload_n hx hb dW_law_1475 rfl (lv_at hl 3 rfl) ?_
  refine rcV2l (rest := []) (As := []) hx hb hml hown hts hC hG hS (cX_held l D tI tJ tL (A0 s) sg ad n sL sA) (recX hC hG) (gV q_67 q_68 q_69 q_1 q_70) rfl rfl ⟨rfl, hdyX_held⟩ ⟨Nat.le_of_ble_eq_true rfl, Nat.le_of_ble_eq_true rfl⟩ hl.1 rfl (Nat.le_of_ble_eq_true rfl) dW_law_1476 ⟨by show _ ≤ 601024; omega, by show _ ≤ 7293034; omega⟩ ?_
  refine lv_aload_n hx hb dW_law_1479 rfl (lv_at hl 2 rfl) ?_
  refine rcV3l (rest := [.long (fX_held sL sA)]) (As := []) hx hb hml hown hts hC hG hS (cM_held l D tI tJ tL (A0 s) sg ad n sL sA) (recM hC hG) (gV q_740 q_741 q_742 q_2 q_743) rfl rfl ⟨rfl, hdyM_held⟩ ⟨Nat.le_of_ble_eq_true rfl, Nat.le_of_ble_eq_true rfl⟩ hl.1 rfl (Nat.le_of_ble_eq_true rfl) dW_law_1480 ⟨by show _ ≤ 601024; omega, by show _ ≤ 7293034; omega⟩ (fun H locs hG hS => ?_)
  generalize hMe : fM_held sL sA = Mf at hE hG ⊢
  refine W.lcmp hx hb dW_law_1483 ?_
  refine lv_if_eq (tgt := 1503) hx hb dW_law_1484 (by decide) (fun c7 => ?_) (fun c7 => absurd (lgc hE.2.1) c7)
  refine W.widen (k := cells + 30) (n := slots + 200) (by omega) (by omega) ?_
  exact cont ad _ _ _ H locs ls hE.2.2 hG hS (lv_sub hl [0, 1, 2, 3, 4] rfl)
set_option maxHeartbeats 4000000 in
set_option maxRecDepth 100000 in
theorem lc_heldByLots {p : Program} {l : Launch} {e : Env} {s : State} {m : MethodId} {below : List Frame} {meth : Method} {c : Code} {b L : Nat} {xs : Nat → Int32} (hl9 : l.stackTraces = false) (hL : L ≤ 2048) (hx : p.tables.exec = Jvm.exec) (hb : c.code = code) (hml : c.maxLocals = 7) (hown : s.vm.findClass "DroitLineLaw" = some m.cls) (hts : ∀ w ∈ wNeed, w.before #[Value.ref b] s = true) (hX : va_X b L xs s s.heap) (hbl : b < s.heap.size)
    {D : va_G} {tI tJ tL : ClassId} {sg : Nat → Nat} (hC : GC D tI tJ tL (A0 s) sg s) {i K cells slots : Nat} (hi : i + 4 ≤ L) (hK : K ≤ 600) (hcl : cells + 30 ≤ 601024) (hsl : slots + 200 ≤ 7293034) {ad : Nat → Nat} {n : Nat} {sL : NL} {sA : NA} (hI : INV n K sL sA) {H : Heap} {locs : List Loc} (hG : GW D tI tJ tL (A0 s) ad n sL sA H) (hS : va_S (A0 s) s.heap H locs) {ls : Array Slot} (hl : lv_has ls 7 [(4, .int (nI i)), (3, .ref (ad 4)), (2, .ref (ad 5)), (1, .ref (ad 0)), (0, .ref b)]) (cont : CONT p l e s m b below meth c D tI tJ tL i K cells slots) :
    W p l e room_1 s m #[Value.ref b] below meth c H locs cells slots (lw_Z below #[Value.ref b] s) (F0 m 1489 ls []) := by
  have hbA : ¬ (A0 s) b := Nat.not_le.mpr hbl
  have hE := E_heldByLots hI
  refine lv_aload_n hx hb dW_law_1489 rfl (lv_at hl 3 rfl) ?_
  refine rcV2l (rest := []) (As := []) hx hb hml hown hts hC hG hS (cX_heldByLots l D tI tJ tL (A0 s) sg ad n sL sA) (recX hC hG) (gV q_71 q_72 q_73 q_1 q_74) rfl rfl ⟨rfl, hdyX_heldByLots⟩ ⟨Nat.le_of_ble_eq_true rfl, Nat.le_of_ble_eq_true rfl⟩ hl.1 rfl (Nat.le_of_ble_eq_true rfl) dW_law_1490 ⟨by show _ ≤ 601024; omega, by show _ ≤ 7293034; omega⟩ ?_
  refine lv_aload_n hx hb dW_law_1493 rfl (lv_at hl 2 rfl) ?_
  refine rcV3l (rest := [.long (fX_heldByLots n sL sA)]) (As := []) hx hb hml hown hts hC hG hS (cM_heldByLots l D tI tJ tL (A0 s) sg ad n sL sA n hE.1.1 hE.1.2.1) (recM hC hG) (gV q_744 q_745 q_746 q_2 q_747) rfl rfl ⟨rfl, hdyM_heldByLots⟩ ⟨Nat.le_of_ble_eq_true rfl, Nat.le_of_ble_eq_true rfl⟩ hl.1 rfl (Nat.le_of_ble_eq_true rfl) dW_law_1494 ⟨by show _ ≤ 601024; omega, by show _ ≤ 7293034; omega⟩ (fun H locs hG hS => ?_)
  generalize hMe : fM_heldByLots sL sA = Mf at hE hG ⊢
  refine W.lcmp hx hb dW_law_1497 ?_
  refine lv_if_eq (tgt := 1503) hx hb dW_law_1498 (by decide) (fun c7 => ?_) (fun c7 => absurd (lgc hE.2.1) c7)
  refine W.widen (k := cells + 30) (n := slots + 200) (by omega) (by omega) ?_
  exact cont ad _ _ _ H locs ls hE.2.2 hG hS (lv_sub hl [0, 1, 2, 3, 4] rfl)
