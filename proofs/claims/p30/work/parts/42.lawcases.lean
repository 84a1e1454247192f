set_option maxHeartbeats 4000000 in
set_option maxRecDepth 100000 in
theorem lc_bid_0 {p : Program} {l : Launch} {e : Env} {s : State} {m : MethodId} {below : List Frame} {meth : Method} {c : Code} {b : Nat} (hl9 : l.stackTraces = false) (hx : p.tables.exec = Jvm.exec) (hb : c.code = code) (hml : c.maxLocals = 22) (hown : s.vm.findClass "DroitLineLaw" = some m.cls) (hts : ∀ w ∈ wNeed, w.before #[Value.ref b] s = true)
    {D : va_G} {tI tJ tL : ClassId} {sg : Nat → Nat} (hC : GC D tI tJ tL (A0 s) sg s) {t Y kd X i q a K cells slots : Nat} (hK : K ≤ 130) (hcl : cells + 60 ≤ 796740) (hsl : slots + 300 ≤ 6711247) (hY : Y < 2147483648) {ad : Nat → Nat} {n : Nat} {sL : NL} {sA : NA} (hI : INV n K sL sA) (hi : i < n) (hst : sA 5 (10 * i + 3) = 0) (hq : q < 10) (ha1 : 1 ≤ a) (ha2 : a ≤ 1000000) {H : Heap} {locs : List Loc} (hG : GW D tI tJ tL (A0 s) ad n sL sA H) (hS : va_S (A0 s) s.heap H locs) {ls : Array Slot} (hl : lv_has ls 22 [(18, .int (nI a)), (17, .int (nI q)), (16, .int 0), (15, .int (nI (10 * i))), (14, .int (nI i)), (13, .int (nI Y)), (12, .int (nI kd)), (11, .int (nI X)), (10, .int (nI t)), (9, .int 1), (8, .ref (ad 10)), (7, .ref (ad 9)), (6, .ref (ad 8)), (5, .ref (ad 7)), (4, .ref (ad 6)), (3, .ref (ad 5)), (2, .ref (ad 4)), (1, .ref (ad 0)), (0, .ref b)])
    (cont : CONT p l e s m b below meth c D tI tJ tL t Y K cells slots) : W p l e room_1 s m #[Value.ref b] below meth c H locs cells slots (lw_Z below #[Value.ref b] s) (F0 m 441 ls []) := by
  have hn6 := hI.n6
  obtain ⟨sA2, hF, hw, hInv⟩ := E_bid hI hK hi hq ha1 ha2 hst
  refine lv_aload_n hx hb dW_law_441 rfl (lv_at hl 17 rfl) ?_
  refine lv_iconst (v := 1) hx hb dW_law_442 (by decide) ?_
  refine lv_iload hx hb dW_law_443 (lv_at hl 4 rfl) ?_
  refine lv_iload hx hb dW_law_445 (lv_at hl 1 rfl) ?_
  refine lv_iload hx hb dW_law_447 (lv_at hl 0 rfl) ?_
  refine rcSWn (rest := []) (As := [.ref (ad 0), .int 1, .int (nI i), .int (nI q), .int (nI a)]) hx hb hml hown hts hC hG hS (cD_bid l hl9 D tI tJ tL (A0 s) sg ad n sL sA (nI i) (nI q) (nI a) hI.hcnt) (gW q_176 q_177 q_0 q_178) rfl rfl hdyW_does ⟨Nat.le_of_ble_eq_true rfl, Nat.le_of_ble_eq_true rfl⟩ hl.1 rfl (Nat.le_of_ble_eq_true rfl) dW_law_449 ⟨by show _ ≤ 796740; omega, by show _ ≤ 6711247; omega⟩ (hF) (fun H locs hG hS => ?_)
  refine lv_iload hx hb dW_law_452 (lv_at hl 2 rfl) ?_
  refine lv_if_le (tgt := 462) hx hb dW_law_454 (by decide) (fun c_1 => ?_) (fun c_1 => ?_)
  · refine lv_iload hx hb dW_law_462 (lv_at hl 0 rfl) ?_
    refine rcS1c (rest := [.int (fW_call (nI a))]) (As := [.int (nI a)]) hx hb hml hown hts hS (cW_call l D (nI a)) (gS q_148 q_149 q_0 q_150) rfl rfl ⟨rfl, hdyW_call⟩ ⟨Nat.le_of_ble_eq_true rfl, Nat.le_of_ble_eq_true rfl⟩ hl.1 rfl (Nat.le_of_ble_eq_true rfl) dW_law_464 ⟨by show _ ≤ 796740; omega, by show _ ≤ 6711247; omega⟩ (fun H1 locs hk9 hS => ?_)
    replace hG := hG.kept hk9
    clear hk9
    generalize H1 = H at hG hS ⊢
    refine lv_icmp_ne (tgt := 474) hx hb dW_law_467 (by decide) (fun c_2 => ?_) (fun c_2 => ?_)
    · exact absurd c_2 (fun q => q rfl)
    · refine lv_iconst (v := 1) hx hb dW_law_470 (by decide) ?_
      refine lv_goto (tgt := 475) hx hb dW_law_471 (by decide) ?_
      refine lv_istore (lv' := [(9, .int 1), (18, .int (nI a)), (17, .int (nI q)), (16, .int 0), (15, .int (nI (10 * i))), (14, .int (nI i)), (13, .int (nI Y)), (12, .int (nI kd)), (11, .int (nI X)), (10, .int (nI t)), (8, .ref (ad 10)), (7, .ref (ad 9)), (6, .ref (ad 8)), (5, .ref (ad 7)), (4, .ref (ad 6)), (3, .ref (ad 5)), (2, .ref (ad 4)), (1, .ref (ad 0)), (0, .ref b)]) hx hb dW_law_475 hl (by decide) rfl (fun ls hl => ?_)
      refine lv_iload hx hb dW_law_477 (lv_at hl 3 rfl) ?_
      refine lv_if_ne (tgt := 1500) hx hb dW_law_479 (by decide) (fun c_3 => ?_) (fun c_3 => ?_)
      · exact absurd c_3 (by decide)
      · refine lv_aload hx hb dW_law_482 (lv_at hl 12 rfl) ?_
        refine lv_iload hx hb dW_law_484 (lv_at hl 4 rfl) ?_
        refine lv_iload hx hb dW_law_486 (lv_at hl 2 rfl) ?_
        refine lv_iadd hx hb dW_law_488 ?_
        rw [show (nI (10 * i)) + (nI q) = nI (10 * i + q) from nI_add (10 * i) q]
        refine W_key (g2 := F0 m 514 ls (.int (if (sA 7 (10 * i + q)) ≤ 0 then sA 4 1 else sA 8 (10 * i + q)) :: .int (nI (10 * i + q)) :: .ref (ad 8) :: [])) (fun key => ?_) ?_
        · refine lv_aload hx hb dW_law_489 (lv_at hl 13 rfl) ?_
          refine lv_iload hx hb dW_law_491 (lv_at hl 4 rfl) ?_
          refine lv_iload hx hb dW_law_493 (lv_at hl 2 rfl) ?_
          refine lv_iadd hx hb dW_law_495 ?_
          rw [show (nI (10 * i)) + (nI q) = nI (10 * i + q) from nI_add (10 * i) q]
          refine ra_ld hx hb hC hG 7 60 (by omega) (fun _ _ => rfl) (vp_in_nI (by omega) (by omega)) dW_law_496 ?_
          rw [show (nI (10 * i + q)).toNatClampNeg = (10 * i + q) from nI_clamp (by omega)]
          rw [show sA2 7 (10 * i + q) = sA 7 (10 * i + q) from by rw [hw 7 (by omega)]]
          refine lv_if_le (tgt := 511) hx hb dW_law_497 (by decide) (fun c_4 => ?_) (fun c_4 => ?_)
          · refine lv_aload_n hx hb dW_law_511 rfl (lv_at hl 16 rfl) ?_
            refine lv_iconst (v := 1) hx hb dW_law_512 (by decide) ?_
            refine ra_ld hx hb hC hG 4 5 (by omega) (fun _ _ => rfl) (by rw [vp_in_iff]; decide) dW_law_513 ?_
            rw [show (1 : Int32).toNatClampNeg = 1 from rfl]
            rw [show sA2 4 1 = sA 4 1 from by rw [hw 4 (by omega)]]
            exact W.eq (by rw [if_pos c_4]) key
          · refine lv_aload hx hb dW_law_500 (lv_at hl 12 rfl) ?_
            refine lv_iload hx hb dW_law_502 (lv_at hl 4 rfl) ?_
            refine lv_iload hx hb dW_law_504 (lv_at hl 2 rfl) ?_
            refine lv_iadd hx hb dW_law_506 ?_
            rw [show (nI (10 * i)) + (nI q) = nI (10 * i + q) from nI_add (10 * i) q]
            refine ra_ld hx hb hC hG 8 60 (by omega) (fun _ _ => rfl) (vp_in_nI (by omega) (by omega)) dW_law_507 ?_
            rw [show (nI (10 * i + q)).toNatClampNeg = (10 * i + q) from nI_clamp (by omega)]
            rw [show sA2 8 (10 * i + q) = sA 8 (10 * i + q) from by rw [hw 8 (by omega)]]
            refine lv_goto (tgt := 514) hx hb dW_law_508 (by decide) ?_
            exact W.eq (by rw [if_neg c_4]) key
        refine ra_st hx hb hC hG hS 8 60 (by omega) (fun _ _ => rfl) (vp_in_nI (by omega) (by omega)) dW_law_514 (fun H locs hG hS => ?_)
        rw [show (nI (10 * i + q)).toNatClampNeg = (10 * i + q) from nI_clamp (by omega)] at hG
        refine lv_aload hx hb dW_law_515 (lv_at hl 13 rfl) ?_
        refine lv_iload hx hb dW_law_517 (lv_at hl 4 rfl) ?_
        refine lv_iload hx hb dW_law_519 (lv_at hl 2 rfl) ?_
        refine lv_iadd hx hb dW_law_521 ?_
        rw [show (nI (10 * i)) + (nI q) = nI (10 * i + q) from nI_add (10 * i) q]
        refine lv_iload hx hb dW_law_522 (lv_at hl 1 rfl) ?_
        refine rcS1c (rest := [.int (nI (10 * i + q)), .ref (ad 7)]) (As := [.int (nI a)]) hx hb hml hown hts hS (cW_call l D (nI a)) (gS q_148 q_149 q_0 q_150) rfl rfl ⟨rfl, hdyW_call⟩ ⟨Nat.le_of_ble_eq_true rfl, Nat.le_of_ble_eq_true rfl⟩ hl.1 rfl (Nat.le_of_ble_eq_true rfl) dW_law_524 ⟨by show _ ≤ 796740; omega, by show _ ≤ 6711247; omega⟩ (fun H1 locs hk9 hS => ?_)
        replace hG := hG.kept hk9
        clear hk9
        generalize H1 = H at hG hS ⊢
        refine lv_iconst (v := 1) hx hb dW_law_527 (by decide) ?_
        refine lv_iadd hx hb dW_law_528 ?_
        refine ra_st hx hb hC hG hS 7 60 (by omega) (fun _ _ => rfl) (vp_in_nI (by omega) (by omega)) dW_law_529 (fun H locs hG hS => ?_)
        rw [show (nI (10 * i + q)).toNatClampNeg = (10 * i + q) from nI_clamp (by omega)] at hG
        refine lv_aload_n hx hb dW_law_530 rfl (lv_at hl 16 rfl) ?_
        refine lv_iconst (v := 1) hx hb dW_law_531 (by decide) ?_
        refine lv_dup2_11 hx hb dW_law_532 rfl rfl ?_
        refine ra_ld hx hb hC hG 4 5 (by omega) (fun _ _ => rfl) (by rw [vp_in_iff]; decide) dW_law_533 ?_
        rw [show (1 : Int32).toNatClampNeg = 1 from rfl]
        rw [show (up2 (up2 sA2 8 (10 * i + q) (if (sA 7 (10 * i + q)) ≤ 0 then sA 4 1 else sA 8 (10 * i + q))) 7 (10 * i + q) ((fW_call (nI a)) + 1)) 4 1 = sA 4 1 from by simp (disch := omega) only [up2_hit, up2_miss]; rw [hw 4 (by omega)]]
        refine lv_iconst (v := 1) hx hb dW_law_534 (by decide) ?_
        refine lv_iadd hx hb dW_law_535 ?_
        refine ra_st hx hb hC hG hS 4 5 (by omega) (fun _ _ => rfl) (by rw [vp_in_iff]; decide) dW_law_536 (fun H locs hG hS => ?_)
        rw [show (1 : Int32).toNatClampNeg = 1 from rfl] at hG
        refine lv_goto (tgt := 1500) hx hb dW_law_537 (by decide) ?_
        refine W.widen (k := cells + 60) (n := slots + 300) (by omega) (by omega) ?_
        exact cont ad _ _ _ H locs ls (by omega) (hInv) hG hS (lv_sub hl [6, 9, 0, 10, 11, 12, 13, 14, 15, 16, 17, 18] rfl)
  · exact absurd c_1 (by decide)
set_option maxHeartbeats 4000000 in
set_option maxRecDepth 100000 in
theorem lc_bid_1 {p : Program} {l : Launch} {e : Env} {s : State} {m : MethodId} {below : List Frame} {meth : Method} {c : Code} {b : Nat} (hl9 : l.stackTraces = false) (hx : p.tables.exec = Jvm.exec) (hb : c.code = code) (hml : c.maxLocals = 22) (hown : s.vm.findClass "DroitLineLaw" = some m.cls) (hts : ∀ w ∈ wNeed, w.before #[Value.ref b] s = true)
    {D : va_G} {tI tJ tL : ClassId} {sg : Nat → Nat} (hC : GC D tI tJ tL (A0 s) sg s) {t Y kd X i q a K cells slots : Nat} (hK : K ≤ 130) (hcl : cells + 60 ≤ 796740) (hsl : slots + 300 ≤ 6711247) (hY : Y < 2147483648) {ad : Nat → Nat} {n : Nat} {sL : NL} {sA : NA} (hI : INV n K sL sA) (hi : i < n) (hst : sA 5 (10 * i + 3) = 1) (hq : q < 10) (ha1 : 1 ≤ a) (ha2 : a ≤ 1000000) {H : Heap} {locs : List Loc} (hG : GW D tI tJ tL (A0 s) ad n sL sA H) (hS : va_S (A0 s) s.heap H locs) {ls : Array Slot} (hl : lv_has ls 22 [(18, .int (nI a)), (17, .int (nI q)), (16, .int 1), (15, .int (nI (10 * i))), (14, .int (nI i)), (13, .int (nI Y)), (12, .int (nI kd)), (11, .int (nI X)), (10, .int (nI t)), (9, .int 1), (8, .ref (ad 10)), (7, .ref (ad 9)), (6, .ref (ad 8)), (5, .ref (ad 7)), (4, .ref (ad 6)), (3, .ref (ad 5)), (2, .ref (ad 4)), (1, .ref (ad 0)), (0, .ref b)])
    (cont : CONT p l e s m b below meth c D tI tJ tL t Y K cells slots) : W p l e room_1 s m #[Value.ref b] below meth c H locs cells slots (lw_Z below #[Value.ref b] s) (F0 m 441 ls []) := by
  have hn6 := hI.n6
  refine lv_aload_n hx hb dW_law_441 rfl (lv_at hl 17 rfl) ?_
  refine lv_iconst (v := 1) hx hb dW_law_442 (by decide) ?_
  refine lv_iload hx hb dW_law_443 (lv_at hl 4 rfl) ?_
  refine lv_iload hx hb dW_law_445 (lv_at hl 1 rfl) ?_
  refine lv_iload hx hb dW_law_447 (lv_at hl 0 rfl) ?_
  refine rcSWn (rest := []) (As := [.ref (ad 0), .int 1, .int (nI i), .int (nI q), .int (nI a)]) hx hb hml hown hts hC hG hS (cD_bid l hl9 D tI tJ tL (A0 s) sg ad n sL sA (nI i) (nI q) (nI a) hI.hcnt) (gW q_176 q_177 q_0 q_178) rfl rfl hdyW_does ⟨Nat.le_of_ble_eq_true rfl, Nat.le_of_ble_eq_true rfl⟩ hl.1 rfl (Nat.le_of_ble_eq_true rfl) dW_law_449 ⟨by show _ ≤ 796740; omega, by show _ ≤ 6711247; omega⟩ (X_bid hI hi hq ha1 ha2 hst (by decide)) (fun H locs hG hS => ?_)
  refine lv_iload hx hb dW_law_452 (lv_at hl 2 rfl) ?_
  refine lv_if_le (tgt := 462) hx hb dW_law_454 (by decide) (fun c_1 => ?_) (fun c_1 => ?_)
  · exact absurd c_1 (by decide)
  · refine lv_ldc (v := (-2000000013)) hx hb hown (hts _ q_409) dW_law_457 ?_
    refine lv_goto (tgt := 467) hx hb dW_law_459 (by decide) ?_
    refine lv_icmp_ne (tgt := 474) hx hb dW_law_467 (by decide) (fun c_2 => ?_) (fun c_2 => ?_)
    · exact absurd c_2 (by decide)
    · refine lv_iconst (v := 1) hx hb dW_law_470 (by decide) ?_
      refine lv_goto (tgt := 475) hx hb dW_law_471 (by decide) ?_
      refine lv_istore (lv' := [(9, .int 1), (18, .int (nI a)), (17, .int (nI q)), (16, .int 1), (15, .int (nI (10 * i))), (14, .int (nI i)), (13, .int (nI Y)), (12, .int (nI kd)), (11, .int (nI X)), (10, .int (nI t)), (8, .ref (ad 10)), (7, .ref (ad 9)), (6, .ref (ad 8)), (5, .ref (ad 7)), (4, .ref (ad 6)), (3, .ref (ad 5)), (2, .ref (ad 4)), (1, .ref (ad 0)), (0, .ref b)]) hx hb dW_law_475 hl (by decide) rfl (fun ls hl => ?_)
      refine lv_iload hx hb dW_law_477 (lv_at hl 3 rfl) ?_
      refine lv_if_ne (tgt := 1500) hx hb dW_law_479 (by decide) (fun c_3 => ?_) (fun c_3 => ?_)
      · refine W.widen (k := cells + 60) (n := slots + 300) (by omega) (by omega) ?_
        exact cont ad _ _ _ H locs ls (by omega) (hI.mono (by omega)) hG hS (lv_sub hl [6, 9, 0, 10, 11, 12, 13, 14, 15, 16, 17, 18] rfl)
      · exact absurd c_3 (by decide)
set_option maxHeartbeats 4000000 in
set_option maxRecDepth 100000 in
theorem lc_bid_2 {p : Program} {l : Launch} {e : Env} {s : State} {m : MethodId} {below : List Frame} {meth : Method} {c : Code} {b : Nat} (hl9 : l.stackTraces = false) (hx : p.tables.exec = Jvm.exec) (hb : c.code = code) (hml : c.maxLocals = 22) (hown : s.vm.findClass "DroitLineLaw" = some m.cls) (hts : ∀ w ∈ wNeed, w.before #[Value.ref b] s = true)
    {D : va_G} {tI tJ tL : ClassId} {sg : Nat → Nat} (hC : GC D tI tJ tL (A0 s) sg s) {t Y kd X i q a K cells slots : Nat} (hK : K ≤ 130) (hcl : cells + 60 ≤ 796740) (hsl : slots + 300 ≤ 6711247) (hY : Y < 2147483648) {ad : Nat → Nat} {n : Nat} {sL : NL} {sA : NA} (hI : INV n K sL sA) (hi : i < n) (hst : sA 5 (10 * i + 3) = 2) (hq : q < 10) (ha1 : 1 ≤ a) (ha2 : a ≤ 1000000) {H : Heap} {locs : List Loc} (hG : GW D tI tJ tL (A0 s) ad n sL sA H) (hS : va_S (A0 s) s.heap H locs) {ls : Array Slot} (hl : lv_has ls 22 [(18, .int (nI a)), (17, .int (nI q)), (16, .int 2), (15, .int (nI (10 * i))), (14, .int (nI i)), (13, .int (nI Y)), (12, .int (nI kd)), (11, .int (nI X)), (10, .int (nI t)), (9, .int 1), (8, .ref (ad 10)), (7, .ref (ad 9)), (6, .ref (ad 8)), (5, .ref (ad 7)), (4, .ref (ad 6)), (3, .ref (ad 5)), (2, .ref (ad 4)), (1, .ref (ad 0)), (0, .ref b)])
    (cont : CONT p l e s m b below meth c D tI tJ tL t Y K cells slots) : W p l e room_1 s m #[Value.ref b] below meth c H locs cells slots (lw_Z below #[Value.ref b] s) (F0 m 441 ls []) := by
  have hn6 := hI.n6
  refine lv_aload_n hx hb dW_law_441 rfl (lv_at hl 17 rfl) ?_
  refine lv_iconst (v := 1) hx hb dW_law_442 (by decide) ?_
  refine lv_iload hx hb dW_law_443 (lv_at hl 4 rfl) ?_
  refine lv_iload hx hb dW_law_445 (lv_at hl 1 rfl) ?_
  refine lv_iload hx hb dW_law_447 (lv_at hl 0 rfl) ?_
  refine rcSWn (rest := []) (As := [.ref (ad 0), .int 1, .int (nI i), .int (nI q), .int (nI a)]) hx hb hml hown hts hC hG hS (cD_bid l hl9 D tI tJ tL (A0 s) sg ad n sL sA (nI i) (nI q) (nI a) hI.hcnt) (gW q_176 q_177 q_0 q_178) rfl rfl hdyW_does ⟨Nat.le_of_ble_eq_true rfl, Nat.le_of_ble_eq_true rfl⟩ hl.1 rfl (Nat.le_of_ble_eq_true rfl) dW_law_449 ⟨by show _ ≤ 796740; omega, by show _ ≤ 6711247; omega⟩ (X_bid hI hi hq ha1 ha2 hst (by decide)) (fun H locs hG hS => ?_)
  refine lv_iload hx hb dW_law_452 (lv_at hl 2 rfl) ?_
  refine lv_if_le (tgt := 462) hx hb dW_law_454 (by decide) (fun c_1 => ?_) (fun c_1 => ?_)
  · exact absurd c_1 (by decide)
  · refine lv_ldc (v := (-2000000013)) hx hb hown (hts _ q_409) dW_law_457 ?_
    refine lv_goto (tgt := 467) hx hb dW_law_459 (by decide) ?_
    refine lv_icmp_ne (tgt := 474) hx hb dW_law_467 (by decide) (fun c_2 => ?_) (fun c_2 => ?_)
    · exact absurd c_2 (by decide)
    · refine lv_iconst (v := 1) hx hb dW_law_470 (by decide) ?_
      refine lv_goto (tgt := 475) hx hb dW_law_471 (by decide) ?_
      refine lv_istore (lv' := [(9, .int 1), (18, .int (nI a)), (17, .int (nI q)), (16, .int 2), (15, .int (nI (10 * i))), (14, .int (nI i)), (13, .int (nI Y)), (12, .int (nI kd)), (11, .int (nI X)), (10, .int (nI t)), (8, .ref (ad 10)), (7, .ref (ad 9)), (6, .ref (ad 8)), (5, .ref (ad 7)), (4, .ref (ad 6)), (3, .ref (ad 5)), (2, .ref (ad 4)), (1, .ref (ad 0)), (0, .ref b)]) hx hb dW_law_475 hl (by decide) rfl (fun ls hl => ?_)
      refine lv_iload hx hb dW_law_477 (lv_at hl 3 rfl) ?_
      refine lv_if_ne (tgt := 1500) hx hb dW_law_479 (by decide) (fun c_3 => ?_) (fun c_3 => ?_)
      · refine W.widen (k := cells + 60) (n := slots + 300) (by omega) (by omega) ?_
        exact cont ad _ _ _ H locs ls (by omega) (hI.mono (by omega)) hG hS (lv_sub hl [6, 9, 0, 10, 11, 12, 13, 14, 15, 16, 17, 18] rfl)
      · exact absurd c_3 (by decide)
set_option maxHeartbeats 4000000 in
set_option maxRecDepth 100000 in
theorem lc_bid_3 {p : Program} {l : Launch} {e : Env} {s : State} {m : MethodId} {below : List Frame} {meth : Method} {c : Code} {b : Nat} (hl9 : l.stackTraces = false) (hx : p.tables.exec = Jvm.exec) (hb : c.code = code) (hml : c.maxLocals = 22) (hown : s.vm.findClass "DroitLineLaw" = some m.cls) (hts : ∀ w ∈ wNeed, w.before #[Value.ref b] s = true)
    {D : va_G} {tI tJ tL : ClassId} {sg : Nat → Nat} (hC : GC D tI tJ tL (A0 s) sg s) {t Y kd X i q a K cells slots : Nat} (hK : K ≤ 130) (hcl : cells + 60 ≤ 796740) (hsl : slots + 300 ≤ 6711247) (hY : Y < 2147483648) {ad : Nat → Nat} {n : Nat} {sL : NL} {sA : NA} (hI : INV n K sL sA) (hi : i < n) (hst : sA 5 (10 * i + 3) = 3) (hq : q < 10) (ha1 : 1 ≤ a) (ha2 : a ≤ 1000000) {H : Heap} {locs : List Loc} (hG : GW D tI tJ tL (A0 s) ad n sL sA H) (hS : va_S (A0 s) s.heap H locs) {ls : Array Slot} (hl : lv_has ls 22 [(18, .int (nI a)), (17, .int (nI q)), (16, .int 3), (15, .int (nI (10 * i))), (14, .int (nI i)), (13, .int (nI Y)), (12, .int (nI kd)), (11, .int (nI X)), (10, .int (nI t)), (9, .int 1), (8, .ref (ad 10)), (7, .ref (ad 9)), (6, .ref (ad 8)), (5, .ref (ad 7)), (4, .ref (ad 6)), (3, .ref (ad 5)), (2, .ref (ad 4)), (1, .ref (ad 0)), (0, .ref b)])
    (cont : CONT p l e s m b below meth c D tI tJ tL t Y K cells slots) : W p l e room_1 s m #[Value.ref b] below meth c H locs cells slots (lw_Z below #[Value.ref b] s) (F0 m 441 ls []) := by
  have hn6 := hI.n6
  refine lv_aload_n hx hb dW_law_441 rfl (lv_at hl 17 rfl) ?_
  refine lv_iconst (v := 1) hx hb dW_law_442 (by decide) ?_
  refine lv_iload hx hb dW_law_443 (lv_at hl 4 rfl) ?_
  refine lv_iload hx hb dW_law_445 (lv_at hl 1 rfl) ?_
  refine lv_iload hx hb dW_law_447 (lv_at hl 0 rfl) ?_
  refine rcSWn (rest := []) (As := [.ref (ad 0), .int 1, .int (nI i), .int (nI q), .int (nI a)]) hx hb hml hown hts hC hG hS (cD_bid l hl9 D tI tJ tL (A0 s) sg ad n sL sA (nI i) (nI q) (nI a) hI.hcnt) (gW q_176 q_177 q_0 q_178) rfl rfl hdyW_does ⟨Nat.le_of_ble_eq_true rfl, Nat.le_of_ble_eq_true rfl⟩ hl.1 rfl (Nat.le_of_ble_eq_true rfl) dW_law_449 ⟨by show _ ≤ 796740; omega, by show _ ≤ 6711247; omega⟩ (X_bid hI hi hq ha1 ha2 hst (by decide)) (fun H locs hG hS => ?_)
  refine lv_iload hx hb dW_law_452 (lv_at hl 2 rfl) ?_
  refine lv_if_le (tgt := 462) hx hb dW_law_454 (by decide) (fun c_1 => ?_) (fun c_1 => ?_)
  · exact absurd c_1 (by decide)
  · refine lv_ldc (v := (-2000000013)) hx hb hown (hts _ q_409) dW_law_457 ?_
    refine lv_goto (tgt := 467) hx hb dW_law_459 (by decide) ?_
    refine lv_icmp_ne (tgt := 474) hx hb dW_law_467 (by decide) (fun c_2 => ?_) (fun c_2 => ?_)
    · exact absurd c_2 (by decide)
    · refine lv_iconst (v := 1) hx hb dW_law_470 (by decide) ?_
      refine lv_goto (tgt := 475) hx hb dW_law_471 (by decide) ?_
      refine lv_istore (lv' := [(9, .int 1), (18, .int (nI a)), (17, .int (nI q)), (16, .int 3), (15, .int (nI (10 * i))), (14, .int (nI i)), (13, .int (nI Y)), (12, .int (nI kd)), (11, .int (nI X)), (10, .int (nI t)), (8, .ref (ad 10)), (7, .ref (ad 9)), (6, .ref (ad 8)), (5, .ref (ad 7)), (4, .ref (ad 6)), (3, .ref (ad 5)), (2, .ref (ad 4)), (1, .ref (ad 0)), (0, .ref b)]) hx hb dW_law_475 hl (by decide) rfl (fun ls hl => ?_)
      refine lv_iload hx hb dW_law_477 (lv_at hl 3 rfl) ?_
      refine lv_if_ne (tgt := 1500) hx hb dW_law_479 (by decide) (fun c_3 => ?_) (fun c_3 => ?_)
      · refine W.widen (k := cells + 60) (n := slots + 300) (by omega) (by omega) ?_
        exact cont ad _ _ _ H locs ls (by omega) (hI.mono (by omega)) hG hS (lv_sub hl [6, 9, 0, 10, 11, 12, 13, 14, 15, 16, 17, 18] rfl)
      · exact absurd c_3 (by decide)
set_option maxHeartbeats 4000000 in
set_option maxRecDepth 100000 in
theorem lc_bid_4 {p : Program} {l : Launch} {e : Env} {s : State} {m : MethodId} {below : List Frame} {meth : Method} {c : Code} {b : Nat} (hl9 : l.stackTraces = false) (hx : p.tables.exec = Jvm.exec) (hb : c.code = code) (hml : c.maxLocals = 22) (hown : s.vm.findClass "DroitLineLaw" = some m.cls) (hts : ∀ w ∈ wNeed, w.before #[Value.ref b] s = true)
    {D : va_G} {tI tJ tL : ClassId} {sg : Nat → Nat} (hC : GC D tI tJ tL (A0 s) sg s) {t Y kd X i q a K cells slots : Nat} (hK : K ≤ 130) (hcl : cells + 60 ≤ 796740) (hsl : slots + 300 ≤ 6711247) (hY : Y < 2147483648) {ad : Nat → Nat} {n : Nat} {sL : NL} {sA : NA} (hI : INV n K sL sA) (hi : i < n) (hst : sA 5 (10 * i + 3) = 4) (hq : q < 10) (ha1 : 1 ≤ a) (ha2 : a ≤ 1000000) {H : Heap} {locs : List Loc} (hG : GW D tI tJ tL (A0 s) ad n sL sA H) (hS : va_S (A0 s) s.heap H locs) {ls : Array Slot} (hl : lv_has ls 22 [(18, .int (nI a)), (17, .int (nI q)), (16, .int 4), (15, .int (nI (10 * i))), (14, .int (nI i)), (13, .int (nI Y)), (12, .int (nI kd)), (11, .int (nI X)), (10, .int (nI t)), (9, .int 1), (8, .ref (ad 10)), (7, .ref (ad 9)), (6, .ref (ad 8)), (5, .ref (ad 7)), (4, .ref (ad 6)), (3, .ref (ad 5)), (2, .ref (ad 4)), (1, .ref (ad 0)), (0, .ref b)])
    (cont : CONT p l e s m b below meth c D tI tJ tL t Y K cells slots) : W p l e room_1 s m #[Value.ref b] below meth c H locs cells slots (lw_Z below #[Value.ref b] s) (F0 m 441 ls []) := by
  have hn6 := hI.n6
  refine lv_aload_n hx hb dW_law_441 rfl (lv_at hl 17 rfl) ?_
  refine lv_iconst (v := 1) hx hb dW_law_442 (by decide) ?_
  refine lv_iload hx hb dW_law_443 (lv_at hl 4 rfl) ?_
  refine lv_iload hx hb dW_law_445 (lv_at hl 1 rfl) ?_
  refine lv_iload hx hb dW_law_447 (lv_at hl 0 rfl) ?_
  refine rcSWn (rest := []) (As := [.ref (ad 0), .int 1, .int (nI i), .int (nI q), .int (nI a)]) hx hb hml hown hts hC hG hS (cD_bid l hl9 D tI tJ tL (A0 s) sg ad n sL sA (nI i) (nI q) (nI a) hI.hcnt) (gW q_176 q_177 q_0 q_178) rfl rfl hdyW_does ⟨Nat.le_of_ble_eq_true rfl, Nat.le_of_ble_eq_true rfl⟩ hl.1 rfl (Nat.le_of_ble_eq_true rfl) dW_law_449 ⟨by show _ ≤ 796740; omega, by show _ ≤ 6711247; omega⟩ (X_bid hI hi hq ha1 ha2 hst (by decide)) (fun H locs hG hS => ?_)
  refine lv_iload hx hb dW_law_452 (lv_at hl 2 rfl) ?_
  refine lv_if_le (tgt := 462) hx hb dW_law_454 (by decide) (fun c_1 => ?_) (fun c_1 => ?_)
  · exact absurd c_1 (by decide)
  · refine lv_ldc (v := (-2000000013)) hx hb hown (hts _ q_409) dW_law_457 ?_
    refine lv_goto (tgt := 467) hx hb dW_law_459 (by decide) ?_
    refine lv_icmp_ne (tgt := 474) hx hb dW_law_467 (by decide) (fun c_2 => ?_) (fun c_2 => ?_)
    · exact absurd c_2 (by decide)
    · refine lv_iconst (v := 1) hx hb dW_law_470 (by decide) ?_
      refine lv_goto (tgt := 475) hx hb dW_law_471 (by decide) ?_
      refine lv_istore (lv' := [(9, .int 1), (18, .int (nI a)), (17, .int (nI q)), (16, .int 4), (15, .int (nI (10 * i))), (14, .int (nI i)), (13, .int (nI Y)), (12, .int (nI kd)), (11, .int (nI X)), (10, .int (nI t)), (8, .ref (ad 10)), (7, .ref (ad 9)), (6, .ref (ad 8)), (5, .ref (ad 7)), (4, .ref (ad 6)), (3, .ref (ad 5)), (2, .ref (ad 4)), (1, .ref (ad 0)), (0, .ref b)]) hx hb dW_law_475 hl (by decide) rfl (fun ls hl => ?_)
      refine lv_iload hx hb dW_law_477 (lv_at hl 3 rfl) ?_
      refine lv_if_ne (tgt := 1500) hx hb dW_law_479 (by decide) (fun c_3 => ?_) (fun c_3 => ?_)
      · refine W.widen (k := cells + 60) (n := slots + 300) (by omega) (by omega) ?_
        exact cont ad _ _ _ H locs ls (by omega) (hI.mono (by omega)) hG hS (lv_sub hl [6, 9, 0, 10, 11, 12, 13, 14, 15, 16, 17, 18] rfl)
      · exact absurd c_3 (by decide)
set_option maxHeartbeats 4000000 in
set_option maxRecDepth 100000 in
theorem lc_hammer_0 {p : Program} {l : Launch} {e : Env} {s : State} {m : MethodId} {below : List Frame} {meth : Method} {c : Code} {b : Nat} (hl9 : l.stackTraces = false) (hx : p.tables.exec = Jvm.exec) (hb : c.code = code) (hml : c.maxLocals = 22) (hown : s.vm.findClass "DroitLineLaw" = some m.cls) (hts : ∀ w ∈ wNeed, w.before #[Value.ref b] s = true)
    {D : va_G} {tI tJ tL : ClassId} {sg : Nat → Nat} (hC : GC D tI tJ tL (A0 s) sg s) {t Y kd X i q a K cells slots : Nat} (hK : K ≤ 130) (hcl : cells + 60 ≤ 796740) (hsl : slots + 300 ≤ 6711247) (hY : Y < 2147483648) {ad : Nat → Nat} {n : Nat} {sL : NL} {sA : NA} (hI : INV n K sL sA) (hi : i < n) (hst : sA 5 (10 * i + 3) = 0) (hq : q < 10) (ha1 : 1 ≤ a) (ha2 : a ≤ 1000000) {H : Heap} {locs : List Loc} (hG : GW D tI tJ tL (A0 s) ad n sL sA H) (hS : va_S (A0 s) s.heap H locs) {ls : Array Slot} (hl : lv_has ls 22 [(18, .int (nI a)), (17, .int (nI q)), (16, .int 0), (15, .int (nI (10 * i))), (14, .int (nI i)), (13, .int (nI Y)), (12, .int (nI kd)), (11, .int (nI X)), (10, .int (nI t)), (9, .int 1), (8, .ref (ad 10)), (7, .ref (ad 9)), (6, .ref (ad 8)), (5, .ref (ad 7)), (4, .ref (ad 6)), (3, .ref (ad 5)), (2, .ref (ad 4)), (1, .ref (ad 0)), (0, .ref b)])
    (cont : CONT p l e s m b below meth c D tI tJ tL t Y K cells slots) : W p l e room_1 s m #[Value.ref b] below meth c H locs cells slots (lw_Z below #[Value.ref b] s) (F0 m 547 ls []) := by
  have hn6 := hI.n6
  obtain ⟨v, sA2, hF, hw, hv, hInv⟩ := E_hammer hI hK hi hst
  refine lv_aload_n hx hb dW_law_547 rfl (lv_at hl 17 rfl) ?_
  refine lv_iconst (v := 2) hx hb dW_law_548 (by decide) ?_
  refine lv_iload hx hb dW_law_549 (lv_at hl 4 rfl) ?_
  refine lv_iconst (v := 0) hx hb dW_law_551 (by decide) ?_
  refine lv_iconst (v := 0) hx hb dW_law_552 (by decide) ?_
  refine rcSWn (rest := []) (As := [.ref (ad 0), .int 2, .int (nI i), .int 0, .int 0]) hx hb hml hown hts hC hG hS (cD_hammer l hl9 D tI tJ tL (A0 s) sg ad n sL sA (nI i) hI.hcnt) (gW q_176 q_177 q_0 q_178) rfl rfl hdyW_does ⟨Nat.le_of_ble_eq_true rfl, Nat.le_of_ble_eq_true rfl⟩ hl.1 rfl (Nat.le_of_ble_eq_true rfl) dW_law_553 ⟨by show _ ≤ 796740; omega, by show _ ≤ 6711247; omega⟩ (hF) (fun H locs hG hS => ?_)
  refine lv_iload hx hb dW_law_556 (lv_at hl 2 rfl) ?_
  refine lv_if_le (tgt := 566) hx hb dW_law_558 (by decide) (fun c_1 => ?_) (fun c_1 => ?_)
  · refine lv_aload_n hx hb dW_law_566 rfl (lv_at hl 16 rfl) ?_
    refine lv_aload_n hx hb dW_law_567 rfl (lv_at hl 15 rfl) ?_
    refine lv_aload hx hb dW_law_568 (lv_at hl 13 rfl) ?_
    refine lv_aload hx hb dW_law_570 (lv_at hl 12 rfl) ?_
    refine lv_iload hx hb dW_law_572 (lv_at hl 4 rfl) ?_
    refine rcS3 (rest := [.int v]) (As := [.ref (ad 4), .ref (ad 5), .ref (ad 7), .ref (ad 8), .int (nI i)]) hx hb hml hown hts hC hG hS (cW_falls l D tI tJ tL (A0 s) sg ad n sL sA2 i (by omega) (by rw [hw 7 (by omega)]; exact hI.hpc hi)) (gS q_167 q_168 q_0 q_169) rfl rfl ⟨rfl, hdyW_falls⟩ ⟨Nat.le_of_ble_eq_true rfl, Nat.le_of_ble_eq_true rfl⟩ hl.1 rfl (Nat.le_of_ble_eq_true rfl) dW_law_574 ⟨by show _ ≤ 796740; omega, by show _ ≤ 6711247; omega⟩ (fun H locs hG hS => ?_)
    refine lv_icmp_ne (tgt := 584) hx hb dW_law_577 (by decide) (fun c_2 => ?_) (fun c_2 => ?_)
    · exact absurd c_2 (fun q => q hv)
    · refine lv_iconst (v := 1) hx hb dW_law_580 (by decide) ?_
      refine lv_goto (tgt := 585) hx hb dW_law_581 (by decide) ?_
      refine lv_istore (lv' := [(9, .int 1), (18, .int (nI a)), (17, .int (nI q)), (16, .int 0), (15, .int (nI (10 * i))), (14, .int (nI i)), (13, .int (nI Y)), (12, .int (nI kd)), (11, .int (nI X)), (10, .int (nI t)), (8, .ref (ad 10)), (7, .ref (ad 9)), (6, .ref (ad 8)), (5, .ref (ad 7)), (4, .ref (ad 6)), (3, .ref (ad 5)), (2, .ref (ad 4)), (1, .ref (ad 0)), (0, .ref b)]) hx hb dW_law_585 hl (by decide) rfl (fun ls hl => ?_)
      refine lv_goto (tgt := 1500) hx hb dW_law_587 (by decide) ?_
      refine W.widen (k := cells + 60) (n := slots + 300) (by omega) (by omega) ?_
      exact cont ad _ _ _ H locs ls (by omega) (hInv) hG hS (lv_sub hl [6, 9, 0, 10, 11, 12, 13, 14, 15, 16, 17, 18] rfl)
  · exact absurd c_1 (by decide)
set_option maxHeartbeats 4000000 in
set_option maxRecDepth 100000 in
theorem lc_hammer_1 {p : Program} {l : Launch} {e : Env} {s : State} {m : MethodId} {below : List Frame} {meth : Method} {c : Code} {b : Nat} (hl9 : l.stackTraces = false) (hx : p.tables.exec = Jvm.exec) (hb : c.code = code) (hml : c.maxLocals = 22) (hown : s.vm.findClass "DroitLineLaw" = some m.cls) (hts : ∀ w ∈ wNeed, w.before #[Value.ref b] s = true)
    {D : va_G} {tI tJ tL : ClassId} {sg : Nat → Nat} (hC : GC D tI tJ tL (A0 s) sg s) {t Y kd X i q a K cells slots : Nat} (hK : K ≤ 130) (hcl : cells + 60 ≤ 796740) (hsl : slots + 300 ≤ 6711247) (hY : Y < 2147483648) {ad : Nat → Nat} {n : Nat} {sL : NL} {sA : NA} (hI : INV n K sL sA) (hi : i < n) (hst : sA 5 (10 * i + 3) = 1) (hq : q < 10) (ha1 : 1 ≤ a) (ha2 : a ≤ 1000000) {H : Heap} {locs : List Loc} (hG : GW D tI tJ tL (A0 s) ad n sL sA H) (hS : va_S (A0 s) s.heap H locs) {ls : Array Slot} (hl : lv_has ls 22 [(18, .int (nI a)), (17, .int (nI q)), (16, .int 1), (15, .int (nI (10 * i))), (14, .int (nI i)), (13, .int (nI Y)), (12, .int (nI kd)), (11, .int (nI X)), (10, .int (nI t)), (9, .int 1), (8, .ref (ad 10)), (7, .ref (ad 9)), (6, .ref (ad 8)), (5, .ref (ad 7)), (4, .ref (ad 6)), (3, .ref (ad 5)), (2, .ref (ad 4)), (1, .ref (ad 0)), (0, .ref b)])
    (cont : CONT p l e s m b below meth c D tI tJ tL t Y K cells slots) : W p l e room_1 s m #[Value.ref b] below meth c H locs cells slots (lw_Z below #[Value.ref b] s) (F0 m 547 ls []) := by
  have hn6 := hI.n6
  refine lv_aload_n hx hb dW_law_547 rfl (lv_at hl 17 rfl) ?_
  refine lv_iconst (v := 2) hx hb dW_law_548 (by decide) ?_
  refine lv_iload hx hb dW_law_549 (lv_at hl 4 rfl) ?_
  refine lv_iconst (v := 0) hx hb dW_law_551 (by decide) ?_
  refine lv_iconst (v := 0) hx hb dW_law_552 (by decide) ?_
  refine rcSWn (rest := []) (As := [.ref (ad 0), .int 2, .int (nI i), .int 0, .int 0]) hx hb hml hown hts hC hG hS (cD_hammer l hl9 D tI tJ tL (A0 s) sg ad n sL sA (nI i) hI.hcnt) (gW q_176 q_177 q_0 q_178) rfl rfl hdyW_does ⟨Nat.le_of_ble_eq_true rfl, Nat.le_of_ble_eq_true rfl⟩ hl.1 rfl (Nat.le_of_ble_eq_true rfl) dW_law_553 ⟨by show _ ≤ 796740; omega, by show _ ≤ 6711247; omega⟩ (X_hammer hI hi hst (by decide)) (fun H locs hG hS => ?_)
  refine lv_iload hx hb dW_law_556 (lv_at hl 2 rfl) ?_
  refine lv_if_le (tgt := 566) hx hb dW_law_558 (by decide) (fun c_1 => ?_) (fun c_1 => ?_)
  · exact absurd c_1 (by decide)
  · refine lv_ldc (v := (-2000000013)) hx hb hown (hts _ q_409) dW_law_561 ?_
    refine lv_goto (tgt := 577) hx hb dW_law_563 (by decide) ?_
    refine lv_icmp_ne (tgt := 584) hx hb dW_law_577 (by decide) (fun c_2 => ?_) (fun c_2 => ?_)
    · exact absurd c_2 (by decide)
    · refine lv_iconst (v := 1) hx hb dW_law_580 (by decide) ?_
      refine lv_goto (tgt := 585) hx hb dW_law_581 (by decide) ?_
      refine lv_istore (lv' := [(9, .int 1), (18, .int (nI a)), (17, .int (nI q)), (16, .int 1), (15, .int (nI (10 * i))), (14, .int (nI i)), (13, .int (nI Y)), (12, .int (nI kd)), (11, .int (nI X)), (10, .int (nI t)), (8, .ref (ad 10)), (7, .ref (ad 9)), (6, .ref (ad 8)), (5, .ref (ad 7)), (4, .ref (ad 6)), (3, .ref (ad 5)), (2, .ref (ad 4)), (1, .ref (ad 0)), (0, .ref b)]) hx hb dW_law_585 hl (by decide) rfl (fun ls hl => ?_)
      refine lv_goto (tgt := 1500) hx hb dW_law_587 (by decide) ?_
      refine W.widen (k := cells + 60) (n := slots + 300) (by omega) (by omega) ?_
      exact cont ad _ _ _ H locs ls (by omega) (hI.mono (by omega)) hG hS (lv_sub hl [6, 9, 0, 10, 11, 12, 13, 14, 15, 16, 17, 18] rfl)
set_option maxHeartbeats 4000000 in
set_option maxRecDepth 100000 in
theorem lc_hammer_2 {p : Program} {l : Launch} {e : Env} {s : State} {m : MethodId} {below : List Frame} {meth : Method} {c : Code} {b : Nat} (hl9 : l.stackTraces = false) (hx : p.tables.exec = Jvm.exec) (hb : c.code = code) (hml : c.maxLocals = 22) (hown : s.vm.findClass "DroitLineLaw" = some m.cls) (hts : ∀ w ∈ wNeed, w.before #[Value.ref b] s = true)
    {D : va_G} {tI tJ tL : ClassId} {sg : Nat → Nat} (hC : GC D tI tJ tL (A0 s) sg s) {t Y kd X i q a K cells slots : Nat} (hK : K ≤ 130) (hcl : cells + 60 ≤ 796740) (hsl : slots + 300 ≤ 6711247) (hY : Y < 2147483648) {ad : Nat → Nat} {n : Nat} {sL : NL} {sA : NA} (hI : INV n K sL sA) (hi : i < n) (hst : sA 5 (10 * i + 3) = 2) (hq : q < 10) (ha1 : 1 ≤ a) (ha2 : a ≤ 1000000) {H : Heap} {locs : List Loc} (hG : GW D tI tJ tL (A0 s) ad n sL sA H) (hS : va_S (A0 s) s.heap H locs) {ls : Array Slot} (hl : lv_has ls 22 [(18, .int (nI a)), (17, .int (nI q)), (16, .int 2), (15, .int (nI (10 * i))), (14, .int (nI i)), (13, .int (nI Y)), (12, .int (nI kd)), (11, .int (nI X)), (10, .int (nI t)), (9, .int 1), (8, .ref (ad 10)), (7, .ref (ad 9)), (6, .ref (ad 8)), (5, .ref (ad 7)), (4, .ref (ad 6)), (3, .ref (ad 5)), (2, .ref (ad 4)), (1, .ref (ad 0)), (0, .ref b)])
    (cont : CONT p l e s m b below meth c D tI tJ tL t Y K cells slots) : W p l e room_1 s m #[Value.ref b] below meth c H locs cells slots (lw_Z below #[Value.ref b] s) (F0 m 547 ls []) := by
  have hn6 := hI.n6
  refine lv_aload_n hx hb dW_law_547 rfl (lv_at hl 17 rfl) ?_
  refine lv_iconst (v := 2) hx hb dW_law_548 (by decide) ?_
  refine lv_iload hx hb dW_law_549 (lv_at hl 4 rfl) ?_
  refine lv_iconst (v := 0) hx hb dW_law_551 (by decide) ?_
  refine lv_iconst (v := 0) hx hb dW_law_552 (by decide) ?_
  refine rcSWn (rest := []) (As := [.ref (ad 0), .int 2, .int (nI i), .int 0, .int 0]) hx hb hml hown hts hC hG hS (cD_hammer l hl9 D tI tJ tL (A0 s) sg ad n sL sA (nI i) hI.hcnt) (gW q_176 q_177 q_0 q_178) rfl rfl hdyW_does ⟨Nat.le_of_ble_eq_true rfl, Nat.le_of_ble_eq_true rfl⟩ hl.1 rfl (Nat.le_of_ble_eq_true rfl) dW_law_553 ⟨by show _ ≤ 796740; omega, by show _ ≤ 6711247; omega⟩ (X_hammer hI hi hst (by decide)) (fun H locs hG hS => ?_)
  refine lv_iload hx hb dW_law_556 (lv_at hl 2 rfl) ?_
  refine lv_if_le (tgt := 566) hx hb dW_law_558 (by decide) (fun c_1 => ?_) (fun c_1 => ?_)
  · exact absurd c_1 (by decide)
  · refine lv_ldc (v := (-2000000013)) hx hb hown (hts _ q_409) dW_law_561 ?_
    refine lv_goto (tgt := 577) hx hb dW_law_563 (by decide) ?_
    refine lv_icmp_ne (tgt := 584) hx hb dW_law_577 (by decide) (fun c_2 => ?_) (fun c_2 => ?_)
    · exact absurd c_2 (by decide)
    · refine lv_iconst (v := 1) hx hb dW_law_580 (by decide) ?_
      refine lv_goto (tgt := 585) hx hb dW_law_581 (by decide) ?_
      refine lv_istore (lv' := [(9, .int 1), (18, .int (nI a)), (17, .int (nI q)), (16, .int 2), (15, .int (nI (10 * i))), (14, .int (nI i)), (13, .int (nI Y)), (12, .int (nI kd)), (11, .int (nI X)), (10, .int (nI t)), (8, .ref (ad 10)), (7, .ref (ad 9)), (6, .ref (ad 8)), (5, .ref (ad 7)), (4, .ref (ad 6)), (3, .ref (ad 5)), (2, .ref (ad 4)), (1, .ref (ad 0)), (0, .ref b)]) hx hb dW_law_585 hl (by decide) rfl (fun ls hl => ?_)
      refine lv_goto (tgt := 1500) hx hb dW_law_587 (by decide) ?_
      refine W.widen (k := cells + 60) (n := slots + 300) (by omega) (by omega) ?_
      exact cont ad _ _ _ H locs ls (by omega) (hI.mono (by omega)) hG hS (lv_sub hl [6, 9, 0, 10, 11, 12, 13, 14, 15, 16, 17, 18] rfl)
set_option maxHeartbeats 4000000 in
set_option maxRecDepth 100000 in
theorem lc_hammer_3 {p : Program} {l : Launch} {e : Env} {s : State} {m : MethodId} {below : List Frame} {meth : Method} {c : Code} {b : Nat} (hl9 : l.stackTraces = false) (hx : p.tables.exec = Jvm.exec) (hb : c.code = code) (hml : c.maxLocals = 22) (hown : s.vm.findClass "DroitLineLaw" = some m.cls) (hts : ∀ w ∈ wNeed, w.before #[Value.ref b] s = true)
    {D : va_G} {tI tJ tL : ClassId} {sg : Nat → Nat} (hC : GC D tI tJ tL (A0 s) sg s) {t Y kd X i q a K cells slots : Nat} (hK : K ≤ 130) (hcl : cells + 60 ≤ 796740) (hsl : slots + 300 ≤ 6711247) (hY : Y < 2147483648) {ad : Nat → Nat} {n : Nat} {sL : NL} {sA : NA} (hI : INV n K sL sA) (hi : i < n) (hst : sA 5 (10 * i + 3) = 3) (hq : q < 10) (ha1 : 1 ≤ a) (ha2 : a ≤ 1000000) {H : Heap} {locs : List Loc} (hG : GW D tI tJ tL (A0 s) ad n sL sA H) (hS : va_S (A0 s) s.heap H locs) {ls : Array Slot} (hl : lv_has ls 22 [(18, .int (nI a)), (17, .int (nI q)), (16, .int 3), (15, .int (nI (10 * i))), (14, .int (nI i)), (13, .int (nI Y)), (12, .int (nI kd)), (11, .int (nI X)), (10, .int (nI t)), (9, .int 1), (8, .ref (ad 10)), (7, .ref (ad 9)), (6, .ref (ad 8)), (5, .ref (ad 7)), (4, .ref (ad 6)), (3, .ref (ad 5)), (2, .ref (ad 4)), (1, .ref (ad 0)), (0, .ref b)])
    (cont : CONT p l e s m b below meth c D tI tJ tL t Y K cells slots) : W p l e room_1 s m #[Value.ref b] below meth c H locs cells slots (lw_Z below #[Value.ref b] s) (F0 m 547 ls []) := by
  have hn6 := hI.n6
  refine lv_aload_n hx hb dW_law_547 rfl (lv_at hl 17 rfl) ?_
  refine lv_iconst (v := 2) hx hb dW_law_548 (by decide) ?_
  refine lv_iload hx hb dW_law_549 (lv_at hl 4 rfl) ?_
  refine lv_iconst (v := 0) hx hb dW_law_551 (by decide) ?_
  refine lv_iconst (v := 0) hx hb dW_law_552 (by decide) ?_
  refine rcSWn (rest := []) (As := [.ref (ad 0), .int 2, .int (nI i), .int 0, .int 0]) hx hb hml hown hts hC hG hS (cD_hammer l hl9 D tI tJ tL (A0 s) sg ad n sL sA (nI i) hI.hcnt) (gW q_176 q_177 q_0 q_178) rfl rfl hdyW_does ⟨Nat.le_of_ble_eq_true rfl, Nat.le_of_ble_eq_true rfl⟩ hl.1 rfl (Nat.le_of_ble_eq_true rfl) dW_law_553 ⟨by show _ ≤ 796740; omega, by show _ ≤ 6711247; omega⟩ (X_hammer hI hi hst (by decide)) (fun H locs hG hS => ?_)
  refine lv_iload hx hb dW_law_556 (lv_at hl 2 rfl) ?_
  refine lv_if_le (tgt := 566) hx hb dW_law_558 (by decide) (fun c_1 => ?_) (fun c_1 => ?_)
  · exact absurd c_1 (by decide)
  · refine lv_ldc (v := (-2000000013)) hx hb hown (hts _ q_409) dW_law_561 ?_
    refine lv_goto (tgt := 577) hx hb dW_law_563 (by decide) ?_
    refine lv_icmp_ne (tgt := 584) hx hb dW_law_577 (by decide) (fun c_2 => ?_) (fun c_2 => ?_)
    · exact absurd c_2 (by decide)
    · refine lv_iconst (v := 1) hx hb dW_law_580 (by decide) ?_
      refine lv_goto (tgt := 585) hx hb dW_law_581 (by decide) ?_
      refine lv_istore (lv' := [(9, .int 1), (18, .int (nI a)), (17, .int (nI q)), (16, .int 3), (15, .int (nI (10 * i))), (14, .int (nI i)), (13, .int (nI Y)), (12, .int (nI kd)), (11, .int (nI X)), (10, .int (nI t)), (8, .ref (ad 10)), (7, .ref (ad 9)), (6, .ref (ad 8)), (5, .ref (ad 7)), (4, .ref (ad 6)), (3, .ref (ad 5)), (2, .ref (ad 4)), (1, .ref (ad 0)), (0, .ref b)]) hx hb dW_law_585 hl (by decide) rfl (fun ls hl => ?_)
      refine lv_goto (tgt := 1500) hx hb dW_law_587 (by decide) ?_
      refine W.widen (k := cells + 60) (n := slots + 300) (by omega) (by omega) ?_
      exact cont ad _ _ _ H locs ls (by omega) (hI.mono (by omega)) hG hS (lv_sub hl [6, 9, 0, 10, 11, 12, 13, 14, 15, 16, 17, 18] rfl)
set_option maxHeartbeats 4000000 in
set_option maxRecDepth 100000 in
theorem lc_hammer_4 {p : Program} {l : Launch} {e : Env} {s : State} {m : MethodId} {below : List Frame} {meth : Method} {c : Code} {b : Nat} (hl9 : l.stackTraces = false) (hx : p.tables.exec = Jvm.exec) (hb : c.code = code) (hml : c.maxLocals = 22) (hown : s.vm.findClass "DroitLineLaw" = some m.cls) (hts : ∀ w ∈ wNeed, w.before #[Value.ref b] s = true)
    {D : va_G} {tI tJ tL : ClassId} {sg : Nat → Nat} (hC : GC D tI tJ tL (A0 s) sg s) {t Y kd X i q a K cells slots : Nat} (hK : K ≤ 130) (hcl : cells + 60 ≤ 796740) (hsl : slots + 300 ≤ 6711247) (hY : Y < 2147483648) {ad : Nat → Nat} {n : Nat} {sL : NL} {sA : NA} (hI : INV n K sL sA) (hi : i < n) (hst : sA 5 (10 * i + 3) = 4) (hq : q < 10) (ha1 : 1 ≤ a) (ha2 : a ≤ 1000000) {H : Heap} {locs : List Loc} (hG : GW D tI tJ tL (A0 s) ad n sL sA H) (hS : va_S (A0 s) s.heap H locs) {ls : Array Slot} (hl : lv_has ls 22 [(18, .int (nI a)), (17, .int (nI q)), (16, .int 4), (15, .int (nI (10 * i))), (14, .int (nI i)), (13, .int (nI Y)), (12, .int (nI kd)), (11, .int (nI X)), (10, .int (nI t)), (9, .int 1), (8, .ref (ad 10)), (7, .ref (ad 9)), (6, .ref (ad 8)), (5, .ref (ad 7)), (4, .ref (ad 6)), (3, .ref (ad 5)), (2, .ref (ad 4)), (1, .ref (ad 0)), (0, .ref b)])
    (cont : CONT p l e s m b below meth c D tI tJ tL t Y K cells slots) : W p l e room_1 s m #[Value.ref b] below meth c H locs cells slots (lw_Z below #[Value.ref b] s) (F0 m 547 ls []) := by
  have hn6 := hI.n6
  refine lv_aload_n hx hb dW_law_547 rfl (lv_at hl 17 rfl) ?_
  refine lv_iconst (v := 2) hx hb dW_law_548 (by decide) ?_
  refine lv_iload hx hb dW_law_549 (lv_at hl 4 rfl) ?_
  refine lv_iconst (v := 0) hx hb dW_law_551 (by decide) ?_
  refine lv_iconst (v := 0) hx hb dW_law_552 (by decide) ?_
  refine rcSWn (rest := []) (As := [.ref (ad 0), .int 2, .int (nI i), .int 0, .int 0]) hx hb hml hown hts hC hG hS (cD_hammer l hl9 D tI tJ tL (A0 s) sg ad n sL sA (nI i) hI.hcnt) (gW q_176 q_177 q_0 q_178) rfl rfl hdyW_does ⟨Nat.le_of_ble_eq_true rfl, Nat.le_of_ble_eq_true rfl⟩ hl.1 rfl (Nat.le_of_ble_eq_true rfl) dW_law_553 ⟨by show _ ≤ 796740; omega, by show _ ≤ 6711247; omega⟩ (X_hammer hI hi hst (by decide)) (fun H locs hG hS => ?_)
  refine lv_iload hx hb dW_law_556 (lv_at hl 2 rfl) ?_
  refine lv_if_le (tgt := 566) hx hb dW_law_558 (by decide) (fun c_1 => ?_) (fun c_1 => ?_)
  · exact absurd c_1 (by decide)
  · refine lv_ldc (v := (-2000000013)) hx hb hown (hts _ q_409) dW_law_561 ?_
    refine lv_goto (tgt := 577) hx hb dW_law_563 (by decide) ?_
    refine lv_icmp_ne (tgt := 584) hx hb dW_law_577 (by decide) (fun c_2 => ?_) (fun c_2 => ?_)
    · exact absurd c_2 (by decide)
    · refine lv_iconst (v := 1) hx hb dW_law_580 (by decide) ?_
      refine lv_goto (tgt := 585) hx hb dW_law_581 (by decide) ?_
      refine lv_istore (lv' := [(9, .int 1), (18, .int (nI a)), (17, .int (nI q)), (16, .int 4), (15, .int (nI (10 * i))), (14, .int (nI i)), (13, .int (nI Y)), (12, .int (nI kd)), (11, .int (nI X)), (10, .int (nI t)), (8, .ref (ad 10)), (7, .ref (ad 9)), (6, .ref (ad 8)), (5, .ref (ad 7)), (4, .ref (ad 6)), (3, .ref (ad 5)), (2, .ref (ad 4)), (1, .ref (ad 0)), (0, .ref b)]) hx hb dW_law_585 hl (by decide) rfl (fun ls hl => ?_)
      refine lv_goto (tgt := 1500) hx hb dW_law_587 (by decide) ?_
      refine W.widen (k := cells + 60) (n := slots + 300) (by omega) (by omega) ?_
      exact cont ad _ _ _ H locs ls (by omega) (hI.mono (by omega)) hG hS (lv_sub hl [6, 9, 0, 10, 11, 12, 13, 14, 15, 16, 17, 18] rfl)
set_option maxHeartbeats 4000000 in
set_option maxRecDepth 100000 in
theorem lc_again_0 {p : Program} {l : Launch} {e : Env} {s : State} {m : MethodId} {below : List Frame} {meth : Method} {c : Code} {b : Nat} (hl9 : l.stackTraces = false) (hx : p.tables.exec = Jvm.exec) (hb : c.code = code) (hml : c.maxLocals = 22) (hown : s.vm.findClass "DroitLineLaw" = some m.cls) (hts : ∀ w ∈ wNeed, w.before #[Value.ref b] s = true)
    {D : va_G} {tI tJ tL : ClassId} {sg : Nat → Nat} (hC : GC D tI tJ tL (A0 s) sg s) {t Y kd X i q a K cells slots : Nat} (hK : K ≤ 130) (hcl : cells + 60 ≤ 796740) (hsl : slots + 300 ≤ 6711247) (hY : Y < 2147483648) {ad : Nat → Nat} {n : Nat} {sL : NL} {sA : NA} (hI : INV n K sL sA) (hi : i < n) (hst : sA 5 (10 * i + 3) = 0) (hq : q < 10) (ha1 : 1 ≤ a) (ha2 : a ≤ 1000000) {H : Heap} {locs : List Loc} (hG : GW D tI tJ tL (A0 s) ad n sL sA H) (hS : va_S (A0 s) s.heap H locs) {ls : Array Slot} (hl : lv_has ls 22 [(18, .int (nI a)), (17, .int (nI q)), (16, .int 0), (15, .int (nI (10 * i))), (14, .int (nI i)), (13, .int (nI Y)), (12, .int (nI kd)), (11, .int (nI X)), (10, .int (nI t)), (9, .int 1), (8, .ref (ad 10)), (7, .ref (ad 9)), (6, .ref (ad 8)), (5, .ref (ad 7)), (4, .ref (ad 6)), (3, .ref (ad 5)), (2, .ref (ad 4)), (1, .ref (ad 0)), (0, .ref b)])
    (cont : CONT p l e s m b below meth c D tI tJ tL t Y K cells slots) : W p l e room_1 s m #[Value.ref b] below meth c H locs cells slots (lw_Z below #[Value.ref b] s) (F0 m 597 ls []) := by
  have hn6 := hI.n6
  refine W_keyP (P := fun r => r ≤ 1000000) (fun r => F0 m 610 ls [.int (nI r)]) (fun key => ?_) (fun r hr => ?_)
  · refine lv_iload hx hb dW_law_597 (lv_at hl 5 rfl) ?_
    refine lv_iconst (v := 5) hx hb dW_law_599 (by decide) ?_
    refine lv_irem hx hb dW_law_600 (by decide) ?_
    rw [show (nI Y) - (nI Y) / (5 : Int32) * (5 : Int32) = nI (Y % 5) from pk_rem (a := Y) (d := 5) (by omega) (by omega) (by omega)]
    refine lv_if_ne (tgt := 608) hx hb dW_law_601 (by decide) (fun c_1 => ?_) (fun c_1 => ?_)
    · refine lv_iload hx hb dW_law_608 (lv_at hl 0 rfl) ?_
      exact key (a) (by omega)
    · refine lv_iconst (v := 0) hx hb dW_law_604 (by decide) ?_
      refine lv_goto (tgt := 610) hx hb dW_law_605 (by decide) ?_
      exact key (0) (by omega)
  · refine lv_istore (lv' := [(19, .int (nI r)), (18, .int (nI a)), (17, .int (nI q)), (16, .int 0), (15, .int (nI (10 * i))), (14, .int (nI i)), (13, .int (nI Y)), (12, .int (nI kd)), (11, .int (nI X)), (10, .int (nI t)), (9, .int 1), (8, .ref (ad 10)), (7, .ref (ad 9)), (6, .ref (ad 8)), (5, .ref (ad 7)), (4, .ref (ad 6)), (3, .ref (ad 5)), (2, .ref (ad 4)), (1, .ref (ad 0)), (0, .ref b)]) hx hb dW_law_610 hl (by decide) rfl (fun ls hl => ?_)
    refine lv_aload_n hx hb dW_law_612 rfl (lv_at hl 18 rfl) ?_
    refine lv_iconst (v := 3) hx hb dW_law_613 (by decide) ?_
    refine lv_iload hx hb dW_law_614 (lv_at hl 5 rfl) ?_
    refine lv_iload hx hb dW_law_616 (lv_at hl 0 rfl) ?_
    refine lv_iconst (v := 0) hx hb dW_law_618 (by decide) ?_
    refine rcSWn (rest := []) (As := [.ref (ad 0), .int 3, .int (nI i), .int (nI r), .int 0]) hx hb hml hown hts hC hG hS (cD_again l hl9 D tI tJ tL (A0 s) sg ad n sL sA (nI i) (nI r)) (gW q_176 q_177 q_0 q_178) rfl rfl hdyW_does ⟨Nat.le_of_ble_eq_true rfl, Nat.le_of_ble_eq_true rfl⟩ hl.1 rfl (Nat.le_of_ble_eq_true rfl) dW_law_619 ⟨by show _ ≤ 796740; omega, by show _ ≤ 6711247; omega⟩ (X_again hI hi hr hst (by decide)) (fun H locs hG hS => ?_)
    refine lv_iload hx hb dW_law_622 (lv_at hl 3 rfl) ?_
    refine lv_iconst (v := 1) hx hb dW_law_624 (by decide) ?_
    refine lv_icmp_eq (tgt := 633) hx hb dW_law_625 (by decide) (fun c_2 => ?_) (fun c_2 => ?_)
    · exact absurd c_2 (by decide)
    · refine lv_ldc (v := (-2000000013)) hx hb hown (hts _ q_409) dW_law_628 ?_
      refine lv_goto (tgt := 640) hx hb dW_law_630 (by decide) ?_
      refine lv_icmp_ne (tgt := 647) hx hb dW_law_640 (by decide) (fun c_3 => ?_) (fun c_3 => ?_)
      · exact absurd c_3 (by decide)
      · refine lv_iconst (v := 1) hx hb dW_law_643 (by decide) ?_
        refine lv_goto (tgt := 648) hx hb dW_law_644 (by decide) ?_
        refine lv_istore (lv' := [(9, .int 1), (19, .int (nI r)), (18, .int (nI a)), (17, .int (nI q)), (16, .int 0), (15, .int (nI (10 * i))), (14, .int (nI i)), (13, .int (nI Y)), (12, .int (nI kd)), (11, .int (nI X)), (10, .int (nI t)), (8, .ref (ad 10)), (7, .ref (ad 9)), (6, .ref (ad 8)), (5, .ref (ad 7)), (4, .ref (ad 6)), (3, .ref (ad 5)), (2, .ref (ad 4)), (1, .ref (ad 0)), (0, .ref b)]) hx hb dW_law_648 hl (by decide) rfl (fun ls hl => ?_)
        refine lv_iload hx hb dW_law_650 (lv_at hl 4 rfl) ?_
        refine lv_iconst (v := 1) hx hb dW_law_652 (by decide) ?_
        refine lv_icmp_ne (tgt := 674) hx hb dW_law_653 (by decide) (fun c_4 => ?_) (fun c_4 => ?_)
        · refine lv_goto (tgt := 1500) hx hb dW_law_674 (by decide) ?_
          refine W.widen (k := cells + 60) (n := slots + 300) (by omega) (by omega) ?_
          exact cont ad _ _ _ H locs ls (by omega) (hI.mono (by omega)) hG hS (lv_sub hl [7, 10, 0, 11, 12, 13, 14, 15, 16, 17, 18, 19] rfl)
        · exact absurd c_4 (by decide)
set_option maxHeartbeats 4000000 in
set_option maxRecDepth 100000 in
theorem lc_again_1 {p : Program} {l : Launch} {e : Env} {s : State} {m : MethodId} {below : List Frame} {meth : Method} {c : Code} {b : Nat} (hl9 : l.stackTraces = false) (hx : p.tables.exec = Jvm.exec) (hb : c.code = code) (hml : c.maxLocals = 22) (hown : s.vm.findClass "DroitLineLaw" = some m.cls) (hts : ∀ w ∈ wNeed, w.before #[Value.ref b] s = true)
    {D : va_G} {tI tJ tL : ClassId} {sg : Nat → Nat} (hC : GC D tI tJ tL (A0 s) sg s) {t Y kd X i q a K cells slots : Nat} (hK : K ≤ 130) (hcl : cells + 60 ≤ 796740) (hsl : slots + 300 ≤ 6711247) (hY : Y < 2147483648) {ad : Nat → Nat} {n : Nat} {sL : NL} {sA : NA} (hI : INV n K sL sA) (hi : i < n) (hst : sA 5 (10 * i + 3) = 1) (hq : q < 10) (ha1 : 1 ≤ a) (ha2 : a ≤ 1000000) {H : Heap} {locs : List Loc} (hG : GW D tI tJ tL (A0 s) ad n sL sA H) (hS : va_S (A0 s) s.heap H locs) {ls : Array Slot} (hl : lv_has ls 22 [(18, .int (nI a)), (17, .int (nI q)), (16, .int 1), (15, .int (nI (10 * i))), (14, .int (nI i)), (13, .int (nI Y)), (12, .int (nI kd)), (11, .int (nI X)), (10, .int (nI t)), (9, .int 1), (8, .ref (ad 10)), (7, .ref (ad 9)), (6, .ref (ad 8)), (5, .ref (ad 7)), (4, .ref (ad 6)), (3, .ref (ad 5)), (2, .ref (ad 4)), (1, .ref (ad 0)), (0, .ref b)])
    (cont : CONT p l e s m b below meth c D tI tJ tL t Y K cells slots) : W p l e room_1 s m #[Value.ref b] below meth c H locs cells slots (lw_Z below #[Value.ref b] s) (F0 m 597 ls []) := by
  have hn6 := hI.n6
  refine W_keyP (P := fun r => r ≤ 1000000) (fun r => F0 m 610 ls [.int (nI r)]) (fun key => ?_) (fun r hr => ?_)
  · refine lv_iload hx hb dW_law_597 (lv_at hl 5 rfl) ?_
    refine lv_iconst (v := 5) hx hb dW_law_599 (by decide) ?_
    refine lv_irem hx hb dW_law_600 (by decide) ?_
    rw [show (nI Y) - (nI Y) / (5 : Int32) * (5 : Int32) = nI (Y % 5) from pk_rem (a := Y) (d := 5) (by omega) (by omega) (by omega)]
    refine lv_if_ne (tgt := 608) hx hb dW_law_601 (by decide) (fun c_1 => ?_) (fun c_1 => ?_)
    · refine lv_iload hx hb dW_law_608 (lv_at hl 0 rfl) ?_
      exact key (a) (by omega)
    · refine lv_iconst (v := 0) hx hb dW_law_604 (by decide) ?_
      refine lv_goto (tgt := 610) hx hb dW_law_605 (by decide) ?_
      exact key (0) (by omega)
  · obtain ⟨sA2, hF, hInv⟩ := E_again hI hi hr hst
    refine lv_istore (lv' := [(19, .int (nI r)), (18, .int (nI a)), (17, .int (nI q)), (16, .int 1), (15, .int (nI (10 * i))), (14, .int (nI i)), (13, .int (nI Y)), (12, .int (nI kd)), (11, .int (nI X)), (10, .int (nI t)), (9, .int 1), (8, .ref (ad 10)), (7, .ref (ad 9)), (6, .ref (ad 8)), (5, .ref (ad 7)), (4, .ref (ad 6)), (3, .ref (ad 5)), (2, .ref (ad 4)), (1, .ref (ad 0)), (0, .ref b)]) hx hb dW_law_610 hl (by decide) rfl (fun ls hl => ?_)
    refine lv_aload_n hx hb dW_law_612 rfl (lv_at hl 18 rfl) ?_
    refine lv_iconst (v := 3) hx hb dW_law_613 (by decide) ?_
    refine lv_iload hx hb dW_law_614 (lv_at hl 5 rfl) ?_
    refine lv_iload hx hb dW_law_616 (lv_at hl 0 rfl) ?_
    refine lv_iconst (v := 0) hx hb dW_law_618 (by decide) ?_
    refine rcSWn (rest := []) (As := [.ref (ad 0), .int 3, .int (nI i), .int (nI r), .int 0]) hx hb hml hown hts hC hG hS (cD_again l hl9 D tI tJ tL (A0 s) sg ad n sL sA (nI i) (nI r)) (gW q_176 q_177 q_0 q_178) rfl rfl hdyW_does ⟨Nat.le_of_ble_eq_true rfl, Nat.le_of_ble_eq_true rfl⟩ hl.1 rfl (Nat.le_of_ble_eq_true rfl) dW_law_619 ⟨by show _ ≤ 796740; omega, by show _ ≤ 6711247; omega⟩ (hF) (fun H locs hG hS => ?_)
    refine lv_iload hx hb dW_law_622 (lv_at hl 3 rfl) ?_
    refine lv_iconst (v := 1) hx hb dW_law_624 (by decide) ?_
    refine lv_icmp_eq (tgt := 633) hx hb dW_law_625 (by decide) (fun c_2 => ?_) (fun c_2 => ?_)
    · refine lv_aload hx hb dW_law_633 (lv_at hl 14 rfl) ?_
      refine lv_iload hx hb dW_law_635 (lv_at hl 5 rfl) ?_
      refine rcS3 (rest := [.int ((fW_clears sL sA2 i).1)]) (As := [.ref (ad 7), .int (nI i)]) hx hb hml hown hts hC hG hS (cW_clears l D tI tJ tL (A0 s) sg ad n sL sA2 i (by omega)) (gS q_173 q_174 q_0 q_175) rfl rfl ⟨rfl, hdyW_clears⟩ ⟨Nat.le_of_ble_eq_true rfl, Nat.le_of_ble_eq_true rfl⟩ hl.1 rfl (Nat.le_of_ble_eq_true rfl) dW_law_637 ⟨by show _ ≤ 796740; omega, by show _ ≤ 6711247; omega⟩ (fun H locs hG hS => ?_)
      refine lv_icmp_ne (tgt := 647) hx hb dW_law_640 (by decide) (fun c_3 => ?_) (fun c_3 => ?_)
      · exact absurd c_3 (fun q => q rfl)
      · refine lv_iconst (v := 1) hx hb dW_law_643 (by decide) ?_
        refine lv_goto (tgt := 648) hx hb dW_law_644 (by decide) ?_
        refine lv_istore (lv' := [(9, .int 1), (19, .int (nI r)), (18, .int (nI a)), (17, .int (nI q)), (16, .int 1), (15, .int (nI (10 * i))), (14, .int (nI i)), (13, .int (nI Y)), (12, .int (nI kd)), (11, .int (nI X)), (10, .int (nI t)), (8, .ref (ad 10)), (7, .ref (ad 9)), (6, .ref (ad 8)), (5, .ref (ad 7)), (4, .ref (ad 6)), (3, .ref (ad 5)), (2, .ref (ad 4)), (1, .ref (ad 0)), (0, .ref b)]) hx hb dW_law_648 hl (by decide) rfl (fun ls hl => ?_)
        refine lv_iload hx hb dW_law_650 (lv_at hl 4 rfl) ?_
        refine lv_iconst (v := 1) hx hb dW_law_652 (by decide) ?_
        refine lv_icmp_ne (tgt := 674) hx hb dW_law_653 (by decide) (fun c_4 => ?_) (fun c_4 => ?_)
        · exact absurd c_4 (by decide)
        · refine lv_aload_n hx hb dW_law_656 rfl (lv_at hl 16 rfl) ?_
          refine lv_iload hx hb dW_law_657 (lv_at hl 5 rfl) ?_
          refine lv_iconst (v := 1) hx hb dW_law_659 (by decide) ?_
          refine lv_iadd hx hb dW_law_660 ?_
          rw [show (nI (10 * i)) + (1 : Int32) = nI (10 * i + 1) from nI_add (10 * i) 1]
          refine lv_iload hx hb dW_law_661 (lv_at hl 1 rfl) ?_
          refine rcS1c (rest := [.int (nI (10 * i + 1)), .ref (ad 5)]) (As := [.int (nI r)]) hx hb hml hown hts hS (cW_call l D (nI r)) (gS q_148 q_149 q_0 q_150) rfl rfl ⟨rfl, hdyW_call⟩ ⟨Nat.le_of_ble_eq_true rfl, Nat.le_of_ble_eq_true rfl⟩ hl.1 rfl (Nat.le_of_ble_eq_true rfl) dW_law_663 ⟨by show _ ≤ 796740; omega, by show _ ≤ 6711247; omega⟩ (fun H1 locs hk9 hS => ?_)
          replace hG := hG.kept hk9
          clear hk9
          generalize H1 = H at hG hS ⊢
          refine ra_st hx hb hC hG hS 5 60 (by omega) (fun _ _ => rfl) (vp_in_nI (by omega) (by omega)) dW_law_666 (fun H locs hG hS => ?_)
          rw [show (nI (10 * i + 1)).toNatClampNeg = (10 * i + 1) from nI_clamp (by omega)] at hG
          refine lv_aload_n hx hb dW_law_667 rfl (lv_at hl 16 rfl) ?_
          refine lv_iload hx hb dW_law_668 (lv_at hl 5 rfl) ?_
          refine lv_iconst (v := 3) hx hb dW_law_670 (by decide) ?_
          refine lv_iadd hx hb dW_law_671 ?_
          rw [show (nI (10 * i)) + (3 : Int32) = nI (10 * i + 3) from nI_add (10 * i) 3]
          refine lv_iconst (v := 0) hx hb dW_law_672 (by decide) ?_
          refine ra_st hx hb hC hG hS 5 60 (by omega) (fun _ _ => rfl) (vp_in_nI (by omega) (by omega)) dW_law_673 (fun H locs hG hS => ?_)
          rw [show (nI (10 * i + 3)).toNatClampNeg = (10 * i + 3) from nI_clamp (by omega)] at hG
          refine lv_goto (tgt := 1500) hx hb dW_law_674 (by decide) ?_
          refine W.widen (k := cells + 60) (n := slots + 300) (by omega) (by omega) ?_
          exact cont ad _ _ _ H locs ls (by omega) (hInv) hG hS (lv_sub hl [7, 10, 0, 11, 12, 13, 14, 15, 16, 17, 18, 19] rfl)
    · exact absurd c_2 (by decide)
set_option maxHeartbeats 4000000 in
set_option maxRecDepth 100000 in
theorem lc_again_2 {p : Program} {l : Launch} {e : Env} {s : State} {m : MethodId} {below : List Frame} {meth : Method} {c : Code} {b : Nat} (hl9 : l.stackTraces = false) (hx : p.tables.exec = Jvm.exec) (hb : c.code = code) (hml : c.maxLocals = 22) (hown : s.vm.findClass "DroitLineLaw" = some m.cls) (hts : ∀ w ∈ wNeed, w.before #[Value.ref b] s = true)
    {D : va_G} {tI tJ tL : ClassId} {sg : Nat → Nat} (hC : GC D tI tJ tL (A0 s) sg s) {t Y kd X i q a K cells slots : Nat} (hK : K ≤ 130) (hcl : cells + 60 ≤ 796740) (hsl : slots + 300 ≤ 6711247) (hY : Y < 2147483648) {ad : Nat → Nat} {n : Nat} {sL : NL} {sA : NA} (hI : INV n K sL sA) (hi : i < n) (hst : sA 5 (10 * i + 3) = 2) (hq : q < 10) (ha1 : 1 ≤ a) (ha2 : a ≤ 1000000) {H : Heap} {locs : List Loc} (hG : GW D tI tJ tL (A0 s) ad n sL sA H) (hS : va_S (A0 s) s.heap H locs) {ls : Array Slot} (hl : lv_has ls 22 [(18, .int (nI a)), (17, .int (nI q)), (16, .int 2), (15, .int (nI (10 * i))), (14, .int (nI i)), (13, .int (nI Y)), (12, .int (nI kd)), (11, .int (nI X)), (10, .int (nI t)), (9, .int 1), (8, .ref (ad 10)), (7, .ref (ad 9)), (6, .ref (ad 8)), (5, .ref (ad 7)), (4, .ref (ad 6)), (3, .ref (ad 5)), (2, .ref (ad 4)), (1, .ref (ad 0)), (0, .ref b)])
    (cont : CONT p l e s m b below meth c D tI tJ tL t Y K cells slots) : W p l e room_1 s m #[Value.ref b] below meth c H locs cells slots (lw_Z below #[Value.ref b] s) (F0 m 597 ls []) := by
  have hn6 := hI.n6
  refine W_keyP (P := fun r => r ≤ 1000000) (fun r => F0 m 610 ls [.int (nI r)]) (fun key => ?_) (fun r hr => ?_)
  · refine lv_iload hx hb dW_law_597 (lv_at hl 5 rfl) ?_
    refine lv_iconst (v := 5) hx hb dW_law_599 (by decide) ?_
    refine lv_irem hx hb dW_law_600 (by decide) ?_
    rw [show (nI Y) - (nI Y) / (5 : Int32) * (5 : Int32) = nI (Y % 5) from pk_rem (a := Y) (d := 5) (by omega) (by omega) (by omega)]
    refine lv_if_ne (tgt := 608) hx hb dW_law_601 (by decide) (fun c_1 => ?_) (fun c_1 => ?_)
    · refine lv_iload hx hb dW_law_608 (lv_at hl 0 rfl) ?_
      exact key (a) (by omega)
    · refine lv_iconst (v := 0) hx hb dW_law_604 (by decide) ?_
      refine lv_goto (tgt := 610) hx hb dW_law_605 (by decide) ?_
      exact key (0) (by omega)
  · refine lv_istore (lv' := [(19, .int (nI r)), (18, .int (nI a)), (17, .int (nI q)), (16, .int 2), (15, .int (nI (10 * i))), (14, .int (nI i)), (13, .int (nI Y)), (12, .int (nI kd)), (11, .int (nI X)), (10, .int (nI t)), (9, .int 1), (8, .ref (ad 10)), (7, .ref (ad 9)), (6, .ref (ad 8)), (5, .ref (ad 7)), (4, .ref (ad 6)), (3, .ref (ad 5)), (2, .ref (ad 4)), (1, .ref (ad 0)), (0, .ref b)]) hx hb dW_law_610 hl (by decide) rfl (fun ls hl => ?_)
    refine lv_aload_n hx hb dW_law_612 rfl (lv_at hl 18 rfl) ?_
    refine lv_iconst (v := 3) hx hb dW_law_613 (by decide) ?_
    refine lv_iload hx hb dW_law_614 (lv_at hl 5 rfl) ?_
    refine lv_iload hx hb dW_law_616 (lv_at hl 0 rfl) ?_
    refine lv_iconst (v := 0) hx hb dW_law_618 (by decide) ?_
    refine rcSWn (rest := []) (As := [.ref (ad 0), .int 3, .int (nI i), .int (nI r), .int 0]) hx hb hml hown hts hC hG hS (cD_again l hl9 D tI tJ tL (A0 s) sg ad n sL sA (nI i) (nI r)) (gW q_176 q_177 q_0 q_178) rfl rfl hdyW_does ⟨Nat.le_of_ble_eq_true rfl, Nat.le_of_ble_eq_true rfl⟩ hl.1 rfl (Nat.le_of_ble_eq_true rfl) dW_law_619 ⟨by show _ ≤ 796740; omega, by show _ ≤ 6711247; omega⟩ (X_again hI hi hr hst (by decide)) (fun H locs hG hS => ?_)
    refine lv_iload hx hb dW_law_622 (lv_at hl 3 rfl) ?_
    refine lv_iconst (v := 1) hx hb dW_law_624 (by decide) ?_
    refine lv_icmp_eq (tgt := 633) hx hb dW_law_625 (by decide) (fun c_2 => ?_) (fun c_2 => ?_)
    · exact absurd c_2 (by decide)
    · refine lv_ldc (v := (-2000000013)) hx hb hown (hts _ q_409) dW_law_628 ?_
      refine lv_goto (tgt := 640) hx hb dW_law_630 (by decide) ?_
      refine lv_icmp_ne (tgt := 647) hx hb dW_law_640 (by decide) (fun c_3 => ?_) (fun c_3 => ?_)
      · exact absurd c_3 (by decide)
      · refine lv_iconst (v := 1) hx hb dW_law_643 (by decide) ?_
        refine lv_goto (tgt := 648) hx hb dW_law_644 (by decide) ?_
        refine lv_istore (lv' := [(9, .int 1), (19, .int (nI r)), (18, .int (nI a)), (17, .int (nI q)), (16, .int 2), (15, .int (nI (10 * i))), (14, .int (nI i)), (13, .int (nI Y)), (12, .int (nI kd)), (11, .int (nI X)), (10, .int (nI t)), (8, .ref (ad 10)), (7, .ref (ad 9)), (6, .ref (ad 8)), (5, .ref (ad 7)), (4, .ref (ad 6)), (3, .ref (ad 5)), (2, .ref (ad 4)), (1, .ref (ad 0)), (0, .ref b)]) hx hb dW_law_648 hl (by decide) rfl (fun ls hl => ?_)
        refine lv_iload hx hb dW_law_650 (lv_at hl 4 rfl) ?_
        refine lv_iconst (v := 1) hx hb dW_law_652 (by decide) ?_
        refine lv_icmp_ne (tgt := 674) hx hb dW_law_653 (by decide) (fun c_4 => ?_) (fun c_4 => ?_)
        · refine lv_goto (tgt := 1500) hx hb dW_law_674 (by decide) ?_
          refine W.widen (k := cells + 60) (n := slots + 300) (by omega) (by omega) ?_
          exact cont ad _ _ _ H locs ls (by omega) (hI.mono (by omega)) hG hS (lv_sub hl [7, 10, 0, 11, 12, 13, 14, 15, 16, 17, 18, 19] rfl)
        · exact absurd c_4 (by decide)
set_option maxHeartbeats 4000000 in
set_option maxRecDepth 100000 in
theorem lc_again_3 {p : Program} {l : Launch} {e : Env} {s : State} {m : MethodId} {below : List Frame} {meth : Method} {c : Code} {b : Nat} (hl9 : l.stackTraces = false) (hx : p.tables.exec = Jvm.exec) (hb : c.code = code) (hml : c.maxLocals = 22) (hown : s.vm.findClass "DroitLineLaw" = some m.cls) (hts : ∀ w ∈ wNeed, w.before #[Value.ref b] s = true)
    {D : va_G} {tI tJ tL : ClassId} {sg : Nat → Nat} (hC : GC D tI tJ tL (A0 s) sg s) {t Y kd X i q a K cells slots : Nat} (hK : K ≤ 130) (hcl : cells + 60 ≤ 796740) (hsl : slots + 300 ≤ 6711247) (hY : Y < 2147483648) {ad : Nat → Nat} {n : Nat} {sL : NL} {sA : NA} (hI : INV n K sL sA) (hi : i < n) (hst : sA 5 (10 * i + 3) = 3) (hq : q < 10) (ha1 : 1 ≤ a) (ha2 : a ≤ 1000000) {H : Heap} {locs : List Loc} (hG : GW D tI tJ tL (A0 s) ad n sL sA H) (hS : va_S (A0 s) s.heap H locs) {ls : Array Slot} (hl : lv_has ls 22 [(18, .int (nI a)), (17, .int (nI q)), (16, .int 3), (15, .int (nI (10 * i))), (14, .int (nI i)), (13, .int (nI Y)), (12, .int (nI kd)), (11, .int (nI X)), (10, .int (nI t)), (9, .int 1), (8, .ref (ad 10)), (7, .ref (ad 9)), (6, .ref (ad 8)), (5, .ref (ad 7)), (4, .ref (ad 6)), (3, .ref (ad 5)), (2, .ref (ad 4)), (1, .ref (ad 0)), (0, .ref b)])
    (cont : CONT p l e s m b below meth c D tI tJ tL t Y K cells slots) : W p l e room_1 s m #[Value.ref b] below meth c H locs cells slots (lw_Z below #[Value.ref b] s) (F0 m 597 ls []) := by
  have hn6 := hI.n6
  refine W_keyP (P := fun r => r ≤ 1000000) (fun r => F0 m 610 ls [.int (nI r)]) (fun key => ?_) (fun r hr => ?_)
  · refine lv_iload hx hb dW_law_597 (lv_at hl 5 rfl) ?_
    refine lv_iconst (v := 5) hx hb dW_law_599 (by decide) ?_
    refine lv_irem hx hb dW_law_600 (by decide) ?_
    rw [show (nI Y) - (nI Y) / (5 : Int32) * (5 : Int32) = nI (Y % 5) from pk_rem (a := Y) (d := 5) (by omega) (by omega) (by omega)]
    refine lv_if_ne (tgt := 608) hx hb dW_law_601 (by decide) (fun c_1 => ?_) (fun c_1 => ?_)
    · refine lv_iload hx hb dW_law_608 (lv_at hl 0 rfl) ?_
      exact key (a) (by omega)
    · refine lv_iconst (v := 0) hx hb dW_law_604 (by decide) ?_
      refine lv_goto (tgt := 610) hx hb dW_law_605 (by decide) ?_
      exact key (0) (by omega)
  · refine lv_istore (lv' := [(19, .int (nI r)), (18, .int (nI a)), (17, .int (nI q)), (16, .int 3), (15, .int (nI (10 * i))), (14, .int (nI i)), (13, .int (nI Y)), (12, .int (nI kd)), (11, .int (nI X)), (10, .int (nI t)), (9, .int 1), (8, .ref (ad 10)), (7, .ref (ad 9)), (6, .ref (ad 8)), (5, .ref (ad 7)), (4, .ref (ad 6)), (3, .ref (ad 5)), (2, .ref (ad 4)), (1, .ref (ad 0)), (0, .ref b)]) hx hb dW_law_610 hl (by decide) rfl (fun ls hl => ?_)
    refine lv_aload_n hx hb dW_law_612 rfl (lv_at hl 18 rfl) ?_
    refine lv_iconst (v := 3) hx hb dW_law_613 (by decide) ?_
    refine lv_iload hx hb dW_law_614 (lv_at hl 5 rfl) ?_
    refine lv_iload hx hb dW_law_616 (lv_at hl 0 rfl) ?_
    refine lv_iconst (v := 0) hx hb dW_law_618 (by decide) ?_
    refine rcSWn (rest := []) (As := [.ref (ad 0), .int 3, .int (nI i), .int (nI r), .int 0]) hx hb hml hown hts hC hG hS (cD_again l hl9 D tI tJ tL (A0 s) sg ad n sL sA (nI i) (nI r)) (gW q_176 q_177 q_0 q_178) rfl rfl hdyW_does ⟨Nat.le_of_ble_eq_true rfl, Nat.le_of_ble_eq_true rfl⟩ hl.1 rfl (Nat.le_of_ble_eq_true rfl) dW_law_619 ⟨by show _ ≤ 796740; omega, by show _ ≤ 6711247; omega⟩ (X_again hI hi hr hst (by decide)) (fun H locs hG hS => ?_)
    refine lv_iload hx hb dW_law_622 (lv_at hl 3 rfl) ?_
    refine lv_iconst (v := 1) hx hb dW_law_624 (by decide) ?_
    refine lv_icmp_eq (tgt := 633) hx hb dW_law_625 (by decide) (fun c_2 => ?_) (fun c_2 => ?_)
    · exact absurd c_2 (by decide)
    · refine lv_ldc (v := (-2000000013)) hx hb hown (hts _ q_409) dW_law_628 ?_
      refine lv_goto (tgt := 640) hx hb dW_law_630 (by decide) ?_
      refine lv_icmp_ne (tgt := 647) hx hb dW_law_640 (by decide) (fun c_3 => ?_) (fun c_3 => ?_)
      · exact absurd c_3 (by decide)
      · refine lv_iconst (v := 1) hx hb dW_law_643 (by decide) ?_
        refine lv_goto (tgt := 648) hx hb dW_law_644 (by decide) ?_
        refine lv_istore (lv' := [(9, .int 1), (19, .int (nI r)), (18, .int (nI a)), (17, .int (nI q)), (16, .int 3), (15, .int (nI (10 * i))), (14, .int (nI i)), (13, .int (nI Y)), (12, .int (nI kd)), (11, .int (nI X)), (10, .int (nI t)), (8, .ref (ad 10)), (7, .ref (ad 9)), (6, .ref (ad 8)), (5, .ref (ad 7)), (4, .ref (ad 6)), (3, .ref (ad 5)), (2, .ref (ad 4)), (1, .ref (ad 0)), (0, .ref b)]) hx hb dW_law_648 hl (by decide) rfl (fun ls hl => ?_)
        refine lv_iload hx hb dW_law_650 (lv_at hl 4 rfl) ?_
        refine lv_iconst (v := 1) hx hb dW_law_652 (by decide) ?_
        refine lv_icmp_ne (tgt := 674) hx hb dW_law_653 (by decide) (fun c_4 => ?_) (fun c_4 => ?_)
        · refine lv_goto (tgt := 1500) hx hb dW_law_674 (by decide) ?_
          refine W.widen (k := cells + 60) (n := slots + 300) (by omega) (by omega) ?_
          exact cont ad _ _ _ H locs ls (by omega) (hI.mono (by omega)) hG hS (lv_sub hl [7, 10, 0, 11, 12, 13, 14, 15, 16, 17, 18, 19] rfl)
        · exact absurd c_4 (by decide)
set_option maxHeartbeats 4000000 in
set_option maxRecDepth 100000 in
theorem lc_again_4 {p : Program} {l : Launch} {e : Env} {s : State} {m : MethodId} {below : List Frame} {meth : Method} {c : Code} {b : Nat} (hl9 : l.stackTraces = false) (hx : p.tables.exec = Jvm.exec) (hb : c.code = code) (hml : c.maxLocals = 22) (hown : s.vm.findClass "DroitLineLaw" = some m.cls) (hts : ∀ w ∈ wNeed, w.before #[Value.ref b] s = true)
    {D : va_G} {tI tJ tL : ClassId} {sg : Nat → Nat} (hC : GC D tI tJ tL (A0 s) sg s) {t Y kd X i q a K cells slots : Nat} (hK : K ≤ 130) (hcl : cells + 60 ≤ 796740) (hsl : slots + 300 ≤ 6711247) (hY : Y < 2147483648) {ad : Nat → Nat} {n : Nat} {sL : NL} {sA : NA} (hI : INV n K sL sA) (hi : i < n) (hst : sA 5 (10 * i + 3) = 4) (hq : q < 10) (ha1 : 1 ≤ a) (ha2 : a ≤ 1000000) {H : Heap} {locs : List Loc} (hG : GW D tI tJ tL (A0 s) ad n sL sA H) (hS : va_S (A0 s) s.heap H locs) {ls : Array Slot} (hl : lv_has ls 22 [(18, .int (nI a)), (17, .int (nI q)), (16, .int 4), (15, .int (nI (10 * i))), (14, .int (nI i)), (13, .int (nI Y)), (12, .int (nI kd)), (11, .int (nI X)), (10, .int (nI t)), (9, .int 1), (8, .ref (ad 10)), (7, .ref (ad 9)), (6, .ref (ad 8)), (5, .ref (ad 7)), (4, .ref (ad 6)), (3, .ref (ad 5)), (2, .ref (ad 4)), (1, .ref (ad 0)), (0, .ref b)])
    (cont : CONT p l e s m b below meth c D tI tJ tL t Y K cells slots) : W p l e room_1 s m #[Value.ref b] below meth c H locs cells slots (lw_Z below #[Value.ref b] s) (F0 m 597 ls []) := by
  have hn6 := hI.n6
  refine W_keyP (P := fun r => r ≤ 1000000) (fun r => F0 m 610 ls [.int (nI r)]) (fun key => ?_) (fun r hr => ?_)
  · refine lv_iload hx hb dW_law_597 (lv_at hl 5 rfl) ?_
    refine lv_iconst (v := 5) hx hb dW_law_599 (by decide) ?_
    refine lv_irem hx hb dW_law_600 (by decide) ?_
    rw [show (nI Y) - (nI Y) / (5 : Int32) * (5 : Int32) = nI (Y % 5) from pk_rem (a := Y) (d := 5) (by omega) (by omega) (by omega)]
    refine lv_if_ne (tgt := 608) hx hb dW_law_601 (by decide) (fun c_1 => ?_) (fun c_1 => ?_)
    · refine lv_iload hx hb dW_law_608 (lv_at hl 0 rfl) ?_
      exact key (a) (by omega)
    · refine lv_iconst (v := 0) hx hb dW_law_604 (by decide) ?_
      refine lv_goto (tgt := 610) hx hb dW_law_605 (by decide) ?_
      exact key (0) (by omega)
  · refine lv_istore (lv' := [(19, .int (nI r)), (18, .int (nI a)), (17, .int (nI q)), (16, .int 4), (15, .int (nI (10 * i))), (14, .int (nI i)), (13, .int (nI Y)), (12, .int (nI kd)), (11, .int (nI X)), (10, .int (nI t)), (9, .int 1), (8, .ref (ad 10)), (7, .ref (ad 9)), (6, .ref (ad 8)), (5, .ref (ad 7)), (4, .ref (ad 6)), (3, .ref (ad 5)), (2, .ref (ad 4)), (1, .ref (ad 0)), (0, .ref b)]) hx hb dW_law_610 hl (by decide) rfl (fun ls hl => ?_)
    refine lv_aload_n hx hb dW_law_612 rfl (lv_at hl 18 rfl) ?_
    refine lv_iconst (v := 3) hx hb dW_law_613 (by decide) ?_
    refine lv_iload hx hb dW_law_614 (lv_at hl 5 rfl) ?_
    refine lv_iload hx hb dW_law_616 (lv_at hl 0 rfl) ?_
    refine lv_iconst (v := 0) hx hb dW_law_618 (by decide) ?_
    refine rcSWn (rest := []) (As := [.ref (ad 0), .int 3, .int (nI i), .int (nI r), .int 0]) hx hb hml hown hts hC hG hS (cD_again l hl9 D tI tJ tL (A0 s) sg ad n sL sA (nI i) (nI r)) (gW q_176 q_177 q_0 q_178) rfl rfl hdyW_does ⟨Nat.le_of_ble_eq_true rfl, Nat.le_of_ble_eq_true rfl⟩ hl.1 rfl (Nat.le_of_ble_eq_true rfl) dW_law_619 ⟨by show _ ≤ 796740; omega, by show _ ≤ 6711247; omega⟩ (X_again hI hi hr hst (by decide)) (fun H locs hG hS => ?_)
    refine lv_iload hx hb dW_law_622 (lv_at hl 3 rfl) ?_
    refine lv_iconst (v := 1) hx hb dW_law_624 (by decide) ?_
    refine lv_icmp_eq (tgt := 633) hx hb dW_law_625 (by decide) (fun c_2 => ?_) (fun c_2 => ?_)
    · exact absurd c_2 (by decide)
    · refine lv_ldc (v := (-2000000013)) hx hb hown (hts _ q_409) dW_law_628 ?_
      refine lv_goto (tgt := 640) hx hb dW_law_630 (by decide) ?_
      refine lv_icmp_ne (tgt := 647) hx hb dW_law_640 (by decide) (fun c_3 => ?_) (fun c_3 => ?_)
      · exact absurd c_3 (by decide)
      · refine lv_iconst (v := 1) hx hb dW_law_643 (by decide) ?_
        refine lv_goto (tgt := 648) hx hb dW_law_644 (by decide) ?_
        refine lv_istore (lv' := [(9, .int 1), (19, .int (nI r)), (18, .int (nI a)), (17, .int (nI q)), (16, .int 4), (15, .int (nI (10 * i))), (14, .int (nI i)), (13, .int (nI Y)), (12, .int (nI kd)), (11, .int (nI X)), (10, .int (nI t)), (8, .ref (ad 10)), (7, .ref (ad 9)), (6, .ref (ad 8)), (5, .ref (ad 7)), (4, .ref (ad 6)), (3, .ref (ad 5)), (2, .ref (ad 4)), (1, .ref (ad 0)), (0, .ref b)]) hx hb dW_law_648 hl (by decide) rfl (fun ls hl => ?_)
        refine lv_iload hx hb dW_law_650 (lv_at hl 4 rfl) ?_
        refine lv_iconst (v := 1) hx hb dW_law_652 (by decide) ?_
        refine lv_icmp_ne (tgt := 674) hx hb dW_law_653 (by decide) (fun c_4 => ?_) (fun c_4 => ?_)
        · refine lv_goto (tgt := 1500) hx hb dW_law_674 (by decide) ?_
          refine W.widen (k := cells + 60) (n := slots + 300) (by omega) (by omega) ?_
          exact cont ad _ _ _ H locs ls (by omega) (hI.mono (by omega)) hG hS (lv_sub hl [7, 10, 0, 11, 12, 13, 14, 15, 16, 17, 18, 19] rfl)
        · exact absurd c_4 (by decide)
set_option maxHeartbeats 4000000 in
set_option maxRecDepth 100000 in
theorem lc_pay_2a {p : Program} {l : Launch} {e : Env} {s : State} {m : MethodId} {below : List Frame} {meth : Method} {c : Code} {b : Nat} (hl9 : l.stackTraces = false) (hx : p.tables.exec = Jvm.exec) (hb : c.code = code) (hml : c.maxLocals = 22) (hown : s.vm.findClass "DroitLineLaw" = some m.cls) (hts : ∀ w ∈ wNeed, w.before #[Value.ref b] s = true)
    {D : va_G} {tI tJ tL : ClassId} {sg : Nat → Nat} (hC : GC D tI tJ tL (A0 s) sg s) {t Y kd X i q a K cells slots : Nat} (hK : K ≤ 130) (hcl : cells + 60 ≤ 796740) (hsl : slots + 300 ≤ 6711247) (hY : Y < 2147483648) {ad : Nat → Nat} {n : Nat} {sL : NL} {sA : NA} (hI : INV n K sL sA) (hi : i < n) (hst : sA 5 (10 * i + 3) = 2) (h7 : sA 5 (10 * i + 7) = 0) (hq : q < 10) (ha1 : 1 ≤ a) (ha2 : a ≤ 1000000) {H : Heap} {locs : List Loc} (hG : GW D tI tJ tL (A0 s) ad n sL sA H) (hS : va_S (A0 s) s.heap H locs) {ls : Array Slot} (hl : lv_has ls 22 [(18, .int (nI a)), (17, .int (nI q)), (16, .int 2), (15, .int (nI (10 * i))), (14, .int (nI i)), (13, .int (nI Y)), (12, .int (nI kd)), (11, .int (nI X)), (10, .int (nI t)), (9, .int 1), (8, .ref (ad 10)), (7, .ref (ad 9)), (6, .ref (ad 8)), (5, .ref (ad 7)), (4, .ref (ad 6)), (3, .ref (ad 5)), (2, .ref (ad 4)), (1, .ref (ad 0)), (0, .ref b)])
    (cont : CONT p l e s m b below meth c D tI tJ tL t Y K cells slots) : W p l e room_1 s m #[Value.ref b] below meth c H locs cells slots (lw_Z below #[Value.ref b] s) (F0 m 684 ls []) := by
  have hn6 := hI.n6
  obtain ⟨sL2, sA2, hF, hw, hV1, hV2⟩ := E_pay hI hi hst
  have hw9 : ∀ x, (4 ≤ x ∧ x < 11) → sA2 x = sA x := fun x hx => hw x hx.1 hx.2
  refine lv_aload_n hx hb dW_law_684 rfl (lv_at hl 15 rfl) ?_
  refine lv_iload hx hb dW_law_685 (lv_at hl 3 rfl) ?_
  refine lv_iconst (v := 5) hx hb dW_law_687 (by decide) ?_
  refine lv_iadd hx hb dW_law_688 ?_
  rw [show (nI (10 * i)) + (5 : Int32) = nI (10 * i + 5) from nI_add (10 * i) 5]
  refine ra_ld hx hb hC hG 5 60 (by omega) (fun _ _ => rfl) (vp_in_nI (by omega) (by omega)) dW_law_689 ?_
  rw [show (nI (10 * i + 5)).toNatClampNeg = (10 * i + 5) from nI_clamp (by omega)]
  refine lv_istore (lv' := [(19, .int (sA 5 (10 * i + 5))), (18, .int (nI a)), (17, .int (nI q)), (16, .int 2), (15, .int (nI (10 * i))), (14, .int (nI i)), (13, .int (nI Y)), (12, .int (nI kd)), (11, .int (nI X)), (10, .int (nI t)), (9, .int 1), (8, .ref (ad 10)), (7, .ref (ad 9)), (6, .ref (ad 8)), (5, .ref (ad 7)), (4, .ref (ad 6)), (3, .ref (ad 5)), (2, .ref (ad 4)), (1, .ref (ad 0)), (0, .ref b)]) hx hb dW_law_690 hl (by decide) rfl (fun ls hl => ?_)
  refine lv_aload_n hx hb dW_law_692 rfl (lv_at hl 18 rfl) ?_
  refine lv_iconst (v := 4) hx hb dW_law_693 (by decide) ?_
  refine lv_iload hx hb dW_law_694 (lv_at hl 5 rfl) ?_
  refine lv_iconst (v := 0) hx hb dW_law_696 (by decide) ?_
  refine lv_iconst (v := 0) hx hb dW_law_697 (by decide) ?_
  refine rcSWn (rest := []) (As := [.ref (ad 0), .int 4, .int (nI i), .int 0, .int 0]) hx hb hml hown hts hC hG hS (cD_pay l hl9 D tI tJ tL (A0 s) sg ad n sL sA (nI i) hI.hgap) (gW q_176 q_177 q_0 q_178) rfl rfl hdyW_does ⟨Nat.le_of_ble_eq_true rfl, Nat.le_of_ble_eq_true rfl⟩ hl.1 rfl (Nat.le_of_ble_eq_true rfl) dW_law_698 ⟨by show _ ≤ 796740; omega, by show _ ≤ 6711247; omega⟩ (hF) (fun H locs hG hS => ?_)
  refine lv_iload hx hb dW_law_701 (lv_at hl 3 rfl) ?_
  refine lv_iconst (v := 2) hx hb dW_law_703 (by decide) ?_
  refine lv_icmp_eq (tgt := 712) hx hb dW_law_704 (by decide) (fun c_1 => ?_) (fun c_1 => ?_)
  · refine lv_iload hx hb dW_law_712 (lv_at hl 0 rfl) ?_
    refine lv_iload hx hb dW_law_714 (lv_at hl 0 rfl) ?_
    refine rcS1 (rest := [.int (sA 5 (10 * i + 5)), .int (sA 5 (10 * i + 5) + fW_fee (sA 5 (10 * i + 5)))]) (As := [.int (sA 5 (10 * i + 5))]) hx hb hml hown hts (cW_fee l (sA 5 (10 * i + 5))) (gS q_152 q_153 q_0 q_154) rfl rfl ⟨rfl, hdyW_fee⟩ ⟨Nat.le_of_ble_eq_true rfl, Nat.le_of_ble_eq_true rfl⟩ hl.1 rfl (Nat.le_of_ble_eq_true rfl) dW_law_716 ⟨by show _ ≤ 796740; omega, by show _ ≤ 6711247; omega⟩ ?_
    refine lv_iadd hx hb dW_law_719 ?_
    refine lv_icmp_ne (tgt := 727) hx hb dW_law_720 (by decide) (fun c_2 => ?_) (fun c_2 => ?_)
    · exact absurd c_2 (fun q => q rfl)
    · refine lv_iconst (v := 1) hx hb dW_law_723 (by decide) ?_
      refine lv_goto (tgt := 728) hx hb dW_law_724 (by decide) ?_
      refine lv_istore (lv' := [(9, .int 1), (19, .int (sA 5 (10 * i + 5))), (18, .int (nI a)), (17, .int (nI q)), (16, .int 2), (15, .int (nI (10 * i))), (14, .int (nI i)), (13, .int (nI Y)), (12, .int (nI kd)), (11, .int (nI X)), (10, .int (nI t)), (8, .ref (ad 10)), (7, .ref (ad 9)), (6, .ref (ad 8)), (5, .ref (ad 7)), (4, .ref (ad 6)), (3, .ref (ad 5)), (2, .ref (ad 4)), (1, .ref (ad 0)), (0, .ref b)]) hx hb dW_law_728 hl (by decide) rfl (fun ls hl => ?_)
      refine lv_iload hx hb dW_law_730 (lv_at hl 4 rfl) ?_
      refine lv_iconst (v := 2) hx hb dW_law_732 (by decide) ?_
      refine lv_icmp_ne (tgt := 798) hx hb dW_law_733 (by decide) (fun c_3 => ?_) (fun c_3 => ?_)
      · exact absurd c_3 (by decide)
      · refine lv_aload_n hx hb dW_law_736 rfl (lv_at hl 16 rfl) ?_
        refine lv_iload hx hb dW_law_737 (lv_at hl 5 rfl) ?_
        refine lv_iconst (v := 3) hx hb dW_law_739 (by decide) ?_
        refine lv_iadd hx hb dW_law_740 ?_
        rw [show (nI (10 * i)) + (3 : Int32) = nI (10 * i + 3) from nI_add (10 * i) 3]
        refine lv_iconst (v := 3) hx hb dW_law_741 (by decide) ?_
        refine ra_st hx hb hC hG hS 5 60 (by omega) (fun _ _ => rfl) (vp_in_nI (by omega) (by omega)) dW_law_742 (fun H locs hG hS => ?_)
        rw [show (nI (10 * i + 3)).toNatClampNeg = (10 * i + 3) from nI_clamp (by omega)] at hG
        refine lv_aload_n hx hb dW_law_743 rfl (lv_at hl 16 rfl) ?_
        refine lv_iload hx hb dW_law_744 (lv_at hl 5 rfl) ?_
        refine lv_bipush (v := 7) hx hb dW_law_746 (by decide) ?_
        refine lv_iadd hx hb dW_law_748 ?_
        rw [show (nI (10 * i)) + (7 : Int32) = nI (10 * i + 7) from nI_add (10 * i) 7]
        refine ra_ld hx hb hC hG 5 60 (by omega) (fun _ _ => rfl) (vp_in_nI (by omega) (by omega)) dW_law_749 ?_
        rw [show (nI (10 * i + 7)).toNatClampNeg = (10 * i + 7) from nI_clamp (by omega)]
        rw [show (up2 sA2 5 (10 * i + 3) 3) 5 (10 * i + 7) = 0 from by simp (disch := omega) only [up2_hit, up2_miss]; rw [hw9 5 (by omega), h7]]
        refine lv_if_le (tgt := 790) hx hb dW_law_750 (by decide) (fun c_4 => ?_) (fun c_4 => ?_)
        · refine lv_aload_n hx hb dW_law_790 rfl (lv_at hl 16 rfl) ?_
          refine lv_iload hx hb dW_law_791 (lv_at hl 5 rfl) ?_
          refine lv_bipush (v := 7) hx hb dW_law_793 (by decide) ?_
          refine lv_iadd hx hb dW_law_795 ?_
          rw [show (nI (10 * i)) + (7 : Int32) = nI (10 * i + 7) from nI_add (10 * i) 7]
          refine lv_iconst (v := 0) hx hb dW_law_796 (by decide) ?_
          refine ra_st hx hb hC hG hS 5 60 (by omega) (fun _ _ => rfl) (vp_in_nI (by omega) (by omega)) dW_law_797 (fun H locs hG hS => ?_)
          rw [show (nI (10 * i + 7)).toNatClampNeg = (10 * i + 7) from nI_clamp (by omega)] at hG
          refine lv_goto (tgt := 1500) hx hb dW_law_798 (by decide) ?_
          refine W.widen (k := cells + 60) (n := slots + 300) (by omega) (by omega) ?_
          exact cont ad _ _ _ H locs ls (by omega) (hV1 (Or.inl h7)) hG hS (lv_sub hl [7, 10, 0, 11, 12, 13, 14, 15, 16, 17, 18, 19] rfl)
        · exact absurd c_4 (by decide)
  · exact absurd c_1 (by decide)
set_option maxHeartbeats 4000000 in
set_option maxRecDepth 100000 in
theorem lc_pay_2b {p : Program} {l : Launch} {e : Env} {s : State} {m : MethodId} {below : List Frame} {meth : Method} {c : Code} {b : Nat} (hl9 : l.stackTraces = false) (hx : p.tables.exec = Jvm.exec) (hb : c.code = code) (hml : c.maxLocals = 22) (hown : s.vm.findClass "DroitLineLaw" = some m.cls) (hts : ∀ w ∈ wNeed, w.before #[Value.ref b] s = true)
    {D : va_G} {tI tJ tL : ClassId} {sg : Nat → Nat} (hC : GC D tI tJ tL (A0 s) sg s) {t Y kd X i q a K cells slots : Nat} (hK : K ≤ 130) (hcl : cells + 60 ≤ 796740) (hsl : slots + 300 ≤ 6711247) (hY : Y < 2147483648) {ad : Nat → Nat} {n : Nat} {sL : NL} {sA : NA} (hI : INV n K sL sA) (hi : i < n) (hst : sA 5 (10 * i + 3) = 2) {q7 : Nat} (hq7 : q7 < 10) (h7 : sA 5 (10 * i + 7) = nI (q7 + 1)) (hq : q < 10) (ha1 : 1 ≤ a) (ha2 : a ≤ 1000000) {H : Heap} {locs : List Loc} (hG : GW D tI tJ tL (A0 s) ad n sL sA H) (hS : va_S (A0 s) s.heap H locs) {ls : Array Slot} (hl : lv_has ls 22 [(18, .int (nI a)), (17, .int (nI q)), (16, .int 2), (15, .int (nI (10 * i))), (14, .int (nI i)), (13, .int (nI Y)), (12, .int (nI kd)), (11, .int (nI X)), (10, .int (nI t)), (9, .int 1), (8, .ref (ad 10)), (7, .ref (ad 9)), (6, .ref (ad 8)), (5, .ref (ad 7)), (4, .ref (ad 6)), (3, .ref (ad 5)), (2, .ref (ad 4)), (1, .ref (ad 0)), (0, .ref b)])
    (cont : CONT p l e s m b below meth c D tI tJ tL t Y K cells slots) : W p l e room_1 s m #[Value.ref b] below meth c H locs cells slots (lw_Z below #[Value.ref b] s) (F0 m 684 ls []) := by
  have hn6 := hI.n6
  obtain ⟨sL2, sA2, hF, hw, hV1, hV2⟩ := E_pay hI hi hst
  have hw9 : ∀ x, (4 ≤ x ∧ x < 11) → sA2 x = sA x := fun x hx => hw x hx.1 hx.2
  refine lv_aload_n hx hb dW_law_684 rfl (lv_at hl 15 rfl) ?_
  refine lv_iload hx hb dW_law_685 (lv_at hl 3 rfl) ?_
  refine lv_iconst (v := 5) hx hb dW_law_687 (by decide) ?_
  refine lv_iadd hx hb dW_law_688 ?_
  rw [show (nI (10 * i)) + (5 : Int32) = nI (10 * i + 5) from nI_add (10 * i) 5]
  refine ra_ld hx hb hC hG 5 60 (by omega) (fun _ _ => rfl) (vp_in_nI (by omega) (by omega)) dW_law_689 ?_
  rw [show (nI (10 * i + 5)).toNatClampNeg = (10 * i + 5) from nI_clamp (by omega)]
  refine lv_istore (lv' := [(19, .int (sA 5 (10 * i + 5))), (18, .int (nI a)), (17, .int (nI q)), (16, .int 2), (15, .int (nI (10 * i))), (14, .int (nI i)), (13, .int (nI Y)), (12, .int (nI kd)), (11, .int (nI X)), (10, .int (nI t)), (9, .int 1), (8, .ref (ad 10)), (7, .ref (ad 9)), (6, .ref (ad 8)), (5, .ref (ad 7)), (4, .ref (ad 6)), (3, .ref (ad 5)), (2, .ref (ad 4)), (1, .ref (ad 0)), (0, .ref b)]) hx hb dW_law_690 hl (by decide) rfl (fun ls hl => ?_)
  refine lv_aload_n hx hb dW_law_692 rfl (lv_at hl 18 rfl) ?_
  refine lv_iconst (v := 4) hx hb dW_law_693 (by decide) ?_
  refine lv_iload hx hb dW_law_694 (lv_at hl 5 rfl) ?_
  refine lv_iconst (v := 0) hx hb dW_law_696 (by decide) ?_
  refine lv_iconst (v := 0) hx hb dW_law_697 (by decide) ?_
  refine rcSWn (rest := []) (As := [.ref (ad 0), .int 4, .int (nI i), .int 0, .int 0]) hx hb hml hown hts hC hG hS (cD_pay l hl9 D tI tJ tL (A0 s) sg ad n sL sA (nI i) hI.hgap) (gW q_176 q_177 q_0 q_178) rfl rfl hdyW_does ⟨Nat.le_of_ble_eq_true rfl, Nat.le_of_ble_eq_true rfl⟩ hl.1 rfl (Nat.le_of_ble_eq_true rfl) dW_law_698 ⟨by show _ ≤ 796740; omega, by show _ ≤ 6711247; omega⟩ (hF) (fun H locs hG hS => ?_)
  refine lv_iload hx hb dW_law_701 (lv_at hl 3 rfl) ?_
  refine lv_iconst (v := 2) hx hb dW_law_703 (by decide) ?_
  refine lv_icmp_eq (tgt := 712) hx hb dW_law_704 (by decide) (fun c_1 => ?_) (fun c_1 => ?_)
  · refine lv_iload hx hb dW_law_712 (lv_at hl 0 rfl) ?_
    refine lv_iload hx hb dW_law_714 (lv_at hl 0 rfl) ?_
    refine rcS1 (rest := [.int (sA 5 (10 * i + 5)), .int (sA 5 (10 * i + 5) + fW_fee (sA 5 (10 * i + 5)))]) (As := [.int (sA 5 (10 * i + 5))]) hx hb hml hown hts (cW_fee l (sA 5 (10 * i + 5))) (gS q_152 q_153 q_0 q_154) rfl rfl ⟨rfl, hdyW_fee⟩ ⟨Nat.le_of_ble_eq_true rfl, Nat.le_of_ble_eq_true rfl⟩ hl.1 rfl (Nat.le_of_ble_eq_true rfl) dW_law_716 ⟨by show _ ≤ 796740; omega, by show _ ≤ 6711247; omega⟩ ?_
    refine lv_iadd hx hb dW_law_719 ?_
    refine lv_icmp_ne (tgt := 727) hx hb dW_law_720 (by decide) (fun c_2 => ?_) (fun c_2 => ?_)
    · exact absurd c_2 (fun q => q rfl)
    · refine lv_iconst (v := 1) hx hb dW_law_723 (by decide) ?_
      refine lv_goto (tgt := 728) hx hb dW_law_724 (by decide) ?_
      refine lv_istore (lv' := [(9, .int 1), (19, .int (sA 5 (10 * i + 5))), (18, .int (nI a)), (17, .int (nI q)), (16, .int 2), (15, .int (nI (10 * i))), (14, .int (nI i)), (13, .int (nI Y)), (12, .int (nI kd)), (11, .int (nI X)), (10, .int (nI t)), (8, .ref (ad 10)), (7, .ref (ad 9)), (6, .ref (ad 8)), (5, .ref (ad 7)), (4, .ref (ad 6)), (3, .ref (ad 5)), (2, .ref (ad 4)), (1, .ref (ad 0)), (0, .ref b)]) hx hb dW_law_728 hl (by decide) rfl (fun ls hl => ?_)
      refine lv_iload hx hb dW_law_730 (lv_at hl 4 rfl) ?_
      refine lv_iconst (v := 2) hx hb dW_law_732 (by decide) ?_
      refine lv_icmp_ne (tgt := 798) hx hb dW_law_733 (by decide) (fun c_3 => ?_) (fun c_3 => ?_)
      · exact absurd c_3 (by decide)
      · refine lv_aload_n hx hb dW_law_736 rfl (lv_at hl 16 rfl) ?_
        refine lv_iload hx hb dW_law_737 (lv_at hl 5 rfl) ?_
        refine lv_iconst (v := 3) hx hb dW_law_739 (by decide) ?_
        refine lv_iadd hx hb dW_law_740 ?_
        rw [show (nI (10 * i)) + (3 : Int32) = nI (10 * i + 3) from nI_add (10 * i) 3]
        refine lv_iconst (v := 3) hx hb dW_law_741 (by decide) ?_
        refine ra_st hx hb hC hG hS 5 60 (by omega) (fun _ _ => rfl) (vp_in_nI (by omega) (by omega)) dW_law_742 (fun H locs hG hS => ?_)
        rw [show (nI (10 * i + 3)).toNatClampNeg = (10 * i + 3) from nI_clamp (by omega)] at hG
        refine lv_aload_n hx hb dW_law_743 rfl (lv_at hl 16 rfl) ?_
        refine lv_iload hx hb dW_law_744 (lv_at hl 5 rfl) ?_
        refine lv_bipush (v := 7) hx hb dW_law_746 (by decide) ?_
        refine lv_iadd hx hb dW_law_748 ?_
        rw [show (nI (10 * i)) + (7 : Int32) = nI (10 * i + 7) from nI_add (10 * i) 7]
        refine ra_ld hx hb hC hG 5 60 (by omega) (fun _ _ => rfl) (vp_in_nI (by omega) (by omega)) dW_law_749 ?_
        rw [show (nI (10 * i + 7)).toNatClampNeg = (10 * i + 7) from nI_clamp (by omega)]
        rw [show (up2 sA2 5 (10 * i + 3) 3) 5 (10 * i + 7) = nI (q7 + 1) from by simp (disch := omega) only [up2_hit, up2_miss]; rw [hw9 5 (by omega), h7]]
        refine lv_if_le (tgt := 790) hx hb dW_law_750 (by decide) (fun c_4 => ?_) (fun c_4 => ?_)
        · exact absurd c_4 (nI_nle (by omega) (by omega))
        · refine lv_aload_n hx hb dW_law_753 rfl (lv_at hl 16 rfl) ?_
          refine lv_iload hx hb dW_law_754 (lv_at hl 5 rfl) ?_
          refine lv_bipush (v := 8) hx hb dW_law_756 (by decide) ?_
          refine lv_iadd hx hb dW_law_758 ?_
          rw [show (nI (10 * i)) + (8 : Int32) = nI (10 * i + 8) from nI_add (10 * i) 8]
          refine ra_ld hx hb hC hG 5 60 (by omega) (fun _ _ => rfl) (vp_in_nI (by omega) (by omega)) dW_law_759 ?_
          rw [show (nI (10 * i + 8)).toNatClampNeg = (10 * i + 8) from nI_clamp (by omega)]
          rw [show (up2 sA2 5 (10 * i + 3) 3) 5 (10 * i + 8) = sA 5 (10 * i + 8) from by simp (disch := omega) only [up2_hit, up2_miss]; rw [hw9 5 (by omega)]]
          refine lv_iload hx hb dW_law_760 (lv_at hl 1 rfl) ?_
          refine lv_icmp_le (tgt := 790) hx hb dW_law_762 (by decide) (fun c_5 => ?_) (fun c_5 => ?_)
          · refine lv_aload_n hx hb dW_law_790 rfl (lv_at hl 16 rfl) ?_
            refine lv_iload hx hb dW_law_791 (lv_at hl 5 rfl) ?_
            refine lv_bipush (v := 7) hx hb dW_law_793 (by decide) ?_
            refine lv_iadd hx hb dW_law_795 ?_
            rw [show (nI (10 * i)) + (7 : Int32) = nI (10 * i + 7) from nI_add (10 * i) 7]
            refine lv_iconst (v := 0) hx hb dW_law_796 (by decide) ?_
            refine ra_st hx hb hC hG hS 5 60 (by omega) (fun _ _ => rfl) (vp_in_nI (by omega) (by omega)) dW_law_797 (fun H locs hG hS => ?_)
            rw [show (nI (10 * i + 7)).toNatClampNeg = (10 * i + 7) from nI_clamp (by omega)] at hG
            refine lv_goto (tgt := 1500) hx hb dW_law_798 (by decide) ?_
            refine W.widen (k := cells + 60) (n := slots + 300) (by omega) (by omega) ?_
            exact cont ad _ _ _ H locs ls (by omega) (hV1 (Or.inr c_5)) hG hS (lv_sub hl [7, 10, 0, 11, 12, 13, 14, 15, 16, 17, 18, 19] rfl)
          · refine lv_aload hx hb dW_law_765 (lv_at hl 11 rfl) ?_
            refine lv_aload_n hx hb dW_law_767 rfl (lv_at hl 16 rfl) ?_
            refine lv_iload hx hb dW_law_768 (lv_at hl 5 rfl) ?_
            refine lv_bipush (v := 7) hx hb dW_law_770 (by decide) ?_
            refine lv_iadd hx hb dW_law_772 ?_
            rw [show (nI (10 * i)) + (7 : Int32) = nI (10 * i + 7) from nI_add (10 * i) 7]
            refine ra_ld hx hb hC hG 5 60 (by omega) (fun _ _ => rfl) (vp_in_nI (by omega) (by omega)) dW_law_773 ?_
            rw [show (nI (10 * i + 7)).toNatClampNeg = (10 * i + 7) from nI_clamp (by omega)]
            rw [show (up2 sA2 5 (10 * i + 3) 3) 5 (10 * i + 7) = nI (q7 + 1) from by simp (disch := omega) only [up2_hit, up2_miss]; rw [hw9 5 (by omega), h7]]
            refine lv_iconst (v := 1) hx hb dW_law_774 (by decide) ?_
            refine lv_isub hx hb dW_law_775 ?_
            rw [nI_pred q7]
            refine lv_dup2_11 hx hb dW_law_776 rfl rfl ?_
            refine ra_ld hx hb hC hG 10 10 (by omega) (fun _ _ => rfl) (vp_in_nI (by omega) (by omega)) dW_law_777 ?_
            rw [show (nI q7).toNatClampNeg = q7 from nI_clamp (by omega)]
            rw [show (up2 sA2 5 (10 * i + 3) 3) 10 q7 = sA 10 q7 from by simp (disch := omega) only [up2_hit, up2_miss]; rw [hw9 10 (by omega)]]
            refine lv_aload_n hx hb dW_law_778 rfl (lv_at hl 16 rfl) ?_
            refine lv_iload hx hb dW_law_779 (lv_at hl 5 rfl) ?_
            refine lv_bipush (v := 8) hx hb dW_law_781 (by decide) ?_
            refine lv_iadd hx hb dW_law_783 ?_
            rw [show (nI (10 * i)) + (8 : Int32) = nI (10 * i + 8) from nI_add (10 * i) 8]
            refine ra_ld hx hb hC hG 5 60 (by omega) (fun _ _ => rfl) (vp_in_nI (by omega) (by omega)) dW_law_784 ?_
            rw [show (nI (10 * i + 8)).toNatClampNeg = (10 * i + 8) from nI_clamp (by omega)]
            rw [show (up2 sA2 5 (10 * i + 3) 3) 5 (10 * i + 8) = sA 5 (10 * i + 8) from by simp (disch := omega) only [up2_hit, up2_miss]; rw [hw9 5 (by omega)]]
            refine lv_iload hx hb dW_law_785 (lv_at hl 1 rfl) ?_
            refine lv_isub hx hb dW_law_787 ?_
            refine lv_iadd hx hb dW_law_788 ?_
            refine ra_st hx hb hC hG hS 10 10 (by omega) (fun _ _ => rfl) (vp_in_nI (by omega) (by omega)) dW_law_789 (fun H locs hG hS => ?_)
            rw [show (nI q7).toNatClampNeg = q7 from nI_clamp (by omega)] at hG
            refine lv_aload_n hx hb dW_law_790 rfl (lv_at hl 16 rfl) ?_
            refine lv_iload hx hb dW_law_791 (lv_at hl 5 rfl) ?_
            refine lv_bipush (v := 7) hx hb dW_law_793 (by decide) ?_
            refine lv_iadd hx hb dW_law_795 ?_
            rw [show (nI (10 * i)) + (7 : Int32) = nI (10 * i + 7) from nI_add (10 * i) 7]
            refine lv_iconst (v := 0) hx hb dW_law_796 (by decide) ?_
            refine ra_st hx hb hC hG hS 5 60 (by omega) (fun _ _ => rfl) (vp_in_nI (by omega) (by omega)) dW_law_797 (fun H locs hG hS => ?_)
            rw [show (nI (10 * i + 7)).toNatClampNeg = (10 * i + 7) from nI_clamp (by omega)] at hG
            refine lv_goto (tgt := 1500) hx hb dW_law_798 (by decide) ?_
            refine W.widen (k := cells + 60) (n := slots + 300) (by omega) (by omega) ?_
            exact cont ad _ _ _ H locs ls (by omega) (hV2 q7 hq7 h7 c_5) hG hS (lv_sub hl [7, 10, 0, 11, 12, 13, 14, 15, 16, 17, 18, 19] rfl)
  · exact absurd c_1 (by decide)
set_option maxHeartbeats 4000000 in
set_option maxRecDepth 100000 in
theorem lc_pay_0 {p : Program} {l : Launch} {e : Env} {s : State} {m : MethodId} {below : List Frame} {meth : Method} {c : Code} {b : Nat} (hl9 : l.stackTraces = false) (hx : p.tables.exec = Jvm.exec) (hb : c.code = code) (hml : c.maxLocals = 22) (hown : s.vm.findClass "DroitLineLaw" = some m.cls) (hts : ∀ w ∈ wNeed, w.before #[Value.ref b] s = true)
    {D : va_G} {tI tJ tL : ClassId} {sg : Nat → Nat} (hC : GC D tI tJ tL (A0 s) sg s) {t Y kd X i q a K cells slots : Nat} (hK : K ≤ 130) (hcl : cells + 60 ≤ 796740) (hsl : slots + 300 ≤ 6711247) (hY : Y < 2147483648) {ad : Nat → Nat} {n : Nat} {sL : NL} {sA : NA} (hI : INV n K sL sA) (hi : i < n) (hst : sA 5 (10 * i + 3) = 0) (hq : q < 10) (ha1 : 1 ≤ a) (ha2 : a ≤ 1000000) {H : Heap} {locs : List Loc} (hG : GW D tI tJ tL (A0 s) ad n sL sA H) (hS : va_S (A0 s) s.heap H locs) {ls : Array Slot} (hl : lv_has ls 22 [(18, .int (nI a)), (17, .int (nI q)), (16, .int 0), (15, .int (nI (10 * i))), (14, .int (nI i)), (13, .int (nI Y)), (12, .int (nI kd)), (11, .int (nI X)), (10, .int (nI t)), (9, .int 1), (8, .ref (ad 10)), (7, .ref (ad 9)), (6, .ref (ad 8)), (5, .ref (ad 7)), (4, .ref (ad 6)), (3, .ref (ad 5)), (2, .ref (ad 4)), (1, .ref (ad 0)), (0, .ref b)])
    (cont : CONT p l e s m b below meth c D tI tJ tL t Y K cells slots) : W p l e room_1 s m #[Value.ref b] below meth c H locs cells slots (lw_Z below #[Value.ref b] s) (F0 m 684 ls []) := by
  have hn6 := hI.n6
  refine lv_aload_n hx hb dW_law_684 rfl (lv_at hl 15 rfl) ?_
  refine lv_iload hx hb dW_law_685 (lv_at hl 3 rfl) ?_
  refine lv_iconst (v := 5) hx hb dW_law_687 (by decide) ?_
  refine lv_iadd hx hb dW_law_688 ?_
  rw [show (nI (10 * i)) + (5 : Int32) = nI (10 * i + 5) from nI_add (10 * i) 5]
  refine ra_ld hx hb hC hG 5 60 (by omega) (fun _ _ => rfl) (vp_in_nI (by omega) (by omega)) dW_law_689 ?_
  rw [show (nI (10 * i + 5)).toNatClampNeg = (10 * i + 5) from nI_clamp (by omega)]
  refine lv_istore (lv' := [(19, .int (sA 5 (10 * i + 5))), (18, .int (nI a)), (17, .int (nI q)), (16, .int 0), (15, .int (nI (10 * i))), (14, .int (nI i)), (13, .int (nI Y)), (12, .int (nI kd)), (11, .int (nI X)), (10, .int (nI t)), (9, .int 1), (8, .ref (ad 10)), (7, .ref (ad 9)), (6, .ref (ad 8)), (5, .ref (ad 7)), (4, .ref (ad 6)), (3, .ref (ad 5)), (2, .ref (ad 4)), (1, .ref (ad 0)), (0, .ref b)]) hx hb dW_law_690 hl (by decide) rfl (fun ls hl => ?_)
  refine lv_aload_n hx hb dW_law_692 rfl (lv_at hl 18 rfl) ?_
  refine lv_iconst (v := 4) hx hb dW_law_693 (by decide) ?_
  refine lv_iload hx hb dW_law_694 (lv_at hl 5 rfl) ?_
  refine lv_iconst (v := 0) hx hb dW_law_696 (by decide) ?_
  refine lv_iconst (v := 0) hx hb dW_law_697 (by decide) ?_
  refine rcSWn (rest := []) (As := [.ref (ad 0), .int 4, .int (nI i), .int 0, .int 0]) hx hb hml hown hts hC hG hS (cD_pay l hl9 D tI tJ tL (A0 s) sg ad n sL sA (nI i) hI.hgap) (gW q_176 q_177 q_0 q_178) rfl rfl hdyW_does ⟨Nat.le_of_ble_eq_true rfl, Nat.le_of_ble_eq_true rfl⟩ hl.1 rfl (Nat.le_of_ble_eq_true rfl) dW_law_698 ⟨by show _ ≤ 796740; omega, by show _ ≤ 6711247; omega⟩ (X_pay hI hi hst (by decide)) (fun H locs hG hS => ?_)
  refine lv_iload hx hb dW_law_701 (lv_at hl 3 rfl) ?_
  refine lv_iconst (v := 2) hx hb dW_law_703 (by decide) ?_
  refine lv_icmp_eq (tgt := 712) hx hb dW_law_704 (by decide) (fun c_1 => ?_) (fun c_1 => ?_)
  · exact absurd c_1 (by decide)
  · refine lv_ldc (v := (-2000000013)) hx hb hown (hts _ q_409) dW_law_707 ?_
    refine lv_goto (tgt := 720) hx hb dW_law_709 (by decide) ?_
    refine lv_icmp_ne (tgt := 727) hx hb dW_law_720 (by decide) (fun c_2 => ?_) (fun c_2 => ?_)
    · exact absurd c_2 (by decide)
    · refine lv_iconst (v := 1) hx hb dW_law_723 (by decide) ?_
      refine lv_goto (tgt := 728) hx hb dW_law_724 (by decide) ?_
      refine lv_istore (lv' := [(9, .int 1), (19, .int (sA 5 (10 * i + 5))), (18, .int (nI a)), (17, .int (nI q)), (16, .int 0), (15, .int (nI (10 * i))), (14, .int (nI i)), (13, .int (nI Y)), (12, .int (nI kd)), (11, .int (nI X)), (10, .int (nI t)), (8, .ref (ad 10)), (7, .ref (ad 9)), (6, .ref (ad 8)), (5, .ref (ad 7)), (4, .ref (ad 6)), (3, .ref (ad 5)), (2, .ref (ad 4)), (1, .ref (ad 0)), (0, .ref b)]) hx hb dW_law_728 hl (by decide) rfl (fun ls hl => ?_)
      refine lv_iload hx hb dW_law_730 (lv_at hl 4 rfl) ?_
      refine lv_iconst (v := 2) hx hb dW_law_732 (by decide) ?_
      refine lv_icmp_ne (tgt := 798) hx hb dW_law_733 (by decide) (fun c_3 => ?_) (fun c_3 => ?_)
      · refine lv_goto (tgt := 1500) hx hb dW_law_798 (by decide) ?_
        refine W.widen (k := cells + 60) (n := slots + 300) (by omega) (by omega) ?_
        exact cont ad _ _ _ H locs ls (by omega) (hI.mono (by omega)) hG hS (lv_sub hl [7, 10, 0, 11, 12, 13, 14, 15, 16, 17, 18, 19] rfl)
      · exact absurd c_3 (by decide)
set_option maxHeartbeats 4000000 in
set_option maxRecDepth 100000 in
theorem lc_pay_1 {p : Program} {l : Launch} {e : Env} {s : State} {m : MethodId} {below : List Frame} {meth : Method} {c : Code} {b : Nat} (hl9 : l.stackTraces = false) (hx : p.tables.exec = Jvm.exec) (hb : c.code = code) (hml : c.maxLocals = 22) (hown : s.vm.findClass "DroitLineLaw" = some m.cls) (hts : ∀ w ∈ wNeed, w.before #[Value.ref b] s = true)
    {D : va_G} {tI tJ tL : ClassId} {sg : Nat → Nat} (hC : GC D tI tJ tL (A0 s) sg s) {t Y kd X i q a K cells slots : Nat} (hK : K ≤ 130) (hcl : cells + 60 ≤ 796740) (hsl : slots + 300 ≤ 6711247) (hY : Y < 2147483648) {ad : Nat → Nat} {n : Nat} {sL : NL} {sA : NA} (hI : INV n K sL sA) (hi : i < n) (hst : sA 5 (10 * i + 3) = 1) (hq : q < 10) (ha1 : 1 ≤ a) (ha2 : a ≤ 1000000) {H : Heap} {locs : List Loc} (hG : GW D tI tJ tL (A0 s) ad n sL sA H) (hS : va_S (A0 s) s.heap H locs) {ls : Array Slot} (hl : lv_has ls 22 [(18, .int (nI a)), (17, .int (nI q)), (16, .int 1), (15, .int (nI (10 * i))), (14, .int (nI i)), (13, .int (nI Y)), (12, .int (nI kd)), (11, .int (nI X)), (10, .int (nI t)), (9, .int 1), (8, .ref (ad 10)), (7, .ref (ad 9)), (6, .ref (ad 8)), (5, .ref (ad 7)), (4, .ref (ad 6)), (3, .ref (ad 5)), (2, .ref (ad 4)), (1, .ref (ad 0)), (0, .ref b)])
    (cont : CONT p l e s m b below meth c D tI tJ tL t Y K cells slots) : W p l e room_1 s m #[Value.ref b] below meth c H locs cells slots (lw_Z below #[Value.ref b] s) (F0 m 684 ls []) := by
  have hn6 := hI.n6
  refine lv_aload_n hx hb dW_law_684 rfl (lv_at hl 15 rfl) ?_
  refine lv_iload hx hb dW_law_685 (lv_at hl 3 rfl) ?_
  refine lv_iconst (v := 5) hx hb dW_law_687 (by decide) ?_
  refine lv_iadd hx hb dW_law_688 ?_
  rw [show (nI (10 * i)) + (5 : Int32) = nI (10 * i + 5) from nI_add (10 * i) 5]
  refine ra_ld hx hb hC hG 5 60 (by omega) (fun _ _ => rfl) (vp_in_nI (by omega) (by omega)) dW_law_689 ?_
  rw [show (nI (10 * i + 5)).toNatClampNeg = (10 * i + 5) from nI_clamp (by omega)]
  refine lv_istore (lv' := [(19, .int (sA 5 (10 * i + 5))), (18, .int (nI a)), (17, .int (nI q)), (16, .int 1), (15, .int (nI (10 * i))), (14, .int (nI i)), (13, .int (nI Y)), (12, .int (nI kd)), (11, .int (nI X)), (10, .int (nI t)), (9, .int 1), (8, .ref (ad 10)), (7, .ref (ad 9)), (6, .ref (ad 8)), (5, .ref (ad 7)), (4, .ref (ad 6)), (3, .ref (ad 5)), (2, .ref (ad 4)), (1, .ref (ad 0)), (0, .ref b)]) hx hb dW_law_690 hl (by decide) rfl (fun ls hl => ?_)
  refine lv_aload_n hx hb dW_law_692 rfl (lv_at hl 18 rfl) ?_
  refine lv_iconst (v := 4) hx hb dW_law_693 (by decide) ?_
  refine lv_iload hx hb dW_law_694 (lv_at hl 5 rfl) ?_
  refine lv_iconst (v := 0) hx hb dW_law_696 (by decide) ?_
  refine lv_iconst (v := 0) hx hb dW_law_697 (by decide) ?_
  refine rcSWn (rest := []) (As := [.ref (ad 0), .int 4, .int (nI i), .int 0, .int 0]) hx hb hml hown hts hC hG hS (cD_pay l hl9 D tI tJ tL (A0 s) sg ad n sL sA (nI i) hI.hgap) (gW q_176 q_177 q_0 q_178) rfl rfl hdyW_does ⟨Nat.le_of_ble_eq_true rfl, Nat.le_of_ble_eq_true rfl⟩ hl.1 rfl (Nat.le_of_ble_eq_true rfl) dW_law_698 ⟨by show _ ≤ 796740; omega, by show _ ≤ 6711247; omega⟩ (X_pay hI hi hst (by decide)) (fun H locs hG hS => ?_)
  refine lv_iload hx hb dW_law_701 (lv_at hl 3 rfl) ?_
  refine lv_iconst (v := 2) hx hb dW_law_703 (by decide) ?_
  refine lv_icmp_eq (tgt := 712) hx hb dW_law_704 (by decide) (fun c_1 => ?_) (fun c_1 => ?_)
  · exact absurd c_1 (by decide)
  · refine lv_ldc (v := (-2000000013)) hx hb hown (hts _ q_409) dW_law_707 ?_
    refine lv_goto (tgt := 720) hx hb dW_law_709 (by decide) ?_
    refine lv_icmp_ne (tgt := 727) hx hb dW_law_720 (by decide) (fun c_2 => ?_) (fun c_2 => ?_)
    · exact absurd c_2 (by decide)
    · refine lv_iconst (v := 1) hx hb dW_law_723 (by decide) ?_
      refine lv_goto (tgt := 728) hx hb dW_law_724 (by decide) ?_
      refine lv_istore (lv' := [(9, .int 1), (19, .int (sA 5 (10 * i + 5))), (18, .int (nI a)), (17, .int (nI q)), (16, .int 1), (15, .int (nI (10 * i))), (14, .int (nI i)), (13, .int (nI Y)), (12, .int (nI kd)), (11, .int (nI X)), (10, .int (nI t)), (8, .ref (ad 10)), (7, .ref (ad 9)), (6, .ref (ad 8)), (5, .ref (ad 7)), (4, .ref (ad 6)), (3, .ref (ad 5)), (2, .ref (ad 4)), (1, .ref (ad 0)), (0, .ref b)]) hx hb dW_law_728 hl (by decide) rfl (fun ls hl => ?_)
      refine lv_iload hx hb dW_law_730 (lv_at hl 4 rfl) ?_
      refine lv_iconst (v := 2) hx hb dW_law_732 (by decide) ?_
      refine lv_icmp_ne (tgt := 798) hx hb dW_law_733 (by decide) (fun c_3 => ?_) (fun c_3 => ?_)
      · refine lv_goto (tgt := 1500) hx hb dW_law_798 (by decide) ?_
        refine W.widen (k := cells + 60) (n := slots + 300) (by omega) (by omega) ?_
        exact cont ad _ _ _ H locs ls (by omega) (hI.mono (by omega)) hG hS (lv_sub hl [7, 10, 0, 11, 12, 13, 14, 15, 16, 17, 18, 19] rfl)
      · exact absurd c_3 (by decide)
set_option maxHeartbeats 4000000 in
set_option maxRecDepth 100000 in
theorem lc_pay_3 {p : Program} {l : Launch} {e : Env} {s : State} {m : MethodId} {below : List Frame} {meth : Method} {c : Code} {b : Nat} (hl9 : l.stackTraces = false) (hx : p.tables.exec = Jvm.exec) (hb : c.code = code) (hml : c.maxLocals = 22) (hown : s.vm.findClass "DroitLineLaw" = some m.cls) (hts : ∀ w ∈ wNeed, w.before #[Value.ref b] s = true)
    {D : va_G} {tI tJ tL : ClassId} {sg : Nat → Nat} (hC : GC D tI tJ tL (A0 s) sg s) {t Y kd X i q a K cells slots : Nat} (hK : K ≤ 130) (hcl : cells + 60 ≤ 796740) (hsl : slots + 300 ≤ 6711247) (hY : Y < 2147483648) {ad : Nat → Nat} {n : Nat} {sL : NL} {sA : NA} (hI : INV n K sL sA) (hi : i < n) (hst : sA 5 (10 * i + 3) = 3) (hq : q < 10) (ha1 : 1 ≤ a) (ha2 : a ≤ 1000000) {H : Heap} {locs : List Loc} (hG : GW D tI tJ tL (A0 s) ad n sL sA H) (hS : va_S (A0 s) s.heap H locs) {ls : Array Slot} (hl : lv_has ls 22 [(18, .int (nI a)), (17, .int (nI q)), (16, .int 3), (15, .int (nI (10 * i))), (14, .int (nI i)), (13, .int (nI Y)), (12, .int (nI kd)), (11, .int (nI X)), (10, .int (nI t)), (9, .int 1), (8, .ref (ad 10)), (7, .ref (ad 9)), (6, .ref (ad 8)), (5, .ref (ad 7)), (4, .ref (ad 6)), (3, .ref (ad 5)), (2, .ref (ad 4)), (1, .ref (ad 0)), (0, .ref b)])
    (cont : CONT p l e s m b below meth c D tI tJ tL t Y K cells slots) : W p l e room_1 s m #[Value.ref b] below meth c H locs cells slots (lw_Z below #[Value.ref b] s) (F0 m 684 ls []) := by
  have hn6 := hI.n6
  refine lv_aload_n hx hb dW_law_684 rfl (lv_at hl 15 rfl) ?_
  refine lv_iload hx hb dW_law_685 (lv_at hl 3 rfl) ?_
  refine lv_iconst (v := 5) hx hb dW_law_687 (by decide) ?_
  refine lv_iadd hx hb dW_law_688 ?_
  rw [show (nI (10 * i)) + (5 : Int32) = nI (10 * i + 5) from nI_add (10 * i) 5]
  refine ra_ld hx hb hC hG 5 60 (by omega) (fun _ _ => rfl) (vp_in_nI (by omega) (by omega)) dW_law_689 ?_
  rw [show (nI (10 * i + 5)).toNatClampNeg = (10 * i + 5) from nI_clamp (by omega)]
  refine lv_istore (lv' := [(19, .int (sA 5 (10 * i + 5))), (18, .int (nI a)), (17, .int (nI q)), (16, .int 3), (15, .int (nI (10 * i))), (14, .int (nI i)), (13, .int (nI Y)), (12, .int (nI kd)), (11, .int (nI X)), (10, .int (nI t)), (9, .int 1), (8, .ref (ad 10)), (7, .ref (ad 9)), (6, .ref (ad 8)), (5, .ref (ad 7)), (4, .ref (ad 6)), (3, .ref (ad 5)), (2, .ref (ad 4)), (1, .ref (ad 0)), (0, .ref b)]) hx hb dW_law_690 hl (by decide) rfl (fun ls hl => ?_)
  refine lv_aload_n hx hb dW_law_692 rfl (lv_at hl 18 rfl) ?_
  refine lv_iconst (v := 4) hx hb dW_law_693 (by decide) ?_
  refine lv_iload hx hb dW_law_694 (lv_at hl 5 rfl) ?_
  refine lv_iconst (v := 0) hx hb dW_law_696 (by decide) ?_
  refine lv_iconst (v := 0) hx hb dW_law_697 (by decide) ?_
  refine rcSWn (rest := []) (As := [.ref (ad 0), .int 4, .int (nI i), .int 0, .int 0]) hx hb hml hown hts hC hG hS (cD_pay l hl9 D tI tJ tL (A0 s) sg ad n sL sA (nI i) hI.hgap) (gW q_176 q_177 q_0 q_178) rfl rfl hdyW_does ⟨Nat.le_of_ble_eq_true rfl, Nat.le_of_ble_eq_true rfl⟩ hl.1 rfl (Nat.le_of_ble_eq_true rfl) dW_law_698 ⟨by show _ ≤ 796740; omega, by show _ ≤ 6711247; omega⟩ (X_pay hI hi hst (by decide)) (fun H locs hG hS => ?_)
  refine lv_iload hx hb dW_law_701 (lv_at hl 3 rfl) ?_
  refine lv_iconst (v := 2) hx hb dW_law_703 (by decide) ?_
  refine lv_icmp_eq (tgt := 712) hx hb dW_law_704 (by decide) (fun c_1 => ?_) (fun c_1 => ?_)
  · exact absurd c_1 (by decide)
  · refine lv_ldc (v := (-2000000013)) hx hb hown (hts _ q_409) dW_law_707 ?_
    refine lv_goto (tgt := 720) hx hb dW_law_709 (by decide) ?_
    refine lv_icmp_ne (tgt := 727) hx hb dW_law_720 (by decide) (fun c_2 => ?_) (fun c_2 => ?_)
    · exact absurd c_2 (by decide)
    · refine lv_iconst (v := 1) hx hb dW_law_723 (by decide) ?_
      refine lv_goto (tgt := 728) hx hb dW_law_724 (by decide) ?_
      refine lv_istore (lv' := [(9, .int 1), (19, .int (sA 5 (10 * i + 5))), (18, .int (nI a)), (17, .int (nI q)), (16, .int 3), (15, .int (nI (10 * i))), (14, .int (nI i)), (13, .int (nI Y)), (12, .int (nI kd)), (11, .int (nI X)), (10, .int (nI t)), (8, .ref (ad 10)), (7, .ref (ad 9)), (6, .ref (ad 8)), (5, .ref (ad 7)), (4, .ref (ad 6)), (3, .ref (ad 5)), (2, .ref (ad 4)), (1, .ref (ad 0)), (0, .ref b)]) hx hb dW_law_728 hl (by decide) rfl (fun ls hl => ?_)
      refine lv_iload hx hb dW_law_730 (lv_at hl 4 rfl) ?_
      refine lv_iconst (v := 2) hx hb dW_law_732 (by decide) ?_
      refine lv_icmp_ne (tgt := 798) hx hb dW_law_733 (by decide) (fun c_3 => ?_) (fun c_3 => ?_)
      · refine lv_goto (tgt := 1500) hx hb dW_law_798 (by decide) ?_
        refine W.widen (k := cells + 60) (n := slots + 300) (by omega) (by omega) ?_
        exact cont ad _ _ _ H locs ls (by omega) (hI.mono (by omega)) hG hS (lv_sub hl [7, 10, 0, 11, 12, 13, 14, 15, 16, 17, 18, 19] rfl)
      · exact absurd c_3 (by decide)
set_option maxHeartbeats 4000000 in
set_option maxRecDepth 100000 in
theorem lc_pay_4 {p : Program} {l : Launch} {e : Env} {s : State} {m : MethodId} {below : List Frame} {meth : Method} {c : Code} {b : Nat} (hl9 : l.stackTraces = false) (hx : p.tables.exec = Jvm.exec) (hb : c.code = code) (hml : c.maxLocals = 22) (hown : s.vm.findClass "DroitLineLaw" = some m.cls) (hts : ∀ w ∈ wNeed, w.before #[Value.ref b] s = true)
    {D : va_G} {tI tJ tL : ClassId} {sg : Nat → Nat} (hC : GC D tI tJ tL (A0 s) sg s) {t Y kd X i q a K cells slots : Nat} (hK : K ≤ 130) (hcl : cells + 60 ≤ 796740) (hsl : slots + 300 ≤ 6711247) (hY : Y < 2147483648) {ad : Nat → Nat} {n : Nat} {sL : NL} {sA : NA} (hI : INV n K sL sA) (hi : i < n) (hst : sA 5 (10 * i + 3) = 4) (hq : q < 10) (ha1 : 1 ≤ a) (ha2 : a ≤ 1000000) {H : Heap} {locs : List Loc} (hG : GW D tI tJ tL (A0 s) ad n sL sA H) (hS : va_S (A0 s) s.heap H locs) {ls : Array Slot} (hl : lv_has ls 22 [(18, .int (nI a)), (17, .int (nI q)), (16, .int 4), (15, .int (nI (10 * i))), (14, .int (nI i)), (13, .int (nI Y)), (12, .int (nI kd)), (11, .int (nI X)), (10, .int (nI t)), (9, .int 1), (8, .ref (ad 10)), (7, .ref (ad 9)), (6, .ref (ad 8)), (5, .ref (ad 7)), (4, .ref (ad 6)), (3, .ref (ad 5)), (2, .ref (ad 4)), (1, .ref (ad 0)), (0, .ref b)])
    (cont : CONT p l e s m b below meth c D tI tJ tL t Y K cells slots) : W p l e room_1 s m #[Value.ref b] below meth c H locs cells slots (lw_Z below #[Value.ref b] s) (F0 m 684 ls []) := by
  have hn6 := hI.n6
  refine lv_aload_n hx hb dW_law_684 rfl (lv_at hl 15 rfl) ?_
  refine lv_iload hx hb dW_law_685 (lv_at hl 3 rfl) ?_
  refine lv_iconst (v := 5) hx hb dW_law_687 (by decide) ?_
  refine lv_iadd hx hb dW_law_688 ?_
  rw [show (nI (10 * i)) + (5 : Int32) = nI (10 * i + 5) from nI_add (10 * i) 5]
  refine ra_ld hx hb hC hG 5 60 (by omega) (fun _ _ => rfl) (vp_in_nI (by omega) (by omega)) dW_law_689 ?_
  rw [show (nI (10 * i + 5)).toNatClampNeg = (10 * i + 5) from nI_clamp (by omega)]
  refine lv_istore (lv' := [(19, .int (sA 5 (10 * i + 5))), (18, .int (nI a)), (17, .int (nI q)), (16, .int 4), (15, .int (nI (10 * i))), (14, .int (nI i)), (13, .int (nI Y)), (12, .int (nI kd)), (11, .int (nI X)), (10, .int (nI t)), (9, .int 1), (8, .ref (ad 10)), (7, .ref (ad 9)), (6, .ref (ad 8)), (5, .ref (ad 7)), (4, .ref (ad 6)), (3, .ref (ad 5)), (2, .ref (ad 4)), (1, .ref (ad 0)), (0, .ref b)]) hx hb dW_law_690 hl (by decide) rfl (fun ls hl => ?_)
  refine lv_aload_n hx hb dW_law_692 rfl (lv_at hl 18 rfl) ?_
  refine lv_iconst (v := 4) hx hb dW_law_693 (by decide) ?_
  refine lv_iload hx hb dW_law_694 (lv_at hl 5 rfl) ?_
  refine lv_iconst (v := 0) hx hb dW_law_696 (by decide) ?_
  refine lv_iconst (v := 0) hx hb dW_law_697 (by decide) ?_
  refine rcSWn (rest := []) (As := [.ref (ad 0), .int 4, .int (nI i), .int 0, .int 0]) hx hb hml hown hts hC hG hS (cD_pay l hl9 D tI tJ tL (A0 s) sg ad n sL sA (nI i) hI.hgap) (gW q_176 q_177 q_0 q_178) rfl rfl hdyW_does ⟨Nat.le_of_ble_eq_true rfl, Nat.le_of_ble_eq_true rfl⟩ hl.1 rfl (Nat.le_of_ble_eq_true rfl) dW_law_698 ⟨by show _ ≤ 796740; omega, by show _ ≤ 6711247; omega⟩ (X_pay hI hi hst (by decide)) (fun H locs hG hS => ?_)
  refine lv_iload hx hb dW_law_701 (lv_at hl 3 rfl) ?_
  refine lv_iconst (v := 2) hx hb dW_law_703 (by decide) ?_
  refine lv_icmp_eq (tgt := 712) hx hb dW_law_704 (by decide) (fun c_1 => ?_) (fun c_1 => ?_)
  · exact absurd c_1 (by decide)
  · refine lv_ldc (v := (-2000000013)) hx hb hown (hts _ q_409) dW_law_707 ?_
    refine lv_goto (tgt := 720) hx hb dW_law_709 (by decide) ?_
    refine lv_icmp_ne (tgt := 727) hx hb dW_law_720 (by decide) (fun c_2 => ?_) (fun c_2 => ?_)
    · exact absurd c_2 (by decide)
    · refine lv_iconst (v := 1) hx hb dW_law_723 (by decide) ?_
      refine lv_goto (tgt := 728) hx hb dW_law_724 (by decide) ?_
      refine lv_istore (lv' := [(9, .int 1), (19, .int (sA 5 (10 * i + 5))), (18, .int (nI a)), (17, .int (nI q)), (16, .int 4), (15, .int (nI (10 * i))), (14, .int (nI i)), (13, .int (nI Y)), (12, .int (nI kd)), (11, .int (nI X)), (10, .int (nI t)), (8, .ref (ad 10)), (7, .ref (ad 9)), (6, .ref (ad 8)), (5, .ref (ad 7)), (4, .ref (ad 6)), (3, .ref (ad 5)), (2, .ref (ad 4)), (1, .ref (ad 0)), (0, .ref b)]) hx hb dW_law_728 hl (by decide) rfl (fun ls hl => ?_)
      refine lv_iload hx hb dW_law_730 (lv_at hl 4 rfl) ?_
      refine lv_iconst (v := 2) hx hb dW_law_732 (by decide) ?_
      refine lv_icmp_ne (tgt := 798) hx hb dW_law_733 (by decide) (fun c_3 => ?_) (fun c_3 => ?_)
      · refine lv_goto (tgt := 1500) hx hb dW_law_798 (by decide) ?_
        refine W.widen (k := cells + 60) (n := slots + 300) (by omega) (by omega) ?_
        exact cont ad _ _ _ H locs ls (by omega) (hI.mono (by omega)) hG hS (lv_sub hl [7, 10, 0, 11, 12, 13, 14, 15, 16, 17, 18, 19] rfl)
      · exact absurd c_3 (by decide)
set_option maxHeartbeats 4000000 in
set_option maxRecDepth 100000 in
theorem lc_defaults_2a {p : Program} {l : Launch} {e : Env} {s : State} {m : MethodId} {below : List Frame} {meth : Method} {c : Code} {b : Nat} (hl9 : l.stackTraces = false) (hx : p.tables.exec = Jvm.exec) (hb : c.code = code) (hml : c.maxLocals = 22) (hown : s.vm.findClass "DroitLineLaw" = some m.cls) (hts : ∀ w ∈ wNeed, w.before #[Value.ref b] s = true)
    {D : va_G} {tI tJ tL : ClassId} {sg : Nat → Nat} (hC : GC D tI tJ tL (A0 s) sg s) {t Y kd X i q a K cells slots : Nat} (hK : K ≤ 130) (hcl : cells + 60 ≤ 796740) (hsl : slots + 300 ≤ 6711247) (hY : Y < 2147483648) {ad : Nat → Nat} {n : Nat} {sL : NL} {sA : NA} (hI : INV n K sL sA) (hi : i < n) (hst : sA 5 (10 * i + 3) = 2) (h7 : sA 5 (10 * i + 7) = 0) (hq : q < 10) (ha1 : 1 ≤ a) (ha2 : a ≤ 1000000) {H : Heap} {locs : List Loc} (hG : GW D tI tJ tL (A0 s) ad n sL sA H) (hS : va_S (A0 s) s.heap H locs) {ls : Array Slot} (hl : lv_has ls 22 [(18, .int (nI a)), (17, .int (nI q)), (16, .int 2), (15, .int (nI (10 * i))), (14, .int (nI i)), (13, .int (nI Y)), (12, .int (nI kd)), (11, .int (nI X)), (10, .int (nI t)), (9, .int 1), (8, .ref (ad 10)), (7, .ref (ad 9)), (6, .ref (ad 8)), (5, .ref (ad 7)), (4, .ref (ad 6)), (3, .ref (ad 5)), (2, .ref (ad 4)), (1, .ref (ad 0)), (0, .ref b)])
    (cont : CONT p l e s m b below meth c D tI tJ tL t Y K cells slots) : W p l e room_1 s m #[Value.ref b] below meth c H locs cells slots (lw_Z below #[Value.ref b] s) (F0 m 808 ls []) := by
  have hn6 := hI.n6
  obtain ⟨sA2, hF, hw, hV⟩ := E_defaults hI hi hst
  refine lv_aload_n hx hb dW_law_808 rfl (lv_at hl 17 rfl) ?_
  refine lv_iconst (v := 5) hx hb dW_law_809 (by decide) ?_
  refine lv_iload hx hb dW_law_810 (lv_at hl 4 rfl) ?_
  refine lv_iconst (v := 0) hx hb dW_law_812 (by decide) ?_
  refine lv_iconst (v := 0) hx hb dW_law_813 (by decide) ?_
  refine rcSWn (rest := []) (As := [.ref (ad 0), .int 5, .int (nI i), .int 0, .int 0]) hx hb hml hown hts hC hG hS (cD_defaults l hl9 D tI tJ tL (A0 s) sg ad n sL sA (nI i)) (gW q_176 q_177 q_0 q_178) rfl rfl hdyW_does ⟨Nat.le_of_ble_eq_true rfl, Nat.le_of_ble_eq_true rfl⟩ hl.1 rfl (Nat.le_of_ble_eq_true rfl) dW_law_814 ⟨by show _ ≤ 796740; omega, by show _ ≤ 6711247; omega⟩ (hF) (fun H locs hG hS => ?_)
  refine lv_iload hx hb dW_law_817 (lv_at hl 2 rfl) ?_
  refine lv_iconst (v := 2) hx hb dW_law_819 (by decide) ?_
  refine lv_icmp_eq (tgt := 828) hx hb dW_law_820 (by decide) (fun c_1 => ?_) (fun c_1 => ?_)
  · refine lv_aload_n hx hb dW_law_828 rfl (lv_at hl 15 rfl) ?_
    refine lv_iload hx hb dW_law_829 (lv_at hl 3 rfl) ?_
    refine lv_iconst (v := 4) hx hb dW_law_831 (by decide) ?_
    refine lv_iadd hx hb dW_law_832 ?_
    rw [show (nI (10 * i)) + (4 : Int32) = nI (10 * i + 4) from nI_add (10 * i) 4]
    refine ra_ld hx hb hC hG 5 60 (by omega) (fun _ _ => rfl) (vp_in_nI (by omega) (by omega)) dW_law_833 ?_
    rw [show (nI (10 * i + 4)).toNatClampNeg = (10 * i + 4) from nI_clamp (by omega)]
    rw [show sA2 5 (10 * i + 4) = sA 5 (10 * i + 4) from by rw [hw 5 (by omega)]]
    refine lv_icmp_ne (tgt := 841) hx hb dW_law_834 (by decide) (fun c_2 => ?_) (fun c_2 => ?_)
    · exact absurd c_2 (fun q => q rfl)
    · refine lv_iconst (v := 1) hx hb dW_law_837 (by decide) ?_
      refine lv_goto (tgt := 842) hx hb dW_law_838 (by decide) ?_
      refine lv_istore (lv' := [(9, .int 1), (18, .int (nI a)), (17, .int (nI q)), (16, .int 2), (15, .int (nI (10 * i))), (14, .int (nI i)), (13, .int (nI Y)), (12, .int (nI kd)), (11, .int (nI X)), (10, .int (nI t)), (8, .ref (ad 10)), (7, .ref (ad 9)), (6, .ref (ad 8)), (5, .ref (ad 7)), (4, .ref (ad 6)), (3, .ref (ad 5)), (2, .ref (ad 4)), (1, .ref (ad 0)), (0, .ref b)]) hx hb dW_law_842 hl (by decide) rfl (fun ls hl => ?_)
      refine lv_iload hx hb dW_law_844 (lv_at hl 3 rfl) ?_
      refine lv_iconst (v := 2) hx hb dW_law_846 (by decide) ?_
      refine lv_icmp_ne (tgt := 1500) hx hb dW_law_847 (by decide) (fun c_3 => ?_) (fun c_3 => ?_)
      · exact absurd c_3 (by decide)
      · refine lv_aload_n hx hb dW_law_850 rfl (lv_at hl 15 rfl) ?_
        refine lv_iload hx hb dW_law_851 (lv_at hl 4 rfl) ?_
        refine lv_bipush (v := 8) hx hb dW_law_853 (by decide) ?_
        refine lv_iadd hx hb dW_law_855 ?_
        rw [show (nI (10 * i)) + (8 : Int32) = nI (10 * i + 8) from nI_add (10 * i) 8]
        refine lv_aload_n hx hb dW_law_856 rfl (lv_at hl 15 rfl) ?_
        refine lv_iload hx hb dW_law_857 (lv_at hl 4 rfl) ?_
        refine lv_bipush (v := 7) hx hb dW_law_859 (by decide) ?_
        refine lv_iadd hx hb dW_law_861 ?_
        rw [show (nI (10 * i)) + (7 : Int32) = nI (10 * i + 7) from nI_add (10 * i) 7]
        refine ra_ld hx hb hC hG 5 60 (by omega) (fun _ _ => rfl) (vp_in_nI (by omega) (by omega)) dW_law_862 ?_
        rw [show (nI (10 * i + 7)).toNatClampNeg = (10 * i + 7) from nI_clamp (by omega)]
        rw [show sA2 5 (10 * i + 7) = 0 from by rw [hw 5 (by omega), h7]]
        refine lv_if_le (tgt := 876) hx hb dW_law_863 (by decide) (fun c_4 => ?_) (fun c_4 => ?_)
        · refine lv_aload_n hx hb dW_law_876 rfl (lv_at hl 15 rfl) ?_
          refine lv_iload hx hb dW_law_877 (lv_at hl 4 rfl) ?_
          refine lv_iconst (v := 5) hx hb dW_law_879 (by decide) ?_
          refine lv_iadd hx hb dW_law_880 ?_
          rw [show (nI (10 * i)) + (5 : Int32) = nI (10 * i + 5) from nI_add (10 * i) 5]
          refine ra_ld hx hb hC hG 5 60 (by omega) (fun _ _ => rfl) (vp_in_nI (by omega) (by omega)) dW_law_881 ?_
          rw [show (nI (10 * i + 5)).toNatClampNeg = (10 * i + 5) from nI_clamp (by omega)]
          rw [show sA2 5 (10 * i + 5) = sA 5 (10 * i + 5) from by rw [hw 5 (by omega)]]
          refine ra_st hx hb hC hG hS 5 60 (by omega) (fun _ _ => rfl) (vp_in_nI (by omega) (by omega)) dW_law_882 (fun H locs hG hS => ?_)
          rw [show (nI (10 * i + 8)).toNatClampNeg = (10 * i + 8) from nI_clamp (by omega)] at hG
          refine lv_aload_n hx hb dW_law_883 rfl (lv_at hl 15 rfl) ?_
          refine lv_iload hx hb dW_law_884 (lv_at hl 4 rfl) ?_
          refine lv_bipush (v := 7) hx hb dW_law_886 (by decide) ?_
          refine lv_iadd hx hb dW_law_888 ?_
          rw [show (nI (10 * i)) + (7 : Int32) = nI (10 * i + 7) from nI_add (10 * i) 7]
          refine lv_aload_n hx hb dW_law_889 rfl (lv_at hl 15 rfl) ?_
          refine lv_iload hx hb dW_law_890 (lv_at hl 4 rfl) ?_
          refine lv_bipush (v := 7) hx hb dW_law_892 (by decide) ?_
          refine lv_iadd hx hb dW_law_894 ?_
          rw [show (nI (10 * i)) + (7 : Int32) = nI (10 * i + 7) from nI_add (10 * i) 7]
          refine ra_ld hx hb hC hG 5 60 (by omega) (fun _ _ => rfl) (vp_in_nI (by omega) (by omega)) dW_law_895 ?_
          rw [show (nI (10 * i + 7)).toNatClampNeg = (10 * i + 7) from nI_clamp (by omega)]
          rw [show (up2 sA2 5 (10 * i + 8) (sA 5 (10 * i + 5))) 5 (10 * i + 7) = 0 from by simp (disch := omega) only [up2_hit, up2_miss]; rw [hw 5 (by omega), h7]]
          refine lv_if_le (tgt := 909) hx hb dW_law_896 (by decide) (fun c_5 => ?_) (fun c_5 => ?_)
          · refine lv_aload_n hx hb dW_law_909 rfl (lv_at hl 15 rfl) ?_
            refine lv_iload hx hb dW_law_910 (lv_at hl 4 rfl) ?_
            refine lv_iconst (v := 4) hx hb dW_law_912 (by decide) ?_
            refine lv_iadd hx hb dW_law_913 ?_
            rw [show (nI (10 * i)) + (4 : Int32) = nI (10 * i + 4) from nI_add (10 * i) 4]
            refine ra_ld hx hb hC hG 5 60 (by omega) (fun _ _ => rfl) (vp_in_nI (by omega) (by omega)) dW_law_914 ?_
            rw [show (nI (10 * i + 4)).toNatClampNeg = (10 * i + 4) from nI_clamp (by omega)]
            rw [show (up2 sA2 5 (10 * i + 8) (sA 5 (10 * i + 5))) 5 (10 * i + 4) = sA 5 (10 * i + 4) from by simp (disch := omega) only [up2_hit, up2_miss]; rw [hw 5 (by omega)]]
            refine lv_iconst (v := 1) hx hb dW_law_915 (by decide) ?_
            refine lv_iadd hx hb dW_law_916 ?_
            refine ra_st hx hb hC hG hS 5 60 (by omega) (fun _ _ => rfl) (vp_in_nI (by omega) (by omega)) dW_law_917 (fun H locs hG hS => ?_)
            rw [show (nI (10 * i + 7)).toNatClampNeg = (10 * i + 7) from nI_clamp (by omega)] at hG
            refine lv_aload_n hx hb dW_law_918 rfl (lv_at hl 15 rfl) ?_
            refine lv_iload hx hb dW_law_919 (lv_at hl 4 rfl) ?_
            refine lv_iconst (v := 3) hx hb dW_law_921 (by decide) ?_
            refine lv_iadd hx hb dW_law_922 ?_
            rw [show (nI (10 * i)) + (3 : Int32) = nI (10 * i + 3) from nI_add (10 * i) 3]
            refine lv_iconst (v := 0) hx hb dW_law_923 (by decide) ?_
            refine ra_st hx hb hC hG hS 5 60 (by omega) (fun _ _ => rfl) (vp_in_nI (by omega) (by omega)) dW_law_924 (fun H locs hG hS => ?_)
            rw [show (nI (10 * i + 3)).toNatClampNeg = (10 * i + 3) from nI_clamp (by omega)] at hG
            refine lv_aload hx hb dW_law_925 (lv_at hl 13 rfl) ?_
            refine lv_iload hx hb dW_law_927 (lv_at hl 5 rfl) ?_
            refine rcS3 (rest := []) (As := [.ref (ad 7), .int (nI i)]) hx hb hml hown hts hC hG hS (cW_clears l D tI tJ tL (A0 s) sg ad n sL (up2 (up2 (up2 sA2 5 (10 * i + 8) (sA 5 (10 * i + 5))) 5 (10 * i + 7) ((sA 5 (10 * i + 4)) + 1)) 5 (10 * i + 3) 0) i (by omega)) (gS q_173 q_174 q_0 q_175) rfl rfl ⟨rfl, hdyW_clears⟩ ⟨Nat.le_of_ble_eq_true rfl, Nat.le_of_ble_eq_true rfl⟩ hl.1 rfl (Nat.le_of_ble_eq_true rfl) dW_law_929 ⟨by show _ ≤ 796740; omega, by show _ ≤ 6711247; omega⟩ (fun H locs hG hS => ?_)
            refine lv_istore (lv' := [(19, .int ((fW_clears sL (up2 (up2 (up2 sA2 5 (10 * i + 8) (sA 5 (10 * i + 5))) 5 (10 * i + 7) ((sA 5 (10 * i + 4)) + 1)) 5 (10 * i + 3) 0) i).1)), (9, .int 1), (18, .int (nI a)), (17, .int (nI q)), (16, .int 2), (15, .int (nI (10 * i))), (14, .int (nI i)), (13, .int (nI Y)), (12, .int (nI kd)), (11, .int (nI X)), (10, .int (nI t)), (8, .ref (ad 10)), (7, .ref (ad 9)), (6, .ref (ad 8)), (5, .ref (ad 7)), (4, .ref (ad 6)), (3, .ref (ad 5)), (2, .ref (ad 4)), (1, .ref (ad 0)), (0, .ref b)]) hx hb dW_law_932 hl (by decide) rfl (fun ls hl => ?_)
            refine lv_goto (tgt := 1500) hx hb dW_law_934 (by decide) ?_
            refine W.widen (k := cells + 60) (n := slots + 300) (by omega) (by omega) ?_
            exact cont ad _ _ _ H locs ls (by omega) (hV _ _ (Or.inl ⟨h7, rfl, rfl⟩) _ rfl) hG hS (lv_sub hl [7, 10, 1, 11, 12, 13, 14, 15, 16, 17, 18, 19] rfl)
          · exact absurd c_5 (by decide)
        · exact absurd c_4 (by decide)
  · exact absurd c_1 (by decide)
set_option maxHeartbeats 4000000 in
set_option maxRecDepth 100000 in
theorem lc_defaults_2b {p : Program} {l : Launch} {e : Env} {s : State} {m : MethodId} {below : List Frame} {meth : Method} {c : Code} {b : Nat} (hl9 : l.stackTraces = false) (hx : p.tables.exec = Jvm.exec) (hb : c.code = code) (hml : c.maxLocals = 22) (hown : s.vm.findClass "DroitLineLaw" = some m.cls) (hts : ∀ w ∈ wNeed, w.before #[Value.ref b] s = true)
    {D : va_G} {tI tJ tL : ClassId} {sg : Nat → Nat} (hC : GC D tI tJ tL (A0 s) sg s) {t Y kd X i q a K cells slots : Nat} (hK : K ≤ 130) (hcl : cells + 60 ≤ 796740) (hsl : slots + 300 ≤ 6711247) (hY : Y < 2147483648) {ad : Nat → Nat} {n : Nat} {sL : NL} {sA : NA} (hI : INV n K sL sA) (hi : i < n) (hst : sA 5 (10 * i + 3) = 2) {q7 : Nat} (hq7 : q7 < 10) (h7 : sA 5 (10 * i + 7) = nI (q7 + 1)) (hq : q < 10) (ha1 : 1 ≤ a) (ha2 : a ≤ 1000000) {H : Heap} {locs : List Loc} (hG : GW D tI tJ tL (A0 s) ad n sL sA H) (hS : va_S (A0 s) s.heap H locs) {ls : Array Slot} (hl : lv_has ls 22 [(18, .int (nI a)), (17, .int (nI q)), (16, .int 2), (15, .int (nI (10 * i))), (14, .int (nI i)), (13, .int (nI Y)), (12, .int (nI kd)), (11, .int (nI X)), (10, .int (nI t)), (9, .int 1), (8, .ref (ad 10)), (7, .ref (ad 9)), (6, .ref (ad 8)), (5, .ref (ad 7)), (4, .ref (ad 6)), (3, .ref (ad 5)), (2, .ref (ad 4)), (1, .ref (ad 0)), (0, .ref b)])
    (cont : CONT p l e s m b below meth c D tI tJ tL t Y K cells slots) : W p l e room_1 s m #[Value.ref b] below meth c H locs cells slots (lw_Z below #[Value.ref b] s) (F0 m 808 ls []) := by
  have hn6 := hI.n6
  obtain ⟨sA2, hF, hw, hV⟩ := E_defaults hI hi hst
  refine lv_aload_n hx hb dW_law_808 rfl (lv_at hl 17 rfl) ?_
  refine lv_iconst (v := 5) hx hb dW_law_809 (by decide) ?_
  refine lv_iload hx hb dW_law_810 (lv_at hl 4 rfl) ?_
  refine lv_iconst (v := 0) hx hb dW_law_812 (by decide) ?_
  refine lv_iconst (v := 0) hx hb dW_law_813 (by decide) ?_
  refine rcSWn (rest := []) (As := [.ref (ad 0), .int 5, .int (nI i), .int 0, .int 0]) hx hb hml hown hts hC hG hS (cD_defaults l hl9 D tI tJ tL (A0 s) sg ad n sL sA (nI i)) (gW q_176 q_177 q_0 q_178) rfl rfl hdyW_does ⟨Nat.le_of_ble_eq_true rfl, Nat.le_of_ble_eq_true rfl⟩ hl.1 rfl (Nat.le_of_ble_eq_true rfl) dW_law_814 ⟨by show _ ≤ 796740; omega, by show _ ≤ 6711247; omega⟩ (hF) (fun H locs hG hS => ?_)
  refine lv_iload hx hb dW_law_817 (lv_at hl 2 rfl) ?_
  refine lv_iconst (v := 2) hx hb dW_law_819 (by decide) ?_
  refine lv_icmp_eq (tgt := 828) hx hb dW_law_820 (by decide) (fun c_1 => ?_) (fun c_1 => ?_)
  · refine lv_aload_n hx hb dW_law_828 rfl (lv_at hl 15 rfl) ?_
    refine lv_iload hx hb dW_law_829 (lv_at hl 3 rfl) ?_
    refine lv_iconst (v := 4) hx hb dW_law_831 (by decide) ?_
    refine lv_iadd hx hb dW_law_832 ?_
    rw [show (nI (10 * i)) + (4 : Int32) = nI (10 * i + 4) from nI_add (10 * i) 4]
    refine ra_ld hx hb hC hG 5 60 (by omega) (fun _ _ => rfl) (vp_in_nI (by omega) (by omega)) dW_law_833 ?_
    rw [show (nI (10 * i + 4)).toNatClampNeg = (10 * i + 4) from nI_clamp (by omega)]
    rw [show sA2 5 (10 * i + 4) = sA 5 (10 * i + 4) from by rw [hw 5 (by omega)]]
    refine lv_icmp_ne (tgt := 841) hx hb dW_law_834 (by decide) (fun c_2 => ?_) (fun c_2 => ?_)
    · exact absurd c_2 (fun q => q rfl)
    · refine lv_iconst (v := 1) hx hb dW_law_837 (by decide) ?_
      refine lv_goto (tgt := 842) hx hb dW_law_838 (by decide) ?_
      refine lv_istore (lv' := [(9, .int 1), (18, .int (nI a)), (17, .int (nI q)), (16, .int 2), (15, .int (nI (10 * i))), (14, .int (nI i)), (13, .int (nI Y)), (12, .int (nI kd)), (11, .int (nI X)), (10, .int (nI t)), (8, .ref (ad 10)), (7, .ref (ad 9)), (6, .ref (ad 8)), (5, .ref (ad 7)), (4, .ref (ad 6)), (3, .ref (ad 5)), (2, .ref (ad 4)), (1, .ref (ad 0)), (0, .ref b)]) hx hb dW_law_842 hl (by decide) rfl (fun ls hl => ?_)
      refine lv_iload hx hb dW_law_844 (lv_at hl 3 rfl) ?_
      refine lv_iconst (v := 2) hx hb dW_law_846 (by decide) ?_
      refine lv_icmp_ne (tgt := 1500) hx hb dW_law_847 (by decide) (fun c_3 => ?_) (fun c_3 => ?_)
      · exact absurd c_3 (by decide)
      · refine lv_aload_n hx hb dW_law_850 rfl (lv_at hl 15 rfl) ?_
        refine lv_iload hx hb dW_law_851 (lv_at hl 4 rfl) ?_
        refine lv_bipush (v := 8) hx hb dW_law_853 (by decide) ?_
        refine lv_iadd hx hb dW_law_855 ?_
        rw [show (nI (10 * i)) + (8 : Int32) = nI (10 * i + 8) from nI_add (10 * i) 8]
        refine lv_aload_n hx hb dW_law_856 rfl (lv_at hl 15 rfl) ?_
        refine lv_iload hx hb dW_law_857 (lv_at hl 4 rfl) ?_
        refine lv_bipush (v := 7) hx hb dW_law_859 (by decide) ?_
        refine lv_iadd hx hb dW_law_861 ?_
        rw [show (nI (10 * i)) + (7 : Int32) = nI (10 * i + 7) from nI_add (10 * i) 7]
        refine ra_ld hx hb hC hG 5 60 (by omega) (fun _ _ => rfl) (vp_in_nI (by omega) (by omega)) dW_law_862 ?_
        rw [show (nI (10 * i + 7)).toNatClampNeg = (10 * i + 7) from nI_clamp (by omega)]
        rw [show sA2 5 (10 * i + 7) = nI (q7 + 1) from by rw [hw 5 (by omega), h7]]
        refine lv_if_le (tgt := 876) hx hb dW_law_863 (by decide) (fun c_4 => ?_) (fun c_4 => ?_)
        · exact absurd c_4 (nI_nle (by omega) (by omega))
        · refine lv_aload_n hx hb dW_law_866 rfl (lv_at hl 15 rfl) ?_
          refine lv_iload hx hb dW_law_867 (lv_at hl 4 rfl) ?_
          refine lv_bipush (v := 8) hx hb dW_law_869 (by decide) ?_
          refine lv_iadd hx hb dW_law_871 ?_
          rw [show (nI (10 * i)) + (8 : Int32) = nI (10 * i + 8) from nI_add (10 * i) 8]
          refine ra_ld hx hb hC hG 5 60 (by omega) (fun _ _ => rfl) (vp_in_nI (by omega) (by omega)) dW_law_872 ?_
          rw [show (nI (10 * i + 8)).toNatClampNeg = (10 * i + 8) from nI_clamp (by omega)]
          rw [show sA2 5 (10 * i + 8) = sA 5 (10 * i + 8) from by rw [hw 5 (by omega)]]
          refine lv_goto (tgt := 882) hx hb dW_law_873 (by decide) ?_
          refine ra_st hx hb hC hG hS 5 60 (by omega) (fun _ _ => rfl) (vp_in_nI (by omega) (by omega)) dW_law_882 (fun H locs hG hS => ?_)
          rw [show (nI (10 * i + 8)).toNatClampNeg = (10 * i + 8) from nI_clamp (by omega)] at hG
          refine lv_aload_n hx hb dW_law_883 rfl (lv_at hl 15 rfl) ?_
          refine lv_iload hx hb dW_law_884 (lv_at hl 4 rfl) ?_
          refine lv_bipush (v := 7) hx hb dW_law_886 (by decide) ?_
          refine lv_iadd hx hb dW_law_888 ?_
          rw [show (nI (10 * i)) + (7 : Int32) = nI (10 * i + 7) from nI_add (10 * i) 7]
          refine lv_aload_n hx hb dW_law_889 rfl (lv_at hl 15 rfl) ?_
          refine lv_iload hx hb dW_law_890 (lv_at hl 4 rfl) ?_
          refine lv_bipush (v := 7) hx hb dW_law_892 (by decide) ?_
          refine lv_iadd hx hb dW_law_894 ?_
          rw [show (nI (10 * i)) + (7 : Int32) = nI (10 * i + 7) from nI_add (10 * i) 7]
          refine ra_ld hx hb hC hG 5 60 (by omega) (fun _ _ => rfl) (vp_in_nI (by omega) (by omega)) dW_law_895 ?_
          rw [show (nI (10 * i + 7)).toNatClampNeg = (10 * i + 7) from nI_clamp (by omega)]
          rw [show (up2 sA2 5 (10 * i + 8) (sA 5 (10 * i + 8))) 5 (10 * i + 7) = nI (q7 + 1) from by simp (disch := omega) only [up2_hit, up2_miss]; rw [hw 5 (by omega), h7]]
          refine lv_if_le (tgt := 909) hx hb dW_law_896 (by decide) (fun c_5 => ?_) (fun c_5 => ?_)
          · exact absurd c_5 (nI_nle (by omega) (by omega))
          · refine lv_aload_n hx hb dW_law_899 rfl (lv_at hl 15 rfl) ?_
            refine lv_iload hx hb dW_law_900 (lv_at hl 4 rfl) ?_
            refine lv_bipush (v := 7) hx hb dW_law_902 (by decide) ?_
            refine lv_iadd hx hb dW_law_904 ?_
            rw [show (nI (10 * i)) + (7 : Int32) = nI (10 * i + 7) from nI_add (10 * i) 7]
            refine ra_ld hx hb hC hG 5 60 (by omega) (fun _ _ => rfl) (vp_in_nI (by omega) (by omega)) dW_law_905 ?_
            rw [show (nI (10 * i + 7)).toNatClampNeg = (10 * i + 7) from nI_clamp (by omega)]
            rw [show (up2 sA2 5 (10 * i + 8) (sA 5 (10 * i + 8))) 5 (10 * i + 7) = nI (q7 + 1) from by simp (disch := omega) only [up2_hit, up2_miss]; rw [hw 5 (by omega), h7]]
            refine lv_goto (tgt := 917) hx hb dW_law_906 (by decide) ?_
            refine ra_st hx hb hC hG hS 5 60 (by omega) (fun _ _ => rfl) (vp_in_nI (by omega) (by omega)) dW_law_917 (fun H locs hG hS => ?_)
            rw [show (nI (10 * i + 7)).toNatClampNeg = (10 * i + 7) from nI_clamp (by omega)] at hG
            refine lv_aload_n hx hb dW_law_918 rfl (lv_at hl 15 rfl) ?_
            refine lv_iload hx hb dW_law_919 (lv_at hl 4 rfl) ?_
            refine lv_iconst (v := 3) hx hb dW_law_921 (by decide) ?_
            refine lv_iadd hx hb dW_law_922 ?_
            rw [show (nI (10 * i)) + (3 : Int32) = nI (10 * i + 3) from nI_add (10 * i) 3]
            refine lv_iconst (v := 0) hx hb dW_law_923 (by decide) ?_
            refine ra_st hx hb hC hG hS 5 60 (by omega) (fun _ _ => rfl) (vp_in_nI (by omega) (by omega)) dW_law_924 (fun H locs hG hS => ?_)
            rw [show (nI (10 * i + 3)).toNatClampNeg = (10 * i + 3) from nI_clamp (by omega)] at hG
            refine lv_aload hx hb dW_law_925 (lv_at hl 13 rfl) ?_
            refine lv_iload hx hb dW_law_927 (lv_at hl 5 rfl) ?_
            refine rcS3 (rest := []) (As := [.ref (ad 7), .int (nI i)]) hx hb hml hown hts hC hG hS (cW_clears l D tI tJ tL (A0 s) sg ad n sL (up2 (up2 (up2 sA2 5 (10 * i + 8) (sA 5 (10 * i + 8))) 5 (10 * i + 7) (nI (q7 + 1))) 5 (10 * i + 3) 0) i (by omega)) (gS q_173 q_174 q_0 q_175) rfl rfl ⟨rfl, hdyW_clears⟩ ⟨Nat.le_of_ble_eq_true rfl, Nat.le_of_ble_eq_true rfl⟩ hl.1 rfl (Nat.le_of_ble_eq_true rfl) dW_law_929 ⟨by show _ ≤ 796740; omega, by show _ ≤ 6711247; omega⟩ (fun H locs hG hS => ?_)
            refine lv_istore (lv' := [(19, .int ((fW_clears sL (up2 (up2 (up2 sA2 5 (10 * i + 8) (sA 5 (10 * i + 8))) 5 (10 * i + 7) (nI (q7 + 1))) 5 (10 * i + 3) 0) i).1)), (9, .int 1), (18, .int (nI a)), (17, .int (nI q)), (16, .int 2), (15, .int (nI (10 * i))), (14, .int (nI i)), (13, .int (nI Y)), (12, .int (nI kd)), (11, .int (nI X)), (10, .int (nI t)), (8, .ref (ad 10)), (7, .ref (ad 9)), (6, .ref (ad 8)), (5, .ref (ad 7)), (4, .ref (ad 6)), (3, .ref (ad 5)), (2, .ref (ad 4)), (1, .ref (ad 0)), (0, .ref b)]) hx hb dW_law_932 hl (by decide) rfl (fun ls hl => ?_)
            refine lv_goto (tgt := 1500) hx hb dW_law_934 (by decide) ?_
            refine W.widen (k := cells + 60) (n := slots + 300) (by omega) (by omega) ?_
            exact cont ad _ _ _ H locs ls (by omega) (hV _ _ (Or.inr ⟨by rw [h7]; exact nI_nle (by omega) (by omega), h7.symm, rfl⟩) _ rfl) hG hS (lv_sub hl [7, 10, 1, 11, 12, 13, 14, 15, 16, 17, 18, 19] rfl)
  · exact absurd c_1 (by decide)
set_option maxHeartbeats 4000000 in
set_option maxRecDepth 100000 in
theorem lc_defaults_0 {p : Program} {l : Launch} {e : Env} {s : State} {m : MethodId} {below : List Frame} {meth : Method} {c : Code} {b : Nat} (hl9 : l.stackTraces = false) (hx : p.tables.exec = Jvm.exec) (hb : c.code = code) (hml : c.maxLocals = 22) (hown : s.vm.findClass "DroitLineLaw" = some m.cls) (hts : ∀ w ∈ wNeed, w.before #[Value.ref b] s = true)
    {D : va_G} {tI tJ tL : ClassId} {sg : Nat → Nat} (hC : GC D tI tJ tL (A0 s) sg s) {t Y kd X i q a K cells slots : Nat} (hK : K ≤ 130) (hcl : cells + 60 ≤ 796740) (hsl : slots + 300 ≤ 6711247) (hY : Y < 2147483648) {ad : Nat → Nat} {n : Nat} {sL : NL} {sA : NA} (hI : INV n K sL sA) (hi : i < n) (hst : sA 5 (10 * i + 3) = 0) (hq : q < 10) (ha1 : 1 ≤ a) (ha2 : a ≤ 1000000) {H : Heap} {locs : List Loc} (hG : GW D tI tJ tL (A0 s) ad n sL sA H) (hS : va_S (A0 s) s.heap H locs) {ls : Array Slot} (hl : lv_has ls 22 [(18, .int (nI a)), (17, .int (nI q)), (16, .int 0), (15, .int (nI (10 * i))), (14, .int (nI i)), (13, .int (nI Y)), (12, .int (nI kd)), (11, .int (nI X)), (10, .int (nI t)), (9, .int 1), (8, .ref (ad 10)), (7, .ref (ad 9)), (6, .ref (ad 8)), (5, .ref (ad 7)), (4, .ref (ad 6)), (3, .ref (ad 5)), (2, .ref (ad 4)), (1, .ref (ad 0)), (0, .ref b)])
    (cont : CONT p l e s m b below meth c D tI tJ tL t Y K cells slots) : W p l e room_1 s m #[Value.ref b] below meth c H locs cells slots (lw_Z below #[Value.ref b] s) (F0 m 808 ls []) := by
  have hn6 := hI.n6
  refine lv_aload_n hx hb dW_law_808 rfl (lv_at hl 17 rfl) ?_
  refine lv_iconst (v := 5) hx hb dW_law_809 (by decide) ?_
  refine lv_iload hx hb dW_law_810 (lv_at hl 4 rfl) ?_
  refine lv_iconst (v := 0) hx hb dW_law_812 (by decide) ?_
  refine lv_iconst (v := 0) hx hb dW_law_813 (by decide) ?_
  refine rcSWn (rest := []) (As := [.ref (ad 0), .int 5, .int (nI i), .int 0, .int 0]) hx hb hml hown hts hC hG hS (cD_defaults l hl9 D tI tJ tL (A0 s) sg ad n sL sA (nI i)) (gW q_176 q_177 q_0 q_178) rfl rfl hdyW_does ⟨Nat.le_of_ble_eq_true rfl, Nat.le_of_ble_eq_true rfl⟩ hl.1 rfl (Nat.le_of_ble_eq_true rfl) dW_law_814 ⟨by show _ ≤ 796740; omega, by show _ ≤ 6711247; omega⟩ (X_defaults hI hi hst (by decide)) (fun H locs hG hS => ?_)
  refine lv_iload hx hb dW_law_817 (lv_at hl 2 rfl) ?_
  refine lv_iconst (v := 2) hx hb dW_law_819 (by decide) ?_
  refine lv_icmp_eq (tgt := 828) hx hb dW_law_820 (by decide) (fun c_1 => ?_) (fun c_1 => ?_)
  · exact absurd c_1 (by decide)
  · refine lv_ldc (v := (-2000000013)) hx hb hown (hts _ q_409) dW_law_823 ?_
    refine lv_goto (tgt := 834) hx hb dW_law_825 (by decide) ?_
    refine lv_icmp_ne (tgt := 841) hx hb dW_law_834 (by decide) (fun c_2 => ?_) (fun c_2 => ?_)
    · exact absurd c_2 (by decide)
    · refine lv_iconst (v := 1) hx hb dW_law_837 (by decide) ?_
      refine lv_goto (tgt := 842) hx hb dW_law_838 (by decide) ?_
      refine lv_istore (lv' := [(9, .int 1), (18, .int (nI a)), (17, .int (nI q)), (16, .int 0), (15, .int (nI (10 * i))), (14, .int (nI i)), (13, .int (nI Y)), (12, .int (nI kd)), (11, .int (nI X)), (10, .int (nI t)), (8, .ref (ad 10)), (7, .ref (ad 9)), (6, .ref (ad 8)), (5, .ref (ad 7)), (4, .ref (ad 6)), (3, .ref (ad 5)), (2, .ref (ad 4)), (1, .ref (ad 0)), (0, .ref b)]) hx hb dW_law_842 hl (by decide) rfl (fun ls hl => ?_)
      refine lv_iload hx hb dW_law_844 (lv_at hl 3 rfl) ?_
      refine lv_iconst (v := 2) hx hb dW_law_846 (by decide) ?_
      refine lv_icmp_ne (tgt := 1500) hx hb dW_law_847 (by decide) (fun c_3 => ?_) (fun c_3 => ?_)
      · refine W.widen (k := cells + 60) (n := slots + 300) (by omega) (by omega) ?_
        exact cont ad _ _ _ H locs ls (by omega) (hI.mono (by omega)) hG hS (lv_sub hl [6, 9, 0, 10, 11, 12, 13, 14, 15, 16, 17, 18] rfl)
      · exact absurd c_3 (by decide)
set_option maxHeartbeats 4000000 in
set_option maxRecDepth 100000 in
theorem lc_defaults_1 {p : Program} {l : Launch} {e : Env} {s : State} {m : MethodId} {below : List Frame} {meth : Method} {c : Code} {b : Nat} (hl9 : l.stackTraces = false) (hx : p.tables.exec = Jvm.exec) (hb : c.code = code) (hml : c.maxLocals = 22) (hown : s.vm.findClass "DroitLineLaw" = some m.cls) (hts : ∀ w ∈ wNeed, w.before #[Value.ref b] s = true)
    {D : va_G} {tI tJ tL : ClassId} {sg : Nat → Nat} (hC : GC D tI tJ tL (A0 s) sg s) {t Y kd X i q a K cells slots : Nat} (hK : K ≤ 130) (hcl : cells + 60 ≤ 796740) (hsl : slots + 300 ≤ 6711247) (hY : Y < 2147483648) {ad : Nat → Nat} {n : Nat} {sL : NL} {sA : NA} (hI : INV n K sL sA) (hi : i < n) (hst : sA 5 (10 * i + 3) = 1) (hq : q < 10) (ha1 : 1 ≤ a) (ha2 : a ≤ 1000000) {H : Heap} {locs : List Loc} (hG : GW D tI tJ tL (A0 s) ad n sL sA H) (hS : va_S (A0 s) s.heap H locs) {ls : Array Slot} (hl : lv_has ls 22 [(18, .int (nI a)), (17, .int (nI q)), (16, .int 1), (15, .int (nI (10 * i))), (14, .int (nI i)), (13, .int (nI Y)), (12, .int (nI kd)), (11, .int (nI X)), (10, .int (nI t)), (9, .int 1), (8, .ref (ad 10)), (7, .ref (ad 9)), (6, .ref (ad 8)), (5, .ref (ad 7)), (4, .ref (ad 6)), (3, .ref (ad 5)), (2, .ref (ad 4)), (1, .ref (ad 0)), (0, .ref b)])
    (cont : CONT p l e s m b below meth c D tI tJ tL t Y K cells slots) : W p l e room_1 s m #[Value.ref b] below meth c H locs cells slots (lw_Z below #[Value.ref b] s) (F0 m 808 ls []) := by
  have hn6 := hI.n6
  refine lv_aload_n hx hb dW_law_808 rfl (lv_at hl 17 rfl) ?_
  refine lv_iconst (v := 5) hx hb dW_law_809 (by decide) ?_
  refine lv_iload hx hb dW_law_810 (lv_at hl 4 rfl) ?_
  refine lv_iconst (v := 0) hx hb dW_law_812 (by decide) ?_
  refine lv_iconst (v := 0) hx hb dW_law_813 (by decide) ?_
  refine rcSWn (rest := []) (As := [.ref (ad 0), .int 5, .int (nI i), .int 0, .int 0]) hx hb hml hown hts hC hG hS (cD_defaults l hl9 D tI tJ tL (A0 s) sg ad n sL sA (nI i)) (gW q_176 q_177 q_0 q_178) rfl rfl hdyW_does ⟨Nat.le_of_ble_eq_true rfl, Nat.le_of_ble_eq_true rfl⟩ hl.1 rfl (Nat.le_of_ble_eq_true rfl) dW_law_814 ⟨by show _ ≤ 796740; omega, by show _ ≤ 6711247; omega⟩ (X_defaults hI hi hst (by decide)) (fun H locs hG hS => ?_)
  refine lv_iload hx hb dW_law_817 (lv_at hl 2 rfl) ?_
  refine lv_iconst (v := 2) hx hb dW_law_819 (by decide) ?_
  refine lv_icmp_eq (tgt := 828) hx hb dW_law_820 (by decide) (fun c_1 => ?_) (fun c_1 => ?_)
  · exact absurd c_1 (by decide)
  · refine lv_ldc (v := (-2000000013)) hx hb hown (hts _ q_409) dW_law_823 ?_
    refine lv_goto (tgt := 834) hx hb dW_law_825 (by decide) ?_
    refine lv_icmp_ne (tgt := 841) hx hb dW_law_834 (by decide) (fun c_2 => ?_) (fun c_2 => ?_)
    · exact absurd c_2 (by decide)
    · refine lv_iconst (v := 1) hx hb dW_law_837 (by decide) ?_
      refine lv_goto (tgt := 842) hx hb dW_law_838 (by decide) ?_
      refine lv_istore (lv' := [(9, .int 1), (18, .int (nI a)), (17, .int (nI q)), (16, .int 1), (15, .int (nI (10 * i))), (14, .int (nI i)), (13, .int (nI Y)), (12, .int (nI kd)), (11, .int (nI X)), (10, .int (nI t)), (8, .ref (ad 10)), (7, .ref (ad 9)), (6, .ref (ad 8)), (5, .ref (ad 7)), (4, .ref (ad 6)), (3, .ref (ad 5)), (2, .ref (ad 4)), (1, .ref (ad 0)), (0, .ref b)]) hx hb dW_law_842 hl (by decide) rfl (fun ls hl => ?_)
      refine lv_iload hx hb dW_law_844 (lv_at hl 3 rfl) ?_
      refine lv_iconst (v := 2) hx hb dW_law_846 (by decide) ?_
      refine lv_icmp_ne (tgt := 1500) hx hb dW_law_847 (by decide) (fun c_3 => ?_) (fun c_3 => ?_)
      · refine W.widen (k := cells + 60) (n := slots + 300) (by omega) (by omega) ?_
        exact cont ad _ _ _ H locs ls (by omega) (hI.mono (by omega)) hG hS (lv_sub hl [6, 9, 0, 10, 11, 12, 13, 14, 15, 16, 17, 18] rfl)
      · exact absurd c_3 (by decide)
set_option maxHeartbeats 4000000 in
set_option maxRecDepth 100000 in
theorem lc_defaults_3 {p : Program} {l : Launch} {e : Env} {s : State} {m : MethodId} {below : List Frame} {meth : Method} {c : Code} {b : Nat} (hl9 : l.stackTraces = false) (hx : p.tables.exec = Jvm.exec) (hb : c.code = code) (hml : c.maxLocals = 22) (hown : s.vm.findClass "DroitLineLaw" = some m.cls) (hts : ∀ w ∈ wNeed, w.before #[Value.ref b] s = true)
    {D : va_G} {tI tJ tL : ClassId} {sg : Nat → Nat} (hC : GC D tI tJ tL (A0 s) sg s) {t Y kd X i q a K cells slots : Nat} (hK : K ≤ 130) (hcl : cells + 60 ≤ 796740) (hsl : slots + 300 ≤ 6711247) (hY : Y < 2147483648) {ad : Nat → Nat} {n : Nat} {sL : NL} {sA : NA} (hI : INV n K sL sA) (hi : i < n) (hst : sA 5 (10 * i + 3) = 3) (hq : q < 10) (ha1 : 1 ≤ a) (ha2 : a ≤ 1000000) {H : Heap} {locs : List Loc} (hG : GW D tI tJ tL (A0 s) ad n sL sA H) (hS : va_S (A0 s) s.heap H locs) {ls : Array Slot} (hl : lv_has ls 22 [(18, .int (nI a)), (17, .int (nI q)), (16, .int 3), (15, .int (nI (10 * i))), (14, .int (nI i)), (13, .int (nI Y)), (12, .int (nI kd)), (11, .int (nI X)), (10, .int (nI t)), (9, .int 1), (8, .ref (ad 10)), (7, .ref (ad 9)), (6, .ref (ad 8)), (5, .ref (ad 7)), (4, .ref (ad 6)), (3, .ref (ad 5)), (2, .ref (ad 4)), (1, .ref (ad 0)), (0, .ref b)])
    (cont : CONT p l e s m b below meth c D tI tJ tL t Y K cells slots) : W p l e room_1 s m #[Value.ref b] below meth c H locs cells slots (lw_Z below #[Value.ref b] s) (F0 m 808 ls []) := by
  have hn6 := hI.n6
  refine lv_aload_n hx hb dW_law_808 rfl (lv_at hl 17 rfl) ?_
  refine lv_iconst (v := 5) hx hb dW_law_809 (by decide) ?_
  refine lv_iload hx hb dW_law_810 (lv_at hl 4 rfl) ?_
  refine lv_iconst (v := 0) hx hb dW_law_812 (by decide) ?_
  refine lv_iconst (v := 0) hx hb dW_law_813 (by decide) ?_
  refine rcSWn (rest := []) (As := [.ref (ad 0), .int 5, .int (nI i), .int 0, .int 0]) hx hb hml hown hts hC hG hS (cD_defaults l hl9 D tI tJ tL (A0 s) sg ad n sL sA (nI i)) (gW q_176 q_177 q_0 q_178) rfl rfl hdyW_does ⟨Nat.le_of_ble_eq_true rfl, Nat.le_of_ble_eq_true rfl⟩ hl.1 rfl (Nat.le_of_ble_eq_true rfl) dW_law_814 ⟨by show _ ≤ 796740; omega, by show _ ≤ 6711247; omega⟩ (X_defaults hI hi hst (by decide)) (fun H locs hG hS => ?_)
  refine lv_iload hx hb dW_law_817 (lv_at hl 2 rfl) ?_
  refine lv_iconst (v := 2) hx hb dW_law_819 (by decide) ?_
  refine lv_icmp_eq (tgt := 828) hx hb dW_law_820 (by decide) (fun c_1 => ?_) (fun c_1 => ?_)
  · exact absurd c_1 (by decide)
  · refine lv_ldc (v := (-2000000013)) hx hb hown (hts _ q_409) dW_law_823 ?_
    refine lv_goto (tgt := 834) hx hb dW_law_825 (by decide) ?_
    refine lv_icmp_ne (tgt := 841) hx hb dW_law_834 (by decide) (fun c_2 => ?_) (fun c_2 => ?_)
    · exact absurd c_2 (by decide)
    · refine lv_iconst (v := 1) hx hb dW_law_837 (by decide) ?_
      refine lv_goto (tgt := 842) hx hb dW_law_838 (by decide) ?_
      refine lv_istore (lv' := [(9, .int 1), (18, .int (nI a)), (17, .int (nI q)), (16, .int 3), (15, .int (nI (10 * i))), (14, .int (nI i)), (13, .int (nI Y)), (12, .int (nI kd)), (11, .int (nI X)), (10, .int (nI t)), (8, .ref (ad 10)), (7, .ref (ad 9)), (6, .ref (ad 8)), (5, .ref (ad 7)), (4, .ref (ad 6)), (3, .ref (ad 5)), (2, .ref (ad 4)), (1, .ref (ad 0)), (0, .ref b)]) hx hb dW_law_842 hl (by decide) rfl (fun ls hl => ?_)
      refine lv_iload hx hb dW_law_844 (lv_at hl 3 rfl) ?_
      refine lv_iconst (v := 2) hx hb dW_law_846 (by decide) ?_
      refine lv_icmp_ne (tgt := 1500) hx hb dW_law_847 (by decide) (fun c_3 => ?_) (fun c_3 => ?_)
      · refine W.widen (k := cells + 60) (n := slots + 300) (by omega) (by omega) ?_
        exact cont ad _ _ _ H locs ls (by omega) (hI.mono (by omega)) hG hS (lv_sub hl [6, 9, 0, 10, 11, 12, 13, 14, 15, 16, 17, 18] rfl)
      · exact absurd c_3 (by decide)
set_option maxHeartbeats 4000000 in
set_option maxRecDepth 100000 in
theorem lc_defaults_4 {p : Program} {l : Launch} {e : Env} {s : State} {m : MethodId} {below : List Frame} {meth : Method} {c : Code} {b : Nat} (hl9 : l.stackTraces = false) (hx : p.tables.exec = Jvm.exec) (hb : c.code = code) (hml : c.maxLocals = 22) (hown : s.vm.findClass "DroitLineLaw" = some m.cls) (hts : ∀ w ∈ wNeed, w.before #[Value.ref b] s = true)
    {D : va_G} {tI tJ tL : ClassId} {sg : Nat → Nat} (hC : GC D tI tJ tL (A0 s) sg s) {t Y kd X i q a K cells slots : Nat} (hK : K ≤ 130) (hcl : cells + 60 ≤ 796740) (hsl : slots + 300 ≤ 6711247) (hY : Y < 2147483648) {ad : Nat → Nat} {n : Nat} {sL : NL} {sA : NA} (hI : INV n K sL sA) (hi : i < n) (hst : sA 5 (10 * i + 3) = 4) (hq : q < 10) (ha1 : 1 ≤ a) (ha2 : a ≤ 1000000) {H : Heap} {locs : List Loc} (hG : GW D tI tJ tL (A0 s) ad n sL sA H) (hS : va_S (A0 s) s.heap H locs) {ls : Array Slot} (hl : lv_has ls 22 [(18, .int (nI a)), (17, .int (nI q)), (16, .int 4), (15, .int (nI (10 * i))), (14, .int (nI i)), (13, .int (nI Y)), (12, .int (nI kd)), (11, .int (nI X)), (10, .int (nI t)), (9, .int 1), (8, .ref (ad 10)), (7, .ref (ad 9)), (6, .ref (ad 8)), (5, .ref (ad 7)), (4, .ref (ad 6)), (3, .ref (ad 5)), (2, .ref (ad 4)), (1, .ref (ad 0)), (0, .ref b)])
    (cont : CONT p l e s m b below meth c D tI tJ tL t Y K cells slots) : W p l e room_1 s m #[Value.ref b] below meth c H locs cells slots (lw_Z below #[Value.ref b] s) (F0 m 808 ls []) := by
  have hn6 := hI.n6
  refine lv_aload_n hx hb dW_law_808 rfl (lv_at hl 17 rfl) ?_
  refine lv_iconst (v := 5) hx hb dW_law_809 (by decide) ?_
  refine lv_iload hx hb dW_law_810 (lv_at hl 4 rfl) ?_
  refine lv_iconst (v := 0) hx hb dW_law_812 (by decide) ?_
  refine lv_iconst (v := 0) hx hb dW_law_813 (by decide) ?_
  refine rcSWn (rest := []) (As := [.ref (ad 0), .int 5, .int (nI i), .int 0, .int 0]) hx hb hml hown hts hC hG hS (cD_defaults l hl9 D tI tJ tL (A0 s) sg ad n sL sA (nI i)) (gW q_176 q_177 q_0 q_178) rfl rfl hdyW_does ⟨Nat.le_of_ble_eq_true rfl, Nat.le_of_ble_eq_true rfl⟩ hl.1 rfl (Nat.le_of_ble_eq_true rfl) dW_law_814 ⟨by show _ ≤ 796740; omega, by show _ ≤ 6711247; omega⟩ (X_defaults hI hi hst (by decide)) (fun H locs hG hS => ?_)
  refine lv_iload hx hb dW_law_817 (lv_at hl 2 rfl) ?_
  refine lv_iconst (v := 2) hx hb dW_law_819 (by decide) ?_
  refine lv_icmp_eq (tgt := 828) hx hb dW_law_820 (by decide) (fun c_1 => ?_) (fun c_1 => ?_)
  · exact absurd c_1 (by decide)
  · refine lv_ldc (v := (-2000000013)) hx hb hown (hts _ q_409) dW_law_823 ?_
    refine lv_goto (tgt := 834) hx hb dW_law_825 (by decide) ?_
    refine lv_icmp_ne (tgt := 841) hx hb dW_law_834 (by decide) (fun c_2 => ?_) (fun c_2 => ?_)
    · exact absurd c_2 (by decide)
    · refine lv_iconst (v := 1) hx hb dW_law_837 (by decide) ?_
      refine lv_goto (tgt := 842) hx hb dW_law_838 (by decide) ?_
      refine lv_istore (lv' := [(9, .int 1), (18, .int (nI a)), (17, .int (nI q)), (16, .int 4), (15, .int (nI (10 * i))), (14, .int (nI i)), (13, .int (nI Y)), (12, .int (nI kd)), (11, .int (nI X)), (10, .int (nI t)), (8, .ref (ad 10)), (7, .ref (ad 9)), (6, .ref (ad 8)), (5, .ref (ad 7)), (4, .ref (ad 6)), (3, .ref (ad 5)), (2, .ref (ad 4)), (1, .ref (ad 0)), (0, .ref b)]) hx hb dW_law_842 hl (by decide) rfl (fun ls hl => ?_)
      refine lv_iload hx hb dW_law_844 (lv_at hl 3 rfl) ?_
      refine lv_iconst (v := 2) hx hb dW_law_846 (by decide) ?_
      refine lv_icmp_ne (tgt := 1500) hx hb dW_law_847 (by decide) (fun c_3 => ?_) (fun c_3 => ?_)
      · refine W.widen (k := cells + 60) (n := slots + 300) (by omega) (by omega) ?_
        exact cont ad _ _ _ H locs ls (by omega) (hI.mono (by omega)) hG hS (lv_sub hl [6, 9, 0, 10, 11, 12, 13, 14, 15, 16, 17, 18] rfl)
      · exact absurd c_3 (by decide)
set_option maxHeartbeats 4000000 in
set_option maxRecDepth 100000 in
theorem lc_settle_3 {p : Program} {l : Launch} {e : Env} {s : State} {m : MethodId} {below : List Frame} {meth : Method} {c : Code} {b : Nat} (hl9 : l.stackTraces = false) (hx : p.tables.exec = Jvm.exec) (hb : c.code = code) (hml : c.maxLocals = 22) (hown : s.vm.findClass "DroitLineLaw" = some m.cls) (hts : ∀ w ∈ wNeed, w.before #[Value.ref b] s = true)
    {D : va_G} {tI tJ tL : ClassId} {sg : Nat → Nat} (hC : GC D tI tJ tL (A0 s) sg s) {t Y kd X i q a K cells slots : Nat} (hK : K ≤ 130) (hcl : cells + 60 ≤ 796740) (hsl : slots + 300 ≤ 6711247) (hY : Y < 2147483648) {ad : Nat → Nat} {n : Nat} {sL : NL} {sA : NA} (hI : INV n K sL sA) (hi : i < n) (hst : sA 5 (10 * i + 3) = 3) (hq : q < 10) (ha1 : 1 ≤ a) (ha2 : a ≤ 1000000) {H : Heap} {locs : List Loc} (hG : GW D tI tJ tL (A0 s) ad n sL sA H) (hS : va_S (A0 s) s.heap H locs) {ls : Array Slot} (hl : lv_has ls 22 [(18, .int (nI a)), (17, .int (nI q)), (16, .int 3), (15, .int (nI (10 * i))), (14, .int (nI i)), (13, .int (nI Y)), (12, .int (nI kd)), (11, .int (nI X)), (10, .int (nI t)), (9, .int 1), (8, .ref (ad 10)), (7, .ref (ad 9)), (6, .ref (ad 8)), (5, .ref (ad 7)), (4, .ref (ad 6)), (3, .ref (ad 5)), (2, .ref (ad 4)), (1, .ref (ad 0)), (0, .ref b)])
    (cont : CONT p l e s m b below meth c D tI tJ tL t Y K cells slots) : W p l e room_1 s m #[Value.ref b] below meth c H locs cells slots (lw_Z below #[Value.ref b] s) (F0 m 1206 ls []) := by
  have hn6 := hI.n6
  obtain ⟨sL2, sA2, hF, hInv⟩ := E_settle hI hi hst rfl
  refine lv_aload_n hx hb dW_law_1206 rfl (lv_at hl 16 rfl) ?_
  refine lv_aload_n hx hb dW_law_1207 rfl (lv_at hl 15 rfl) ?_
  refine lv_aload hx hb dW_law_1208 (lv_at hl 14 rfl) ?_
  refine lv_iload hx hb dW_law_1210 (lv_at hl 4 rfl) ?_
  refine rcS2 (rest := []) (As := [.ref (ad 4), .ref (ad 5), .ref (ad 6), .int (nI i)]) hx hb hml hown hts hC hG hS (cW_interest l D tI tJ tL (A0 s) sg ad n sL sA i (by omega)) (gS q_163 q_164 q_0 q_165) rfl rfl ⟨rfl, hdyW_interest⟩ ⟨Nat.le_of_ble_eq_true rfl, Nat.le_of_ble_eq_true rfl⟩ hl.1 rfl (Nat.le_of_ble_eq_true rfl) dW_law_1212 ⟨by show _ ≤ 796740; omega, by show _ ≤ 6711247; omega⟩ ?_
  refine lv_istore (lv' := [(19, .int (fW_interest sL sA i)), (18, .int (nI a)), (17, .int (nI q)), (16, .int 3), (15, .int (nI (10 * i))), (14, .int (nI i)), (13, .int (nI Y)), (12, .int (nI kd)), (11, .int (nI X)), (10, .int (nI t)), (9, .int 1), (8, .ref (ad 10)), (7, .ref (ad 9)), (6, .ref (ad 8)), (5, .ref (ad 7)), (4, .ref (ad 6)), (3, .ref (ad 5)), (2, .ref (ad 4)), (1, .ref (ad 0)), (0, .ref b)]) hx hb dW_law_1215 hl (by decide) rfl (fun ls hl => ?_)
  refine lv_aload_n hx hb dW_law_1217 rfl (lv_at hl 16 rfl) ?_
  refine lv_iload hx hb dW_law_1218 (lv_at hl 4 rfl) ?_
  refine lv_iconst (v := 5) hx hb dW_law_1220 (by decide) ?_
  refine lv_iadd hx hb dW_law_1221 ?_
  rw [show (nI (10 * i)) + (5 : Int32) = nI (10 * i + 5) from nI_add (10 * i) 5]
  refine ra_ld hx hb hC hG 5 60 (by omega) (fun _ _ => rfl) (vp_in_nI (by omega) (by omega)) dW_law_1222 ?_
  rw [show (nI (10 * i + 5)).toNatClampNeg = (10 * i + 5) from nI_clamp (by omega)]
  refine lv_istore (lv' := [(20, .int (sA 5 (10 * i + 5))), (19, .int (fW_interest sL sA i)), (18, .int (nI a)), (17, .int (nI q)), (16, .int 3), (15, .int (nI (10 * i))), (14, .int (nI i)), (13, .int (nI Y)), (12, .int (nI kd)), (11, .int (nI X)), (10, .int (nI t)), (9, .int 1), (8, .ref (ad 10)), (7, .ref (ad 9)), (6, .ref (ad 8)), (5, .ref (ad 7)), (4, .ref (ad 6)), (3, .ref (ad 5)), (2, .ref (ad 4)), (1, .ref (ad 0)), (0, .ref b)]) hx hb dW_law_1223 hl (by decide) rfl (fun ls hl => ?_)
  refine lv_iload hx hb dW_law_1225 (lv_at hl 0 rfl) ?_
  refine lv_iload hx hb dW_law_1227 (lv_at hl 0 rfl) ?_
  refine lv_aload hx hb dW_law_1229 (lv_at hl 13 rfl) ?_
  refine lv_aload_n hx hb dW_law_1231 rfl (lv_at hl 17 rfl) ?_
  refine lv_iload hx hb dW_law_1232 (lv_at hl 5 rfl) ?_
  refine ra_ld hx hb hC hG 5 60 (by omega) (fun _ _ => rfl) (vp_in_nI (by omega) (by omega)) dW_law_1234 ?_
  rw [show (nI (10 * i)).toNatClampNeg = (10 * i) from nI_clamp (by omega)]
  refine ra_ld hx hb hC hG 9 6 (by omega) (fun _ _ => rfl) ((hI.si hi).1.2) dW_law_1235 ?_
  refine lv_imul hx hb dW_law_1236 ?_
  refine lv_bipush (v := 100) hx hb dW_law_1237 (by decide) ?_
  refine lv_idiv hx hb dW_law_1239 (by decide) ?_
  refine lv_isub hx hb dW_law_1240 ?_
  refine lv_aload_n hx hb dW_law_1241 rfl (lv_at hl 17 rfl) ?_
  refine lv_iload hx hb dW_law_1242 (lv_at hl 6 rfl) ?_
  refine rcS2 (rest := [.int ((sA 5 (10 * i + 5)) - (((sA 5 (10 * i + 5)) * (sA 9 ((sA 5 (10 * i)).toNatClampNeg))) / 100))]) (As := [.ref (ad 5), .int (nI i)]) hx hb hml hown hts hC hG hS (cW_share l D tI tJ tL (A0 s) sg ad n sL sA i (by omega)) (gS q_159 q_160 q_0 q_161) rfl rfl ⟨rfl, hdyW_share⟩ ⟨Nat.le_of_ble_eq_true rfl, Nat.le_of_ble_eq_true rfl⟩ hl.1 rfl (Nat.le_of_ble_eq_true rfl) dW_law_1244 ⟨by show _ ≤ 796740; omega, by show _ ≤ 6711247; omega⟩ ?_
  refine lv_isub hx hb dW_law_1247 ?_
  refine lv_aload hx hb dW_law_1248 (lv_at hl 16 rfl) ?_
  refine lv_iconst (v := 3) hx hb dW_law_1250 (by decide) ?_
  refine lv_iload hx hb dW_law_1251 (lv_at hl 6 rfl) ?_
  refine lv_imul hx hb dW_law_1253 ?_
  rw [show (3 : Int32) * (nI i) = nI (3 * i) from pk_mul 3 i]
  refine ra_ld hx hb hC hG 6 18 (by omega) (fun _ _ => rfl) (vp_in_nI (by omega) (by omega)) dW_law_1254 ?_
  rw [show (nI (3 * i)).toNatClampNeg = (3 * i) from nI_clamp (by omega)]
  refine lv_isub hx hb dW_law_1255 ?_
  refine lv_iload hx hb dW_law_1256 (lv_at hl 1 rfl) ?_
  refine lv_isub hx hb dW_law_1258 ?_
  refine lv_istore (lv' := [(21, .int (((((sA 5 (10 * i + 5)) - (((sA 5 (10 * i + 5)) * (sA 9 ((sA 5 (10 * i)).toNatClampNeg))) / 100)) - (fW_share sL sA i)) - (sA 6 (3 * i))) - (fW_interest sL sA i))), (20, .int (sA 5 (10 * i + 5))), (19, .int (fW_interest sL sA i)), (18, .int (nI a)), (17, .int (nI q)), (16, .int 3), (15, .int (nI (10 * i))), (14, .int (nI i)), (13, .int (nI Y)), (12, .int (nI kd)), (11, .int (nI X)), (10, .int (nI t)), (9, .int 1), (8, .ref (ad 10)), (7, .ref (ad 9)), (6, .ref (ad 8)), (5, .ref (ad 7)), (4, .ref (ad 6)), (3, .ref (ad 5)), (2, .ref (ad 4)), (1, .ref (ad 0)), (0, .ref b)]) hx hb dW_law_1259 hl (by decide) rfl (fun ls hl => ?_)
  refine lv_aload_n hx hb dW_law_1261 rfl (lv_at hl 20 rfl) ?_
  refine lv_bipush (v := 8) hx hb dW_law_1262 (by decide) ?_
  refine lv_iload hx hb dW_law_1264 (lv_at hl 7 rfl) ?_
  refine lv_iconst (v := 0) hx hb dW_law_1266 (by decide) ?_
  refine lv_iconst (v := 0) hx hb dW_law_1267 (by decide) ?_
  refine rcSWn (rest := []) (As := [.ref (ad 0), .int 8, .int (nI i), .int 0, .int 0]) hx hb hml hown hts hC hG hS (cD_settle l hl9 D tI tJ tL (A0 s) sg ad n sL sA (nI i)) (gW q_176 q_177 q_0 q_178) rfl rfl hdyW_does ⟨Nat.le_of_ble_eq_true rfl, Nat.le_of_ble_eq_true rfl⟩ hl.1 rfl (Nat.le_of_ble_eq_true rfl) dW_law_1268 ⟨by show _ ≤ 796740; omega, by show _ ≤ 6711247; omega⟩ (hF) (fun H locs hG hS => ?_)
  refine lv_iload hx hb dW_law_1271 (lv_at hl 5 rfl) ?_
  refine lv_iconst (v := 3) hx hb dW_law_1273 (by decide) ?_
  refine lv_icmp_eq (tgt := 1282) hx hb dW_law_1274 (by decide) (fun c_1 => ?_) (fun c_1 => ?_)
  · refine lv_iload hx hb dW_law_1282 (lv_at hl 0 rfl) ?_
    refine lv_icmp_ne (tgt := 1291) hx hb dW_law_1284 (by decide) (fun c_2 => ?_) (fun c_2 => ?_)
    · exact absurd c_2 (fun q => q rfl)
    · refine lv_iconst (v := 1) hx hb dW_law_1287 (by decide) ?_
      refine lv_goto (tgt := 1292) hx hb dW_law_1288 (by decide) ?_
      refine lv_istore (lv' := [(9, .int 1), (21, .int (((((sA 5 (10 * i + 5)) - (((sA 5 (10 * i + 5)) * (sA 9 ((sA 5 (10 * i)).toNatClampNeg))) / 100)) - (fW_share sL sA i)) - (sA 6 (3 * i))) - (fW_interest sL sA i))), (20, .int (sA 5 (10 * i + 5))), (19, .int (fW_interest sL sA i)), (18, .int (nI a)), (17, .int (nI q)), (16, .int 3), (15, .int (nI (10 * i))), (14, .int (nI i)), (13, .int (nI Y)), (12, .int (nI kd)), (11, .int (nI X)), (10, .int (nI t)), (8, .ref (ad 10)), (7, .ref (ad 9)), (6, .ref (ad 8)), (5, .ref (ad 7)), (4, .ref (ad 6)), (3, .ref (ad 5)), (2, .ref (ad 4)), (1, .ref (ad 0)), (0, .ref b)]) hx hb dW_law_1292 hl (by decide) rfl (fun ls hl => ?_)
      refine lv_iload hx hb dW_law_1294 (lv_at hl 6 rfl) ?_
      refine lv_iconst (v := 3) hx hb dW_law_1296 (by decide) ?_
      refine lv_icmp_ne (tgt := 1327) hx hb dW_law_1297 (by decide) (fun c_3 => ?_) (fun c_3 => ?_)
      · exact absurd c_3 (by decide)
      · refine lv_aload_n hx hb dW_law_1300 rfl (lv_at hl 18 rfl) ?_
        refine lv_iload hx hb dW_law_1301 (lv_at hl 7 rfl) ?_
        refine lv_iconst (v := 3) hx hb dW_law_1303 (by decide) ?_
        refine lv_iadd hx hb dW_law_1304 ?_
        rw [show (nI (10 * i)) + (3 : Int32) = nI (10 * i + 3) from nI_add (10 * i) 3]
        refine lv_iconst (v := 4) hx hb dW_law_1305 (by decide) ?_
        refine ra_st hx hb hC hG hS 5 60 (by omega) (fun _ _ => rfl) (vp_in_nI (by omega) (by omega)) dW_law_1306 (fun H locs hG hS => ?_)
        rw [show (nI (10 * i + 3)).toNatClampNeg = (10 * i + 3) from nI_clamp (by omega)] at hG
        refine lv_aload_n hx hb dW_law_1307 rfl (lv_at hl 18 rfl) ?_
        refine lv_iload hx hb dW_law_1308 (lv_at hl 7 rfl) ?_
        refine lv_bipush (v := 9) hx hb dW_law_1310 (by decide) ?_
        refine lv_iadd hx hb dW_law_1312 ?_
        rw [show (nI (10 * i)) + (9 : Int32) = nI (10 * i + 9) from nI_add (10 * i) 9]
        refine lv_iload hx hb dW_law_1313 (lv_at hl 1 rfl) ?_
        refine ra_st hx hb hC hG hS 5 60 (by omega) (fun _ _ => rfl) (vp_in_nI (by omega) (by omega)) dW_law_1315 (fun H locs hG hS => ?_)
        rw [show (nI (10 * i + 9)).toNatClampNeg = (10 * i + 9) from nI_clamp (by omega)] at hG
        refine lv_aload hx hb dW_law_1316 (lv_at hl 17 rfl) ?_
        refine lv_iconst (v := 3) hx hb dW_law_1318 (by decide) ?_
        refine lv_iload hx hb dW_law_1319 (lv_at hl 8 rfl) ?_
        refine lv_imul hx hb dW_law_1321 ?_
        rw [show (3 : Int32) * (nI i) = nI (3 * i) from pk_mul 3 i]
        refine lv_iconst (v := 2) hx hb dW_law_1322 (by decide) ?_
        refine lv_iadd hx hb dW_law_1323 ?_
        rw [show (nI (3 * i)) + (2 : Int32) = nI (3 * i + 2) from nI_add (3 * i) 2]
        refine lv_iload hx hb dW_law_1324 (lv_at hl 3 rfl) ?_
        refine ra_st hx hb hC hG hS 6 18 (by omega) (fun _ _ => rfl) (vp_in_nI (by omega) (by omega)) dW_law_1326 (fun H locs hG hS => ?_)
        rw [show (nI (3 * i + 2)).toNatClampNeg = (3 * i + 2) from nI_clamp (by omega)] at hG
        refine lv_goto (tgt := 1500) hx hb dW_law_1327 (by decide) ?_
        refine W.widen (k := cells + 60) (n := slots + 300) (by omega) (by omega) ?_
        exact cont ad _ _ _ H locs ls (by omega) (hInv) hG hS (lv_sub hl [9, 12, 0, 13, 14, 15, 16, 17, 18, 19, 20, 21] rfl)
  · exact absurd c_1 (by decide)
set_option maxHeartbeats 4000000 in
set_option maxRecDepth 100000 in
theorem lc_settle_0 {p : Program} {l : Launch} {e : Env} {s : State} {m : MethodId} {below : List Frame} {meth : Method} {c : Code} {b : Nat} (hl9 : l.stackTraces = false) (hx : p.tables.exec = Jvm.exec) (hb : c.code = code) (hml : c.maxLocals = 22) (hown : s.vm.findClass "DroitLineLaw" = some m.cls) (hts : ∀ w ∈ wNeed, w.before #[Value.ref b] s = true)
    {D : va_G} {tI tJ tL : ClassId} {sg : Nat → Nat} (hC : GC D tI tJ tL (A0 s) sg s) {t Y kd X i q a K cells slots : Nat} (hK : K ≤ 130) (hcl : cells + 60 ≤ 796740) (hsl : slots + 300 ≤ 6711247) (hY : Y < 2147483648) {ad : Nat → Nat} {n : Nat} {sL : NL} {sA : NA} (hI : INV n K sL sA) (hi : i < n) (hst : sA 5 (10 * i + 3) = 0) (hq : q < 10) (ha1 : 1 ≤ a) (ha2 : a ≤ 1000000) {H : Heap} {locs : List Loc} (hG : GW D tI tJ tL (A0 s) ad n sL sA H) (hS : va_S (A0 s) s.heap H locs) {ls : Array Slot} (hl : lv_has ls 22 [(18, .int (nI a)), (17, .int (nI q)), (16, .int 0), (15, .int (nI (10 * i))), (14, .int (nI i)), (13, .int (nI Y)), (12, .int (nI kd)), (11, .int (nI X)), (10, .int (nI t)), (9, .int 1), (8, .ref (ad 10)), (7, .ref (ad 9)), (6, .ref (ad 8)), (5, .ref (ad 7)), (4, .ref (ad 6)), (3, .ref (ad 5)), (2, .ref (ad 4)), (1, .ref (ad 0)), (0, .ref b)])
    (cont : CONT p l e s m b below meth c D tI tJ tL t Y K cells slots) : W p l e room_1 s m #[Value.ref b] below meth c H locs cells slots (lw_Z below #[Value.ref b] s) (F0 m 1206 ls []) := by
  have hn6 := hI.n6
  refine lv_aload_n hx hb dW_law_1206 rfl (lv_at hl 16 rfl) ?_
  refine lv_aload_n hx hb dW_law_1207 rfl (lv_at hl 15 rfl) ?_
  refine lv_aload hx hb dW_law_1208 (lv_at hl 14 rfl) ?_
  refine lv_iload hx hb dW_law_1210 (lv_at hl 4 rfl) ?_
  refine rcS2 (rest := []) (As := [.ref (ad 4), .ref (ad 5), .ref (ad 6), .int (nI i)]) hx hb hml hown hts hC hG hS (cW_interest l D tI tJ tL (A0 s) sg ad n sL sA i (by omega)) (gS q_163 q_164 q_0 q_165) rfl rfl ⟨rfl, hdyW_interest⟩ ⟨Nat.le_of_ble_eq_true rfl, Nat.le_of_ble_eq_true rfl⟩ hl.1 rfl (Nat.le_of_ble_eq_true rfl) dW_law_1212 ⟨by show _ ≤ 796740; omega, by show _ ≤ 6711247; omega⟩ ?_
  refine lv_istore (lv' := [(19, .int (fW_interest sL sA i)), (18, .int (nI a)), (17, .int (nI q)), (16, .int 0), (15, .int (nI (10 * i))), (14, .int (nI i)), (13, .int (nI Y)), (12, .int (nI kd)), (11, .int (nI X)), (10, .int (nI t)), (9, .int 1), (8, .ref (ad 10)), (7, .ref (ad 9)), (6, .ref (ad 8)), (5, .ref (ad 7)), (4, .ref (ad 6)), (3, .ref (ad 5)), (2, .ref (ad 4)), (1, .ref (ad 0)), (0, .ref b)]) hx hb dW_law_1215 hl (by decide) rfl (fun ls hl => ?_)
  refine lv_aload_n hx hb dW_law_1217 rfl (lv_at hl 16 rfl) ?_
  refine lv_iload hx hb dW_law_1218 (lv_at hl 4 rfl) ?_
  refine lv_iconst (v := 5) hx hb dW_law_1220 (by decide) ?_
  refine lv_iadd hx hb dW_law_1221 ?_
  rw [show (nI (10 * i)) + (5 : Int32) = nI (10 * i + 5) from nI_add (10 * i) 5]
  refine ra_ld hx hb hC hG 5 60 (by omega) (fun _ _ => rfl) (vp_in_nI (by omega) (by omega)) dW_law_1222 ?_
  rw [show (nI (10 * i + 5)).toNatClampNeg = (10 * i + 5) from nI_clamp (by omega)]
  refine lv_istore (lv' := [(20, .int (sA 5 (10 * i + 5))), (19, .int (fW_interest sL sA i)), (18, .int (nI a)), (17, .int (nI q)), (16, .int 0), (15, .int (nI (10 * i))), (14, .int (nI i)), (13, .int (nI Y)), (12, .int (nI kd)), (11, .int (nI X)), (10, .int (nI t)), (9, .int 1), (8, .ref (ad 10)), (7, .ref (ad 9)), (6, .ref (ad 8)), (5, .ref (ad 7)), (4, .ref (ad 6)), (3, .ref (ad 5)), (2, .ref (ad 4)), (1, .ref (ad 0)), (0, .ref b)]) hx hb dW_law_1223 hl (by decide) rfl (fun ls hl => ?_)
  refine lv_iload hx hb dW_law_1225 (lv_at hl 0 rfl) ?_
  refine lv_iload hx hb dW_law_1227 (lv_at hl 0 rfl) ?_
  refine lv_aload hx hb dW_law_1229 (lv_at hl 13 rfl) ?_
  refine lv_aload_n hx hb dW_law_1231 rfl (lv_at hl 17 rfl) ?_
  refine lv_iload hx hb dW_law_1232 (lv_at hl 5 rfl) ?_
  refine ra_ld hx hb hC hG 5 60 (by omega) (fun _ _ => rfl) (vp_in_nI (by omega) (by omega)) dW_law_1234 ?_
  rw [show (nI (10 * i)).toNatClampNeg = (10 * i) from nI_clamp (by omega)]
  refine ra_ld hx hb hC hG 9 6 (by omega) (fun _ _ => rfl) ((hI.si hi).1.2) dW_law_1235 ?_
  refine lv_imul hx hb dW_law_1236 ?_
  refine lv_bipush (v := 100) hx hb dW_law_1237 (by decide) ?_
  refine lv_idiv hx hb dW_law_1239 (by decide) ?_
  refine lv_isub hx hb dW_law_1240 ?_
  refine lv_aload_n hx hb dW_law_1241 rfl (lv_at hl 17 rfl) ?_
  refine lv_iload hx hb dW_law_1242 (lv_at hl 6 rfl) ?_
  refine rcS2 (rest := [.int ((sA 5 (10 * i + 5)) - (((sA 5 (10 * i + 5)) * (sA 9 ((sA 5 (10 * i)).toNatClampNeg))) / 100))]) (As := [.ref (ad 5), .int (nI i)]) hx hb hml hown hts hC hG hS (cW_share l D tI tJ tL (A0 s) sg ad n sL sA i (by omega)) (gS q_159 q_160 q_0 q_161) rfl rfl ⟨rfl, hdyW_share⟩ ⟨Nat.le_of_ble_eq_true rfl, Nat.le_of_ble_eq_true rfl⟩ hl.1 rfl (Nat.le_of_ble_eq_true rfl) dW_law_1244 ⟨by show _ ≤ 796740; omega, by show _ ≤ 6711247; omega⟩ ?_
  refine lv_isub hx hb dW_law_1247 ?_
  refine lv_aload hx hb dW_law_1248 (lv_at hl 16 rfl) ?_
  refine lv_iconst (v := 3) hx hb dW_law_1250 (by decide) ?_
  refine lv_iload hx hb dW_law_1251 (lv_at hl 6 rfl) ?_
  refine lv_imul hx hb dW_law_1253 ?_
  rw [show (3 : Int32) * (nI i) = nI (3 * i) from pk_mul 3 i]
  refine ra_ld hx hb hC hG 6 18 (by omega) (fun _ _ => rfl) (vp_in_nI (by omega) (by omega)) dW_law_1254 ?_
  rw [show (nI (3 * i)).toNatClampNeg = (3 * i) from nI_clamp (by omega)]
  refine lv_isub hx hb dW_law_1255 ?_
  refine lv_iload hx hb dW_law_1256 (lv_at hl 1 rfl) ?_
  refine lv_isub hx hb dW_law_1258 ?_
  refine lv_istore (lv' := [(21, .int (((((sA 5 (10 * i + 5)) - (((sA 5 (10 * i + 5)) * (sA 9 ((sA 5 (10 * i)).toNatClampNeg))) / 100)) - (fW_share sL sA i)) - (sA 6 (3 * i))) - (fW_interest sL sA i))), (20, .int (sA 5 (10 * i + 5))), (19, .int (fW_interest sL sA i)), (18, .int (nI a)), (17, .int (nI q)), (16, .int 0), (15, .int (nI (10 * i))), (14, .int (nI i)), (13, .int (nI Y)), (12, .int (nI kd)), (11, .int (nI X)), (10, .int (nI t)), (9, .int 1), (8, .ref (ad 10)), (7, .ref (ad 9)), (6, .ref (ad 8)), (5, .ref (ad 7)), (4, .ref (ad 6)), (3, .ref (ad 5)), (2, .ref (ad 4)), (1, .ref (ad 0)), (0, .ref b)]) hx hb dW_law_1259 hl (by decide) rfl (fun ls hl => ?_)
  refine lv_aload_n hx hb dW_law_1261 rfl (lv_at hl 20 rfl) ?_
  refine lv_bipush (v := 8) hx hb dW_law_1262 (by decide) ?_
  refine lv_iload hx hb dW_law_1264 (lv_at hl 7 rfl) ?_
  refine lv_iconst (v := 0) hx hb dW_law_1266 (by decide) ?_
  refine lv_iconst (v := 0) hx hb dW_law_1267 (by decide) ?_
  refine rcSWn (rest := []) (As := [.ref (ad 0), .int 8, .int (nI i), .int 0, .int 0]) hx hb hml hown hts hC hG hS (cD_settle l hl9 D tI tJ tL (A0 s) sg ad n sL sA (nI i)) (gW q_176 q_177 q_0 q_178) rfl rfl hdyW_does ⟨Nat.le_of_ble_eq_true rfl, Nat.le_of_ble_eq_true rfl⟩ hl.1 rfl (Nat.le_of_ble_eq_true rfl) dW_law_1268 ⟨by show _ ≤ 796740; omega, by show _ ≤ 6711247; omega⟩ (X_settle hI hi hst (by decide)) (fun H locs hG hS => ?_)
  refine lv_iload hx hb dW_law_1271 (lv_at hl 5 rfl) ?_
  refine lv_iconst (v := 3) hx hb dW_law_1273 (by decide) ?_
  refine lv_icmp_eq (tgt := 1282) hx hb dW_law_1274 (by decide) (fun c_1 => ?_) (fun c_1 => ?_)
  · exact absurd c_1 (by decide)
  · refine lv_ldc (v := (-2000000013)) hx hb hown (hts _ q_409) dW_law_1277 ?_
    refine lv_goto (tgt := 1284) hx hb dW_law_1279 (by decide) ?_
    refine lv_icmp_ne (tgt := 1291) hx hb dW_law_1284 (by decide) (fun c_2 => ?_) (fun c_2 => ?_)
    · exact absurd c_2 (by decide)
    · refine lv_iconst (v := 1) hx hb dW_law_1287 (by decide) ?_
      refine lv_goto (tgt := 1292) hx hb dW_law_1288 (by decide) ?_
      refine lv_istore (lv' := [(9, .int 1), (21, .int (((((sA 5 (10 * i + 5)) - (((sA 5 (10 * i + 5)) * (sA 9 ((sA 5 (10 * i)).toNatClampNeg))) / 100)) - (fW_share sL sA i)) - (sA 6 (3 * i))) - (fW_interest sL sA i))), (20, .int (sA 5 (10 * i + 5))), (19, .int (fW_interest sL sA i)), (18, .int (nI a)), (17, .int (nI q)), (16, .int 0), (15, .int (nI (10 * i))), (14, .int (nI i)), (13, .int (nI Y)), (12, .int (nI kd)), (11, .int (nI X)), (10, .int (nI t)), (8, .ref (ad 10)), (7, .ref (ad 9)), (6, .ref (ad 8)), (5, .ref (ad 7)), (4, .ref (ad 6)), (3, .ref (ad 5)), (2, .ref (ad 4)), (1, .ref (ad 0)), (0, .ref b)]) hx hb dW_law_1292 hl (by decide) rfl (fun ls hl => ?_)
      refine lv_iload hx hb dW_law_1294 (lv_at hl 6 rfl) ?_
      refine lv_iconst (v := 3) hx hb dW_law_1296 (by decide) ?_
      refine lv_icmp_ne (tgt := 1327) hx hb dW_law_1297 (by decide) (fun c_3 => ?_) (fun c_3 => ?_)
      · refine lv_goto (tgt := 1500) hx hb dW_law_1327 (by decide) ?_
        refine W.widen (k := cells + 60) (n := slots + 300) (by omega) (by omega) ?_
        exact cont ad _ _ _ H locs ls (by omega) (hI.mono (by omega)) hG hS (lv_sub hl [9, 12, 0, 13, 14, 15, 16, 17, 18, 19, 20, 21] rfl)
      · exact absurd c_3 (by decide)
set_option maxHeartbeats 4000000 in
set_option maxRecDepth 100000 in
theorem lc_settle_1 {p : Program} {l : Launch} {e : Env} {s : State} {m : MethodId} {below : List Frame} {meth : Method} {c : Code} {b : Nat} (hl9 : l.stackTraces = false) (hx : p.tables.exec = Jvm.exec) (hb : c.code = code) (hml : c.maxLocals = 22) (hown : s.vm.findClass "DroitLineLaw" = some m.cls) (hts : ∀ w ∈ wNeed, w.before #[Value.ref b] s = true)
    {D : va_G} {tI tJ tL : ClassId} {sg : Nat → Nat} (hC : GC D tI tJ tL (A0 s) sg s) {t Y kd X i q a K cells slots : Nat} (hK : K ≤ 130) (hcl : cells + 60 ≤ 796740) (hsl : slots + 300 ≤ 6711247) (hY : Y < 2147483648) {ad : Nat → Nat} {n : Nat} {sL : NL} {sA : NA} (hI : INV n K sL sA) (hi : i < n) (hst : sA 5 (10 * i + 3) = 1) (hq : q < 10) (ha1 : 1 ≤ a) (ha2 : a ≤ 1000000) {H : Heap} {locs : List Loc} (hG : GW D tI tJ tL (A0 s) ad n sL sA H) (hS : va_S (A0 s) s.heap H locs) {ls : Array Slot} (hl : lv_has ls 22 [(18, .int (nI a)), (17, .int (nI q)), (16, .int 1), (15, .int (nI (10 * i))), (14, .int (nI i)), (13, .int (nI Y)), (12, .int (nI kd)), (11, .int (nI X)), (10, .int (nI t)), (9, .int 1), (8, .ref (ad 10)), (7, .ref (ad 9)), (6, .ref (ad 8)), (5, .ref (ad 7)), (4, .ref (ad 6)), (3, .ref (ad 5)), (2, .ref (ad 4)), (1, .ref (ad 0)), (0, .ref b)])
    (cont : CONT p l e s m b below meth c D tI tJ tL t Y K cells slots) : W p l e room_1 s m #[Value.ref b] below meth c H locs cells slots (lw_Z below #[Value.ref b] s) (F0 m 1206 ls []) := by
  have hn6 := hI.n6
  refine lv_aload_n hx hb dW_law_1206 rfl (lv_at hl 16 rfl) ?_
  refine lv_aload_n hx hb dW_law_1207 rfl (lv_at hl 15 rfl) ?_
  refine lv_aload hx hb dW_law_1208 (lv_at hl 14 rfl) ?_
  refine lv_iload hx hb dW_law_1210 (lv_at hl 4 rfl) ?_
  refine rcS2 (rest := []) (As := [.ref (ad 4), .ref (ad 5), .ref (ad 6), .int (nI i)]) hx hb hml hown hts hC hG hS (cW_interest l D tI tJ tL (A0 s) sg ad n sL sA i (by omega)) (gS q_163 q_164 q_0 q_165) rfl rfl ⟨rfl, hdyW_interest⟩ ⟨Nat.le_of_ble_eq_true rfl, Nat.le_of_ble_eq_true rfl⟩ hl.1 rfl (Nat.le_of_ble_eq_true rfl) dW_law_1212 ⟨by show _ ≤ 796740; omega, by show _ ≤ 6711247; omega⟩ ?_
  refine lv_istore (lv' := [(19, .int (fW_interest sL sA i)), (18, .int (nI a)), (17, .int (nI q)), (16, .int 1), (15, .int (nI (10 * i))), (14, .int (nI i)), (13, .int (nI Y)), (12, .int (nI kd)), (11, .int (nI X)), (10, .int (nI t)), (9, .int 1), (8, .ref (ad 10)), (7, .ref (ad 9)), (6, .ref (ad 8)), (5, .ref (ad 7)), (4, .ref (ad 6)), (3, .ref (ad 5)), (2, .ref (ad 4)), (1, .ref (ad 0)), (0, .ref b)]) hx hb dW_law_1215 hl (by decide) rfl (fun ls hl => ?_)
  refine lv_aload_n hx hb dW_law_1217 rfl (lv_at hl 16 rfl) ?_
  refine lv_iload hx hb dW_law_1218 (lv_at hl 4 rfl) ?_
  refine lv_iconst (v := 5) hx hb dW_law_1220 (by decide) ?_
  refine lv_iadd hx hb dW_law_1221 ?_
  rw [show (nI (10 * i)) + (5 : Int32) = nI (10 * i + 5) from nI_add (10 * i) 5]
  refine ra_ld hx hb hC hG 5 60 (by omega) (fun _ _ => rfl) (vp_in_nI (by omega) (by omega)) dW_law_1222 ?_
  rw [show (nI (10 * i + 5)).toNatClampNeg = (10 * i + 5) from nI_clamp (by omega)]
  refine lv_istore (lv' := [(20, .int (sA 5 (10 * i + 5))), (19, .int (fW_interest sL sA i)), (18, .int (nI a)), (17, .int (nI q)), (16, .int 1), (15, .int (nI (10 * i))), (14, .int (nI i)), (13, .int (nI Y)), (12, .int (nI kd)), (11, .int (nI X)), (10, .int (nI t)), (9, .int 1), (8, .ref (ad 10)), (7, .ref (ad 9)), (6, .ref (ad 8)), (5, .ref (ad 7)), (4, .ref (ad 6)), (3, .ref (ad 5)), (2, .ref (ad 4)), (1, .ref (ad 0)), (0, .ref b)]) hx hb dW_law_1223 hl (by decide) rfl (fun ls hl => ?_)
  refine lv_iload hx hb dW_law_1225 (lv_at hl 0 rfl) ?_
  refine lv_iload hx hb dW_law_1227 (lv_at hl 0 rfl) ?_
  refine lv_aload hx hb dW_law_1229 (lv_at hl 13 rfl) ?_
  refine lv_aload_n hx hb dW_law_1231 rfl (lv_at hl 17 rfl) ?_
  refine lv_iload hx hb dW_law_1232 (lv_at hl 5 rfl) ?_
  refine ra_ld hx hb hC hG 5 60 (by omega) (fun _ _ => rfl) (vp_in_nI (by omega) (by omega)) dW_law_1234 ?_
  rw [show (nI (10 * i)).toNatClampNeg = (10 * i) from nI_clamp (by omega)]
  refine ra_ld hx hb hC hG 9 6 (by omega) (fun _ _ => rfl) ((hI.si hi).1.2) dW_law_1235 ?_
  refine lv_imul hx hb dW_law_1236 ?_
  refine lv_bipush (v := 100) hx hb dW_law_1237 (by decide) ?_
  refine lv_idiv hx hb dW_law_1239 (by decide) ?_
  refine lv_isub hx hb dW_law_1240 ?_
  refine lv_aload_n hx hb dW_law_1241 rfl (lv_at hl 17 rfl) ?_
  refine lv_iload hx hb dW_law_1242 (lv_at hl 6 rfl) ?_
  refine rcS2 (rest := [.int ((sA 5 (10 * i + 5)) - (((sA 5 (10 * i + 5)) * (sA 9 ((sA 5 (10 * i)).toNatClampNeg))) / 100))]) (As := [.ref (ad 5), .int (nI i)]) hx hb hml hown hts hC hG hS (cW_share l D tI tJ tL (A0 s) sg ad n sL sA i (by omega)) (gS q_159 q_160 q_0 q_161) rfl rfl ⟨rfl, hdyW_share⟩ ⟨Nat.le_of_ble_eq_true rfl, Nat.le_of_ble_eq_true rfl⟩ hl.1 rfl (Nat.le_of_ble_eq_true rfl) dW_law_1244 ⟨by show _ ≤ 796740; omega, by show _ ≤ 6711247; omega⟩ ?_
  refine lv_isub hx hb dW_law_1247 ?_
  refine lv_aload hx hb dW_law_1248 (lv_at hl 16 rfl) ?_
  refine lv_iconst (v := 3) hx hb dW_law_1250 (by decide) ?_
  refine lv_iload hx hb dW_law_1251 (lv_at hl 6 rfl) ?_
  refine lv_imul hx hb dW_law_1253 ?_
  rw [show (3 : Int32) * (nI i) = nI (3 * i) from pk_mul 3 i]
  refine ra_ld hx hb hC hG 6 18 (by omega) (fun _ _ => rfl) (vp_in_nI (by omega) (by omega)) dW_law_1254 ?_
  rw [show (nI (3 * i)).toNatClampNeg = (3 * i) from nI_clamp (by omega)]
  refine lv_isub hx hb dW_law_1255 ?_
  refine lv_iload hx hb dW_law_1256 (lv_at hl 1 rfl) ?_
  refine lv_isub hx hb dW_law_1258 ?_
  refine lv_istore (lv' := [(21, .int (((((sA 5 (10 * i + 5)) - (((sA 5 (10 * i + 5)) * (sA 9 ((sA 5 (10 * i)).toNatClampNeg))) / 100)) - (fW_share sL sA i)) - (sA 6 (3 * i))) - (fW_interest sL sA i))), (20, .int (sA 5 (10 * i + 5))), (19, .int (fW_interest sL sA i)), (18, .int (nI a)), (17, .int (nI q)), (16, .int 1), (15, .int (nI (10 * i))), (14, .int (nI i)), (13, .int (nI Y)), (12, .int (nI kd)), (11, .int (nI X)), (10, .int (nI t)), (9, .int 1), (8, .ref (ad 10)), (7, .ref (ad 9)), (6, .ref (ad 8)), (5, .ref (ad 7)), (4, .ref (ad 6)), (3, .ref (ad 5)), (2, .ref (ad 4)), (1, .ref (ad 0)), (0, .ref b)]) hx hb dW_law_1259 hl (by decide) rfl (fun ls hl => ?_)
  refine lv_aload_n hx hb dW_law_1261 rfl (lv_at hl 20 rfl) ?_
  refine lv_bipush (v := 8) hx hb dW_law_1262 (by decide) ?_
  refine lv_iload hx hb dW_law_1264 (lv_at hl 7 rfl) ?_
  refine lv_iconst (v := 0) hx hb dW_law_1266 (by decide) ?_
  refine lv_iconst (v := 0) hx hb dW_law_1267 (by decide) ?_
  refine rcSWn (rest := []) (As := [.ref (ad 0), .int 8, .int (nI i), .int 0, .int 0]) hx hb hml hown hts hC hG hS (cD_settle l hl9 D tI tJ tL (A0 s) sg ad n sL sA (nI i)) (gW q_176 q_177 q_0 q_178) rfl rfl hdyW_does ⟨Nat.le_of_ble_eq_true rfl, Nat.le_of_ble_eq_true rfl⟩ hl.1 rfl (Nat.le_of_ble_eq_true rfl) dW_law_1268 ⟨by show _ ≤ 796740; omega, by show _ ≤ 6711247; omega⟩ (X_settle hI hi hst (by decide)) (fun H locs hG hS => ?_)
  refine lv_iload hx hb dW_law_1271 (lv_at hl 5 rfl) ?_
  refine lv_iconst (v := 3) hx hb dW_law_1273 (by decide) ?_
  refine lv_icmp_eq (tgt := 1282) hx hb dW_law_1274 (by decide) (fun c_1 => ?_) (fun c_1 => ?_)
  · exact absurd c_1 (by decide)
  · refine lv_ldc (v := (-2000000013)) hx hb hown (hts _ q_409) dW_law_1277 ?_
    refine lv_goto (tgt := 1284) hx hb dW_law_1279 (by decide) ?_
    refine lv_icmp_ne (tgt := 1291) hx hb dW_law_1284 (by decide) (fun c_2 => ?_) (fun c_2 => ?_)
    · exact absurd c_2 (by decide)
    · refine lv_iconst (v := 1) hx hb dW_law_1287 (by decide) ?_
      refine lv_goto (tgt := 1292) hx hb dW_law_1288 (by decide) ?_
      refine lv_istore (lv' := [(9, .int 1), (21, .int (((((sA 5 (10 * i + 5)) - (((sA 5 (10 * i + 5)) * (sA 9 ((sA 5 (10 * i)).toNatClampNeg))) / 100)) - (fW_share sL sA i)) - (sA 6 (3 * i))) - (fW_interest sL sA i))), (20, .int (sA 5 (10 * i + 5))), (19, .int (fW_interest sL sA i)), (18, .int (nI a)), (17, .int (nI q)), (16, .int 1), (15, .int (nI (10 * i))), (14, .int (nI i)), (13, .int (nI Y)), (12, .int (nI kd)), (11, .int (nI X)), (10, .int (nI t)), (8, .ref (ad 10)), (7, .ref (ad 9)), (6, .ref (ad 8)), (5, .ref (ad 7)), (4, .ref (ad 6)), (3, .ref (ad 5)), (2, .ref (ad 4)), (1, .ref (ad 0)), (0, .ref b)]) hx hb dW_law_1292 hl (by decide) rfl (fun ls hl => ?_)
      refine lv_iload hx hb dW_law_1294 (lv_at hl 6 rfl) ?_
      refine lv_iconst (v := 3) hx hb dW_law_1296 (by decide) ?_
      refine lv_icmp_ne (tgt := 1327) hx hb dW_law_1297 (by decide) (fun c_3 => ?_) (fun c_3 => ?_)
      · refine lv_goto (tgt := 1500) hx hb dW_law_1327 (by decide) ?_
        refine W.widen (k := cells + 60) (n := slots + 300) (by omega) (by omega) ?_
        exact cont ad _ _ _ H locs ls (by omega) (hI.mono (by omega)) hG hS (lv_sub hl [9, 12, 0, 13, 14, 15, 16, 17, 18, 19, 20, 21] rfl)
      · exact absurd c_3 (by decide)
set_option maxHeartbeats 4000000 in
set_option maxRecDepth 100000 in
theorem lc_settle_2 {p : Program} {l : Launch} {e : Env} {s : State} {m : MethodId} {below : List Frame} {meth : Method} {c : Code} {b : Nat} (hl9 : l.stackTraces = false) (hx : p.tables.exec = Jvm.exec) (hb : c.code = code) (hml : c.maxLocals = 22) (hown : s.vm.findClass "DroitLineLaw" = some m.cls) (hts : ∀ w ∈ wNeed, w.before #[Value.ref b] s = true)
    {D : va_G} {tI tJ tL : ClassId} {sg : Nat → Nat} (hC : GC D tI tJ tL (A0 s) sg s) {t Y kd X i q a K cells slots : Nat} (hK : K ≤ 130) (hcl : cells + 60 ≤ 796740) (hsl : slots + 300 ≤ 6711247) (hY : Y < 2147483648) {ad : Nat → Nat} {n : Nat} {sL : NL} {sA : NA} (hI : INV n K sL sA) (hi : i < n) (hst : sA 5 (10 * i + 3) = 2) (hq : q < 10) (ha1 : 1 ≤ a) (ha2 : a ≤ 1000000) {H : Heap} {locs : List Loc} (hG : GW D tI tJ tL (A0 s) ad n sL sA H) (hS : va_S (A0 s) s.heap H locs) {ls : Array Slot} (hl : lv_has ls 22 [(18, .int (nI a)), (17, .int (nI q)), (16, .int 2), (15, .int (nI (10 * i))), (14, .int (nI i)), (13, .int (nI Y)), (12, .int (nI kd)), (11, .int (nI X)), (10, .int (nI t)), (9, .int 1), (8, .ref (ad 10)), (7, .ref (ad 9)), (6, .ref (ad 8)), (5, .ref (ad 7)), (4, .ref (ad 6)), (3, .ref (ad 5)), (2, .ref (ad 4)), (1, .ref (ad 0)), (0, .ref b)])
    (cont : CONT p l e s m b below meth c D tI tJ tL t Y K cells slots) : W p l e room_1 s m #[Value.ref b] below meth c H locs cells slots (lw_Z below #[Value.ref b] s) (F0 m 1206 ls []) := by
  have hn6 := hI.n6
  refine lv_aload_n hx hb dW_law_1206 rfl (lv_at hl 16 rfl) ?_
  refine lv_aload_n hx hb dW_law_1207 rfl (lv_at hl 15 rfl) ?_
  refine lv_aload hx hb dW_law_1208 (lv_at hl 14 rfl) ?_
  refine lv_iload hx hb dW_law_1210 (lv_at hl 4 rfl) ?_
  refine rcS2 (rest := []) (As := [.ref (ad 4), .ref (ad 5), .ref (ad 6), .int (nI i)]) hx hb hml hown hts hC hG hS (cW_interest l D tI tJ tL (A0 s) sg ad n sL sA i (by omega)) (gS q_163 q_164 q_0 q_165) rfl rfl ⟨rfl, hdyW_interest⟩ ⟨Nat.le_of_ble_eq_true rfl, Nat.le_of_ble_eq_true rfl⟩ hl.1 rfl (Nat.le_of_ble_eq_true rfl) dW_law_1212 ⟨by show _ ≤ 796740; omega, by show _ ≤ 6711247; omega⟩ ?_
  refine lv_istore (lv' := [(19, .int (fW_interest sL sA i)), (18, .int (nI a)), (17, .int (nI q)), (16, .int 2), (15, .int (nI (10 * i))), (14, .int (nI i)), (13, .int (nI Y)), (12, .int (nI kd)), (11, .int (nI X)), (10, .int (nI t)), (9, .int 1), (8, .ref (ad 10)), (7, .ref (ad 9)), (6, .ref (ad 8)), (5, .ref (ad 7)), (4, .ref (ad 6)), (3, .ref (ad 5)), (2, .ref (ad 4)), (1, .ref (ad 0)), (0, .ref b)]) hx hb dW_law_1215 hl (by decide) rfl (fun ls hl => ?_)
  refine lv_aload_n hx hb dW_law_1217 rfl (lv_at hl 16 rfl) ?_
  refine lv_iload hx hb dW_law_1218 (lv_at hl 4 rfl) ?_
  refine lv_iconst (v := 5) hx hb dW_law_1220 (by decide) ?_
  refine lv_iadd hx hb dW_law_1221 ?_
  rw [show (nI (10 * i)) + (5 : Int32) = nI (10 * i + 5) from nI_add (10 * i) 5]
  refine ra_ld hx hb hC hG 5 60 (by omega) (fun _ _ => rfl) (vp_in_nI (by omega) (by omega)) dW_law_1222 ?_
  rw [show (nI (10 * i + 5)).toNatClampNeg = (10 * i + 5) from nI_clamp (by omega)]
  refine lv_istore (lv' := [(20, .int (sA 5 (10 * i + 5))), (19, .int (fW_interest sL sA i)), (18, .int (nI a)), (17, .int (nI q)), (16, .int 2), (15, .int (nI (10 * i))), (14, .int (nI i)), (13, .int (nI Y)), (12, .int (nI kd)), (11, .int (nI X)), (10, .int (nI t)), (9, .int 1), (8, .ref (ad 10)), (7, .ref (ad 9)), (6, .ref (ad 8)), (5, .ref (ad 7)), (4, .ref (ad 6)), (3, .ref (ad 5)), (2, .ref (ad 4)), (1, .ref (ad 0)), (0, .ref b)]) hx hb dW_law_1223 hl (by decide) rfl (fun ls hl => ?_)
  refine lv_iload hx hb dW_law_1225 (lv_at hl 0 rfl) ?_
  refine lv_iload hx hb dW_law_1227 (lv_at hl 0 rfl) ?_
  refine lv_aload hx hb dW_law_1229 (lv_at hl 13 rfl) ?_
  refine lv_aload_n hx hb dW_law_1231 rfl (lv_at hl 17 rfl) ?_
  refine lv_iload hx hb dW_law_1232 (lv_at hl 5 rfl) ?_
  refine ra_ld hx hb hC hG 5 60 (by omega) (fun _ _ => rfl) (vp_in_nI (by omega) (by omega)) dW_law_1234 ?_
  rw [show (nI (10 * i)).toNatClampNeg = (10 * i) from nI_clamp (by omega)]
  refine ra_ld hx hb hC hG 9 6 (by omega) (fun _ _ => rfl) ((hI.si hi).1.2) dW_law_1235 ?_
  refine lv_imul hx hb dW_law_1236 ?_
  refine lv_bipush (v := 100) hx hb dW_law_1237 (by decide) ?_
  refine lv_idiv hx hb dW_law_1239 (by decide) ?_
  refine lv_isub hx hb dW_law_1240 ?_
  refine lv_aload_n hx hb dW_law_1241 rfl (lv_at hl 17 rfl) ?_
  refine lv_iload hx hb dW_law_1242 (lv_at hl 6 rfl) ?_
  refine rcS2 (rest := [.int ((sA 5 (10 * i + 5)) - (((sA 5 (10 * i + 5)) * (sA 9 ((sA 5 (10 * i)).toNatClampNeg))) / 100))]) (As := [.ref (ad 5), .int (nI i)]) hx hb hml hown hts hC hG hS (cW_share l D tI tJ tL (A0 s) sg ad n sL sA i (by omega)) (gS q_159 q_160 q_0 q_161) rfl rfl ⟨rfl, hdyW_share⟩ ⟨Nat.le_of_ble_eq_true rfl, Nat.le_of_ble_eq_true rfl⟩ hl.1 rfl (Nat.le_of_ble_eq_true rfl) dW_law_1244 ⟨by show _ ≤ 796740; omega, by show _ ≤ 6711247; omega⟩ ?_
  refine lv_isub hx hb dW_law_1247 ?_
  refine lv_aload hx hb dW_law_1248 (lv_at hl 16 rfl) ?_
  refine lv_iconst (v := 3) hx hb dW_law_1250 (by decide) ?_
  refine lv_iload hx hb dW_law_1251 (lv_at hl 6 rfl) ?_
  refine lv_imul hx hb dW_law_1253 ?_
  rw [show (3 : Int32) * (nI i) = nI (3 * i) from pk_mul 3 i]
  refine ra_ld hx hb hC hG 6 18 (by omega) (fun _ _ => rfl) (vp_in_nI (by omega) (by omega)) dW_law_1254 ?_
  rw [show (nI (3 * i)).toNatClampNeg = (3 * i) from nI_clamp (by omega)]
  refine lv_isub hx hb dW_law_1255 ?_
  refine lv_iload hx hb dW_law_1256 (lv_at hl 1 rfl) ?_
  refine lv_isub hx hb dW_law_1258 ?_
  refine lv_istore (lv' := [(21, .int (((((sA 5 (10 * i + 5)) - (((sA 5 (10 * i + 5)) * (sA 9 ((sA 5 (10 * i)).toNatClampNeg))) / 100)) - (fW_share sL sA i)) - (sA 6 (3 * i))) - (fW_interest sL sA i))), (20, .int (sA 5 (10 * i + 5))), (19, .int (fW_interest sL sA i)), (18, .int (nI a)), (17, .int (nI q)), (16, .int 2), (15, .int (nI (10 * i))), (14, .int (nI i)), (13, .int (nI Y)), (12, .int (nI kd)), (11, .int (nI X)), (10, .int (nI t)), (9, .int 1), (8, .ref (ad 10)), (7, .ref (ad 9)), (6, .ref (ad 8)), (5, .ref (ad 7)), (4, .ref (ad 6)), (3, .ref (ad 5)), (2, .ref (ad 4)), (1, .ref (ad 0)), (0, .ref b)]) hx hb dW_law_1259 hl (by decide) rfl (fun ls hl => ?_)
  refine lv_aload_n hx hb dW_law_1261 rfl (lv_at hl 20 rfl) ?_
  refine lv_bipush (v := 8) hx hb dW_law_1262 (by decide) ?_
  refine lv_iload hx hb dW_law_1264 (lv_at hl 7 rfl) ?_
  refine lv_iconst (v := 0) hx hb dW_law_1266 (by decide) ?_
  refine lv_iconst (v := 0) hx hb dW_law_1267 (by decide) ?_
  refine rcSWn (rest := []) (As := [.ref (ad 0), .int 8, .int (nI i), .int 0, .int 0]) hx hb hml hown hts hC hG hS (cD_settle l hl9 D tI tJ tL (A0 s) sg ad n sL sA (nI i)) (gW q_176 q_177 q_0 q_178) rfl rfl hdyW_does ⟨Nat.le_of_ble_eq_true rfl, Nat.le_of_ble_eq_true rfl⟩ hl.1 rfl (Nat.le_of_ble_eq_true rfl) dW_law_1268 ⟨by show _ ≤ 796740; omega, by show _ ≤ 6711247; omega⟩ (X_settle hI hi hst (by decide)) (fun H locs hG hS => ?_)
  refine lv_iload hx hb dW_law_1271 (lv_at hl 5 rfl) ?_
  refine lv_iconst (v := 3) hx hb dW_law_1273 (by decide) ?_
  refine lv_icmp_eq (tgt := 1282) hx hb dW_law_1274 (by decide) (fun c_1 => ?_) (fun c_1 => ?_)
  · exact absurd c_1 (by decide)
  · refine lv_ldc (v := (-2000000013)) hx hb hown (hts _ q_409) dW_law_1277 ?_
    refine lv_goto (tgt := 1284) hx hb dW_law_1279 (by decide) ?_
    refine lv_icmp_ne (tgt := 1291) hx hb dW_law_1284 (by decide) (fun c_2 => ?_) (fun c_2 => ?_)
    · exact absurd c_2 (by decide)
    · refine lv_iconst (v := 1) hx hb dW_law_1287 (by decide) ?_
      refine lv_goto (tgt := 1292) hx hb dW_law_1288 (by decide) ?_
      refine lv_istore (lv' := [(9, .int 1), (21, .int (((((sA 5 (10 * i + 5)) - (((sA 5 (10 * i + 5)) * (sA 9 ((sA 5 (10 * i)).toNatClampNeg))) / 100)) - (fW_share sL sA i)) - (sA 6 (3 * i))) - (fW_interest sL sA i))), (20, .int (sA 5 (10 * i + 5))), (19, .int (fW_interest sL sA i)), (18, .int (nI a)), (17, .int (nI q)), (16, .int 2), (15, .int (nI (10 * i))), (14, .int (nI i)), (13, .int (nI Y)), (12, .int (nI kd)), (11, .int (nI X)), (10, .int (nI t)), (8, .ref (ad 10)), (7, .ref (ad 9)), (6, .ref (ad 8)), (5, .ref (ad 7)), (4, .ref (ad 6)), (3, .ref (ad 5)), (2, .ref (ad 4)), (1, .ref (ad 0)), (0, .ref b)]) hx hb dW_law_1292 hl (by decide) rfl (fun ls hl => ?_)
      refine lv_iload hx hb dW_law_1294 (lv_at hl 6 rfl) ?_
      refine lv_iconst (v := 3) hx hb dW_law_1296 (by decide) ?_
      refine lv_icmp_ne (tgt := 1327) hx hb dW_law_1297 (by decide) (fun c_3 => ?_) (fun c_3 => ?_)
      · refine lv_goto (tgt := 1500) hx hb dW_law_1327 (by decide) ?_
        refine W.widen (k := cells + 60) (n := slots + 300) (by omega) (by omega) ?_
        exact cont ad _ _ _ H locs ls (by omega) (hI.mono (by omega)) hG hS (lv_sub hl [9, 12, 0, 13, 14, 15, 16, 17, 18, 19, 20, 21] rfl)
      · exact absurd c_3 (by decide)
set_option maxHeartbeats 4000000 in
set_option maxRecDepth 100000 in
theorem lc_settle_4 {p : Program} {l : Launch} {e : Env} {s : State} {m : MethodId} {below : List Frame} {meth : Method} {c : Code} {b : Nat} (hl9 : l.stackTraces = false) (hx : p.tables.exec = Jvm.exec) (hb : c.code = code) (hml : c.maxLocals = 22) (hown : s.vm.findClass "DroitLineLaw" = some m.cls) (hts : ∀ w ∈ wNeed, w.before #[Value.ref b] s = true)
    {D : va_G} {tI tJ tL : ClassId} {sg : Nat → Nat} (hC : GC D tI tJ tL (A0 s) sg s) {t Y kd X i q a K cells slots : Nat} (hK : K ≤ 130) (hcl : cells + 60 ≤ 796740) (hsl : slots + 300 ≤ 6711247) (hY : Y < 2147483648) {ad : Nat → Nat} {n : Nat} {sL : NL} {sA : NA} (hI : INV n K sL sA) (hi : i < n) (hst : sA 5 (10 * i + 3) = 4) (hq : q < 10) (ha1 : 1 ≤ a) (ha2 : a ≤ 1000000) {H : Heap} {locs : List Loc} (hG : GW D tI tJ tL (A0 s) ad n sL sA H) (hS : va_S (A0 s) s.heap H locs) {ls : Array Slot} (hl : lv_has ls 22 [(18, .int (nI a)), (17, .int (nI q)), (16, .int 4), (15, .int (nI (10 * i))), (14, .int (nI i)), (13, .int (nI Y)), (12, .int (nI kd)), (11, .int (nI X)), (10, .int (nI t)), (9, .int 1), (8, .ref (ad 10)), (7, .ref (ad 9)), (6, .ref (ad 8)), (5, .ref (ad 7)), (4, .ref (ad 6)), (3, .ref (ad 5)), (2, .ref (ad 4)), (1, .ref (ad 0)), (0, .ref b)])
    (cont : CONT p l e s m b below meth c D tI tJ tL t Y K cells slots) : W p l e room_1 s m #[Value.ref b] below meth c H locs cells slots (lw_Z below #[Value.ref b] s) (F0 m 1206 ls []) := by
  have hn6 := hI.n6
  refine lv_aload_n hx hb dW_law_1206 rfl (lv_at hl 16 rfl) ?_
  refine lv_aload_n hx hb dW_law_1207 rfl (lv_at hl 15 rfl) ?_
  refine lv_aload hx hb dW_law_1208 (lv_at hl 14 rfl) ?_
  refine lv_iload hx hb dW_law_1210 (lv_at hl 4 rfl) ?_
  refine rcS2 (rest := []) (As := [.ref (ad 4), .ref (ad 5), .ref (ad 6), .int (nI i)]) hx hb hml hown hts hC hG hS (cW_interest l D tI tJ tL (A0 s) sg ad n sL sA i (by omega)) (gS q_163 q_164 q_0 q_165) rfl rfl ⟨rfl, hdyW_interest⟩ ⟨Nat.le_of_ble_eq_true rfl, Nat.le_of_ble_eq_true rfl⟩ hl.1 rfl (Nat.le_of_ble_eq_true rfl) dW_law_1212 ⟨by show _ ≤ 796740; omega, by show _ ≤ 6711247; omega⟩ ?_
  refine lv_istore (lv' := [(19, .int (fW_interest sL sA i)), (18, .int (nI a)), (17, .int (nI q)), (16, .int 4), (15, .int (nI (10 * i))), (14, .int (nI i)), (13, .int (nI Y)), (12, .int (nI kd)), (11, .int (nI X)), (10, .int (nI t)), (9, .int 1), (8, .ref (ad 10)), (7, .ref (ad 9)), (6, .ref (ad 8)), (5, .ref (ad 7)), (4, .ref (ad 6)), (3, .ref (ad 5)), (2, .ref (ad 4)), (1, .ref (ad 0)), (0, .ref b)]) hx hb dW_law_1215 hl (by decide) rfl (fun ls hl => ?_)
  refine lv_aload_n hx hb dW_law_1217 rfl (lv_at hl 16 rfl) ?_
  refine lv_iload hx hb dW_law_1218 (lv_at hl 4 rfl) ?_
  refine lv_iconst (v := 5) hx hb dW_law_1220 (by decide) ?_
  refine lv_iadd hx hb dW_law_1221 ?_
  rw [show (nI (10 * i)) + (5 : Int32) = nI (10 * i + 5) from nI_add (10 * i) 5]
  refine ra_ld hx hb hC hG 5 60 (by omega) (fun _ _ => rfl) (vp_in_nI (by omega) (by omega)) dW_law_1222 ?_
  rw [show (nI (10 * i + 5)).toNatClampNeg = (10 * i + 5) from nI_clamp (by omega)]
  refine lv_istore (lv' := [(20, .int (sA 5 (10 * i + 5))), (19, .int (fW_interest sL sA i)), (18, .int (nI a)), (17, .int (nI q)), (16, .int 4), (15, .int (nI (10 * i))), (14, .int (nI i)), (13, .int (nI Y)), (12, .int (nI kd)), (11, .int (nI X)), (10, .int (nI t)), (9, .int 1), (8, .ref (ad 10)), (7, .ref (ad 9)), (6, .ref (ad 8)), (5, .ref (ad 7)), (4, .ref (ad 6)), (3, .ref (ad 5)), (2, .ref (ad 4)), (1, .ref (ad 0)), (0, .ref b)]) hx hb dW_law_1223 hl (by decide) rfl (fun ls hl => ?_)
  refine lv_iload hx hb dW_law_1225 (lv_at hl 0 rfl) ?_
  refine lv_iload hx hb dW_law_1227 (lv_at hl 0 rfl) ?_
  refine lv_aload hx hb dW_law_1229 (lv_at hl 13 rfl) ?_
  refine lv_aload_n hx hb dW_law_1231 rfl (lv_at hl 17 rfl) ?_
  refine lv_iload hx hb dW_law_1232 (lv_at hl 5 rfl) ?_
  refine ra_ld hx hb hC hG 5 60 (by omega) (fun _ _ => rfl) (vp_in_nI (by omega) (by omega)) dW_law_1234 ?_
  rw [show (nI (10 * i)).toNatClampNeg = (10 * i) from nI_clamp (by omega)]
  refine ra_ld hx hb hC hG 9 6 (by omega) (fun _ _ => rfl) ((hI.si hi).1.2) dW_law_1235 ?_
  refine lv_imul hx hb dW_law_1236 ?_
  refine lv_bipush (v := 100) hx hb dW_law_1237 (by decide) ?_
  refine lv_idiv hx hb dW_law_1239 (by decide) ?_
  refine lv_isub hx hb dW_law_1240 ?_
  refine lv_aload_n hx hb dW_law_1241 rfl (lv_at hl 17 rfl) ?_
  refine lv_iload hx hb dW_law_1242 (lv_at hl 6 rfl) ?_
  refine rcS2 (rest := [.int ((sA 5 (10 * i + 5)) - (((sA 5 (10 * i + 5)) * (sA 9 ((sA 5 (10 * i)).toNatClampNeg))) / 100))]) (As := [.ref (ad 5), .int (nI i)]) hx hb hml hown hts hC hG hS (cW_share l D tI tJ tL (A0 s) sg ad n sL sA i (by omega)) (gS q_159 q_160 q_0 q_161) rfl rfl ⟨rfl, hdyW_share⟩ ⟨Nat.le_of_ble_eq_true rfl, Nat.le_of_ble_eq_true rfl⟩ hl.1 rfl (Nat.le_of_ble_eq_true rfl) dW_law_1244 ⟨by show _ ≤ 796740; omega, by show _ ≤ 6711247; omega⟩ ?_
  refine lv_isub hx hb dW_law_1247 ?_
  refine lv_aload hx hb dW_law_1248 (lv_at hl 16 rfl) ?_
  refine lv_iconst (v := 3) hx hb dW_law_1250 (by decide) ?_
  refine lv_iload hx hb dW_law_1251 (lv_at hl 6 rfl) ?_
  refine lv_imul hx hb dW_law_1253 ?_
  rw [show (3 : Int32) * (nI i) = nI (3 * i) from pk_mul 3 i]
  refine ra_ld hx hb hC hG 6 18 (by omega) (fun _ _ => rfl) (vp_in_nI (by omega) (by omega)) dW_law_1254 ?_
  rw [show (nI (3 * i)).toNatClampNeg = (3 * i) from nI_clamp (by omega)]
  refine lv_isub hx hb dW_law_1255 ?_
  refine lv_iload hx hb dW_law_1256 (lv_at hl 1 rfl) ?_
  refine lv_isub hx hb dW_law_1258 ?_
  refine lv_istore (lv' := [(21, .int (((((sA 5 (10 * i + 5)) - (((sA 5 (10 * i + 5)) * (sA 9 ((sA 5 (10 * i)).toNatClampNeg))) / 100)) - (fW_share sL sA i)) - (sA 6 (3 * i))) - (fW_interest sL sA i))), (20, .int (sA 5 (10 * i + 5))), (19, .int (fW_interest sL sA i)), (18, .int (nI a)), (17, .int (nI q)), (16, .int 4), (15, .int (nI (10 * i))), (14, .int (nI i)), (13, .int (nI Y)), (12, .int (nI kd)), (11, .int (nI X)), (10, .int (nI t)), (9, .int 1), (8, .ref (ad 10)), (7, .ref (ad 9)), (6, .ref (ad 8)), (5, .ref (ad 7)), (4, .ref (ad 6)), (3, .ref (ad 5)), (2, .ref (ad 4)), (1, .ref (ad 0)), (0, .ref b)]) hx hb dW_law_1259 hl (by decide) rfl (fun ls hl => ?_)
  refine lv_aload_n hx hb dW_law_1261 rfl (lv_at hl 20 rfl) ?_
  refine lv_bipush (v := 8) hx hb dW_law_1262 (by decide) ?_
  refine lv_iload hx hb dW_law_1264 (lv_at hl 7 rfl) ?_
  refine lv_iconst (v := 0) hx hb dW_law_1266 (by decide) ?_
  refine lv_iconst (v := 0) hx hb dW_law_1267 (by decide) ?_
  refine rcSWn (rest := []) (As := [.ref (ad 0), .int 8, .int (nI i), .int 0, .int 0]) hx hb hml hown hts hC hG hS (cD_settle l hl9 D tI tJ tL (A0 s) sg ad n sL sA (nI i)) (gW q_176 q_177 q_0 q_178) rfl rfl hdyW_does ⟨Nat.le_of_ble_eq_true rfl, Nat.le_of_ble_eq_true rfl⟩ hl.1 rfl (Nat.le_of_ble_eq_true rfl) dW_law_1268 ⟨by show _ ≤ 796740; omega, by show _ ≤ 6711247; omega⟩ (X_settle hI hi hst (by decide)) (fun H locs hG hS => ?_)
  refine lv_iload hx hb dW_law_1271 (lv_at hl 5 rfl) ?_
  refine lv_iconst (v := 3) hx hb dW_law_1273 (by decide) ?_
  refine lv_icmp_eq (tgt := 1282) hx hb dW_law_1274 (by decide) (fun c_1 => ?_) (fun c_1 => ?_)
  · exact absurd c_1 (by decide)
  · refine lv_ldc (v := (-2000000013)) hx hb hown (hts _ q_409) dW_law_1277 ?_
    refine lv_goto (tgt := 1284) hx hb dW_law_1279 (by decide) ?_
    refine lv_icmp_ne (tgt := 1291) hx hb dW_law_1284 (by decide) (fun c_2 => ?_) (fun c_2 => ?_)
    · exact absurd c_2 (by decide)
    · refine lv_iconst (v := 1) hx hb dW_law_1287 (by decide) ?_
      refine lv_goto (tgt := 1292) hx hb dW_law_1288 (by decide) ?_
      refine lv_istore (lv' := [(9, .int 1), (21, .int (((((sA 5 (10 * i + 5)) - (((sA 5 (10 * i + 5)) * (sA 9 ((sA 5 (10 * i)).toNatClampNeg))) / 100)) - (fW_share sL sA i)) - (sA 6 (3 * i))) - (fW_interest sL sA i))), (20, .int (sA 5 (10 * i + 5))), (19, .int (fW_interest sL sA i)), (18, .int (nI a)), (17, .int (nI q)), (16, .int 4), (15, .int (nI (10 * i))), (14, .int (nI i)), (13, .int (nI Y)), (12, .int (nI kd)), (11, .int (nI X)), (10, .int (nI t)), (8, .ref (ad 10)), (7, .ref (ad 9)), (6, .ref (ad 8)), (5, .ref (ad 7)), (4, .ref (ad 6)), (3, .ref (ad 5)), (2, .ref (ad 4)), (1, .ref (ad 0)), (0, .ref b)]) hx hb dW_law_1292 hl (by decide) rfl (fun ls hl => ?_)
      refine lv_iload hx hb dW_law_1294 (lv_at hl 6 rfl) ?_
      refine lv_iconst (v := 3) hx hb dW_law_1296 (by decide) ?_
      refine lv_icmp_ne (tgt := 1327) hx hb dW_law_1297 (by decide) (fun c_3 => ?_) (fun c_3 => ?_)
      · refine lv_goto (tgt := 1500) hx hb dW_law_1327 (by decide) ?_
        refine W.widen (k := cells + 60) (n := slots + 300) (by omega) (by omega) ?_
        exact cont ad _ _ _ H locs ls (by omega) (hI.mono (by omega)) hG hS (lv_sub hl [9, 12, 0, 13, 14, 15, 16, 17, 18, 19, 20, 21] rfl)
      · exact absurd c_3 (by decide)
