theorem dW_law_23 : decode code 23 = .ok (.iload 4, 2) := by decide +kernel
theorem dW_law_25 : decode code 25 = .ok (.aload_n 0, 1) := by decide +kernel
theorem dW_law_26 : decode code 26 = .ok (.arraylength, 1) := by decide +kernel
theorem dW_law_27 : decode code 27 = .ok (.iconst 4, 1) := by decide +kernel
theorem dW_law_28 : decode code 28 = .ok (.isub, 1) := by decide +kernel
theorem dW_law_29 : decode code 29 = .ok (.if_icmp .gt 1480, 3) := by decide +kernel
theorem dW_law_32 : decode code 32 = .ok (.aload_n 0, 1) := by decide +kernel
theorem dW_law_33 : decode code 33 = .ok (.iload 4, 2) := by decide +kernel
theorem dW_law_35 : decode code 35 = .ok (.iaload, 1) := by decide +kernel
theorem dW_law_36 : decode code 36 = .ok (.bipush 31, 2) := by decide +kernel
theorem dW_law_38 : decode code 38 = .ok (.iand, 1) := by decide +kernel
theorem dW_law_39 : decode code 39 = .ok (.tableswitch 1464 0 26 #[121, 201, 281, 337, 405, 418, 474, 530, 586, 642, 710, 766, 834, 890, 946, 1002, 1058, 1114, 1170, 1226, 1282, 1338, 1394, 1408, 1422, 1436, 1450], 121) := by decide +kernel
theorem dW_law_1503 : decode code 1503 = .ok (.iinc 4 4, 3) := by decide +kernel
theorem dW_law_1506 : decode code 1506 = .ok (.goto (-1483), 3) := by decide +kernel
theorem dW_law_1509 : decode code 1509 = .ok (.iconst 1, 1) := by decide +kernel
theorem dW_law_1510 : decode code 1510 = .ok (.ireturn, 1) := by decide +kernel
theorem INV.mono {n K K2 : Nat} {sL : NL} {sA : NA} (h : INV n K sL sA) (hk : K ≤ K2) : INV n K2 sL sA := by
  obtain ⟨h1, h2, h3, h4, h5, lm, h6, h7⟩ := h
  exact ⟨h1, h2, h3, h4, h5, lm, Nat.le_trans h6 hk, h7⟩
theorem law_in {L i : Nat} (hL : L ≤ 2048) (hi : i ≤ 2048) (h : ¬ nI L - 4 < nI i) : i + 4 ≤ L := by
  rw [show (4 : Int32) = nI 4 from rfl, Int32.lt_iff_toInt_lt, pk_sub_toInt (by omega) (by omega), nI_toInt (by omega)] at h
  omega
set_option maxHeartbeats 4000000 in
set_option maxRecDepth 100000 in
theorem law_loop {p : Program} {l : Launch} {e : Env} {s : State} {m : MethodId} {below : List Frame} {meth : Method} {c : Code} {b L : Nat} {xs : Nat → Int32} (hl9 : l.stackTraces = false) (hL : L ≤ 2048) (hx : p.tables.exec = Jvm.exec) (hb : c.code = code) (hr : meth.sig.returnType = ret) (hml : c.maxLocals = 7) (hlocks : meth.locks = false) (hown : s.vm.findClass "DroitLineLaw" = some m.cls) (hts : ∀ w ∈ wNeed, w.before #[Value.ref b] s = true) (hX : va_X b L xs s s.heap) (hbl : b < s.heap.size)
    {D : va_G} {tI tJ tL : ClassId} {sg : Nat → Nat} (hC : GC D tI tJ tL (A0 s) sg s) :
    ∀ (f q : Nat), q + f = 514 → 4 * q ≤ L → ∀ (ad : Nat → Nat) (n : Nat) (sL : NL) (sA : NA) (H : Heap) (locs : List Loc) (ls : Array Slot), INV n q sL sA → GW D tI tJ tL (A0 s) ad n sL sA H → va_S (A0 s) s.heap H locs → lv_has ls 7 [(4, .int (nI (4 * q))), (3, .ref (ad 4)), (2, .ref (ad 5)), (1, .ref (ad 0)), (0, .ref b)] →
      W p l e room_1 s m #[Value.ref b] below meth c H locs (100 + 30 * q) (2000 + 200 * q) (lw_Z below #[Value.ref b] s) (F0 m 23 ls []) := by
  have hbA : ¬ (A0 s) b := Nat.not_le.mpr hbl
  intro f
  induction f with
  | zero => intro q h1 h2; exact absurd h1 (by omega)
  | succ f ih =>
    intro q hf hq ad n sL sA H locs ls hI hG hS hl
    refine lv_iload hx hb dW_law_23 (lv_at hl 0 rfl) ?_
    refine lv_aload_n hx hb dW_law_25 rfl (lv_at hl 4 rfl) ?_
    refine va_slen hx hb hX hbl hbA hS dW_law_26 ?_
    refine lv_iconst (v := 4) hx hb dW_law_27 (by decide) ?_
    refine lv_isub hx hb dW_law_28 ?_
    refine lv_icmp_gt (tgt := 1509) hx hb dW_law_29 (by decide) (fun c1 => ?_) (fun c1 => ?_)
    · refine lv_iconst (v := 1) hx hb dW_law_1509 (by decide) ?_
      refine va_forget (fun q hq => hS.2.2 q hq) ?_
      refine W.widen (k := 601024) (n := 7293034) (by omega) (by omega) ?_
      exact lw_ret hx hb hr hlocks dW_law_1510
    · have hi : 4 * q + 4 ≤ L := law_in hL (by omega) c1
      refine lv_aload_n hx hb dW_law_32 rfl (lv_at hl 4 rfl) ?_
      refine lv_iload hx hb dW_law_33 (lv_at hl 0 rfl) ?_
      refine va_sld hx hb hX hbl hbA hS (vp_in_nI (by omega) (by omega)) dW_law_35 ?_
      refine lv_bipush (v := 31) hx hb dW_law_36 (by decide) ?_
      refine lv_iand hx hb dW_law_38 ?_
      obtain ⟨j, hj, ej⟩ := pk_andE (xs (nI (4 * q)).toNatClampNeg) (m := 31) 5 (by decide)
      rw [ej]
      have cont : CONT p l e s m b below meth c D tI tJ tL (4 * q) q (100 + 30 * q) (2000 + 200 * q) := by
        intro ad2 n2 sL2 sA2 H2 locs2 ls hI2 hG2 hS2 hl2
        refine lv_iinc (v := nI (4 * (q + 1))) (lv' := [(4, .int (nI (4 * (q + 1)))), (3, .ref (ad2 4)), (2, .ref (ad2 5)), (1, .ref (ad2 0)), (0, .ref b)]) hx hb dW_law_1503 hl2 (k := 0) rfl (by show nI (4 * q) + nI 4 = _; rw [nI_add]; rfl) (by decide) rfl (fun ls hl => ?_)
        refine lv_goto (tgt := 23) hx hb dW_law_1506 (by decide) ?_
        refine W.widen (k := 100 + 30 * (q + 1)) (n := 2000 + 200 * (q + 1)) (by omega) (by omega) ?_
        exact ih (q + 1) (by omega) (by omega) ad2 n2 sL2 sA2 H2 locs2 ls hI2 hG2 hS2 hl
      have hj2 : j = 0 ∨ j = 1 ∨ j = 2 ∨ j = 3 ∨ j = 4 ∨ j = 5 ∨ j = 6 ∨ j = 7 ∨ j = 8 ∨ j = 9 ∨ j = 10 ∨ j = 11 ∨ j = 12 ∨ j = 13 ∨ j = 14 ∨ j = 15 ∨ j = 16 ∨ j = 17 ∨ j = 18 ∨ j = 19 ∨ j = 20 ∨ j = 21 ∨ j = 22 ∨ j = 23 ∨ j = 24 ∨ j = 25 ∨ j = 26 ∨ j = 27 ∨ j = 28 ∨ j = 29 ∨ j = 30 ∨ j = 31 := by omega
      rcases hj2 with rfl | rfl | rfl | rfl | rfl | rfl | rfl | rfl | rfl | rfl | rfl | rfl | rfl | rfl | rfl | rfl | rfl | rfl | rfl | rfl | rfl | rfl | rfl | rfl | rfl | rfl | rfl | rfl | rfl | rfl | rfl | rfl
      · exact lv_tableIn (tgt := 160) hx hb dW_law_39 (by decide) (by decide) (off := 121) (by decide) (by decide) (lc_lot hl9 hL hx hb hml hown hts hX hbl hC hi (by omega) (by omega) (by omega) hI hG hS hl cont)
      · exact lv_tableIn (tgt := 240) hx hb dW_law_39 (by decide) (by decide) (off := 201) (by decide) (by decide) (lc_bid hl9 hL hx hb hml hown hts hX hbl hC hi (by omega) (by omega) (by omega) hI hG hS hl cont)
      · exact lv_tableIn (tgt := 320) hx hb dW_law_39 (by decide) (by decide) (off := 281) (by decide) (by decide) (lc_hammer hl9 hL hx hb hml hown hts hX hbl hC hi (by omega) (by omega) (by omega) hI hG hS hl cont)
      · exact lv_tableIn (tgt := 376) hx hb dW_law_39 (by decide) (by decide) (off := 337) (by decide) (by decide) (lc_again hl9 hL hx hb hml hown hts hX hbl hC hi (by omega) (by omega) (by omega) hI hG hS hl cont)
      · exact lv_tableIn (tgt := 444) hx hb dW_law_39 (by decide) (by decide) (off := 405) (by decide) (by decide) (lc_lots hl9 hL hx hb hml hown hts hX hbl hC hi (by omega) (by omega) (by omega) hI hG hS hl cont)
      · exact lv_tableIn (tgt := 457) hx hb dW_law_39 (by decide) (by decide) (off := 418) (by decide) (by decide) (lc_callOf hl9 hL hx hb hml hown hts hX hbl hC hi (by omega) (by omega) (by omega) hI hG hS hl cont)
      · exact lv_tableIn (tgt := 513) hx hb dW_law_39 (by decide) (by decide) (off := 474) (by decide) (by decide) (lc_pay hl9 hL hx hb hml hown hts hX hbl hC hi (by omega) (by omega) (by omega) hI hG hS hl cont)
      · exact lv_tableIn (tgt := 569) hx hb dW_law_39 (by decide) (by decide) (off := 530) (by decide) (by decide) (lc_defaults hl9 hL hx hb hml hown hts hX hbl hC hi (by omega) (by omega) (by omega) hI hG hS hl cont)
      · exact lv_tableIn (tgt := 625) hx hb dW_law_39 (by decide) (by decide) (off := 586) (by decide) (by decide) (lc_payGaps hl9 hL hx hb hml hown hts hX hbl hC hi (by omega) (by omega) (by omega) hI hG hS hl cont)
      · exact lv_tableIn (tgt := 681) hx hb dW_law_39 (by decide) (by decide) (off := 642) (by decide) (by decide) (lc_advance hl9 hL hx hb hml hown hts hX hbl hC hi (by omega) (by omega) (by omega) hI hG hS hl cont)
      · exact lv_tableIn (tgt := 749) hx hb dW_law_39 (by decide) (by decide) (off := 710) (by decide) (by decide) (lc_settle hl9 hL hx hb hml hown hts hX hbl hC hi (by omega) (by omega) (by omega) hI hG hS hl cont)
      · exact lv_tableIn (tgt := 805) hx hb dW_law_39 (by decide) (by decide) (off := 766) (by decide) (by decide) (lc_commission hl9 hL hx hb hml hown hts hX hbl hC hi (by omega) (by omega) (by omega) hI hG hS hl cont)
      · exact lv_tableIn (tgt := 873) hx hb dW_law_39 (by decide) (by decide) (off := 834) (by decide) (by decide) (lc_rate hl9 hL hx hb hml hown hts hX hbl hC hi (by omega) (by omega) (by omega) hI hG hS hl cont)
      · exact lv_tableIn (tgt := 929) hx hb dW_law_39 (by decide) (by decide) (off := 890) (by decide) (by decide) (lc_days hl9 hL hx hb hml hown hts hX hbl hC hi (by omega) (by omega) (by omega) hI hG hS hl cont)
      · exact lv_tableIn (tgt := 985) hx hb dW_law_39 (by decide) (by decide) (off := 946) (by decide) (by decide) (lc_state hl9 hL hx hb hml hown hts hX hbl hC hi (by omega) (by omega) (by omega) hI hG hS hl cont)
      · exact lv_tableIn (tgt := 1041) hx hb dW_law_39 (by decide) (by decide) (off := 1002) (by decide) (by decide) (lc_buyerOf hl9 hL hx hb hml hown hts hX hbl hC hi (by omega) (by omega) (by omega) hI hG hS hl cont)
      · exact lv_tableIn (tgt := 1097) hx hb dW_law_39 (by decide) (by decide) (off := 1058) (by decide) (by decide) (lc_price hl9 hL hx hb hml hown hts hX hbl hC hi (by omega) (by omega) (by omega) hI hG hS hl cont)
      · exact lv_tableIn (tgt := 1153) hx hb dW_law_39 (by decide) (by decide) (off := 1114) (by decide) (by decide) (lc_bids hl9 hL hx hb hml hown hts hX hbl hC hi (by omega) (by omega) (by omega) hI hG hS hl cont)
      · exact lv_tableIn (tgt := 1209) hx hb dW_law_39 (by decide) (by decide) (off := 1170) (by decide) (by decide) (lc_fee hl9 hL hx hb hml hown hts hX hbl hC hi (by omega) (by omega) (by omega) hI hG hS hl cont)
      · exact lv_tableIn (tgt := 1265) hx hb dW_law_39 (by decide) (by decide) (off := 1226) (by decide) (by decide) (lc_share hl9 hL hx hb hml hown hts hX hbl hC hi (by omega) (by omega) (by omega) hI hG hS hl cont)
      · exact lv_tableIn (tgt := 1321) hx hb dW_law_39 (by decide) (by decide) (off := 1282) (by decide) (by decide) (lc_interest hl9 hL hx hb hml hown hts hX hbl hC hi (by omega) (by omega) (by omega) hI hG hS hl cont)
      · exact lv_tableIn (tgt := 1377) hx hb dW_law_39 (by decide) (by decide) (off := 1338) (by decide) (by decide) (lc_owes hl9 hL hx hb hml hown hts hX hbl hC hi (by omega) (by omega) (by omega) hI hG hS hl cont)
      · exact lv_tableIn (tgt := 1433) hx hb dW_law_39 (by decide) (by decide) (off := 1394) (by decide) (by decide) (lc_in hl9 hL hx hb hml hown hts hX hbl hC hi (by omega) (by omega) (by omega) hI hG hS hl cont)
      · exact lv_tableIn (tgt := 1447) hx hb dW_law_39 (by decide) (by decide) (off := 1408) (by decide) (by decide) (lc_out hl9 hL hx hb hml hown hts hX hbl hC hi (by omega) (by omega) (by omega) hI hG hS hl cont)
      · exact lv_tableIn (tgt := 1461) hx hb dW_law_39 (by decide) (by decide) (off := 1422) (by decide) (by decide) (lc_kept hl9 hL hx hb hml hown hts hX hbl hC hi (by omega) (by omega) (by omega) hI hG hS hl cont)
      · exact lv_tableIn (tgt := 1475) hx hb dW_law_39 (by decide) (by decide) (off := 1436) (by decide) (by decide) (lc_held hl9 hL hx hb hml hown hts hX hbl hC hi (by omega) (by omega) (by omega) hI hG hS hl cont)
      · exact lv_tableIn (tgt := 1489) hx hb dW_law_39 (by decide) (by decide) (off := 1450) (by decide) (by decide) (lc_heldByLots hl9 hL hx hb hml hown hts hX hbl hC hi (by omega) (by omega) (by omega) hI hG hS hl cont)
      · exact lv_tableOut (tgt := 1503) hx hb dW_law_39 (Or.inr (by decide)) (by decide) (W.widen (k := 100 + 30 * q + 30) (n := 2000 + 200 * q + 200) (by omega) (by omega) (cont ad n sL sA H locs ls (hI.mono (by omega)) hG hS hl))
      · exact lv_tableOut (tgt := 1503) hx hb dW_law_39 (Or.inr (by decide)) (by decide) (W.widen (k := 100 + 30 * q + 30) (n := 2000 + 200 * q + 200) (by omega) (by omega) (cont ad n sL sA H locs ls (hI.mono (by omega)) hG hS hl))
      · exact lv_tableOut (tgt := 1503) hx hb dW_law_39 (Or.inr (by decide)) (by decide) (W.widen (k := 100 + 30 * q + 30) (n := 2000 + 200 * q + 200) (by omega) (by omega) (cont ad n sL sA H locs ls (hI.mono (by omega)) hG hS hl))
      · exact lv_tableOut (tgt := 1503) hx hb dW_law_39 (Or.inr (by decide)) (by decide) (W.widen (k := 100 + 30 * q + 30) (n := 2000 + 200 * q + 200) (by omega) (by omega) (cont ad n sL sA H locs ls (hI.mono (by omega)) hG hS hl))
      · exact lv_tableOut (tgt := 1503) hx hb dW_law_39 (Or.inr (by decide)) (by decide) (W.widen (k := 100 + 30 * q + 30) (n := 2000 + 200 * q + 200) (by omega) (by omega) (cont ad n sL sA H locs ls (hI.mono (by omega)) hG hS hl))
