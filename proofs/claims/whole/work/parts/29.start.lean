theorem dW_law_0 : decode code 0 = .ok (.new 8, 3) := by decide +kernel
theorem dW_law_3 : decode code 3 = .ok (.dup, 1) := by decide +kernel
theorem dW_law_4 : decode code 4 = .ok (.invokespecial 81, 3) := by decide +kernel
theorem dW_law_7 : decode code 7 = .ok (.astore_n 1, 1) := by decide +kernel
theorem dW_law_8 : decode code 8 = .ok (.new 82, 3) := by decide +kernel
theorem dW_law_11 : decode code 11 = .ok (.dup, 1) := by decide +kernel
theorem dW_law_12 : decode code 12 = .ok (.invokespecial 84, 3) := by decide +kernel
theorem dW_law_15 : decode code 15 = .ok (.astore_n 2, 1) := by decide +kernel
theorem dW_law_16 : decode code 16 = .ok (.iconst 1, 1) := by decide +kernel
theorem dW_law_17 : decode code 17 = .ok (.newarray .long, 2) := by decide +kernel
theorem dW_law_19 : decode code 19 = .ok (.astore_n 3, 1) := by decide +kernel
theorem dW_law_20 : decode code 20 = .ok (.iconst 0, 1) := by decide +kernel
theorem dW_law_21 : decode code 21 = .ok (.istore 4, 2) := by decide +kernel
def com0 : Nat → Int32 := upd (upd (upd (upd (upd (upd (fun _ => 0) 0 10) 1 10) 2 10) 3 10) 4 10) 5 10
def sL0 : NL := fun _ _ => 0
def sA0 : NA := fun x => if x = 0 then (fun k => if k = 5 then 20 else 0) else if x = 2 then com0 else if x = 5 then (fun k => if k = 18 then 20 else 0) else if x = 21 then com0 else fun _ => 0
theorem INV0 : INV 0 0 sL0 sA0 := by
  refine ⟨⟨by omega, rfl, rfl⟩, ⟨rfl, rfl⟩, ⟨rfl, rfl, rfl⟩, fun k _ => rfl, fun k _ => rfl, 0, Nat.le_refl _, rfl, fun i hi => absurd hi (Nat.not_lt_zero i), fun i _ x h3 h4 => by simp only [sA0]; rw [if_neg (by omega), if_neg (by omega), if_neg (by omega), if_neg (by omega)]⟩
theorem tb_stat : Cond.laysStatic Bundle.tN "UNASSIGNED_STACK" Bundle.steD ∈ lw_tbl ∧ Cond.laysStatic Bundle.tN "SUPPRESSED_SENTINEL" Bundle.listD ∈ lw_tbl ∧ Cond.initialized Bundle.tN ∈ lw_tbl ∧ (∀ q ∈ strs, Cond.stringRef "DroitLine" q.1 q.2 ∈ lw_tbl) ∧ Cond.arrayOver (.object "DroitLine$Lot") ∈ lw_tbl := by decide +kernel
theorem fl_all : (Cond.isRef (.static Bundle.tN "UNASSIGNED_STACK" Bundle.steD) ∈ flatC (Jvm.Cond.and given_1 narrow_1) ∧ Cond.isRef (.static Bundle.tN "SUPPRESSED_SENTINEL" Bundle.listD) ∈ flatC (Jvm.Cond.and given_1 narrow_1)) ∧ (∀ q ∈ strs, Cond.exactly (.string "DroitLine" q.1) "java/lang/String" ∈ flatC (Jvm.Cond.and given_1 narrow_1)) ∧ ∀ q ∈ ncs, Cond.not (.castable q.1 q.2) ∈ flatC (Jvm.Cond.and given_1 narrow_1) := by decide +kernel
theorem bad_tab {w : Cond} (h : badKind w = true) : w.onTables = true := by
  cases w <;> first | rfl | (simp [badKind] at h; done)
theorem start_GC {s : State} {b : Nat} (hts : ∀ w ∈ lw_tbl, w.before #[Value.ref b] s = true) (hgv : (Jvm.Cond.and given_1 narrow_1).before #[Value.ref b] s = true) : ∃ (D : va_G) (tI tJ tL : ClassId) (sg : Nat → Nat), GC D tI tJ tL (A0 s) sg s := by
  have hn : ∀ w ∈ wNeed, w.before #[Value.ref b] s = true := fun w hw => hts w (wNeed_sub w hw)
  have hfl := flat_of_before _ hgv
  obtain ⟨c0, iS0, hKn0⟩ := u_known (C := "DroitLine") (T := F_X) (N := 9) (n := 9) hn i_X (hn _ q_13)
  obtain ⟨c1, iS1, hKn1⟩ := u_known (C := "DroitLine$Lot") (T := F_L) (N := 13) (n := 13) hn i_L (hn _ q_199)
  obtain ⟨c2, iS2, hKn2⟩ := u_known (C := "DroitLine$Offers") (T := F_O) (N := 3) (n := 3) hn i_O (hn _ q_211)
  obtain ⟨c3, iS3, hKn3⟩ := u_known (C := "DroitLineModel") (T := F_M) (N := 24) (n := 24) hn i_M (hn _ q_505)
  obtain ⟨dC, dI, hKc⟩ : ∃ (dC : Nat → ClassId) (dI : Nat → Nat → Nat), ∀ (k : Nat) (q : vw_C), classes[k]? = some q → u_Kn s q.1 q.2.1 q.2.2 (dC k) (dI k) := by
    refine ⟨fun k => if k = 0 then c0 else if k = 1 then c1 else if k = 2 then c2 else c3, fun k => if k = 0 then iS0 else if k = 1 then iS1 else if k = 2 then iS2 else iS3, ?_⟩
    intro k q hq
    match k, hq with
    | 0, hq => cases hq; exact hKn0
    | 1, hq => cases hq; exact hKn1
    | 2, hq => cases hq; exact hKn2
    | 3, hq => cases hq; exact hKn3
    | k + 4, hq => simp [classes] at hq
  obtain ⟨tI, kI, cI, f1, f2, f3⟩ := Cond.arrayClass_spec (type := .int) (args := #[Value.ref b]) (first := s) (o := none) (s := s) (idx := []) (hn _ q_50)
  obtain ⟨tJ, kJ, cJ, g1, g2, g3⟩ := Cond.arrayClass_spec (type := .long) (args := #[Value.ref b]) (first := s) (o := none) (s := s) (idx := []) (hn _ q_748)
  obtain ⟨comp, tL, kL, e1, e2, e3, e4, e5⟩ := Cond.arrayOver_spec (args := #[Value.ref b]) (first := s) (o := none) (s := s) (idx := []) (hts _ tb_stat.2.2.2.2)
  have hsg : ∀ k : Nat, ∃ a : Nat, (∃ q ∈ strs, q.1 = k) → (Term.string "DroitLine" k).eval #[Value.ref b] s none [] s = some (.ref a) := by
    intro k
    by_cases hk : ∃ q ∈ strs, q.1 = k
    · obtain ⟨q, hq, rfl⟩ := hk
      obtain ⟨a, -, -, -, h1, -⟩ := Cond.exactly_spec (args := #[Value.ref b]) (first := s) (o := none) (s := s) (idx := []) (hfl _ (fl_all.2.1 q hq))
      exact ⟨a, fun _ => h1⟩
    · exact ⟨0, fun h => absurd h hk⟩
  obtain ⟨sg, hsg⟩ := Classical.axiomOfChoice hsg
  refine ⟨(dC, dI), tI, tJ, tL, sg, fun _ h => h, ⟨hKc, fun k q hq => ?_⟩, ?_, ?_, fun q hq => ?_, fun w hw => ?_, fun q hq => ?_⟩
  · match k, hq with
    | 0, hq => cases hq; exact ⟨fun n z => ⟨fun k h => (by cases h), kI, f2, cI, f3⟩, f1⟩
    | 1, hq => cases hq; exact ⟨fun n z => ⟨fun k h => (by cases h), kJ, g2, cJ, g3⟩, g1⟩
    | 2, hq => cases hq; exact ⟨fun n z => ⟨fun k h => (by cases h), kL, e3, comp, e4⟩, kL, comp, e3, e4, e1, e5⟩
    | k + 3, hq => simp at hq
  · exact vx_Zqof (hts _ tb_stat.1) (hts _ tb_stat.2.2.1) (hfl _ fl_all.1.1) (fun a ha h => absurd ha (Nat.not_lt.mpr h))
  · exact vx_Zqof (hts _ tb_stat.2.1) (hts _ tb_stat.2.2.1) (hfl _ fl_all.1.2) (fun a ha h => absurd ha (Nat.not_lt.mpr h))
  · exact vk_R.of (hts _ (tb_stat.2.2.2.1 q hq)) (hsg q.1 ⟨q, hq, rfl⟩)
  · exact va_Nw.of (bad_tab (List.mem_filter.mp hw).2) (hts w (List.mem_filter.mp hw).1)
  · exact va_Nc.of (hfl _ (fl_all.2.2 q hq))
set_option maxHeartbeats 4000000 in
set_option maxRecDepth 100000 in
/-- from the entry, for every script of at most 2048 ints, the law comes to its end with true -/
theorem whole_start {p : Program} {e : Env} {s : State} {m : MethodId} {below : List Frame} {meth : Method} {c : Code} (l : Launch) (hflags : l.flags = flags0) {b L : Nat} {xs : Nat → Int32} (hL : L ≤ 2048) (C0 : lw_At p s m meth c b L xs) : W p l e room_1 s m #[Value.ref b] below meth c s.heap [] 0 0 (lw_Z below #[Value.ref b] s) (entryFrame m ([Value.ref b] : List Value).toArray 7) := by
  obtain ⟨hx, hb, hr, hml, hown, htl, hX, hbl, hlocks, hgv⟩ := C0
  have hl9 : l.stackTraces = false := by unfold Launch.stackTraces; rw [hflags]; decide +kernel
  have hts : ∀ w ∈ wNeed, w.before #[Value.ref b] s = true := fun w hw => htl w (wNeed_sub w hw)
  obtain ⟨D, tI, tJ, tL, sg, hC⟩ := start_GC htl hgv
  have hAO : va_AO "DroitLine$Lot" s := va_AO.of (htl _ tb_stat.2.2.2.2)
  have hA : ∀ q : Nat, s.heap.size ≤ q → (A0 s) q := fun _ h => h
  have hS : va_S (A0 s) s.heap s.heap [] := va_S.rf
  have hK := hC.2.1
  have hP : va_P D classes [] s.heap := fun k q h => by simp at h
  have hD : va_D (A0 s) [] := ⟨fun i j p q h => by simp at h, fun k q h => by simp at h⟩
  have hl := lv_entry ([.ref b]) (n := 7) (Nat.le_of_ble_eq_true rfl)
  rw [lg_entry_eq]
  generalize (lg_sl ([.ref b]) ++ List.replicate (7 - (lg_sl ([.ref b])).length) Slot.unset).toArray = ls at hl ⊢
  replace hl : lv_has ls 7 [(0, .ref b)] := hl
  refine va_new (ci := 0) (fs := [.null, .null, .null, .int 0, .int 0, .int 0, .long 0, .long 0, .long 0]) (C := "DroitLine") (T := F_X) (N := 9) hx hb hts i_X t_X t_X_ok hown (hts _ q_12) (hts _ q_13) (hts _ q_1) hK hP hD hS hA rfl (fun j hj => by rcases (show j = 0 ∨ j = 1 ∨ j = 2 ∨ j = 3 ∨ j = 4 ∨ j = 5 ∨ j = 6 ∨ j = 7 ∨ j = 8 by omega) with rfl | rfl | rfl | rfl | rfl | rfl | rfl | rfl | rfl <;> rfl) (Nat.le_of_ble_eq_true rfl) (Nat.le_of_ble_eq_true rfl) dW_law_0 (fun x0 H hP hD hS => ?_)
  refine lv_dup hx hb dW_law_3 rfl ?_
  have hP : va_P D classes (([] : va_W) ++ [(x0, .inr (0, [.null, .null, .null, .int 0, .int 0, .int 0, .long 0, .long 0, .long 0]))]) H := hP
  have hD : va_D (A0 s) (([] : va_W) ++ [(x0, .inr (0, [.null, .null, .null, .int 0, .int 0, .int 0, .long 0, .long 0, .long 0]))]) := hD
  have hPc := (lastP hP).2
  have hDl := lastD hD
  have hA1 : ∀ q, H.size ≤ q → (A0 s) q := fun q h => Nat.le_trans hS.1 h
  have hFc := ctor_free (e := .inr (0, [.null, .null, .null, .int 0, .int 0, .int 0, .long 0, .long 0, .long 0])) hDl.2.1 hA1
  refine va_callv (va_runI (As := []) (rest := [.ref x0]) ⟨hx, hb, hml, hown, hts⟩ (cX_init l D tI tJ tL x0 H.size) (cwI 0 hts (gI q_16) rfl rfl rfl (hts _ q_1) (hts _ q_14) (hts _ q_15) rfl hdyX_init ⟨Nat.le_of_ble_eq_true rfl, Nat.le_of_ble_eq_true rfl⟩) ⟨CP.blind, fun U hU hW => ⟨rfl, by rw [hU], by rw [hU]; exact hPc, va_K.moved hW.alike hK, hDl.2.2.2, fun w hw => bad_warm (List.mem_filter.mp hw).2 hW (hC.2.2.2.2.2.1 w hw), fun _ => va_AO.moved hW.alike hAO⟩⟩ rfl rfl hl.1 rfl (lv_room (Nat.le_of_ble_eq_true rfl)) dW_law_4 ⟨Nat.le_of_ble_eq_true rfl, Nat.le_of_ble_eq_true rfl⟩) hS (fun q _ h => hFc q h) hFc (fun u t H1 locs ht hvm hw hB hz1 hk1 hS => ?_)
  obtain ⟨x1, x2, x3, hP1, hD1⟩ := hB
  rw [ht] at hP1
  obtain ⟨hP, hD⟩ := ctor_join hP hD hA1 hk1 hP1 hD1
  generalize H1 = H at hP hS ⊢
  have hP : va_P D classes [(x0, .inr (0, [.ref x1, .ref x2, .ref x3, .int 0, .int 0, .int 20, .long 0, .long 0, .long 0])), (x1, .inl (tL, 30, .inr (.inr (.inr (.inr (fun _ => none)))))), (x2, .inl (tI, 6, .inl (upd (upd (upd (upd (upd (upd (fun _ => 0) 0 10) 1 10) 2 10) 3 10) 4 10) 5 10))), (x3, .inl (tI, 10, .inl (fun _ => 0)))] H := hP
  have hD : va_D (A0 s) [(x0, .inr (0, [.ref x1, .ref x2, .ref x3, .int 0, .int 0, .int 20, .long 0, .long 0, .long 0])), (x1, .inl (tL, 30, .inr (.inr (.inr (.inr (fun _ => none)))))), (x2, .inl (tI, 6, .inl (upd (upd (upd (upd (upd (upd (fun _ => 0) 0 10) 1 10) 2 10) 3 10) 4 10) 5 10))), (x3, .inl (tI, 10, .inl (fun _ => 0)))] := hD
  refine lv_astore_n (lv' := [(1, .ref x0), (0, .ref b)]) hx hb dW_law_7 rfl hl (by decide) rfl (fun ls hl => ?_)
  refine va_new (ci := 3) (fs := [.int 0, .null, .null, .null, .null, .null, .null, .null, .null, .null, .int 0, .null, .null, .null, .null, .null, .null, .null, .int 0, .int 0, .long 0, .long 0, .long 0, .int 0]) (C := "DroitLineModel") (T := F_M) (N := 24) hx hb hts i_M t_M t_M_ok hown (hts _ q_504) (hts _ q_505) (hts _ q_2) hK hP hD hS hA rfl (fun j hj => by rcases (show j = 0 ∨ j = 1 ∨ j = 2 ∨ j = 3 ∨ j = 4 ∨ j = 5 ∨ j = 6 ∨ j = 7 ∨ j = 8 ∨ j = 9 ∨ j = 10 ∨ j = 11 ∨ j = 12 ∨ j = 13 ∨ j = 14 ∨ j = 15 ∨ j = 16 ∨ j = 17 ∨ j = 18 ∨ j = 19 ∨ j = 20 ∨ j = 21 ∨ j = 22 ∨ j = 23 by omega) with rfl | rfl | rfl | rfl | rfl | rfl | rfl | rfl | rfl | rfl | rfl | rfl | rfl | rfl | rfl | rfl | rfl | rfl | rfl | rfl | rfl | rfl | rfl | rfl <;> rfl) (Nat.le_of_ble_eq_true rfl) (Nat.le_of_ble_eq_true rfl) dW_law_8 (fun r0 H hP hD hS => ?_)
  refine lv_dup hx hb dW_law_11 rfl ?_
  have hP : va_P D classes (([(x0, .inr (0, [.ref x1, .ref x2, .ref x3, .int 0, .int 0, .int 20, .long 0, .long 0, .long 0])), (x1, .inl (tL, 30, .inr (.inr (.inr (.inr (fun _ => none)))))), (x2, .inl (tI, 6, .inl (upd (upd (upd (upd (upd (upd (fun _ => 0) 0 10) 1 10) 2 10) 3 10) 4 10) 5 10))), (x3, .inl (tI, 10, .inl (fun _ => 0)))] : va_W) ++ [(r0, .inr (3, [.int 0, .null, .null, .null, .null, .null, .null, .null, .null, .null, .int 0, .null, .null, .null, .null, .null, .null, .null, .int 0, .int 0, .long 0, .long 0, .long 0, .int 0]))]) H := hP
  have hD : va_D (A0 s) (([(x0, .inr (0, [.ref x1, .ref x2, .ref x3, .int 0, .int 0, .int 20, .long 0, .long 0, .long 0])), (x1, .inl (tL, 30, .inr (.inr (.inr (.inr (fun _ => none)))))), (x2, .inl (tI, 6, .inl (upd (upd (upd (upd (upd (upd (fun _ => 0) 0 10) 1 10) 2 10) 3 10) 4 10) 5 10))), (x3, .inl (tI, 10, .inl (fun _ => 0)))] : va_W) ++ [(r0, .inr (3, [.int 0, .null, .null, .null, .null, .null, .null, .null, .null, .null, .int 0, .null, .null, .null, .null, .null, .null, .null, .int 0, .int 0, .long 0, .long 0, .long 0, .int 0]))]) := hD
  have hPc := (lastP hP).2
  have hDl := lastD hD
  have hA1 : ∀ q, H.size ≤ q → (A0 s) q := fun q h => Nat.le_trans hS.1 h
  have hFc := ctor_free (e := .inr (3, [.int 0, .null, .null, .null, .null, .null, .null, .null, .null, .null, .int 0, .null, .null, .null, .null, .null, .null, .null, .int 0, .int 0, .long 0, .long 0, .long 0, .int 0])) hDl.2.1 hA1
  refine va_callv (va_runI (As := []) (rest := [.ref r0]) ⟨hx, hb, hml, hown, hts⟩ (cM_init l D tI tJ tL r0 H.size) (cwI 0 hts (gI q_508) rfl rfl rfl (hts _ q_2) (hts _ q_506) (hts _ q_507) rfl hdyM_init ⟨Nat.le_of_ble_eq_true rfl, Nat.le_of_ble_eq_true rfl⟩) ⟨CP.blind, fun U hU hW => ⟨rfl, by rw [hU], by rw [hU]; exact hPc, va_K.moved hW.alike hK, hDl.2.2.2, fun w hw => bad_warm (List.mem_filter.mp hw).2 hW (hC.2.2.2.2.2.1 w hw), fun hx => absurd hx (by decide)⟩⟩ rfl rfl hl.1 rfl (lv_room (Nat.le_of_ble_eq_true rfl)) dW_law_12 ⟨Nat.le_of_ble_eq_true rfl, Nat.le_of_ble_eq_true rfl⟩) hS (fun q _ h => hFc q h) hFc (fun u t H1 locs ht hvm hw hB hz1 hk1 hS => ?_)
  obtain ⟨r1, r2, r3, r4, r5, r6, r7, r8, r9, r10, r11, r12, r13, r14, r15, r16, hP1, hD1⟩ := hB
  rw [ht] at hP1
  obtain ⟨hP, hD⟩ := ctor_join hP hD hA1 hk1 hP1 hD1
  generalize H1 = H at hP hS ⊢
  have hP : va_P D classes [(x0, .inr (0, [.ref x1, .ref x2, .ref x3, .int 0, .int 0, .int 20, .long 0, .long 0, .long 0])), (x1, .inl (tL, 30, .inr (.inr (.inr (.inr (fun _ => none)))))), (x2, .inl (tI, 6, .inl (upd (upd (upd (upd (upd (upd (fun _ => 0) 0 10) 1 10) 2 10) 3 10) 4 10) 5 10))), (x3, .inl (tI, 10, .inl (fun _ => 0))), (r0, .inr (3, [.int 0, .ref r1, .ref r2, .ref r3, .ref r4, .ref r5, .ref r6, .ref r7, .ref r8, .ref r9, .int 0, .ref r10, .ref r11, .ref r12, .ref r13, .ref r14, .ref r15, .ref r16, .int 20, .int 0, .long 0, .long 0, .long 0, .int 0])), (r1, .inl (tI, 30, .inl (fun _ => 0))), (r2, .inl (tI, 30, .inl (fun _ => 0))), (r3, .inl (tI, 30, .inl (fun _ => 0))), (r4, .inl (tI, 30, .inl (fun _ => 0))), (r5, .inl (tI, 30, .inl (fun _ => 0))), (r6, .inl (tI, 30, .inl (fun _ => 0))), (r7, .inl (tI, 30, .inl (fun _ => 0))), (r8, .inl (tI, 300, .inl (fun _ => 0))), (r9, .inl (tI, 300, .inl (fun _ => 0))), (r10, .inl (tI, 30, .inl (fun _ => 0))), (r11, .inl (tI, 30, .inl (fun _ => 0))), (r12, .inl (tI, 30, .inl (fun _ => 0))), (r13, .inl (tI, 30, .inl (fun _ => 0))), (r14, .inl (tI, 30, .inl (fun _ => 0))), (r15, .inl (tI, 10, .inl (fun _ => 0))), (r16, .inl (tI, 6, .inl (upd (upd (upd (upd (upd (upd (fun _ => 0) 0 10) 1 10) 2 10) 3 10) 4 10) 5 10)))] H := hP
  have hD : va_D (A0 s) [(x0, .inr (0, [.ref x1, .ref x2, .ref x3, .int 0, .int 0, .int 20, .long 0, .long 0, .long 0])), (x1, .inl (tL, 30, .inr (.inr (.inr (.inr (fun _ => none)))))), (x2, .inl (tI, 6, .inl (upd (upd (upd (upd (upd (upd (fun _ => 0) 0 10) 1 10) 2 10) 3 10) 4 10) 5 10))), (x3, .inl (tI, 10, .inl (fun _ => 0))), (r0, .inr (3, [.int 0, .ref r1, .ref r2, .ref r3, .ref r4, .ref r5, .ref r6, .ref r7, .ref r8, .ref r9, .int 0, .ref r10, .ref r11, .ref r12, .ref r13, .ref r14, .ref r15, .ref r16, .int 20, .int 0, .long 0, .long 0, .long 0, .int 0])), (r1, .inl (tI, 30, .inl (fun _ => 0))), (r2, .inl (tI, 30, .inl (fun _ => 0))), (r3, .inl (tI, 30, .inl (fun _ => 0))), (r4, .inl (tI, 30, .inl (fun _ => 0))), (r5, .inl (tI, 30, .inl (fun _ => 0))), (r6, .inl (tI, 30, .inl (fun _ => 0))), (r7, .inl (tI, 30, .inl (fun _ => 0))), (r8, .inl (tI, 300, .inl (fun _ => 0))), (r9, .inl (tI, 300, .inl (fun _ => 0))), (r10, .inl (tI, 30, .inl (fun _ => 0))), (r11, .inl (tI, 30, .inl (fun _ => 0))), (r12, .inl (tI, 30, .inl (fun _ => 0))), (r13, .inl (tI, 30, .inl (fun _ => 0))), (r14, .inl (tI, 30, .inl (fun _ => 0))), (r15, .inl (tI, 10, .inl (fun _ => 0))), (r16, .inl (tI, 6, .inl (upd (upd (upd (upd (upd (upd (fun _ => 0) 0 10) 1 10) 2 10) 3 10) 4 10) 5 10)))] := hD
  refine lv_astore_n (lv' := [(2, .ref r0), (1, .ref x0), (0, .ref b)]) hx hb dW_law_15 rfl hl (by decide) rfl (fun ls hl => ?_)
  refine lv_iconst (v := 1) hx hb dW_law_16 (by decide) ?_
  refine va_newa (atype := .long) (ty := .long) (N' := 1) (a0 := (1, .inr (.inl fun _ => 0))) hx hb (hts _ q_748) rfl hK hP hD hS hA (fun _ => rfl) (by decide) rfl (by decide) (Nat.le_of_ble_eq_true rfl) (Nat.le_of_ble_eq_true rfl) dW_law_17 (fun o0 cA H hK1 hP hD hS => ?_)
  rw [tyJ hK1] at hP hD
  have hP : va_P D classes [(x0, .inr (0, [.ref x1, .ref x2, .ref x3, .int 0, .int 0, .int 20, .long 0, .long 0, .long 0])), (x1, .inl (tL, 30, .inr (.inr (.inr (.inr (fun _ => none)))))), (x2, .inl (tI, 6, .inl (upd (upd (upd (upd (upd (upd (fun _ => 0) 0 10) 1 10) 2 10) 3 10) 4 10) 5 10))), (x3, .inl (tI, 10, .inl (fun _ => 0))), (r0, .inr (3, [.int 0, .ref r1, .ref r2, .ref r3, .ref r4, .ref r5, .ref r6, .ref r7, .ref r8, .ref r9, .int 0, .ref r10, .ref r11, .ref r12, .ref r13, .ref r14, .ref r15, .ref r16, .int 20, .int 0, .long 0, .long 0, .long 0, .int 0])), (r1, .inl (tI, 30, .inl (fun _ => 0))), (r2, .inl (tI, 30, .inl (fun _ => 0))), (r3, .inl (tI, 30, .inl (fun _ => 0))), (r4, .inl (tI, 30, .inl (fun _ => 0))), (r5, .inl (tI, 30, .inl (fun _ => 0))), (r6, .inl (tI, 30, .inl (fun _ => 0))), (r7, .inl (tI, 30, .inl (fun _ => 0))), (r8, .inl (tI, 300, .inl (fun _ => 0))), (r9, .inl (tI, 300, .inl (fun _ => 0))), (r10, .inl (tI, 30, .inl (fun _ => 0))), (r11, .inl (tI, 30, .inl (fun _ => 0))), (r12, .inl (tI, 30, .inl (fun _ => 0))), (r13, .inl (tI, 30, .inl (fun _ => 0))), (r14, .inl (tI, 30, .inl (fun _ => 0))), (r15, .inl (tI, 10, .inl (fun _ => 0))), (r16, .inl (tI, 6, .inl (upd (upd (upd (upd (upd (upd (fun _ => 0) 0 10) 1 10) 2 10) 3 10) 4 10) 5 10))), (o0, .inl (tJ, 1, .inr (.inl (fun _ => 0))))] H := hP
  have hD : va_D (A0 s) [(x0, .inr (0, [.ref x1, .ref x2, .ref x3, .int 0, .int 0, .int 20, .long 0, .long 0, .long 0])), (x1, .inl (tL, 30, .inr (.inr (.inr (.inr (fun _ => none)))))), (x2, .inl (tI, 6, .inl (upd (upd (upd (upd (upd (upd (fun _ => 0) 0 10) 1 10) 2 10) 3 10) 4 10) 5 10))), (x3, .inl (tI, 10, .inl (fun _ => 0))), (r0, .inr (3, [.int 0, .ref r1, .ref r2, .ref r3, .ref r4, .ref r5, .ref r6, .ref r7, .ref r8, .ref r9, .int 0, .ref r10, .ref r11, .ref r12, .ref r13, .ref r14, .ref r15, .ref r16, .int 20, .int 0, .long 0, .long 0, .long 0, .int 0])), (r1, .inl (tI, 30, .inl (fun _ => 0))), (r2, .inl (tI, 30, .inl (fun _ => 0))), (r3, .inl (tI, 30, .inl (fun _ => 0))), (r4, .inl (tI, 30, .inl (fun _ => 0))), (r5, .inl (tI, 30, .inl (fun _ => 0))), (r6, .inl (tI, 30, .inl (fun _ => 0))), (r7, .inl (tI, 30, .inl (fun _ => 0))), (r8, .inl (tI, 300, .inl (fun _ => 0))), (r9, .inl (tI, 300, .inl (fun _ => 0))), (r10, .inl (tI, 30, .inl (fun _ => 0))), (r11, .inl (tI, 30, .inl (fun _ => 0))), (r12, .inl (tI, 30, .inl (fun _ => 0))), (r13, .inl (tI, 30, .inl (fun _ => 0))), (r14, .inl (tI, 30, .inl (fun _ => 0))), (r15, .inl (tI, 10, .inl (fun _ => 0))), (r16, .inl (tI, 6, .inl (upd (upd (upd (upd (upd (upd (fun _ => 0) 0 10) 1 10) 2 10) 3 10) 4 10) 5 10))), (o0, .inl (tJ, 1, .inr (.inl (fun _ => 0))))] := hD
  refine lv_astore_n (lv' := [(3, .ref o0), (2, .ref r0), (1, .ref x0), (0, .ref b)]) hx hb dW_law_19 rfl hl (by decide) rfl (fun ls hl => ?_)
  refine lv_iconst (v := 0) hx hb dW_law_20 (by decide) ?_
  refine lv_istore (lv' := [(4, .int (nI (4 * 0))), (3, .ref o0), (2, .ref r0), (1, .ref x0), (0, .ref b)]) hx hb dW_law_21 hl (by decide) rfl (fun ls hl => ?_)
  have hP2 : va_P D classes (wv (fun k => ([x0, x1, x2, x3, o0, r0, r1, r2, r3, r4, r5, r6, r7, r8, r9, r10, r11, r12, r13, r14, r15, r16] : List Nat).getD k 0) tI tJ tL 0 sL0 sA0) H := hP.sub [0, 1, 2, 3, 21, 4, 5, 6, 7, 8, 9, 10, 11, 12, 13, 14, 15, 16, 17, 18, 19, 20] rfl
  have hD2 : va_D (A0 s) (wv (fun k => ([x0, x1, x2, x3, o0, r0, r1, r2, r3, r4, r5, r6, r7, r8, r9, r10, r11, r12, r13, r14, r15, r16] : List Nat).getD k 0) tI tJ tL 0 sL0 sA0) := hD.sub [0, 1, 2, 3, 21, 4, 5, 6, 7, 8, 9, 10, 11, 12, 13, 14, 15, 16, 17, 18, 19, 20] (by decide) rfl
  refine W.widen (k := 100 + 30 * 0) (n := 2000 + 200 * 0) (Nat.le_of_ble_eq_true rfl) (Nat.le_of_ble_eq_true rfl) ?_
  exact law_loop hl9 hL hx hb hr hml hlocks hown hts hX hbl hC 514 0 rfl (by omega) _ 0 sL0 sA0 H _ ls INV0 ⟨hP2, hD2⟩ hS hl
