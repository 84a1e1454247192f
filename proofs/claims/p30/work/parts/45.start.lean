theorem dW_law_0 : decode code 0 = .ok (.new 26, 3) := by decide +kernel
theorem dW_law_3 : decode code 3 = .ok (.dup, 1) := by decide +kernel
theorem dW_law_4 : decode code 4 = .ok (.invokespecial 123, 3) := by decide +kernel
theorem dW_law_7 : decode code 7 = .ok (.astore_n 1, 1) := by decide +kernel
theorem dW_law_8 : decode code 8 = .ok (.iconst 5, 1) := by decide +kernel
theorem dW_law_9 : decode code 9 = .ok (.newarray .int, 2) := by decide +kernel
theorem dW_law_11 : decode code 11 = .ok (.astore_n 2, 1) := by decide +kernel
theorem dW_law_12 : decode code 12 = .ok (.bipush 60, 2) := by decide +kernel
theorem dW_law_14 : decode code 14 = .ok (.newarray .int, 2) := by decide +kernel
theorem dW_law_16 : decode code 16 = .ok (.astore_n 3, 1) := by decide +kernel
theorem dW_law_17 : decode code 17 = .ok (.bipush 18, 2) := by decide +kernel
theorem dW_law_19 : decode code 19 = .ok (.newarray .int, 2) := by decide +kernel
theorem dW_law_21 : decode code 21 = .ok (.astore 4, 2) := by decide +kernel
theorem dW_law_23 : decode code 23 = .ok (.bipush 60, 2) := by decide +kernel
theorem dW_law_25 : decode code 25 = .ok (.newarray .int, 2) := by decide +kernel
theorem dW_law_27 : decode code 27 = .ok (.astore 5, 2) := by decide +kernel
theorem dW_law_29 : decode code 29 = .ok (.bipush 60, 2) := by decide +kernel
theorem dW_law_31 : decode code 31 = .ok (.newarray .int, 2) := by decide +kernel
theorem dW_law_33 : decode code 33 = .ok (.astore 6, 2) := by decide +kernel
theorem dW_law_35 : decode code 35 = .ok (.bipush 6, 2) := by decide +kernel
theorem dW_law_37 : decode code 37 = .ok (.newarray .int, 2) := by decide +kernel
theorem dW_law_39 : decode code 39 = .ok (.astore 7, 2) := by decide +kernel
theorem dW_law_41 : decode code 41 = .ok (.bipush 10, 2) := by decide +kernel
theorem dW_law_43 : decode code 43 = .ok (.newarray .int, 2) := by decide +kernel
theorem dW_law_45 : decode code 45 = .ok (.astore 8, 2) := by decide +kernel
theorem dW_law_47 : decode code 47 = .ok (.aload_n 2, 1) := by decide +kernel
theorem dW_law_48 : decode code 48 = .ok (.iconst 3, 1) := by decide +kernel
theorem dW_law_49 : decode code 49 = .ok (.bipush 20, 2) := by decide +kernel
theorem dW_law_51 : decode code 51 = .ok (.iastore, 1) := by decide +kernel
theorem dW_law_52 : decode code 52 = .ok (.iconst 0, 1) := by decide +kernel
theorem dW_law_53 : decode code 53 = .ok (.istore 9, 2) := by decide +kernel
theorem dW_law_55 : decode code 55 = .ok (.iload 9, 2) := by decide +kernel
theorem dW_law_57 : decode code 57 = .ok (.bipush 6, 2) := by decide +kernel
theorem dW_law_59 : decode code 59 = .ok (.if_icmp .ge 16, 3) := by decide +kernel
theorem dW_law_62 : decode code 62 = .ok (.aload 7, 2) := by decide +kernel
theorem dW_law_64 : decode code 64 = .ok (.iload 9, 2) := by decide +kernel
theorem dW_law_66 : decode code 66 = .ok (.bipush 10, 2) := by decide +kernel
theorem dW_law_68 : decode code 68 = .ok (.iastore, 1) := by decide +kernel
theorem dW_law_69 : decode code 69 = .ok (.iinc 9 1, 3) := by decide +kernel
theorem dW_law_72 : decode code 72 = .ok (.goto (-17), 3) := by decide +kernel
theorem dW_law_75 : decode code 75 = .ok (.aload_n 1, 1) := by decide +kernel
theorem dW_law_76 : decode code 76 = .ok (.aload_n 2, 1) := by decide +kernel
theorem dW_law_77 : decode code 77 = .ok (.aload_n 3, 1) := by decide +kernel
theorem dW_law_78 : decode code 78 = .ok (.aload 4, 2) := by decide +kernel
theorem dW_law_80 : decode code 80 = .ok (.aload 5, 2) := by decide +kernel
theorem dW_law_82 : decode code 82 = .ok (.aload 8, 2) := by decide +kernel
theorem dW_law_84 : decode code 84 = .ok (.iconst 5, 1) := by decide +kernel
theorem dW_law_85 : decode code 85 = .ok (.invokestatic 124, 3) := by decide +kernel
theorem dW_law_88 : decode code 88 = .ok (.istore 9, 2) := by decide +kernel
theorem dW_law_90 : decode code 90 = .ok (.iconst 0, 1) := by decide +kernel
theorem dW_law_91 : decode code 91 = .ok (.istore 10, 2) := by decide +kernel
def com0 : Nat → Int32 := upd (upd (upd (upd (upd (upd (fun _ => 0) 0 10) 1 10) 2 10) 3 10) 4 10) 5 10
def sL0 : NL := fun _ _ => 0
def sA0 : NA := fun x => if x = 0 then (fun k => if k = 5 then 20 else 0) else if x = 2 then com0 else if x = 4 then upd (fun _ => 0) 3 20 else if x = 9 then com0 else fun _ => 0
theorem INV0 : INV 0 0 sL0 sA0 := by
  refine ⟨⟨⟨by omega, rfl, rfl⟩, ⟨0, by omega, rfl, rfl⟩, 20, by omega, rfl, rfl⟩, fun k hk => ?_, ⟨fun _ => 0, 0, fun k _ => ⟨rfl, rfl⟩, rfl, Nat.le_refl 0⟩, ⟨0, by omega, rfl, fun i hi => absurd hi (Nat.not_lt_zero i)⟩, fun i _ _ => ⟨fun _ _ => ⟨rfl, rfl⟩, fun _ _ => rfl⟩, by rw [sm]; rfl, rfl, by rw [sm]; rfl⟩
  have : k = 0 ∨ k = 1 ∨ k = 2 ∨ k = 3 ∨ k = 4 ∨ k = 5 := by omega
  rcases this with rfl | rfl | rfl | rfl | rfl | rfl <;> exact ⟨10, by omega, rfl, rfl⟩
theorem tb_stat : Cond.laysStatic Bundle.tN "UNASSIGNED_STACK" Bundle.steD ∈ lw_tbl ∧ Cond.laysStatic Bundle.tN "SUPPRESSED_SENTINEL" Bundle.listD ∈ lw_tbl ∧ Cond.initialized Bundle.tN ∈ lw_tbl ∧ (∀ q ∈ strs, Cond.stringRef "DroitLine" q.1 q.2 ∈ lw_tbl) ∧ Cond.arrayOver (.object "DroitLine$Lot") ∈ lw_tbl := by decide +kernel
theorem fl_all : (Cond.isRef (.static Bundle.tN "UNASSIGNED_STACK" Bundle.steD) ∈ flatC (Jvm.Cond.and given_1 narrow_1) ∧ Cond.isRef (.static Bundle.tN "SUPPRESSED_SENTINEL" Bundle.listD) ∈ flatC (Jvm.Cond.and given_1 narrow_1)) ∧ (∀ q ∈ strs, Cond.exactly (.string "DroitLine" q.1) "java/lang/String" ∈ flatC (Jvm.Cond.and given_1 narrow_1)) ∧ ∀ q ∈ ncs, Cond.not (.castable q.1 q.2) ∈ flatC (Jvm.Cond.and given_1 narrow_1) := by decide +kernel
theorem bad_tab {w : Cond} (h : badKind w = true) : w.onTables = true := by
  cases w <;> first | rfl | (simp [badKind] at h; done)
theorem start_GC {s : State} {b : Nat} (hts : ∀ w ∈ lw_tbl, w.before #[Value.ref b] s = true) (hgv : (Jvm.Cond.and given_1 narrow_1).before #[Value.ref b] s = true) : ∃ (D : va_G) (tI tJ tL : ClassId) (sg : Nat → Nat), GC D tI tJ tL (A0 s) sg s := by
  have hn : ∀ w ∈ wNeed, w.before #[Value.ref b] s = true := fun w hw => hts w (wNeed_sub w hw)
  have hfl := flat_of_before _ hgv
  obtain ⟨c0, iS0, hKn0⟩ := u_known (C := "DroitLine") (T := F_X) (N := 9) (n := 9) hn i_X (hn _ q_12)
  obtain ⟨c1, iS1, hKn1⟩ := u_known (C := "DroitLine$Lot") (T := F_L) (N := 13) (n := 13) hn i_L (hn _ q_206)
  obtain ⟨c2, iS2, hKn2⟩ := u_known (C := "DroitLine$Offers") (T := F_O) (N := 3) (n := 3) hn i_O (hn _ q_218)
  obtain ⟨dC, dI, hKc⟩ : ∃ (dC : Nat → ClassId) (dI : Nat → Nat → Nat), ∀ (k : Nat) (q : vw_C), classes[k]? = some q → u_Kn s q.1 q.2.1 q.2.2 (dC k) (dI k) := by
    refine ⟨fun k => if k = 0 then c0 else if k = 1 then c1 else c2, fun k => if k = 0 then iS0 else if k = 1 then iS1 else iS2, ?_⟩
    intro k q hq
    match k, hq with
    | 0, hq => cases hq; exact hKn0
    | 1, hq => cases hq; exact hKn1
    | 2, hq => cases hq; exact hKn2
    | k + 3, hq => simp [classes] at hq
  obtain ⟨tI, kI, cI, f1, f2, f3⟩ := Cond.arrayClass_spec (type := .int) (args := #[Value.ref b]) (first := s) (o := none) (s := s) (idx := []) (hn _ q_49)
  obtain ⟨comp, tL, kL, e1, e2, e3, e4, e5⟩ := Cond.arrayOver_spec (args := #[Value.ref b]) (first := s) (o := none) (s := s) (idx := []) (hts _ tb_stat.2.2.2.2)
  have hsg : ∀ k : Nat, ∃ a : Nat, (∃ q ∈ strs, q.1 = k) → (Term.string "DroitLine" k).eval #[Value.ref b] s none [] s = some (.ref a) := by
    intro k
    by_cases hk : ∃ q ∈ strs, q.1 = k
    · obtain ⟨q, hq, rfl⟩ := hk
      obtain ⟨a, -, -, -, h1, -⟩ := Cond.exactly_spec (args := #[Value.ref b]) (first := s) (o := none) (s := s) (idx := []) (hfl _ (fl_all.2.1 q hq))
      exact ⟨a, fun _ => h1⟩
    · exact ⟨0, fun h => absurd h hk⟩
  obtain ⟨sg, hsg⟩ := Classical.axiomOfChoice hsg
  refine ⟨(dC, dI), tI, tI, tL, sg, fun _ h => h, ⟨hKc, fun k q hq => ?_⟩, ?_, ?_, fun q hq => ?_, fun w hw => ?_, fun q hq => ?_⟩
  · match k, hq with
    | 0, hq => cases hq; exact ⟨fun n z => ⟨fun k h => (by cases h), kI, f2, cI, f3⟩, f1⟩
    | 1, hq => cases hq; exact ⟨fun n z => ⟨fun k h => (by cases h), kL, e3, comp, e4⟩, kL, comp, e3, e4, e1, e5⟩
    | k + 2, hq => simp at hq
  · exact vx_Zqof (hts _ tb_stat.1) (hts _ tb_stat.2.2.1) (hfl _ fl_all.1.1) (fun a ha h => absurd ha (Nat.not_lt.mpr h))
  · exact vx_Zqof (hts _ tb_stat.2.1) (hts _ tb_stat.2.2.1) (hfl _ fl_all.1.2) (fun a ha h => absurd ha (Nat.not_lt.mpr h))
  · exact vk_R.of (hts _ (tb_stat.2.2.2.1 q hq)) (hsg q.1 ⟨q, hq, rfl⟩)
  · exact va_Nw.of (bad_tab (List.mem_filter.mp hw).2) (hts w (List.mem_filter.mp hw).1)
  · exact va_Nc.of (hfl _ (fl_all.2.2 q hq))
set_option maxHeartbeats 8000000 in
set_option maxRecDepth 100000 in
/-- from the entry, for every script of at most 260 ints, the law comes to its end with true -/
theorem whole_start {p : Program} {e : Env} {s : State} {m : MethodId} {below : List Frame} {meth : Method} {c : Code} (l : Launch) (hflags : l.flags = flags0) {b L : Nat} {xs : Nat → Int32} (hL : L ≤ 260) (C0 : lw_At p s m meth c b L xs) : W p l e room_1 s m #[Value.ref b] below meth c s.heap [] 0 0 (lw_Z below #[Value.ref b] s) (entryFrame m ([Value.ref b] : List Value).toArray 22) := by
  obtain ⟨hx, hb, hr, hml, hown, htl, hX, hbl, hlocks, hgv⟩ := C0
  have hl9 : l.stackTraces = false := by unfold Launch.stackTraces; rw [hflags]; decide +kernel
  have hts : ∀ w ∈ wNeed, w.before #[Value.ref b] s = true := fun w hw => htl w (wNeed_sub w hw)
  obtain ⟨D, tI, tJ, tL, sg, hC⟩ := start_GC htl hgv
  have hAO : va_AO "DroitLine$Lot" s := va_AO.of (htl _ tb_stat.2.2.2.2)
  have hA : ∀ q : Nat, s.heap.size ≤ q → (A0 s) q := fun _ h => h
  have hS : va_S (A0 s) s.heap s.heap [] := va_S.rf
  have hK := hC.2.1
  have hP : va_P D classes [] s.heap := fun k q h => by simp at h
  have hD : va_D (A0 s) [] := ⟨fun i j p q h => by simp at h, fun k q h => by simp at h⟩
  have hl := lv_entry ([.ref b]) (n := 22) (Nat.le_of_ble_eq_true rfl)
  rw [lg_entry_eq]
  generalize (lg_sl ([.ref b]) ++ List.replicate (22 - (lg_sl ([.ref b])).length) Slot.unset).toArray = ls at hl ⊢
  replace hl : lv_has ls 22 [(0, .ref b)] := hl
  refine va_new (ci := 0) (fs := [.null, .null, .null, .int 0, .int 0, .int 0, .long 0, .long 0, .long 0]) (C := "DroitLine") (T := F_X) (N := 9) hx hb hts i_X t_X t_X_ok hown (hts _ q_11) (hts _ q_12) (hts _ q_1) hK hP hD hS hA rfl (fun j hj => by rcases (show j = 0 ∨ j = 1 ∨ j = 2 ∨ j = 3 ∨ j = 4 ∨ j = 5 ∨ j = 6 ∨ j = 7 ∨ j = 8 by omega) with rfl | rfl | rfl | rfl | rfl | rfl | rfl | rfl | rfl <;> rfl) (Nat.le_of_ble_eq_true rfl) (Nat.le_of_ble_eq_true rfl) dW_law_0 (fun x0 H hP hD hS => ?_)
  refine lv_dup hx hb dW_law_3 rfl ?_
  have hP : va_P D classes (([] : va_W) ++ [(x0, .inr (0, [.null, .null, .null, .int 0, .int 0, .int 0, .long 0, .long 0, .long 0]))]) H := hP
  have hD : va_D (A0 s) (([] : va_W) ++ [(x0, .inr (0, [.null, .null, .null, .int 0, .int 0, .int 0, .long 0, .long 0, .long 0]))]) := hD
  have hPc := (lastP hP).2
  have hDl := lastD hD
  have hA1 : ∀ q, H.size ≤ q → (A0 s) q := fun q h => Nat.le_trans hS.1 h
  have hFc := ctor_free (e := .inr (0, [.null, .null, .null, .int 0, .int 0, .int 0, .long 0, .long 0, .long 0])) hDl.2.1 hA1
  refine va_callv (va_runI (As := []) (rest := [.ref x0]) ⟨hx, hb, hml, hown, hts⟩ (cX_init l D tI tJ tL x0 H.size) (cwI 0 hts (gI q_15) rfl rfl rfl (hts _ q_1) (hts _ q_13) (hts _ q_14) rfl hdyX_init ⟨Nat.le_of_ble_eq_true rfl, Nat.le_of_ble_eq_true rfl⟩) ⟨CP.blind, fun U hU hW => ⟨rfl, by rw [hU], by rw [hU]; exact hPc, va_K.moved hW.alike hK, hDl.2.2.2, fun w hw => bad_warm (List.mem_filter.mp hw).2 hW (hC.2.2.2.2.2.1 w hw), fun _ => va_AO.moved hW.alike hAO⟩⟩ rfl rfl hl.1 rfl (lv_room (Nat.le_of_ble_eq_true rfl)) dW_law_4 ⟨Nat.le_of_ble_eq_true rfl, Nat.le_of_ble_eq_true rfl⟩) hS (fun q _ h => hFc q h) hFc (fun u t H1 locs ht hvm hw hB hz1 hk1 hS => ?_)
  obtain ⟨x1, x2, x3, hP1, hD1⟩ := hB
  rw [ht] at hP1
  obtain ⟨hP, hD⟩ := ctor_join hP hD hA1 hk1 hP1 hD1
  generalize H1 = H at hP hS ⊢
  have hP : va_P D classes [(x0, .inr (0, [.ref x1, .ref x2, .ref x3, .int 0, .int 0, .int 20, .long 0, .long 0, .long 0])), (x1, .inl (tL, 30, .inr (.inr (.inr (.inr (fun _ => none)))))), (x2, .inl (tI, 6, .inl (upd (upd (upd (upd (upd (upd (fun _ => 0) 0 10) 1 10) 2 10) 3 10) 4 10) 5 10))), (x3, .inl (tI, 10, .inl (fun _ => 0)))] H := hP
  have hD : va_D (A0 s) [(x0, .inr (0, [.ref x1, .ref x2, .ref x3, .int 0, .int 0, .int 20, .long 0, .long 0, .long 0])), (x1, .inl (tL, 30, .inr (.inr (.inr (.inr (fun _ => none)))))), (x2, .inl (tI, 6, .inl (upd (upd (upd (upd (upd (upd (fun _ => 0) 0 10) 1 10) 2 10) 3 10) 4 10) 5 10))), (x3, .inl (tI, 10, .inl (fun _ => 0)))] := hD
  refine lv_astore_n (lv' := [(1, .ref x0), (0, .ref b)]) hx hb dW_law_7 rfl hl (by decide) rfl (fun ls hl => ?_)
  refine lv_iconst (v := 5) hx hb dW_law_8 (by decide) ?_
  refine va_newa (atype := .int) (ty := .int) (N' := 5) (a0 := (5, .inl fun _ => 0)) hx hb (hts _ q_49) rfl hK hP hD hS hA (fun _ => rfl) (by decide) rfl (by decide) (Nat.le_of_ble_eq_true rfl) (Nat.le_of_ble_eq_true rfl) dW_law_9 (fun an cA H hK1 hP hD hS => ?_)
  rw [tyI hK1] at hP hD
  have hP : va_P D classes [(x0, .inr (0, [.ref x1, .ref x2, .ref x3, .int 0, .int 0, .int 20, .long 0, .long 0, .long 0])), (x1, .inl (tL, 30, .inr (.inr (.inr (.inr (fun _ => none)))))), (x2, .inl (tI, 6, .inl (upd (upd (upd (upd (upd (upd (fun _ => 0) 0 10) 1 10) 2 10) 3 10) 4 10) 5 10))), (x3, .inl (tI, 10, .inl (fun _ => 0))), (an, .inl (tI, 5, .inl (fun _ => 0)))] H := hP
  have hD : va_D (A0 s) [(x0, .inr (0, [.ref x1, .ref x2, .ref x3, .int 0, .int 0, .int 20, .long 0, .long 0, .long 0])), (x1, .inl (tL, 30, .inr (.inr (.inr (.inr (fun _ => none)))))), (x2, .inl (tI, 6, .inl (upd (upd (upd (upd (upd (upd (fun _ => 0) 0 10) 1 10) 2 10) 3 10) 4 10) 5 10))), (x3, .inl (tI, 10, .inl (fun _ => 0))), (an, .inl (tI, 5, .inl (fun _ => 0)))] := hD
  refine lv_astore_n (lv' := [(2, .ref an), (1, .ref x0), (0, .ref b)]) hx hb dW_law_11 rfl hl (by decide) rfl (fun ls hl => ?_)
  refine lv_bipush (v := 60) hx hb dW_law_12 (by decide) ?_
  refine va_newa (atype := .int) (ty := .int) (N' := 60) (a0 := (60, .inl fun _ => 0)) hx hb (hts _ q_49) rfl hK hP hD hS hA (fun _ => rfl) (by decide) rfl (by decide) (Nat.le_of_ble_eq_true rfl) (Nat.le_of_ble_eq_true rfl) dW_law_14 (fun al cA H hK1 hP hD hS => ?_)
  rw [tyI hK1] at hP hD
  have hP : va_P D classes [(x0, .inr (0, [.ref x1, .ref x2, .ref x3, .int 0, .int 0, .int 20, .long 0, .long 0, .long 0])), (x1, .inl (tL, 30, .inr (.inr (.inr (.inr (fun _ => none)))))), (x2, .inl (tI, 6, .inl (upd (upd (upd (upd (upd (upd (fun _ => 0) 0 10) 1 10) 2 10) 3 10) 4 10) 5 10))), (x3, .inl (tI, 10, .inl (fun _ => 0))), (an, .inl (tI, 5, .inl (fun _ => 0))), (al, .inl (tI, 60, .inl (fun _ => 0)))] H := hP
  have hD : va_D (A0 s) [(x0, .inr (0, [.ref x1, .ref x2, .ref x3, .int 0, .int 0, .int 20, .long 0, .long 0, .long 0])), (x1, .inl (tL, 30, .inr (.inr (.inr (.inr (fun _ => none)))))), (x2, .inl (tI, 6, .inl (upd (upd (upd (upd (upd (upd (fun _ => 0) 0 10) 1 10) 2 10) 3 10) 4 10) 5 10))), (x3, .inl (tI, 10, .inl (fun _ => 0))), (an, .inl (tI, 5, .inl (fun _ => 0))), (al, .inl (tI, 60, .inl (fun _ => 0)))] := hD
  refine lv_astore_n (lv' := [(3, .ref al), (2, .ref an), (1, .ref x0), (0, .ref b)]) hx hb dW_law_16 rfl hl (by decide) rfl (fun ls hl => ?_)
  refine lv_bipush (v := 18) hx hb dW_law_17 (by decide) ?_
  refine va_newa (atype := .int) (ty := .int) (N' := 18) (a0 := (18, .inl fun _ => 0)) hx hb (hts _ q_49) rfl hK hP hD hS hA (fun _ => rfl) (by decide) rfl (by decide) (Nat.le_of_ble_eq_true rfl) (Nat.le_of_ble_eq_true rfl) dW_law_19 (fun av cA H hK1 hP hD hS => ?_)
  rw [tyI hK1] at hP hD
  have hP : va_P D classes [(x0, .inr (0, [.ref x1, .ref x2, .ref x3, .int 0, .int 0, .int 20, .long 0, .long 0, .long 0])), (x1, .inl (tL, 30, .inr (.inr (.inr (.inr (fun _ => none)))))), (x2, .inl (tI, 6, .inl (upd (upd (upd (upd (upd (upd (fun _ => 0) 0 10) 1 10) 2 10) 3 10) 4 10) 5 10))), (x3, .inl (tI, 10, .inl (fun _ => 0))), (an, .inl (tI, 5, .inl (fun _ => 0))), (al, .inl (tI, 60, .inl (fun _ => 0))), (av, .inl (tI, 18, .inl (fun _ => 0)))] H := hP
  have hD : va_D (A0 s) [(x0, .inr (0, [.ref x1, .ref x2, .ref x3, .int 0, .int 0, .int 20, .long 0, .long 0, .long 0])), (x1, .inl (tL, 30, .inr (.inr (.inr (.inr (fun _ => none)))))), (x2, .inl (tI, 6, .inl (upd (upd (upd (upd (upd (upd (fun _ => 0) 0 10) 1 10) 2 10) 3 10) 4 10) 5 10))), (x3, .inl (tI, 10, .inl (fun _ => 0))), (an, .inl (tI, 5, .inl (fun _ => 0))), (al, .inl (tI, 60, .inl (fun _ => 0))), (av, .inl (tI, 18, .inl (fun _ => 0)))] := hD
  refine lv_astore (lv' := [(4, .ref av), (3, .ref al), (2, .ref an), (1, .ref x0), (0, .ref b)]) hx hb dW_law_21 hl (by decide) rfl (fun ls hl => ?_)
  refine lv_bipush (v := 60) hx hb dW_law_23 (by decide) ?_
  refine va_newa (atype := .int) (ty := .int) (N' := 60) (a0 := (60, .inl fun _ => 0)) hx hb (hts _ q_49) rfl hK hP hD hS hA (fun _ => rfl) (by decide) rfl (by decide) (Nat.le_of_ble_eq_true rfl) (Nat.le_of_ble_eq_true rfl) dW_law_25 (fun ab cA H hK1 hP hD hS => ?_)
  rw [tyI hK1] at hP hD
  have hP : va_P D classes [(x0, .inr (0, [.ref x1, .ref x2, .ref x3, .int 0, .int 0, .int 20, .long 0, .long 0, .long 0])), (x1, .inl (tL, 30, .inr (.inr (.inr (.inr (fun _ => none)))))), (x2, .inl (tI, 6, .inl (upd (upd (upd (upd (upd (upd (fun _ => 0) 0 10) 1 10) 2 10) 3 10) 4 10) 5 10))), (x3, .inl (tI, 10, .inl (fun _ => 0))), (an, .inl (tI, 5, .inl (fun _ => 0))), (al, .inl (tI, 60, .inl (fun _ => 0))), (av, .inl (tI, 18, .inl (fun _ => 0))), (ab, .inl (tI, 60, .inl (fun _ => 0)))] H := hP
  have hD : va_D (A0 s) [(x0, .inr (0, [.ref x1, .ref x2, .ref x3, .int 0, .int 0, .int 20, .long 0, .long 0, .long 0])), (x1, .inl (tL, 30, .inr (.inr (.inr (.inr (fun _ => none)))))), (x2, .inl (tI, 6, .inl (upd (upd (upd (upd (upd (upd (fun _ => 0) 0 10) 1 10) 2 10) 3 10) 4 10) 5 10))), (x3, .inl (tI, 10, .inl (fun _ => 0))), (an, .inl (tI, 5, .inl (fun _ => 0))), (al, .inl (tI, 60, .inl (fun _ => 0))), (av, .inl (tI, 18, .inl (fun _ => 0))), (ab, .inl (tI, 60, .inl (fun _ => 0)))] := hD
  refine lv_astore (lv' := [(5, .ref ab), (4, .ref av), (3, .ref al), (2, .ref an), (1, .ref x0), (0, .ref b)]) hx hb dW_law_27 hl (by decide) rfl (fun ls hl => ?_)
  refine lv_bipush (v := 60) hx hb dW_law_29 (by decide) ?_
  refine va_newa (atype := .int) (ty := .int) (N' := 60) (a0 := (60, .inl fun _ => 0)) hx hb (hts _ q_49) rfl hK hP hD hS hA (fun _ => rfl) (by decide) rfl (by decide) (Nat.le_of_ble_eq_true rfl) (Nat.le_of_ble_eq_true rfl) dW_law_31 (fun aw cA H hK1 hP hD hS => ?_)
  rw [tyI hK1] at hP hD
  have hP : va_P D classes [(x0, .inr (0, [.ref x1, .ref x2, .ref x3, .int 0, .int 0, .int 20, .long 0, .long 0, .long 0])), (x1, .inl (tL, 30, .inr (.inr (.inr (.inr (fun _ => none)))))), (x2, .inl (tI, 6, .inl (upd (upd (upd (upd (upd (upd (fun _ => 0) 0 10) 1 10) 2 10) 3 10) 4 10) 5 10))), (x3, .inl (tI, 10, .inl (fun _ => 0))), (an, .inl (tI, 5, .inl (fun _ => 0))), (al, .inl (tI, 60, .inl (fun _ => 0))), (av, .inl (tI, 18, .inl (fun _ => 0))), (ab, .inl (tI, 60, .inl (fun _ => 0))), (aw, .inl (tI, 60, .inl (fun _ => 0)))] H := hP
  have hD : va_D (A0 s) [(x0, .inr (0, [.ref x1, .ref x2, .ref x3, .int 0, .int 0, .int 20, .long 0, .long 0, .long 0])), (x1, .inl (tL, 30, .inr (.inr (.inr (.inr (fun _ => none)))))), (x2, .inl (tI, 6, .inl (upd (upd (upd (upd (upd (upd (fun _ => 0) 0 10) 1 10) 2 10) 3 10) 4 10) 5 10))), (x3, .inl (tI, 10, .inl (fun _ => 0))), (an, .inl (tI, 5, .inl (fun _ => 0))), (al, .inl (tI, 60, .inl (fun _ => 0))), (av, .inl (tI, 18, .inl (fun _ => 0))), (ab, .inl (tI, 60, .inl (fun _ => 0))), (aw, .inl (tI, 60, .inl (fun _ => 0)))] := hD
  refine lv_astore (lv' := [(6, .ref aw), (5, .ref ab), (4, .ref av), (3, .ref al), (2, .ref an), (1, .ref x0), (0, .ref b)]) hx hb dW_law_33 hl (by decide) rfl (fun ls hl => ?_)
  refine lv_bipush (v := 6) hx hb dW_law_35 (by decide) ?_
  refine va_newa (atype := .int) (ty := .int) (N' := 6) (a0 := (6, .inl fun _ => 0)) hx hb (hts _ q_49) rfl hK hP hD hS hA (fun _ => rfl) (by decide) rfl (by decide) (Nat.le_of_ble_eq_true rfl) (Nat.le_of_ble_eq_true rfl) dW_law_37 (fun ac cA H hK1 hP hD hS => ?_)
  rw [tyI hK1] at hP hD
  have hP : va_P D classes [(x0, .inr (0, [.ref x1, .ref x2, .ref x3, .int 0, .int 0, .int 20, .long 0, .long 0, .long 0])), (x1, .inl (tL, 30, .inr (.inr (.inr (.inr (fun _ => none)))))), (x2, .inl (tI, 6, .inl (upd (upd (upd (upd (upd (upd (fun _ => 0) 0 10) 1 10) 2 10) 3 10) 4 10) 5 10))), (x3, .inl (tI, 10, .inl (fun _ => 0))), (an, .inl (tI, 5, .inl (fun _ => 0))), (al, .inl (tI, 60, .inl (fun _ => 0))), (av, .inl (tI, 18, .inl (fun _ => 0))), (ab, .inl (tI, 60, .inl (fun _ => 0))), (aw, .inl (tI, 60, .inl (fun _ => 0))), (ac, .inl (tI, 6, .inl (fun _ => 0)))] H := hP
  have hD : va_D (A0 s) [(x0, .inr (0, [.ref x1, .ref x2, .ref x3, .int 0, .int 0, .int 20, .long 0, .long 0, .long 0])), (x1, .inl (tL, 30, .inr (.inr (.inr (.inr (fun _ => none)))))), (x2, .inl (tI, 6, .inl (upd (upd (upd (upd (upd (upd (fun _ => 0) 0 10) 1 10) 2 10) 3 10) 4 10) 5 10))), (x3, .inl (tI, 10, .inl (fun _ => 0))), (an, .inl (tI, 5, .inl (fun _ => 0))), (al, .inl (tI, 60, .inl (fun _ => 0))), (av, .inl (tI, 18, .inl (fun _ => 0))), (ab, .inl (tI, 60, .inl (fun _ => 0))), (aw, .inl (tI, 60, .inl (fun _ => 0))), (ac, .inl (tI, 6, .inl (fun _ => 0)))] := hD
  refine lv_astore (lv' := [(7, .ref ac), (6, .ref aw), (5, .ref ab), (4, .ref av), (3, .ref al), (2, .ref an), (1, .ref x0), (0, .ref b)]) hx hb dW_law_39 hl (by decide) rfl (fun ls hl => ?_)
  refine lv_bipush (v := 10) hx hb dW_law_41 (by decide) ?_
  refine va_newa (atype := .int) (ty := .int) (N' := 10) (a0 := (10, .inl fun _ => 0)) hx hb (hts _ q_49) rfl hK hP hD hS hA (fun _ => rfl) (by decide) rfl (by decide) (Nat.le_of_ble_eq_true rfl) (Nat.le_of_ble_eq_true rfl) dW_law_43 (fun ae cA H hK1 hP hD hS => ?_)
  rw [tyI hK1] at hP hD
  have hP : va_P D classes [(x0, .inr (0, [.ref x1, .ref x2, .ref x3, .int 0, .int 0, .int 20, .long 0, .long 0, .long 0])), (x1, .inl (tL, 30, .inr (.inr (.inr (.inr (fun _ => none)))))), (x2, .inl (tI, 6, .inl (upd (upd (upd (upd (upd (upd (fun _ => 0) 0 10) 1 10) 2 10) 3 10) 4 10) 5 10))), (x3, .inl (tI, 10, .inl (fun _ => 0))), (an, .inl (tI, 5, .inl (fun _ => 0))), (al, .inl (tI, 60, .inl (fun _ => 0))), (av, .inl (tI, 18, .inl (fun _ => 0))), (ab, .inl (tI, 60, .inl (fun _ => 0))), (aw, .inl (tI, 60, .inl (fun _ => 0))), (ac, .inl (tI, 6, .inl (fun _ => 0))), (ae, .inl (tI, 10, .inl (fun _ => 0)))] H := hP
  have hD : va_D (A0 s) [(x0, .inr (0, [.ref x1, .ref x2, .ref x3, .int 0, .int 0, .int 20, .long 0, .long 0, .long 0])), (x1, .inl (tL, 30, .inr (.inr (.inr (.inr (fun _ => none)))))), (x2, .inl (tI, 6, .inl (upd (upd (upd (upd (upd (upd (fun _ => 0) 0 10) 1 10) 2 10) 3 10) 4 10) 5 10))), (x3, .inl (tI, 10, .inl (fun _ => 0))), (an, .inl (tI, 5, .inl (fun _ => 0))), (al, .inl (tI, 60, .inl (fun _ => 0))), (av, .inl (tI, 18, .inl (fun _ => 0))), (ab, .inl (tI, 60, .inl (fun _ => 0))), (aw, .inl (tI, 60, .inl (fun _ => 0))), (ac, .inl (tI, 6, .inl (fun _ => 0))), (ae, .inl (tI, 10, .inl (fun _ => 0)))] := hD
  refine lv_astore (lv' := [(8, .ref ae), (7, .ref ac), (6, .ref aw), (5, .ref ab), (4, .ref av), (3, .ref al), (2, .ref an), (1, .ref x0), (0, .ref b)]) hx hb dW_law_45 hl (by decide) rfl (fun ls hl => ?_)
  refine lv_aload_n hx hb dW_law_47 rfl (lv_at hl 6 rfl) ?_
  refine lv_iconst (v := 3) hx hb dW_law_48 (by decide) ?_
  refine lv_bipush (v := 20) hx hb dW_law_49 (by decide) ?_
  refine va_iast hx hb hK hP hD hS 4 0 rfl rfl (by rw [vp_in_iff]; decide) dW_law_51 (fun H locs hP hD hS => ?_)
  have hP : va_P D classes [(x0, .inr (0, [.ref x1, .ref x2, .ref x3, .int 0, .int 0, .int 20, .long 0, .long 0, .long 0])), (x1, .inl (tL, 30, .inr (.inr (.inr (.inr (fun _ => none)))))), (x2, .inl (tI, 6, .inl (upd (upd (upd (upd (upd (upd (fun _ => 0) 0 10) 1 10) 2 10) 3 10) 4 10) 5 10))), (x3, .inl (tI, 10, .inl (fun _ => 0))), (an, .inl (tI, 5, .inl (upd (fun _ => 0) 3 20))), (al, .inl (tI, 60, .inl (fun _ => 0))), (av, .inl (tI, 18, .inl (fun _ => 0))), (ab, .inl (tI, 60, .inl (fun _ => 0))), (aw, .inl (tI, 60, .inl (fun _ => 0))), (ac, .inl (tI, 6, .inl (fun _ => 0))), (ae, .inl (tI, 10, .inl (fun _ => 0)))] H := hP
  have hD : va_D (A0 s) [(x0, .inr (0, [.ref x1, .ref x2, .ref x3, .int 0, .int 0, .int 20, .long 0, .long 0, .long 0])), (x1, .inl (tL, 30, .inr (.inr (.inr (.inr (fun _ => none)))))), (x2, .inl (tI, 6, .inl (upd (upd (upd (upd (upd (upd (fun _ => 0) 0 10) 1 10) 2 10) 3 10) 4 10) 5 10))), (x3, .inl (tI, 10, .inl (fun _ => 0))), (an, .inl (tI, 5, .inl (upd (fun _ => 0) 3 20))), (al, .inl (tI, 60, .inl (fun _ => 0))), (av, .inl (tI, 18, .inl (fun _ => 0))), (ab, .inl (tI, 60, .inl (fun _ => 0))), (aw, .inl (tI, 60, .inl (fun _ => 0))), (ac, .inl (tI, 6, .inl (fun _ => 0))), (ae, .inl (tI, 10, .inl (fun _ => 0)))] := hD
  refine lv_iconst (v := 0) hx hb dW_law_52 (by decide) ?_
  refine lv_istore (lv' := [(9, .int 0), (8, .ref ae), (7, .ref ac), (6, .ref aw), (5, .ref ab), (4, .ref av), (3, .ref al), (2, .ref an), (1, .ref x0), (0, .ref b)]) hx hb dW_law_53 hl (by decide) rfl (fun ls hl => ?_)
  refine lv_iload hx hb dW_law_55 (lv_at hl 0 rfl) ?_
  refine lv_bipush (v := 6) hx hb dW_law_57 (by decide) ?_
  refine lv_icmp_ge (tgt := 75) hx hb dW_law_59 (by decide) (fun c_9 => ?_) (fun c_9 => ?_)
  · exact absurd c_9 (by decide)
  refine lv_aload hx hb dW_law_62 (lv_at hl 2 rfl) ?_
  refine lv_iload hx hb dW_law_64 (lv_at hl 0 rfl) ?_
  refine lv_bipush (v := 10) hx hb dW_law_66 (by decide) ?_
  refine va_iast hx hb hK hP hD hS 9 0 rfl rfl (by rw [vp_in_iff]; decide) dW_law_68 (fun H locs hP hD hS => ?_)
  have hP : va_P D classes [(x0, .inr (0, [.ref x1, .ref x2, .ref x3, .int 0, .int 0, .int 20, .long 0, .long 0, .long 0])), (x1, .inl (tL, 30, .inr (.inr (.inr (.inr (fun _ => none)))))), (x2, .inl (tI, 6, .inl (upd (upd (upd (upd (upd (upd (fun _ => 0) 0 10) 1 10) 2 10) 3 10) 4 10) 5 10))), (x3, .inl (tI, 10, .inl (fun _ => 0))), (an, .inl (tI, 5, .inl (upd (fun _ => 0) 3 20))), (al, .inl (tI, 60, .inl (fun _ => 0))), (av, .inl (tI, 18, .inl (fun _ => 0))), (ab, .inl (tI, 60, .inl (fun _ => 0))), (aw, .inl (tI, 60, .inl (fun _ => 0))), (ac, .inl (tI, 6, .inl (upd (fun _ => 0) 0 10))), (ae, .inl (tI, 10, .inl (fun _ => 0)))] H := hP
  have hD : va_D (A0 s) [(x0, .inr (0, [.ref x1, .ref x2, .ref x3, .int 0, .int 0, .int 20, .long 0, .long 0, .long 0])), (x1, .inl (tL, 30, .inr (.inr (.inr (.inr (fun _ => none)))))), (x2, .inl (tI, 6, .inl (upd (upd (upd (upd (upd (upd (fun _ => 0) 0 10) 1 10) 2 10) 3 10) 4 10) 5 10))), (x3, .inl (tI, 10, .inl (fun _ => 0))), (an, .inl (tI, 5, .inl (upd (fun _ => 0) 3 20))), (al, .inl (tI, 60, .inl (fun _ => 0))), (av, .inl (tI, 18, .inl (fun _ => 0))), (ab, .inl (tI, 60, .inl (fun _ => 0))), (aw, .inl (tI, 60, .inl (fun _ => 0))), (ac, .inl (tI, 6, .inl (upd (fun _ => 0) 0 10))), (ae, .inl (tI, 10, .inl (fun _ => 0)))] := hD
  refine lv_iinc (v := 1) (lv' := [(9, .int 1), (8, .ref ae), (7, .ref ac), (6, .ref aw), (5, .ref ab), (4, .ref av), (3, .ref al), (2, .ref an), (1, .ref x0), (0, .ref b)]) hx hb dW_law_69 hl (k := 0) rfl (by decide) (by decide) rfl (fun ls hl => ?_)
  refine lv_goto (tgt := 55) hx hb dW_law_72 (by decide) ?_
  refine lv_iload hx hb dW_law_55 (lv_at hl 0 rfl) ?_
  refine lv_bipush (v := 6) hx hb dW_law_57 (by decide) ?_
  refine lv_icmp_ge (tgt := 75) hx hb dW_law_59 (by decide) (fun c_9 => ?_) (fun c_9 => ?_)
  · exact absurd c_9 (by decide)
  refine lv_aload hx hb dW_law_62 (lv_at hl 2 rfl) ?_
  refine lv_iload hx hb dW_law_64 (lv_at hl 0 rfl) ?_
  refine lv_bipush (v := 10) hx hb dW_law_66 (by decide) ?_
  refine va_iast hx hb hK hP hD hS 9 0 rfl rfl (by rw [vp_in_iff]; decide) dW_law_68 (fun H locs hP hD hS => ?_)
  have hP : va_P D classes [(x0, .inr (0, [.ref x1, .ref x2, .ref x3, .int 0, .int 0, .int 20, .long 0, .long 0, .long 0])), (x1, .inl (tL, 30, .inr (.inr (.inr (.inr (fun _ => none)))))), (x2, .inl (tI, 6, .inl (upd (upd (upd (upd (upd (upd (fun _ => 0) 0 10) 1 10) 2 10) 3 10) 4 10) 5 10))), (x3, .inl (tI, 10, .inl (fun _ => 0))), (an, .inl (tI, 5, .inl (upd (fun _ => 0) 3 20))), (al, .inl (tI, 60, .inl (fun _ => 0))), (av, .inl (tI, 18, .inl (fun _ => 0))), (ab, .inl (tI, 60, .inl (fun _ => 0))), (aw, .inl (tI, 60, .inl (fun _ => 0))), (ac, .inl (tI, 6, .inl (upd (upd (fun _ => 0) 0 10) 1 10))), (ae, .inl (tI, 10, .inl (fun _ => 0)))] H := hP
  have hD : va_D (A0 s) [(x0, .inr (0, [.ref x1, .ref x2, .ref x3, .int 0, .int 0, .int 20, .long 0, .long 0, .long 0])), (x1, .inl (tL, 30, .inr (.inr (.inr (.inr (fun _ => none)))))), (x2, .inl (tI, 6, .inl (upd (upd (upd (upd (upd (upd (fun _ => 0) 0 10) 1 10) 2 10) 3 10) 4 10) 5 10))), (x3, .inl (tI, 10, .inl (fun _ => 0))), (an, .inl (tI, 5, .inl (upd (fun _ => 0) 3 20))), (al, .inl (tI, 60, .inl (fun _ => 0))), (av, .inl (tI, 18, .inl (fun _ => 0))), (ab, .inl (tI, 60, .inl (fun _ => 0))), (aw, .inl (tI, 60, .inl (fun _ => 0))), (ac, .inl (tI, 6, .inl (upd (upd (fun _ => 0) 0 10) 1 10))), (ae, .inl (tI, 10, .inl (fun _ => 0)))] := hD
  refine lv_iinc (v := 2) (lv' := [(9, .int 2), (8, .ref ae), (7, .ref ac), (6, .ref aw), (5, .ref ab), (4, .ref av), (3, .ref al), (2, .ref an), (1, .ref x0), (0, .ref b)]) hx hb dW_law_69 hl (k := 0) rfl (by decide) (by decide) rfl (fun ls hl => ?_)
  refine lv_goto (tgt := 55) hx hb dW_law_72 (by decide) ?_
  refine lv_iload hx hb dW_law_55 (lv_at hl 0 rfl) ?_
  refine lv_bipush (v := 6) hx hb dW_law_57 (by decide) ?_
  refine lv_icmp_ge (tgt := 75) hx hb dW_law_59 (by decide) (fun c_9 => ?_) (fun c_9 => ?_)
  · exact absurd c_9 (by decide)
  refine lv_aload hx hb dW_law_62 (lv_at hl 2 rfl) ?_
  refine lv_iload hx hb dW_law_64 (lv_at hl 0 rfl) ?_
  refine lv_bipush (v := 10) hx hb dW_law_66 (by decide) ?_
  refine va_iast hx hb hK hP hD hS 9 0 rfl rfl (by rw [vp_in_iff]; decide) dW_law_68 (fun H locs hP hD hS => ?_)
  have hP : va_P D classes [(x0, .inr (0, [.ref x1, .ref x2, .ref x3, .int 0, .int 0, .int 20, .long 0, .long 0, .long 0])), (x1, .inl (tL, 30, .inr (.inr (.inr (.inr (fun _ => none)))))), (x2, .inl (tI, 6, .inl (upd (upd (upd (upd (upd (upd (fun _ => 0) 0 10) 1 10) 2 10) 3 10) 4 10) 5 10))), (x3, .inl (tI, 10, .inl (fun _ => 0))), (an, .inl (tI, 5, .inl (upd (fun _ => 0) 3 20))), (al, .inl (tI, 60, .inl (fun _ => 0))), (av, .inl (tI, 18, .inl (fun _ => 0))), (ab, .inl (tI, 60, .inl (fun _ => 0))), (aw, .inl (tI, 60, .inl (fun _ => 0))), (ac, .inl (tI, 6, .inl (upd (upd (upd (fun _ => 0) 0 10) 1 10) 2 10))), (ae, .inl (tI, 10, .inl (fun _ => 0)))] H := hP
  have hD : va_D (A0 s) [(x0, .inr (0, [.ref x1, .ref x2, .ref x3, .int 0, .int 0, .int 20, .long 0, .long 0, .long 0])), (x1, .inl (tL, 30, .inr (.inr (.inr (.inr (fun _ => none)))))), (x2, .inl (tI, 6, .inl (upd (upd (upd (upd (upd (upd (fun _ => 0) 0 10) 1 10) 2 10) 3 10) 4 10) 5 10))), (x3, .inl (tI, 10, .inl (fun _ => 0))), (an, .inl (tI, 5, .inl (upd (fun _ => 0) 3 20))), (al, .inl (tI, 60, .inl (fun _ => 0))), (av, .inl (tI, 18, .inl (fun _ => 0))), (ab, .inl (tI, 60, .inl (fun _ => 0))), (aw, .inl (tI, 60, .inl (fun _ => 0))), (ac, .inl (tI, 6, .inl (upd (upd (upd (fun _ => 0) 0 10) 1 10) 2 10))), (ae, .inl (tI, 10, .inl (fun _ => 0)))] := hD
  refine lv_iinc (v := 3) (lv' := [(9, .int 3), (8, .ref ae), (7, .ref ac), (6, .ref aw), (5, .ref ab), (4, .ref av), (3, .ref al), (2, .ref an), (1, .ref x0), (0, .ref b)]) hx hb dW_law_69 hl (k := 0) rfl (by decide) (by decide) rfl (fun ls hl => ?_)
  refine lv_goto (tgt := 55) hx hb dW_law_72 (by decide) ?_
  refine lv_iload hx hb dW_law_55 (lv_at hl 0 rfl) ?_
  refine lv_bipush (v := 6) hx hb dW_law_57 (by decide) ?_
  refine lv_icmp_ge (tgt := 75) hx hb dW_law_59 (by decide) (fun c_9 => ?_) (fun c_9 => ?_)
  · exact absurd c_9 (by decide)
  refine lv_aload hx hb dW_law_62 (lv_at hl 2 rfl) ?_
  refine lv_iload hx hb dW_law_64 (lv_at hl 0 rfl) ?_
  refine lv_bipush (v := 10) hx hb dW_law_66 (by decide) ?_
  refine va_iast hx hb hK hP hD hS 9 0 rfl rfl (by rw [vp_in_iff]; decide) dW_law_68 (fun H locs hP hD hS => ?_)
  have hP : va_P D classes [(x0, .inr (0, [.ref x1, .ref x2, .ref x3, .int 0, .int 0, .int 20, .long 0, .long 0, .long 0])), (x1, .inl (tL, 30, .inr (.inr (.inr (.inr (fun _ => none)))))), (x2, .inl (tI, 6, .inl (upd (upd (upd (upd (upd (upd (fun _ => 0) 0 10) 1 10) 2 10) 3 10) 4 10) 5 10))), (x3, .inl (tI, 10, .inl (fun _ => 0))), (an, .inl (tI, 5, .inl (upd (fun _ => 0) 3 20))), (al, .inl (tI, 60, .inl (fun _ => 0))), (av, .inl (tI, 18, .inl (fun _ => 0))), (ab, .inl (tI, 60, .inl (fun _ => 0))), (aw, .inl (tI, 60, .inl (fun _ => 0))), (ac, .inl (tI, 6, .inl (upd (upd (upd (upd (fun _ => 0) 0 10) 1 10) 2 10) 3 10))), (ae, .inl (tI, 10, .inl (fun _ => 0)))] H := hP
  have hD : va_D (A0 s) [(x0, .inr (0, [.ref x1, .ref x2, .ref x3, .int 0, .int 0, .int 20, .long 0, .long 0, .long 0])), (x1, .inl (tL, 30, .inr (.inr (.inr (.inr (fun _ => none)))))), (x2, .inl (tI, 6, .inl (upd (upd (upd (upd (upd (upd (fun _ => 0) 0 10) 1 10) 2 10) 3 10) 4 10) 5 10))), (x3, .inl (tI, 10, .inl (fun _ => 0))), (an, .inl (tI, 5, .inl (upd (fun _ => 0) 3 20))), (al, .inl (tI, 60, .inl (fun _ => 0))), (av, .inl (tI, 18, .inl (fun _ => 0))), (ab, .inl (tI, 60, .inl (fun _ => 0))), (aw, .inl (tI, 60, .inl (fun _ => 0))), (ac, .inl (tI, 6, .inl (upd (upd (upd (upd (fun _ => 0) 0 10) 1 10) 2 10) 3 10))), (ae, .inl (tI, 10, .inl (fun _ => 0)))] := hD
  refine lv_iinc (v := 4) (lv' := [(9, .int 4), (8, .ref ae), (7, .ref ac), (6, .ref aw), (5, .ref ab), (4, .ref av), (3, .ref al), (2, .ref an), (1, .ref x0), (0, .ref b)]) hx hb dW_law_69 hl (k := 0) rfl (by decide) (by decide) rfl (fun ls hl => ?_)
  refine lv_goto (tgt := 55) hx hb dW_law_72 (by decide) ?_
  refine lv_iload hx hb dW_law_55 (lv_at hl 0 rfl) ?_
  refine lv_bipush (v := 6) hx hb dW_law_57 (by decide) ?_
  refine lv_icmp_ge (tgt := 75) hx hb dW_law_59 (by decide) (fun c_9 => ?_) (fun c_9 => ?_)
  · exact absurd c_9 (by decide)
  refine lv_aload hx hb dW_law_62 (lv_at hl 2 rfl) ?_
  refine lv_iload hx hb dW_law_64 (lv_at hl 0 rfl) ?_
  refine lv_bipush (v := 10) hx hb dW_law_66 (by decide) ?_
  refine va_iast hx hb hK hP hD hS 9 0 rfl rfl (by rw [vp_in_iff]; decide) dW_law_68 (fun H locs hP hD hS => ?_)
  have hP : va_P D classes [(x0, .inr (0, [.ref x1, .ref x2, .ref x3, .int 0, .int 0, .int 20, .long 0, .long 0, .long 0])), (x1, .inl (tL, 30, .inr (.inr (.inr (.inr (fun _ => none)))))), (x2, .inl (tI, 6, .inl (upd (upd (upd (upd (upd (upd (fun _ => 0) 0 10) 1 10) 2 10) 3 10) 4 10) 5 10))), (x3, .inl (tI, 10, .inl (fun _ => 0))), (an, .inl (tI, 5, .inl (upd (fun _ => 0) 3 20))), (al, .inl (tI, 60, .inl (fun _ => 0))), (av, .inl (tI, 18, .inl (fun _ => 0))), (ab, .inl (tI, 60, .inl (fun _ => 0))), (aw, .inl (tI, 60, .inl (fun _ => 0))), (ac, .inl (tI, 6, .inl (upd (upd (upd (upd (upd (fun _ => 0) 0 10) 1 10) 2 10) 3 10) 4 10))), (ae, .inl (tI, 10, .inl (fun _ => 0)))] H := hP
  have hD : va_D (A0 s) [(x0, .inr (0, [.ref x1, .ref x2, .ref x3, .int 0, .int 0, .int 20, .long 0, .long 0, .long 0])), (x1, .inl (tL, 30, .inr (.inr (.inr (.inr (fun _ => none)))))), (x2, .inl (tI, 6, .inl (upd (upd (upd (upd (upd (upd (fun _ => 0) 0 10) 1 10) 2 10) 3 10) 4 10) 5 10))), (x3, .inl (tI, 10, .inl (fun _ => 0))), (an, .inl (tI, 5, .inl (upd (fun _ => 0) 3 20))), (al, .inl (tI, 60, .inl (fun _ => 0))), (av, .inl (tI, 18, .inl (fun _ => 0))), (ab, .inl (tI, 60, .inl (fun _ => 0))), (aw, .inl (tI, 60, .inl (fun _ => 0))), (ac, .inl (tI, 6, .inl (upd (upd (upd (upd (upd (fun _ => 0) 0 10) 1 10) 2 10) 3 10) 4 10))), (ae, .inl (tI, 10, .inl (fun _ => 0)))] := hD
  refine lv_iinc (v := 5) (lv' := [(9, .int 5), (8, .ref ae), (7, .ref ac), (6, .ref aw), (5, .ref ab), (4, .ref av), (3, .ref al), (2, .ref an), (1, .ref x0), (0, .ref b)]) hx hb dW_law_69 hl (k := 0) rfl (by decide) (by decide) rfl (fun ls hl => ?_)
  refine lv_goto (tgt := 55) hx hb dW_law_72 (by decide) ?_
  refine lv_iload hx hb dW_law_55 (lv_at hl 0 rfl) ?_
  refine lv_bipush (v := 6) hx hb dW_law_57 (by decide) ?_
  refine lv_icmp_ge (tgt := 75) hx hb dW_law_59 (by decide) (fun c_9 => ?_) (fun c_9 => ?_)
  · exact absurd c_9 (by decide)
  refine lv_aload hx hb dW_law_62 (lv_at hl 2 rfl) ?_
  refine lv_iload hx hb dW_law_64 (lv_at hl 0 rfl) ?_
  refine lv_bipush (v := 10) hx hb dW_law_66 (by decide) ?_
  refine va_iast hx hb hK hP hD hS 9 0 rfl rfl (by rw [vp_in_iff]; decide) dW_law_68 (fun H locs hP hD hS => ?_)
  have hP : va_P D classes [(x0, .inr (0, [.ref x1, .ref x2, .ref x3, .int 0, .int 0, .int 20, .long 0, .long 0, .long 0])), (x1, .inl (tL, 30, .inr (.inr (.inr (.inr (fun _ => none)))))), (x2, .inl (tI, 6, .inl (upd (upd (upd (upd (upd (upd (fun _ => 0) 0 10) 1 10) 2 10) 3 10) 4 10) 5 10))), (x3, .inl (tI, 10, .inl (fun _ => 0))), (an, .inl (tI, 5, .inl (upd (fun _ => 0) 3 20))), (al, .inl (tI, 60, .inl (fun _ => 0))), (av, .inl (tI, 18, .inl (fun _ => 0))), (ab, .inl (tI, 60, .inl (fun _ => 0))), (aw, .inl (tI, 60, .inl (fun _ => 0))), (ac, .inl (tI, 6, .inl (upd (upd (upd (upd (upd (upd (fun _ => 0) 0 10) 1 10) 2 10) 3 10) 4 10) 5 10))), (ae, .inl (tI, 10, .inl (fun _ => 0)))] H := hP
  have hD : va_D (A0 s) [(x0, .inr (0, [.ref x1, .ref x2, .ref x3, .int 0, .int 0, .int 20, .long 0, .long 0, .long 0])), (x1, .inl (tL, 30, .inr (.inr (.inr (.inr (fun _ => none)))))), (x2, .inl (tI, 6, .inl (upd (upd (upd (upd (upd (upd (fun _ => 0) 0 10) 1 10) 2 10) 3 10) 4 10) 5 10))), (x3, .inl (tI, 10, .inl (fun _ => 0))), (an, .inl (tI, 5, .inl (upd (fun _ => 0) 3 20))), (al, .inl (tI, 60, .inl (fun _ => 0))), (av, .inl (tI, 18, .inl (fun _ => 0))), (ab, .inl (tI, 60, .inl (fun _ => 0))), (aw, .inl (tI, 60, .inl (fun _ => 0))), (ac, .inl (tI, 6, .inl (upd (upd (upd (upd (upd (upd (fun _ => 0) 0 10) 1 10) 2 10) 3 10) 4 10) 5 10))), (ae, .inl (tI, 10, .inl (fun _ => 0)))] := hD
  refine lv_iinc (v := 6) (lv' := [(9, .int 6), (8, .ref ae), (7, .ref ac), (6, .ref aw), (5, .ref ab), (4, .ref av), (3, .ref al), (2, .ref an), (1, .ref x0), (0, .ref b)]) hx hb dW_law_69 hl (k := 0) rfl (by decide) (by decide) rfl (fun ls hl => ?_)
  refine lv_goto (tgt := 55) hx hb dW_law_72 (by decide) ?_
  refine lv_iload hx hb dW_law_55 (lv_at hl 0 rfl) ?_
  refine lv_bipush (v := 6) hx hb dW_law_57 (by decide) ?_
  refine lv_icmp_ge (tgt := 75) hx hb dW_law_59 (by decide) (fun c_9 => ?_) (fun c_9 => ?_)
  rotate_left
  · exact absurd (by decide) c_9
  obtain ⟨ad, ead⟩ : ∃ ad : Nat → Nat, ad = fun k => ([x0, x1, x2, x3, an, al, av, ab, aw, ac, ae] : List Nat).getD k 0 := ⟨_, rfl⟩
  have hP2 : va_P D classes (wv (fun k => ([x0, x1, x2, x3, an, al, av, ab, aw, ac, ae] : List Nat).getD k 0) tI tJ tL 0 sL0 sA0) H := hP.sub [0, 1, 2, 3, 4, 5, 6, 7, 8, 9, 10] rfl
  have hD2 : va_D (A0 s) (wv (fun k => ([x0, x1, x2, x3, an, al, av, ab, aw, ac, ae] : List Nat).getD k 0) tI tJ tL 0 sL0 sA0) := hD.sub [0, 1, 2, 3, 4, 5, 6, 7, 8, 9, 10] (by decide) rfl
  rw [← ead] at hP2 hD2
  have hG : GW D tI tJ tL (A0 s) ad 0 sL0 sA0 H := ⟨hP2, hD2⟩
  replace hl : lv_has ls 22 [(9, .int 6), (8, .ref (ad 10)), (7, .ref (ad 9)), (6, .ref (ad 8)), (5, .ref (ad 7)), (4, .ref (ad 6)), (3, .ref (ad 5)), (2, .ref (ad 4)), (1, .ref (ad 0)), (0, .ref b)] := by rw [ead]; exact hl
  clear hP hD hP2 hD2
  refine lv_aload_n hx hb dW_law_75 rfl (lv_at hl 8 rfl) ?_
  refine lv_aload_n hx hb dW_law_76 rfl (lv_at hl 7 rfl) ?_
  refine lv_aload_n hx hb dW_law_77 rfl (lv_at hl 6 rfl) ?_
  refine lv_aload hx hb dW_law_78 (lv_at hl 5 rfl) ?_
  refine lv_aload hx hb dW_law_80 (lv_at hl 4 rfl) ?_
  refine lv_aload hx hb dW_law_82 (lv_at hl 1 rfl) ?_
  refine lv_iconst (v := nI 5) hx hb dW_law_84 (by decide) ?_
  refine rcSH (rest := []) (As := [.ref (ad 0), .ref (ad 4), .ref (ad 5), .ref (ad 6), .ref (ad 7), .ref (ad 10), .int (nI 5)]) hx hb hml hown hts hC hG hS (cW_isHouse l hl9 D tI tJ tL (A0 s) sg ad 0 sL0 sA0 0 INV0 5 (by omega)) (gS q_410 q_411 q_0 q_412) rfl rfl ⟨rfl, hdyW_isHouse⟩ ⟨Nat.le_of_ble_eq_true rfl, Nat.le_of_ble_eq_true rfl⟩ hl.1 rfl (Nat.le_of_ble_eq_true rfl) dW_law_85 ⟨Nat.le_of_ble_eq_true rfl, Nat.le_of_ble_eq_true rfl⟩ (fun H locs hG hS => ?_)
  refine lv_istore (lv' := [(9, .int 1), (8, .ref (ad 10)), (7, .ref (ad 9)), (6, .ref (ad 8)), (5, .ref (ad 7)), (4, .ref (ad 6)), (3, .ref (ad 5)), (2, .ref (ad 4)), (1, .ref (ad 0)), (0, .ref b)]) hx hb dW_law_88 hl (by decide) rfl (fun ls hl => ?_)
  refine lv_iconst (v := nI 0) hx hb dW_law_90 (by decide) ?_
  refine lv_istore (lv' := [(10, .int (nI 0)), (9, .int 1), (8, .ref (ad 10)), (7, .ref (ad 9)), (6, .ref (ad 8)), (5, .ref (ad 7)), (4, .ref (ad 6)), (3, .ref (ad 5)), (2, .ref (ad 4)), (1, .ref (ad 0)), (0, .ref b)]) hx hb dW_law_91 hl (by decide) rfl (fun ls hl => ?_)
  refine W.widen (k := 200 + 120 * 0) (n := 2000 + 650 * 0) (Nat.le_of_ble_eq_true rfl) (Nat.le_of_ble_eq_true rfl) ?_
  exact law_loop hl9 hL hx hb hr hml hlocks hown hts hX hbl hC 131 0 rfl (by omega) ad 0 sL0 sA0 H locs ls INV0 (Or.inr rfl) hG hS hl
