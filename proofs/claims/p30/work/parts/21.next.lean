def stepN (k : Nat) : Nat := if k < 1000 then 50 else if k < 5000 then 100 else if k < 20000 then 500 else 1000
def callN (k : Nat) : Nat := k / stepN k * stepN k
theorem stepX_n {k : Nat} (hk : k < 2 ^ 31) : fX_stepOf (nI k) = nI (stepN k) := by
  have g1 : (1000 : Int32) ≤ nI k ↔ 1000 ≤ k := nI_leI (a := 1000) (by omega) hk
  have g2 : (5000 : Int32) ≤ nI k ↔ 5000 ≤ k := nI_leI (a := 5000) (by omega) hk
  have g3 : (20000 : Int32) ≤ nI k ↔ 20000 ≤ k := nI_leI (a := 20000) (by omega) hk
  unfold fX_stepOf stepN
  by_cases q1 : k < 1000
  · rw [if_neg (fun q => absurd (g1.1 q) (by omega)), if_pos q1]; rfl
  rw [if_pos (g1.2 (by omega)), if_neg q1]
  by_cases q2 : k < 5000
  · rw [if_neg (fun q => absurd (g2.1 q) (by omega)), if_pos q2]; rfl
  rw [if_pos (g2.2 (by omega)), if_neg q2]
  by_cases q3 : k < 20000
  · rw [if_neg (fun q => absurd (g3.1 q) (by omega)), if_pos q3]; rfl
  rw [if_pos (g3.2 (by omega)), if_neg q3]; rfl
theorem stepN_b (k : Nat) : 50 ≤ stepN k ∧ stepN k ≤ 1000 := by
  unfold stepN
  repeat' split
  all_goals omega
theorem callN_le (k : Nat) : callN k ≤ k := Nat.div_mul_le_self k (stepN k)
theorem callX_n {k : Nat} (hk : k < 2 ^ 30) : fX_calledAmount (nI k) = nI (callN k) := by
  have hs := stepN_b k
  have h2 : k / stepN k ≤ k := Nat.div_le_self _ _
  unfold fX_calledAmount
  rw [stepX_n (by omega), if_neg (show ¬ nI (stepN k) ≤ (0 : Int32) from fun q => absurd ((nI_leI (b := 0) (by omega) (by omega)).1 q) (by omega)), pk_div (by omega) (by omega) (by omega), pk_mul]
  rfl
theorem cT_n {p e : Nat} (hp : p < 2 ^ 30) (he : e < 2 ^ 30) : cT (nI p) (nI e) = nI (min p e) := by
  unfold cT
  by_cases h : e ≤ p
  · rw [if_pos ((nI_leI (by omega) (by omega)).2 h), Nat.min_eq_right h]
  · rw [if_neg (fun q => h ((nI_leI (by omega) (by omega)).1 q)), Nat.min_eq_left (by omega)]
theorem cB_n {p i e s : Nat} (hp : p < 2 ^ 30) (hi : i < 2 ^ 30) (he : e < 2 ^ 30) (h0 : 0 < s) (hs : s < 2 ^ 30) : cB (nI p) (nI i) (nI e) (nI s) = nI (i + (min p e - i) / s * s) := by
  unfold cB
  rw [cT_n hp he]
  by_cases h : min p e ≤ i
  · rw [if_pos ((nI_leI (by omega) (by omega)).2 h), show min p e - i = 0 by omega, Nat.zero_div, Nat.zero_mul]
    exact nI_add i 0
  · rw [if_neg (fun q => h ((nI_leI (by omega) (by omega)).1 q)), pk_sub (by omega), pk_div (by omega) h0 (by omega), pk_mul, nI_add]
theorem callW_n {k : Nat} (hk : k ≤ 2000000) : fW_call (nI k) = nI (callN k) := by
  show cB (nI k) (cB (nI k) (cB (nI k) (cB (nI k) (nI 0) (nI 1000) (nI 50)) (nI 5000) (nI 100)) (nI 20000) (nI 500)) (nI 2000000) (nI 1000) = _
  rw [cB_n (by omega) (by omega) (by omega) (by omega) (by omega)]
  obtain ⟨a, ea⟩ : ∃ a, a = 0 + (min k 1000 - 0) / 50 * 50 := ⟨_, rfl⟩
  rw [← ea, cB_n (by omega) (by omega) (by omega) (by omega) (by omega)]
  obtain ⟨b, eb⟩ : ∃ b, b = a + (min k 5000 - a) / 100 * 100 := ⟨_, rfl⟩
  rw [← eb, cB_n (by omega) (by omega) (by omega) (by omega) (by omega)]
  obtain ⟨d, ed⟩ : ∃ d, d = b + (min k 20000 - b) / 500 * 500 := ⟨_, rfl⟩
  rw [← ed, cB_n (by omega) (by omega) (by omega) (by omega) (by omega)]
  refine congrArg nI ?_
  unfold callN stepN
  repeat' split
  all_goals omega
/-- what a called amount is -/
def SS (s : Nat) : Prop := (s < 1000 ∧ s % 50 = 0) ∨ (1000 ≤ s ∧ s < 5000 ∧ s % 100 = 0) ∨ (5000 ≤ s ∧ s < 20000 ∧ s % 500 = 0) ∨ (20000 ≤ s ∧ s % 1000 = 0)
theorem callN_SS (k : Nat) : SS (callN k) := by
  unfold SS callN stepN
  repeat' split
  all_goals omega
theorem callN_id {k : Nat} : callN (callN k) = callN k := by
  unfold callN stepN
  repeat' split
  all_goals omega
theorem nx_no {s j : Nat} (h : SS s) (hj : 50 * (j + 1) < stepN s) : callN (s + 50 + 50 * j) ≠ s + 50 + 50 * j := by
  unfold SS at h
  unfold stepN at hj
  unfold callN stepN
  revert hj
  repeat' split
  all_goals omega
theorem nx_yes {s j : Nat} (h : SS s) (hj : 50 * (j + 1) = stepN s) : callN (s + 50 + 50 * j) = s + 50 + 50 * j := by
  unfold SS at h
  unfold stepN at hj
  unfold callN stepN
  revert hj
  repeat' split
  all_goals omega
/-- a called amount up to a million -/
def PC (x : Int32) : Prop := ∃ k : Nat, k ≤ 1000000 ∧ x = nI (callN k)
theorem PC.nat {x : Int32} (h : PC x) : ∃ s : Nat, s ≤ 1000000 ∧ SS s ∧ x = nI s := by
  obtain ⟨k, hk, rfl⟩ := h
  exact ⟨callN k, Nat.le_trans (callN_le k) hk, callN_SS k, rfl⟩
def fW_next (x : Int32) : Int32 := x + fX_stepOf x
theorem next_n {s : Nat} (hs : s ≤ 1000000) : fW_next (nI s) = nI (s + stepN s) := by
  unfold fW_next
  rw [stepX_n (by omega), nI_add]
theorem hdyW_next : yW_next.cls ≠ "java/lang/invoke/MethodHandle" ∧ yW_next.cls ≠ "java/lang/invoke/VarHandle" ∧ (parseMethodDescriptor yW_next.desc).map (fun d => d.parameters.length) = some 1 := by decide +kernel
theorem dW_next_0 : decode bW_next 0 = .ok (.iload_n 0, 1) := by decide +kernel
theorem dW_next_1 : decode bW_next 1 = .ok (.bipush 50, 2) := by decide +kernel
theorem dW_next_3 : decode bW_next 3 = .ok (.iadd, 1) := by decide +kernel
theorem dW_next_4 : decode bW_next 4 = .ok (.istore_n 1, 1) := by decide +kernel
theorem dW_next_5 : decode bW_next 5 = .ok (.iload_n 1, 1) := by decide +kernel
theorem dW_next_6 : decode bW_next 6 = .ok (.invokestatic 8, 3) := by decide +kernel
theorem dW_next_9 : decode bW_next 9 = .ok (.iload_n 1, 1) := by decide +kernel
theorem dW_next_10 : decode bW_next 10 = .ok (.if_icmp .eq 9, 3) := by decide +kernel
theorem dW_next_13 : decode bW_next 13 = .ok (.iinc 1 50, 3) := by decide +kernel
theorem dW_next_16 : decode bW_next 16 = .ok (.goto (-11), 3) := by decide +kernel
theorem dW_next_19 : decode bW_next 19 = .ok (.iload_n 1, 1) := by decide +kernel
theorem dW_next_20 : decode bW_next 20 = .ok (.ireturn, 1) := by decide +kernel
set_option maxHeartbeats 4000000 in
set_option maxRecDepth 100000 in
theorem cW_next (l : Launch) (D : va_G) (p0 : Int32) (hp : PC p0) : Met l yW_next (Cond.code yW_next bW_next 2 (some FieldType.int) :: wNeed) { frames := 1, cells := 42, slots := 168, locals := 25 } (fun v _ => v = ([.int p0] : List Value).toArray) (va_Qi (fun r (_ : Unit) => r = fW_next p0) (fun _ _ => True) (fun _ => False)) 42 168 (fun _ => False) := by
  refine en_N (av := [.int p0]) (by decide) (Nat.le_of_ble_eq_true rfl) ?_
  intro p e s m below meth c hx hb hml hown hts hr hlocks ls hl
  obtain ⟨S, hS6, hSS, rfl⟩ := hp.nat
  have hst := stepN_b S
  replace hl : lv_has ls 2 [(0, .int (nI S))] := hl
  have hS : va_S (A0 s) s.heap s.heap [] := va_S.rf
  have hloop : ∀ (f j : Nat), 50 * (j + 1) ≤ stepN S → stepN S = 50 * (j + f) → ∀ (H : Heap) (locs : List Loc) (ls : Array Slot) (cells slots : Nat), va_S (A0 s) s.heap H locs → lv_has ls 2 [(1, .int (nI (S + 50 + 50 * j))), (0, .int (nI S))] → cells + 2 * f ≤ 42 → slots + 8 * f ≤ 168 →
      W p l e { frames := 1, cells := 42, slots := 168, locals := 25 } s m #[.int (nI S)] below meth c H locs cells slots (MQ below (va_Qi (fun r (_ : Unit) => r = fW_next (nI S)) (fun _ _ => True) (fun _ => False)) #[.int (nI S)] s 42 168 (fun _ => False)) (F0 m 5 ls []) := by
    intro f
    induction f with
    | zero => intro j h1 h2; omega
    | succ f ih =>
      intro j h1 h2 H locs ls cells slots hS hl hc hs
      refine lv_iload_n hx hb dW_next_5 rfl (lv_at hl 0 rfl) ?_
      refine rcS1c (rest := []) (As := [.int (nI (S + 50 + 50 * j))]) hx hb hml hown hts hS (cW_call l D (nI (S + 50 + 50 * j))) (gS q_148 q_149 q_0 q_150) rfl rfl ⟨rfl, hdyW_call⟩ ⟨Nat.le_of_ble_eq_true rfl, Nat.le_of_ble_eq_true rfl⟩ hl.1 rfl (Nat.le_of_ble_eq_true rfl) dW_next_6 ⟨by show _ ≤ 42; omega, by show _ ≤ 168; omega⟩ (fun H1 locs hk9 hS => ?_)
      rw [callW_n (by omega)]
      refine lv_iload_n hx hb dW_next_9 rfl (lv_at hl 0 rfl) ?_
      have hle := callN_le (S + 50 + 50 * j)
      refine lv_icmp_eq (tgt := 19) hx hb dW_next_10 (by decide) (fun c_1 => ?_) (fun c_1 => ?_)
      · have e1 := (nI_eq (by omega) (by omega)).1 c_1
        have e2 : 50 * (j + 1) = stepN S := by
          rcases Nat.lt_or_ge (50 * (j + 1)) (stepN S) with q | q
          · exact absurd e1 (nx_no hSS q)
          · omega
        refine lv_iload_n hx hb dW_next_19 rfl (lv_at hl 0 rfl) ?_
        refine va_forget (fun q hq => hS.2.2 q hq) ?_
        refine W.widen (k := 42) (n := 168) (by omega) (by omega) ?_
        exact W.iret hx hb hr (fun t ht hW => ⟨⟨_, (), rfl, (by rw [next_n hS6]; exact congrArg nI (by omega)), trivial⟩, no_free hS ht⟩) (fun q h => nomatch h) dW_next_20
      · have e2 : 50 * (j + 1) ≠ stepN S := fun q => c_1 (congrArg nI (nx_yes hSS q))
        refine lv_iinc (v := nI (S + 50 + 50 * (j + 1))) (lv' := [(1, .int (nI (S + 50 + 50 * (j + 1)))), (0, .int (nI S))]) hx hb dW_next_13 hl (k := 0) rfl (by show nI (S + 50 + 50 * j) + nI 50 = _; rw [nI_add]; exact congrArg nI (by omega)) (by decide) rfl (fun ls hl => ?_)
        refine lv_goto (tgt := 5) hx hb dW_next_16 (by decide) ?_
        exact ih (j + 1) (by omega) (by omega) H1 locs ls _ _ hS hl (by omega) (by omega)
  refine lv_iload_n hx hb dW_next_0 rfl (lv_at hl 0 rfl) ?_
  refine lv_bipush (v := 50) hx hb dW_next_1 (by decide) ?_
  refine lv_iadd hx hb dW_next_3 ?_
  rw [show nI S + (50 : Int32) = nI (S + 50 + 50 * 0) from nI_add S 50]
  refine lv_istore_n (lv' := [(1, .int (nI (S + 50 + 50 * 0))), (0, .int (nI S))]) hx hb dW_next_4 rfl hl (by decide) rfl (fun ls hl => ?_)
  exact hloop (stepN S / 50) 0 (by omega) (by unfold stepN; (repeat' split) <;> omega) _ _ ls 0 0 hS hl (by omega) (by omega)
