theorem add_sub64 {x a b : Int64} : x + (a - b) = x + a - b := by
  rw [← Int64.toBitVec_inj, Int64.toBitVec_sub, Int64.toBitVec_add, Int64.toBitVec_add, Int64.toBitVec_sub]
  apply BitVec.eq_of_toNat_eq
  rw [BitVec.toNat_sub, BitVec.toNat_add, BitVec.toNat_add, BitVec.toNat_sub]
  have h1 := x.toBitVec.isLt
  have h2 := a.toBitVec.isLt
  have h3 := b.toBitVec.isLt
  omega
theorem sub64 {a b : Int32} (ha : P6 a) (hb : P6 b) : (a - b).toInt64 = a.toInt64 - b.toInt64 := by
  obtain ⟨k, hk, rfl⟩ := ha
  obtain ⟨j, hj, rfl⟩ := hb
  rw [← Int64.toInt_inj, Int32.toInt_toInt64, pk_sub_toInt (by omega) (by omega), Int64.toInt_sub, Int32.toInt_toInt64, Int32.toInt_toInt64, nI_toInt (by omega), nI_toInt (by omega), Int.bmod_def]
  split <;> omega
theorem P6_0 : P6 0 := ⟨0, by omega, rfl⟩
theorem heldX_end {n : Nat} {sL : NL} {sA : NA} : ∀ (f j : Nat) (x : Int64), j + f = 31 → n ≤ j → j ≤ 30 → lX_held n sL sA f j x = x := by
  intro f
  induction f with
  | zero => intro j x h1 h2 h3; omega
  | succ f ih =>
    intro j x h1 h2 h3
    have c30 : (30 : Int32) ≤ nI j ↔ 30 ≤ j := nI_leI (a := 30) (by omega) (by omega)
    rw [lX_held]
    by_cases g : 30 ≤ j
    · rw [if_pos (c30.2 g)]
    · rw [if_neg (fun q => g (c30.1 q)), if_neg (by omega)]
      exact ih (j + 1) x (by omega) (by omega) (by omega)
theorem held_lp {n K : Nat} {sL : NL} {sA : NA} (h : INV n K sL sA) : ∀ (f j : Nat) (x : Int64), j + f = 31 → j ≤ n → lM_held sL sA f j x = (lX_held n sL sA f j x, sL, up2 sA 5 23 0) := by
  have hn := h.1.1
  have h0 := h.1.2.2
  intro f
  induction f with
  | zero => intro j x h1 h2; omega
  | succ f ih =>
    intro j x h1 h2
    have cn : sA 5 0 ≤ nI j ↔ n ≤ j := by rw [h0]; exact nI_leI (by omega) (by omega)
    have c30 : (30 : Int32) ≤ nI j ↔ 30 ≤ j := nI_leI (a := 30) (by omega) (by omega)
    by_cases g : n ≤ j
    · rw [heldX_end (f + 1) j x h1 g (by omega), lM_held, if_pos (cn.2 g)]
    · have eX : lX_held n sL sA (f + 1) j x = lX_held n sL sA f (j + 1) (x + (fL_heldForIt sL sA j).toInt64) := by
        rw [lX_held, if_neg (fun q => g (by have := c30.1 q; omega)), if_pos (show j < n by omega)]
      rw [eX, lM_held, if_neg (fun q => g (cn.1 q))]
      obtain ⟨-, -, -, ⟨v5, v6⟩, v7, -, -, ⟨v10, v11⟩, -, -⟩ := h.si (show j < n by omega)
      rw [fL_heldForIt, v5, v10]
      by_cases s3 : sA 9 j = 3
      · obtain ⟨-, -, -, w3, w4, -⟩ := v7.resolve_right (fun q => q.1 (by rw [s3]; decide))
        have s4 : ¬ sA 9 j = 4 := by rw [s3]; decide
        rw [if_pos s3, if_neg s4, if_neg s4, if_pos s3, w3, sub64 w4 v11, add_sub64]
        exact ih (j + 1) _ (by omega) (by omega)
      · rw [if_neg s3]
        by_cases s4 : sA 9 j = 4
        · rw [if_pos s4, if_pos s4, show x + (0 : Int32).toInt64 = x + 0 - 0 by rw [Int64.sub_zero]; rfl]
          exact ih (j + 1) _ (by omega) (by omega)
        · rw [if_neg s4, if_neg s4, if_neg s3, sub64 P6_0 v11, add_sub64]
          exact ih (j + 1) _ (by omega) (by omega)
theorem E_heldByLots {n K : Nat} {sL : NL} {sA : NA} (h : INV n K sL sA) : MP n sA ∧ fX_heldByLots n sL sA = (fM_heldByLots sL sA).1 ∧ INV n (K + 1) (fM_heldByLots sL sA).2.1 (fM_heldByLots sL sA).2.2 := by
  rw [fM_heldByLots, held_lp h 31 0 0 rfl (Nat.zero_le _)]
  exact ⟨h.mp, rfl, h.thr 0⟩
