theorem up2_hit {f : NA} {a k : Nat} {v : Int32} : up2 f a k v a k = v := up2_same
theorem up2_miss {f : NA} {a k : Nat} {v : Int32} {x y : Nat} (h : x ≠ a ∨ y ≠ k) : up2 f a k v x y = f x y := by
  by_cases hx : x = a
  · subst hx
    rw [up2_row]
    rcases h with h | h
    · exact absurd rfl h
    · exact pk_un h
  · rw [up2_ne hx]
theorem up2_rmiss {f : NA} {a k : Nat} {v : Int32} {x : Nat} (h : x ≠ a) : up2 f a k v x = f x := up2_ne h
theorem up2L_hit {f : NL} {a k : Nat} {v : Int64} : up2L f a k v a k = v := by rw [up2L_row]; exact pk_uLs
theorem up2L_miss {f : NL} {a k : Nat} {v : Int64} {x y : Nat} (h : x ≠ a ∨ y ≠ k) : up2L f a k v x y = f x y := by
  by_cases hx : x = a
  · subst hx
    rw [up2L_row]
    rcases h with h | h
    · exact absurd rfl h
    · exact pk_uLn h
  · rw [up2L_ne hx]
theorem up2L_rmiss {f : NL} {a k : Nat} {v : Int64} {x : Nat} (h : x ≠ a) : up2L f a k v x = f x := up2L_ne h
theorem isW_1 {a b c : Int32} (h1 : b ≤ a) (h2 : a ≤ c) : fM_isWithin a b c = 1 := by
  unfold fM_isWithin
  rw [if_neg (by rw [Int32.not_lt]; exact h1), if_neg (by rw [Int32.not_lt]; exact h2)]
theorem rng_chk (p a b : Int32) : (fX_checkRange p a b = 0 ∧ fM_isWithin p a b = 1 ∧ a ≤ p ∧ p ≤ b) ∨ (fX_checkRange p a b = 2 ∧ fM_isWithin p a b = 0) := by
  unfold fX_checkRange fM_isWithin
  by_cases h1 : p < a
  · exact Or.inr ⟨if_pos h1, if_pos h1⟩
  · rw [if_neg h1, if_neg h1]
    by_cases h2 : p ≤ b
    · refine Or.inl ⟨if_pos h2, if_neg (by rw [Int32.not_lt]; exact h2), by rw [← Int32.not_lt]; exact h1, h2⟩
    · exact Or.inr ⟨if_neg h2, if_pos (by rw [← Int32.not_le]; exact h2)⟩
theorem vin_ltM {x M : Int32} {N : Nat} (hN : N < 2 ^ 31) (hM : M = nI N) (h : vp_in x N) : ¬ x < 0 ∧ x < M := by
  have h1 := vin_nat h
  have e := vin_eq h
  exact ⟨fun q => h (Or.inl q), by rw [e, hM, nI_ltI (by omega) (by omega)]; exact h1⟩
theorem sel_chk (p : Int32) : (fX_checkSeller p = 0 ∧ fM_isWithin p 0 5 = 1 ∧ vp_in p 6) ∨ (fX_checkSeller p = 1 ∧ fM_isWithin p 0 5 = 0) := by
  by_cases h : fM_isWithin p 0 5 = 0
  · refine Or.inr ⟨?_, h⟩
    unfold fX_checkSeller
    by_cases h1 : p < 0
    · exact if_pos h1
    · rw [if_neg h1]
      by_cases h2 : p < 6
      · exfalso
        have hv : vp_in p 6 := vin_a (M := 6) (by decide) (by decide) h1 (by rw [Int32.not_le]; exact h2)
        have e := vin_eq hv
        have hn := vin_nat hv
        rw [isW_1 (by rw [← Int32.not_lt]; exact h1) (by rw [e, show (5 : Int32) = nI 5 from rfl, nI_leI (by omega) (by omega)]; omega)] at h
        exact absurd h (by decide)
      · exact if_neg h2
  · have hv := vin_w5 h
    have hn := vin_nat hv
    have e := vin_eq hv
    refine Or.inl ⟨?_, ?_, hv⟩
    · unfold fX_checkSeller
      rw [if_neg (fun q => hv (Or.inl q)), if_pos (by rw [e, show (6 : Int32) = nI 6 from rfl, nI_ltI (by omega) (by omega)]; exact hn)]
    · rcases isWithin01 p 0 5 with q | q
      · exact absurd q h
      · exact q
theorem buyer_of9 {x : Int32} (h : vp_in x 10) : fX_checkBuyer x = 0 := by
  obtain ⟨h1, h2⟩ := vin_ltM (M := 10) (N := 10) (by omega) rfl h
  unfold fX_checkBuyer
  rw [if_neg h1, if_pos h2]
theorem buy_chk (p : Int32) : (fX_checkBuyer p = 0 ∧ fM_isBuyer p = 1 ∧ vp_in p 10) ∨ (fX_checkBuyer p = 1 ∧ fM_isBuyer p = 0) := by
  by_cases h : fM_isBuyer p = 0
  · refine Or.inr ⟨?_, h⟩
    unfold fX_checkBuyer
    by_cases h1 : p < 0
    · exact if_pos h1
    · rw [if_neg h1]
      by_cases h2 : p < 10
      · exfalso
        have hv : vp_in p 10 := vin_a (M := 10) (by decide) (by decide) h1 (by rw [Int32.not_le]; exact h2)
        have e := vin_eq hv
        have hn := vin_nat hv
        rw [fM_isBuyer, isW_1 (by rw [← Int32.not_lt]; exact h1) (by rw [e, show (9 : Int32) = nI 9 from rfl, nI_leI (by omega) (by omega)]; omega)] at h
        exact absurd h (by decide)
      · exact if_neg h2
  · have hv := vin_buyerM h
    refine Or.inl ⟨buyer_of9 hv, ?_, hv⟩
    rcases isWithin01 p 0 9 with q | q
    · exact absurd q h
    · exact q
theorem lot_chk {n : Nat} (hn : n ≤ 30) {sL : NL} {sA : NA} (h0 : sA 5 0 = nI n) (p : Int32) : (∃ i, i < n ∧ p = nI i ∧ fX_findLot n p = some i ∧ fM_isLot sL sA p = 1) ∨ (fX_findLot n p = none ∧ fM_isLot sL sA p = 0) := by
  by_cases h : fM_isLot sL sA p = 0
  · refine Or.inr ⟨?_, h⟩
    unfold fX_findLot
    by_cases h1 : p < 0
    · exact if_pos h1
    rw [if_neg h1]
    by_cases h2 : 30 ≤ p
    · exact if_pos h2
    rw [if_neg h2]
    by_cases h3 : p.toNatClampNeg < n
    · exfalso
      rw [fM_isLot, isW_1 (by rw [← Int32.not_lt]; exact h1) ?_] at h
      · exact absurd h (by decide)
      · have e := nI_self h1
        rw [e, h0, Int32.le_iff_toInt_le, nm1 hn, nI_toInt (by omega)]
        omega
    · exact if_neg h3
  · obtain ⟨hv, hl⟩ := vin_lot hn h0 h
    refine Or.inl ⟨p.toNatClampNeg, hl, vin_eq hv, ?_, ?_⟩
    · unfold fX_findLot
      have e := vin_eq hv
      rw [if_neg (fun q => hv (Or.inl q)), if_neg ?_, if_pos hl]
      intro q
      have hn2 := vin_nat hv
      rw [e, show (30 : Int32) = nI 30 from rfl, nI_leI (by omega) (by omega)] at q
      omega
    · rcases isWithin01 p 0 (sA 5 0 - 1) with q | q
      · exact absurd q h
      · exact q
theorem step_pos (p : Int32) : ¬ fX_stepOf p ≤ 0 := by
  unfold fX_stepOf
  split
  · split
    · split <;> decide
    · decide
  · decide
theorem called_at (p : Int32) : fX_calledAmount p = p / fX_stepOf p * fX_stepOf p := if_neg (step_pos p)
theorem call_eq (p : Int32) : fX_calledAmount p = fM_call p := by
  rw [called_at]
  show p / fM_step p * fM_step p = p - (p - p / fM_step p * fM_step p)
  generalize p / fM_step p * fM_step p = q
  rw [← Int32.toBitVec_inj, Int32.toBitVec_sub, Int32.toBitVec_sub]
  apply BitVec.eq_of_toNat_eq
  rw [BitVec.toNat_sub, BitVec.toNat_sub]
  have h1 := p.toBitVec.isLt
  have h2 := q.toBitVec.isLt
  omega
/-! frames -/
def FR (sA sA2 : NA) (k : Nat) : Prop := (∀ r, r < 4 → sA2 (4 * k + 22 + r) = sA (4 * k + 22 + r)) ∧ (∀ x, 6 ≤ x → x < 20 → x ≠ 13 → x ≠ 14 → sA2 x k = sA x k) ∧ ∀ b, b < 10 → sA2 13 (10 * k + b) = sA 13 (10 * k + b) ∧ sA2 14 (10 * k + b) = sA 14 (10 * k + b)
theorem FR.refl {sA : NA} {k : Nat} : FR sA sA k := ⟨fun _ _ => rfl, fun _ _ _ _ _ => rfl, fun _ _ => ⟨rfl, rfl⟩⟩
theorem FR.up {sA s1 : NA} {k c j : Nat} {v : Int32} (h : FR sA s1 k) (hc : c < 6 ∨ c = 20 ∨ c = 21 ∨ (22 ≤ c ∧ (c < 4 * k + 22 ∨ 4 * k + 26 ≤ c)) ∨ (6 ≤ c ∧ c < 20 ∧ c ≠ 13 ∧ c ≠ 14 ∧ j ≠ k) ∨ ((c = 13 ∨ c = 14) ∧ (j < 10 * k ∨ 10 * k + 10 ≤ j))) : FR sA (up2 s1 c j v) k := by
  refine ⟨fun r hr => ?_, fun x h1 h2 h3 h4 => ?_, fun b hb => ⟨?_, ?_⟩⟩
  · rw [up2_rmiss (by omega)]; exact h.1 r hr
  · rw [up2_miss (by omega)]; exact h.2.1 x h1 h2 h3 h4
  · rw [up2_miss (by omega)]; exact (h.2.2 b hb).1
  · rw [up2_miss (by omega)]; exact (h.2.2 b hb).2
theorem SI.fr {sA sA2 : NA} {k : Nat} (h : SI sA k) (f : FR sA sA2 k) : SI sA2 k := by
  unfold SI at h ⊢
  have r : sA2 (4 * k + 22) = sA (4 * k + 22) := f.1 0 (by omega)
  rw [r, f.2.1 6 (by omega) (by omega) (by omega) (by omega), f.2.1 7 (by omega) (by omega) (by omega) (by omega), f.2.1 8 (by omega) (by omega) (by omega) (by omega), f.2.1 9 (by omega) (by omega) (by omega) (by omega), f.2.1 10 (by omega) (by omega) (by omega) (by omega), f.2.1 11 (by omega) (by omega) (by omega) (by omega), f.2.1 12 (by omega) (by omega) (by omega) (by omega), f.2.1 15 (by omega) (by omega) (by omega) (by omega), f.2.1 16 (by omega) (by omega) (by omega) (by omega), f.2.1 17 (by omega) (by omega) (by omega) (by omega), f.2.1 18 (by omega) (by omega) (by omega) (by omega), f.2.1 19 (by omega) (by omega) (by omega) (by omega)]
  exact h
theorem BX.fr {lm lm2 : Nat} {cnt : Int32} {rb ra bid left bid2 left2 : Nat → Int32} {c : Nat} {bs la : Nat → Nat} (h : BX lm cnt rb ra bid left c bs la) (hl : lm ≤ lm2) (hb : ∀ b, b < 10 → bid2 b = bid b ∧ left2 b = left b) : BX lm2 cnt rb ra bid2 left2 c bs la := by
  obtain ⟨h1, h2, h3, h4, h5⟩ := h
  refine ⟨h1, h2, fun j hj => ?_, h4, fun b hb2 hn => ?_⟩
  · obtain ⟨a1, a2, a3, a4, a5, a6⟩ := h3 j hj
    exact ⟨a1, a2, a3, by rw [(hb _ a1).1]; exact a4, by omega, by rw [(hb _ a1).2]; exact a6⟩
  · rw [(hb b hb2).1]; exact h5 b hb2 hn
theorem BI.fr {lm lm2 : Nat} {sA sA2 : NA} {k : Nat} (h : BI lm sA k) (hl : lm ≤ lm2) (f : FR sA sA2 k) : BI lm2 sA2 k := by
  obtain ⟨c, bs, la, h⟩ := h
  have r1 : sA2 (4 * k + 23) = sA (4 * k + 23) := f.1 1 (by omega)
  have r2 : sA2 (4 * k + 24) = sA (4 * k + 24) := f.1 2 (by omega)
  have r3 : sA2 (4 * k + 25) = sA (4 * k + 25) := f.1 3 (by omega)
  refine ⟨c, bs, la, ?_⟩
  rw [r1, r2, r3]
  exact h.fr hl f.2.2
/-- all lots but one as before -/
theorem lots_fr {n lm lm2 : Nat} {sA sA2 : NA} (h : ∀ k, k < n → SI sA k ∧ BI lm sA k) (hl : lm ≤ lm2) (i : Nat) (hS : SI sA2 i) (hB : BI lm2 sA2 i) (hf : ∀ k, k < n → k ≠ i → FR sA sA2 k) : ∀ k, k < n → SI sA2 k ∧ BI lm2 sA2 k := by
  intro k hk
  by_cases e : k = i
  · rw [e]; exact ⟨hS, hB⟩
  · exact ⟨(h k hk).1.fr (hf k hk e), (h k hk).2.fr hl (hf k hk e)⟩
theorem ZN.fr {n : Nat} {sA sA2 : NA} (h : ZN n sA) (f : ∀ k, n ≤ k → FR sA sA2 k) : ZN n sA2 := fun i h1 x h3 h4 => by rw [(f i h1).2.1 x (by omega) (by omega) (by omega) (by omega)]; exact h i h1 x h3 h4
theorem INV.mp {n K : Nat} {sL : NL} {sA : NA} (h : INV n K sL sA) : MP n sA := by
  obtain ⟨⟨h1, -, h2⟩, -, -, -, -, lm, -, -, hl, -⟩ := h
  exact ⟨h1, h2, fun a ha => (hl a ha).1.2.2.2.2.2.1.2, fun a ha => (hl a ha).1.1.2⟩
/-- nothing but thrown and out -/
theorem INV.fr {n K K2 : Nat} {sL sL2 : NL} {sA sA2 : NA} (h : INV n K sL sA) (hK : K ≤ K2) (hL : ∀ x, x = 0 ∨ x = 5 → sL2 x = sL x) (hA : ∀ x, x ≠ 5 → sA2 x = sA x) (h5 : ∀ k, k ≠ 23 → sA2 5 k = sA 5 k) : INV n K2 sL2 sA2 := by
  obtain ⟨h1, h2, h3, h4, h5', lm, h6, h7, h8, h9⟩ := h
  unfold INV
  rw [hL 0 (Or.inl rfl), hL 5 (Or.inr rfl), hA 0 (by omega), hA 2 (by omega), hA 21 (by omega), hA 3 (by omega), hA 20 (by omega), h5 0 (by omega), h5 19 (by omega), h5 18 (by omega), h5 10 (by omega)]
  have f : ∀ k, FR sA sA2 k := fun k => ⟨fun r hr => hA _ (by omega), fun x a1 a2 _ _ => by rw [hA x (by omega)], fun b hb => ⟨by rw [hA 13 (by omega)], by rw [hA 14 (by omega)]⟩⟩
  exact ⟨h1, h2, h3, h4, h5', lm, by omega, h7, fun k hk => ⟨(h8 k hk).1.fr (f k), (h8 k hk).2.fr (Nat.le_refl _) (f k)⟩, h9.fr (fun k _ => f k)⟩
theorem INV.thr {n K : Nat} {sL : NL} {sA : NA} (h : INV n K sL sA) (v : Int32) : INV n (K + 1) sL (up2 sA 5 23 v) := h.fr (by omega) (fun _ _ => rfl) (fun x hx => up2_rmiss hx) (fun k hk => up2_miss (Or.inr hk))
theorem INV.thrO {n K : Nat} {sL : NL} {sA : NA} (h : INV n K sL sA) (v : Int32) (w : Int64) : INV n (K + 1) (up2L sL 4 0 w) (up2 sA 5 23 v) := h.fr (by omega) (fun x hx => up2L_rmiss (by omega)) (fun x hx => up2_rmiss hx) (fun k hk => up2_miss (Or.inr hk))
