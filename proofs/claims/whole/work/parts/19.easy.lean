theorem EQ_err {n K : Nat} {sL : NL} {sA : NA} (h : INV n K sL sA) {k r : Int32} (hk : k ≠ 0) : EQ n K (k, sL, sA) (r, sL, up2 sA 5 23 k) := by
  refine ⟨h.mp, ?_, fun q => absurd q hk, h.thr k⟩
  show up2 sA 5 23 k 5 23 = k
  exact up2_hit
theorem EQ_get {n K : Nat} {sL : NL} {sA : NA} (h : INV n K sL sA) {r r' : Int32} (e : r = r') : EQ n K (0, up2L sL 4 0 r.toInt64, sA) (r', up2L sL 4 0 r.toInt64, up2 sA 5 23 0) := by
  refine ⟨h.mp, ?_, fun _ => ?_, h.thrO _ _⟩
  · show up2 sA 5 23 0 5 23 = 0
    exact up2_hit
  · show up2L sL 4 0 r.toInt64 4 0 = r'.toInt64
    rw [up2L_hit, e]
theorem EQ_mk {n K : Nat} {sL1 sL2 : NL} {sA1 sA2 : NA} {r : Int32} (hm : MP n sA1) (ht : sA2 5 23 = 0) (hr : sL2 4 0 = r.toInt64) (hi : INV n (K + 1) sL2 sA2) : EQ n K (0, sL1, sA1) (r, sL2, sA2) := ⟨hm, ht, fun _ => hr, hi⟩
theorem MP.up {n c k : Nat} {v : Int32} {sA : NA} (h : MP n sA) (hc : c ≠ 5 ∧ c ≠ 6 ∧ c ≠ 15) : MP n (up2 sA c k v) := by
  unfold MP
  rw [up2_rmiss (x := 5) (by omega), up2_rmiss (x := 6) (by omega), up2_rmiss (x := 15) (by omega)]
  exact h
def FB (sA sA2 : NA) (k : Nat) : Prop := (∀ r, 1 ≤ r → r < 4 → sA2 (4 * k + 22 + r) = sA (4 * k + 22 + r)) ∧ ∀ b, b < 10 → sA2 13 (10 * k + b) = sA 13 (10 * k + b) ∧ sA2 14 (10 * k + b) = sA 14 (10 * k + b)
theorem FB.refl {sA : NA} {k : Nat} : FB sA sA k := ⟨fun _ _ _ => rfl, fun _ _ => ⟨rfl, rfl⟩⟩
theorem FB.up {sA s1 : NA} {k c j : Nat} {v : Int32} (h : FB sA s1 k) (hc : c < 13 ∨ (15 ≤ c ∧ c < 4 * k + 23) ∨ 4 * k + 26 ≤ c ∨ ((c = 13 ∨ c = 14) ∧ (j < 10 * k ∨ 10 * k + 10 ≤ j))) : FB sA (up2 s1 c j v) k := by
  refine ⟨fun r hr hr2 => ?_, fun b hb => ⟨?_, ?_⟩⟩
  · rw [up2_rmiss (by omega)]; exact h.1 r hr hr2
  · rw [up2_miss (by omega)]; exact (h.2 b hb).1
  · rw [up2_miss (by omega)]; exact (h.2 b hb).2
theorem BI.fb {lm lm2 : Nat} {sA sA2 : NA} {k : Nat} (h : BI lm sA k) (hl : lm ≤ lm2) (f : FB sA sA2 k) : BI lm2 sA2 k := by
  obtain ⟨c, bs, la, h⟩ := h
  have r1 : sA2 (4 * k + 23) = sA (4 * k + 23) := f.1 1 (by omega) (by omega)
  have r2 : sA2 (4 * k + 24) = sA (4 * k + 24) := f.1 2 (by omega) (by omega)
  have r3 : sA2 (4 * k + 25) = sA (4 * k + 25) := f.1 3 (by omega) (by omega)
  refine ⟨c, bs, la, ?_⟩
  rw [r1, r2, r3]
  exact h.fr hl f.2
theorem st_chk {sL : NL} {sA : NA} {i : Nat} (q : Int32) : (fX_checkState sL sA i q = 0 ∧ sA (4 * i + 22) 4 = q) ∨ (fX_checkState sL sA i q = 3 ∧ ¬ sA (4 * i + 22) 4 = q) := by
  unfold fX_checkState
  by_cases h : sA (4 * i + 22) 4 = q
  · exact Or.inl ⟨if_pos h, h⟩
  · exact Or.inr ⟨if_neg h, h⟩
theorem n10 : ¬ (1 : Int32) = 0 := by decide
theorem asks_1 {sL : NL} {sA : NA} {p : Int32} (h : fM_isLot sL sA p = 1) : fM_asksFor sL sA p = (1, sL, up2 sA 5 23 0) := by rw [fM_asksFor, if_neg (by rw [h]; decide)]
theorem asks_0 {sL : NL} {sA : NA} {p : Int32} (h : fM_isLot sL sA p = 0) : fM_asksFor sL sA p = (0, sL, up2 sA 5 23 1) := by rw [fM_asksFor, if_pos h]
theorem INV.lot {n K : Nat} {sL : NL} {sA : NA} (h : INV n K sL sA) (p : Int32) : (∃ i, i < n ∧ p = nI i ∧ fX_findLot n p = some i ∧ ∀ s : NL, fM_isLot s sA p = 1) ∨ (fX_findLot n p = none ∧ ∀ s : NL, fM_isLot s sA p = 0) := by
  rcases lot_chk (sL := sL) h.1.1 h.1.2.2 p with ⟨i, h1, h2, h3, h4⟩ | ⟨h1, h2⟩
  · exact Or.inl ⟨i, h1, h2, h3, fun s => h4⟩
  · exact Or.inr ⟨h1, fun s => h2⟩
theorem INV.si {n K : Nat} {sL : NL} {sA : NA} (h : INV n K sL sA) {i : Nat} (hi : i < n) : SI sA i := by
  obtain ⟨-, -, -, -, -, lm, -, -, hl, -⟩ := h
  exact (hl i hi).1
theorem INV.i31 {n K : Nat} {sL : NL} {sA : NA} (h : INV n K sL sA) {i : Nat} (hi : i < n) : (nI i).toNatClampNeg = i := nI_clamp (by have := h.1.1; omega)
theorem E_callOf {n K : Nat} {sL : NL} {sA : NA} (h : INV n K sL sA) (hK : K ≤ 600) (p0 : Int32) : EQ n K (fW_callOf sL sA p0) (fM_callOf (fW_callOf sL sA p0).2.1 (fW_callOf sL sA p0).2.2 p0) := by
  rcases rng_chk p0 0 1000000 with ⟨h1, h2, -, -⟩ | ⟨h1, h2⟩
  · have eW : fW_callOf sL sA p0 = (0, up2L sL 4 0 (fX_calledAmount p0).toInt64, sA) := by rw [fW_callOf, fX_callOf, bnd_0 h1]; exact wrapR_0 rfl
    rw [eW, fM_callOf]
    dsimp only
    rw [if_neg (by rw [h2]; exact n10)]
    exact EQ_get h (call_eq p0)
  · have eW : fW_callOf sL sA p0 = (1, sL, sA) := by rw [fW_callOf, fX_callOf, bnd_n (by rw [h1]; decide), h1]; exact wrapR_2 rfl
    rw [eW, fM_callOf]
    dsimp only
    rw [if_pos h2]
    exact EQ_err h (by decide)
theorem E_owes {n K : Nat} {sL : NL} {sA : NA} (h : INV n K sL sA) (hK : K ≤ 600) (p0 : Int32) : EQ n K (fW_owes sL sA p0) (fM_owes (fW_owes sL sA p0).2.1 (fW_owes sL sA p0).2.2 p0) := by
  rcases buy_chk p0 with ⟨h1, h2, h3⟩ | ⟨h1, h2⟩
  · have eW : fW_owes sL sA p0 = (0, up2L sL 4 0 (sA 3 p0.toNatClampNeg).toInt64, sA) := by rw [fW_owes, fX_owes, fX_owedBy, bnd_0 h1, bnd_0 rfl]; exact wrapR_0 rfl
    rw [eW, fM_owes]
    dsimp only
    rw [if_neg (by rw [h2]; exact n10)]
    exact EQ_get h (h.2.2.2.2.1 _ (vin_nat h3))
  · have e1 : (fX_owedBy sL sA p0).1 = 1 := by rw [fX_owedBy, h1]; rfl
    have eW : fW_owes sL sA p0 = (1, sL, sA) := by rw [fW_owes, fX_owes, e1]; exact wrapR_1 rfl
    rw [eW, fM_owes]
    dsimp only
    rw [if_pos h2]
    exact EQ_err h (by decide)
theorem E_state {n K : Nat} {sL : NL} {sA : NA} (h : INV n K sL sA) (hK : K ≤ 600) (p0 : Int32) : EQ n K (fW_state n sL sA p0) (fM_state (fW_state n sL sA p0).2.1 (fW_state n sL sA p0).2.2 p0) := by
  rcases h.lot p0 with ⟨i, hi, rfl, h1, h2⟩ | ⟨h1, h2⟩
  · have eW : fW_state n sL sA (nI i) = (0, up2L sL 4 0 (sA (4 * i + 22) 4).toInt64, sA) := by rw [fW_state, fX_state, bndq_s h1]; exact wrapR_0 rfl
    rw [eW, fM_state, asks_1 (h2 _)]
    dsimp only
    rw [if_neg n10, h.i31 hi]
    exact EQ_get h (by rw [up2_miss (by omega)]; exact (h.si hi).2.2.2.1.1)
  · have eW : fW_state n sL sA p0 = (1, sL, sA) := by rw [fW_state, fX_state, bndq_n h1]; exact wrapR_1 rfl
    rw [eW, fM_state, asks_0 (h2 _)]
    dsimp only
    rw [if_pos rfl]
    exact EQ_err h (by decide)
theorem lt2 {x : Int32} : x < 2 ↔ ¬ 2 ≤ x := by rw [Int32.not_le]
theorem E_buyerOf {n K : Nat} {sL : NL} {sA : NA} (h : INV n K sL sA) (hK : K ≤ 600) (p0 : Int32) : EQ n K (fW_buyerOf n sL sA p0) (fM_buyerOf (fW_buyerOf n sL sA p0).2.1 (fW_buyerOf n sL sA p0).2.2 p0) := by
  rcases h.lot p0 with ⟨i, hi, rfl, h1, h2⟩ | ⟨h1, h2⟩
  · have eW : fW_buyerOf n sL sA (nI i) = (0, up2L sL 4 0 (sA (4 * i + 22) 5).toInt64, sA) := by rw [fW_buyerOf, fX_buyerOf, bndq_s h1]; exact wrapR_0 rfl
    rw [eW, fM_buyerOf, asks_1 (h2 _)]
    dsimp only
    rw [if_neg n10, h.i31 hi]
    have e9 : up2 sA 5 23 0 9 i = sA 9 i := up2_miss (by omega)
    have e10 : up2 sA 5 23 0 10 i = sA 10 i := up2_miss (by omega)
    rcases (h.si hi).2.2.2.2.1 with ⟨g1, g2, -⟩ | ⟨g1, g2, -⟩
    · rw [if_neg (by rw [e9, lt2]; exact fun q => q g1)]
      exact EQ_get h (by rw [e10]; exact g2)
    · rw [if_pos (by rw [e9, lt2]; exact g1)]
      exact EQ_get h g2
  · have eW : fW_buyerOf n sL sA p0 = (1, sL, sA) := by rw [fW_buyerOf, fX_buyerOf, bndq_n h1]; exact wrapR_1 rfl
    rw [eW, fM_buyerOf, asks_0 (h2 _)]
    dsimp only
    rw [if_pos rfl]
    exact EQ_err h (by decide)
theorem E_price {n K : Nat} {sL : NL} {sA : NA} (h : INV n K sL sA) (hK : K ≤ 600) (p0 : Int32) : EQ n K (fW_price n sL sA p0) (fM_price (fW_price n sL sA p0).2.1 (fW_price n sL sA p0).2.2 p0) := by
  rcases h.lot p0 with ⟨i, hi, rfl, h1, h2⟩ | ⟨h1, h2⟩
  · have eW : fW_price n sL sA (nI i) = (0, up2L sL 4 0 (sA (4 * i + 22) 6).toInt64, sA) := by rw [fW_price, fX_price, bndq_s h1]; exact wrapR_0 rfl
    rw [eW, fM_price, asks_1 (h2 _)]
    dsimp only
    rw [if_neg n10, h.i31 hi]
    have e9 : up2 sA 5 23 0 9 i = sA 9 i := up2_miss (by omega)
    have e10 : up2 sA 5 23 0 11 i = sA 11 i := up2_miss (by omega)
    rcases (h.si hi).2.2.2.2.1 with ⟨g1, -, -, g2, -⟩ | ⟨g1, -, g2⟩
    · rw [if_neg (by rw [e9, lt2]; exact fun q => q g1)]
      exact EQ_get h (by rw [e10]; exact g2)
    · rw [if_pos (by rw [e9, lt2]; exact g1)]
      exact EQ_get h g2
  · have eW : fW_price n sL sA p0 = (1, sL, sA) := by rw [fW_price, fX_price, bndq_n h1]; exact wrapR_1 rfl
    rw [eW, fM_price, asks_0 (h2 _)]
    dsimp only
    rw [if_pos rfl]
    exact EQ_err h (by decide)
theorem int_eq {n K : Nat} {sL : NL} {sA : NA} (h : INV n K sL sA) {i : Nat} (hi : i < n) {s1 : NL} {v : Int32} : fX_interestOf sL sA i = fM_interestFor s1 (up2 sA 5 23 v) (nI i) := by
  obtain ⟨-, -, -, ⟨q4, -⟩, -, -, -, ⟨q10, -⟩, q11, q12⟩ := h.si hi
  rw [fX_interestOf, fM_interestFor, h.i31 hi]
  have e : ∀ x, x ≠ 5 → up2 sA 5 23 v x i = sA x i := fun x hx => up2_miss (Or.inl hx)
  rw [e 9 (by omega), e 19 (by omega), e 17 (by omega), e 18 (by omega), up2_miss (x := 5) (y := 19) (by omega), up2_miss (x := 5) (y := 18) (by omega), q4, q10, q11, q12, h.2.1.1, h.2.1.2]
theorem E_interest {n K : Nat} {sL : NL} {sA : NA} (h : INV n K sL sA) (hK : K ≤ 600) (p0 : Int32) : EQ n K (fW_interest n sL sA p0) (fM_interest (fW_interest n sL sA p0).2.1 (fW_interest n sL sA p0).2.2 p0) := by
  rcases h.lot p0 with ⟨i, hi, rfl, h1, h2⟩ | ⟨h1, h2⟩
  · have eW : fW_interest n sL sA (nI i) = (0, up2L sL 4 0 (fX_interestOf sL sA i).toInt64, sA) := by rw [fW_interest, fX_interest, bndq_s h1]; exact wrapR_0 rfl
    rw [eW, fM_interest, asks_1 (h2 _)]
    dsimp only
    rw [if_neg n10]
    exact EQ_get h (int_eq h hi)
  · have eW : fW_interest n sL sA p0 = (1, sL, sA) := by rw [fW_interest, fX_interest, bndq_n h1]; exact wrapR_1 rfl
    rw [eW, fM_interest, asks_0 (h2 _)]
    dsimp only
    rw [if_pos rfl]
    exact EQ_err h (by decide)
theorem E_rate {n K : Nat} {sL : NL} {sA : NA} (h : INV n K sL sA) (hK : K ≤ 600) (p0 : Int32) : EQ n K (fW_rate sL sA p0) (fM_rate (fW_rate sL sA p0).2.1 (fW_rate sL sA p0).2.2 p0) := by
  rcases rng_chk p0 0 100 with ⟨h1, h2, -, -⟩ | ⟨h1, h2⟩
  · have eW : fW_rate sL sA p0 = (0, up2L sL 4 0 (sA 0 5).toInt64, up2 sA 0 5 p0) := by rw [fW_rate, fX_rate, bnd_0 h1]; exact wrapR_0 rfl
    rw [eW, fM_rate]
    dsimp only
    rw [if_neg (by rw [h2]; exact n10)]
    have hm := h.mp
    obtain ⟨⟨a1, a2, a3⟩, ⟨a4, a5⟩, a6, a7, a8, lm, a9, a10, a11, a12⟩ := h
    refine EQ_mk (hm.up (by omega)) ?_ ?_ ⟨⟨a1, ?_, ?_⟩, ⟨?_, ?_⟩, ?_, fun k hk => ?_, fun k hk => ?_, lm, by omega, ?_, fun k hk => ⟨(a11 k hk).1.fr (((FR.refl.up (by omega)).up (by omega)).up (by omega)), (a11 k hk).2.fr (Nat.le_refl _) (((FR.refl.up (by omega)).up (by omega)).up (by omega))⟩, a12.fr (fun k _ => (((FR.refl.up (by omega)).up (by omega)).up (by omega)))⟩ <;> simp (disch := omega) only [up2_hit, up2_miss, up2L_hit, up2L_miss]
    · rw [a5]
    · exact a2
    · exact a3
    · exact a4
    · exact a6
    · exact a7 k hk
    · exact a8 k hk
    · exact a10
  · have eW : fW_rate sL sA p0 = (1, sL, sA) := by rw [fW_rate, fX_rate, bnd_n (by rw [h1]; decide), h1]; exact wrapR_2 rfl
    rw [eW, fM_rate]
    dsimp only
    rw [if_pos h2]
    exact EQ_err h (by decide)
