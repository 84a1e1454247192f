theorem imin_n {a b : Nat} (ha : a < 2 ^ 31) (hb : b < 2 ^ 31) : imin (nI a) (nI b) = nI (min a b) := by
  show (if nI b < nI a then nI b else nI a) = _
  by_cases h : b < a
  · rw [if_pos ((nI_ltI hb ha).2 h), Nat.min_eq_right (by omega)]
  · rw [if_neg (fun q => h ((nI_ltI hb ha).1 q)), Nat.min_eq_left (by omega)]
theorem imax_n {a b : Nat} (ha : a < 2 ^ 31) (hb : b < 2 ^ 31) : imax (nI a) (nI b) = nI (max a b) := by
  show (if nI a < nI b then nI b else nI a) = _
  by_cases h : a < b
  · rw [if_pos ((nI_ltI ha hb).2 h), Nat.max_eq_right (by omega)]
  · rw [if_neg (fun q => h ((nI_ltI ha hb).1 q)), Nat.max_eq_left (by omega)]
theorem cut_n {a b : Nat} (ha : a < 2 ^ 30) (hb : b < 2 ^ 30) : imax 0 (nI a - nI b) = nI (a - b) := by
  by_cases h : b ≤ a
  · rw [pk_sub h, show (0 : Int32) = nI 0 from rfl, imax_n (by omega) (by omega)]
    exact congrArg nI (by omega)
  · show (if 0 < nI a - nI b then nI a - nI b else 0) = _
    rw [if_neg, show a - b = 0 by omega]
    · rfl
    · intro q
      rw [Int32.lt_iff_toInt_lt, pk_sub_toInt ha hb] at q
      have e : (0 : Int32).toInt = 0 := rfl
      omega
theorem pct_n {a r : Nat} (ha : a ≤ 1000000) (hr : r ≤ 100) : nI a * nI r / 100 = nI (a * r / 100) := by
  have h : a * r ≤ 1000000 * 100 := Nat.mul_le_mul ha hr
  rw [pk_mul, show (100 : Int32) = nI 100 from rfl, pk_div (by omega) (by omega) (by omega)]
theorem band_n {k lo hi r : Nat} (hk : k ≤ 1000000) (h1 : lo ≤ 1000000) (h2 : hi ≤ 1000000) (hr : r ≤ 100) : fX_ofBand (nI k) (nI lo) (nI hi) (nI r) = nI ((min k hi - lo) * r / 100) := by
  rw [fX_ofBand, imin_n (by omega) (by omega), cut_n (by omega) (by omega), pct_n (by omega) hr]
def feeN (k : Nat) : Nat := min k 10000 * 25 / 100 + (min k 50000 - 10000) * 20 / 100 + (min k 1000000 - 50000) * 12 / 100
theorem feeX_n {k : Nat} (hk : k ≤ 1000000) : fX_feeFor (nI k) = nI (feeN k) := by
  show fX_ofBand (nI k) (nI 0) (nI 10000) (nI 25) + fX_ofBand (nI k) (nI 10000) (nI 50000) (nI 20) + fX_ofBand (nI k) (nI 50000) (nI 1000000) (nI 12) = _
  rw [band_n hk (by omega) (by omega) (by omega), band_n hk (by omega) (by omega) (by omega), band_n hk (by omega) (by omega) (by omega), nI_add, nI_add]
  exact congrArg nI (by unfold feeN; omega)
theorem le_n {a b : Nat} (ha : a ≤ 1000000) (hb : b ≤ 1000000) : nI a ≤ nI b ↔ a ≤ b := nI_leI (by omega) (by omega)
theorem feeM_n {k : Nat} (hk : k ≤ 1000000) : fM_feeFor (nI k) = nI (feeN k) := by
  unfold fM_feeFor
  have g1 : (10000 : Int32) ≤ nI k ↔ 10000 ≤ k := le_n (a := 10000) (by omega) hk
  have g2 : (50000 : Int32) ≤ nI k ↔ 50000 ≤ k := le_n (a := 50000) (by omega) hk
  have c1 : (10000 : Int32) * 25 / 100 = nI 2500 := rfl
  have c2 : (40000 : Int32) * 20 / 100 = nI 8000 := rfl
  have e1 : (10000 : Int32) = nI 10000 := rfl
  have e2 : (40000 : Int32) = nI 40000 := rfl
  have e12 : (12 : Int32) = nI 12 := rfl
  have e20 : (20 : Int32) = nI 20 := rfl
  have e25 : (25 : Int32) = nI 25 := rfl
  by_cases q1 : 10000 ≤ k
  · rw [if_pos (g1.2 q1)]
    by_cases q2 : 50000 ≤ k
    · rw [if_pos (g2.2 q2), c1, c2, e1, e2, e12, pk_sub q1, pk_sub (by omega), pct_n (by omega) (by omega), nI_add, nI_add]
      exact congrArg nI (by unfold feeN; omega)
    · rw [if_neg (fun q => q2 (g2.1 q)), c1, e1, e12, e20, pk_sub q1, pk_sub (by omega), pct_n (by omega) (by omega), pct_n (by omega) (by omega), nI_add, nI_add]
      exact congrArg nI (by unfold feeN; omega)
  · rw [if_neg (fun q => q1 (g1.1 q)), if_neg (fun q => q1 (by have := g2.1 q; omega)), e12, e20, e25, pk_sub (Nat.le_refl k), pk_sub (Nat.le_refl _), pct_n (by omega) (by omega), pct_n (by omega) (by omega), pct_n (by omega) (by omega), nI_add, nI_add]
    exact congrArg nI (by unfold feeN; omega)
theorem fee_eq {x : Int32} (h : P6 x) : fX_feeFor x = fM_feeFor x := by
  obtain ⟨k, hk, rfl⟩ := h
  rw [feeX_n hk, feeM_n hk]
theorem P6_of {x : Int32} (h1 : 0 ≤ x) (h2 : x ≤ 1000000) : P6 x := by
  refine ⟨x.toNatClampNeg, ?_, nI_self (by rw [Int32.not_lt]; exact h1)⟩
  rw [Int32.le_iff_toInt_le] at h2
  have e : (1000000 : Int32).toInt = 1000000 := rfl
  have e2 : x.toNatClampNeg = x.toInt.toNat := rfl
  omega
theorem P6.ge {x : Int32} (h : P6 x) : 0 ≤ x := by
  obtain ⟨k, hk, rfl⟩ := h
  exact (le_n (a := 0) (by omega) hk).2 (by omega)
theorem P6.le {x : Int32} (h : P6 x) : x ≤ 1000000 := by
  obtain ⟨k, hk, rfl⟩ := h
  exact (le_n (b := 1000000) hk (by omega)).2 hk
theorem E_fee {n K : Nat} {sL : NL} {sA : NA} (h : INV n K sL sA) (hK : K ≤ 600) (p0 : Int32) : EQ n K (fW_fee sL sA p0) (fM_fee (fW_fee sL sA p0).2.1 (fW_fee sL sA p0).2.2 p0) := by
  rcases rng_chk p0 0 1000000 with ⟨h1, h2, h3, h4⟩ | ⟨h1, h2⟩
  · have eW : fW_fee sL sA p0 = (0, up2L sL 4 0 (fX_feeFor p0).toInt64, sA) := by rw [fW_fee, fX_fee, bnd_0 h1]; exact wrapR_0 rfl
    rw [eW, fM_fee]
    dsimp only
    rw [if_neg (by rw [h2]; exact n10)]
    exact EQ_get h (fee_eq (P6_of h3 h4))
  · have eW : fW_fee sL sA p0 = (1, sL, sA) := by rw [fW_fee, fX_fee, bnd_n (by rw [h1]; decide), h1]; exact wrapR_2 rfl
    rw [eW, fM_fee]
    dsimp only
    rw [if_pos h2]
    exact EQ_err h (by decide)
def shN (k : Nat) : Nat := min k 50000 * 4 / 100 + (min k 200000 - 50000) * 3 / 100 + (min k 1000000 - 200000) / 100
theorem shX_n {k : Nat} (hk : k ≤ 1000000) : imin 12500 (fX_ofBand (nI k) 0 50000 4 + fX_ofBand (nI k) 50000 200000 3 + fX_ofBand (nI k) 200000 1000000 1) = nI (min 12500 (shN k)) := by
  show imin (nI 12500) (fX_ofBand (nI k) (nI 0) (nI 50000) (nI 4) + fX_ofBand (nI k) (nI 50000) (nI 200000) (nI 3) + fX_ofBand (nI k) (nI 200000) (nI 1000000) (nI 1)) = _
  rw [band_n hk (by omega) (by omega) (by omega), band_n hk (by omega) (by omega) (by omega), band_n hk (by omega) (by omega) (by omega), nI_add, nI_add, imin_n (by omega) (by omega)]
  exact congrArg nI (by unfold shN; omega)
theorem capM_n {v : Nat} (hv : v ≤ 1000000) : (if nI v ≤ 12500 then nI v else 12500) = nI (min 12500 v) := by
  have g : nI v ≤ (12500 : Int32) ↔ v ≤ 12500 := le_n (b := 12500) hv (by omega)
  by_cases q : v ≤ 12500
  · rw [if_pos (g.2 q), Nat.min_eq_right q]
  · rw [if_neg (fun z => q (g.1 z)), Nat.min_eq_left (by omega)]; rfl
theorem shM_n {x : Int32} {k : Nat} (hk : k ≤ 1000000) (hx : x = nI k) : (if 50000 ≤ x then (if 200000 ≤ x then (if ((((50000 * 4) / 100) + ((150000 * 3) / 100)) + (((x - 50000) - 150000) / 100)) ≤ 12500 then (((50000 * 4) / 100) + ((150000 * 3) / 100)) + (((x - 50000) - 150000) / 100) else 12500) else (if ((((50000 * 4) / 100) + (((x - 50000) * 3) / 100)) + (((x - 50000) - (x - 50000)) / 100)) ≤ 12500 then (((50000 * 4) / 100) + (((x - 50000) * 3) / 100)) + (((x - 50000) - (x - 50000)) / 100) else 12500)) else (if 200000 ≤ x then (if ((((x * 4) / 100) + ((150000 * 3) / 100)) + (((x - x) - 150000) / 100)) ≤ 12500 then (((x * 4) / 100) + ((150000 * 3) / 100)) + (((x - x) - 150000) / 100) else 12500) else (if ((((x * 4) / 100) + (((x - x) * 3) / 100)) + (((x - x) - (x - x)) / 100)) ≤ 12500 then (((x * 4) / 100) + (((x - x) * 3) / 100)) + (((x - x) - (x - x)) / 100) else 12500))) = nI (min 12500 (shN k)) := by
  have g1 : (50000 : Int32) ≤ x ↔ 50000 ≤ k := by rw [hx]; exact le_n (a := 50000) (by omega) hk
  have g2 : (200000 : Int32) ≤ x ↔ 200000 ≤ k := by rw [hx]; exact le_n (a := 200000) (by omega) hk
  have c1 : (50000 : Int32) * 4 / 100 = nI 2000 := rfl
  have c2 : (150000 : Int32) * 3 / 100 = nI 4500 := rfl
  have d : ∀ {a : Nat}, a ≤ 1000000 → nI a / 100 = nI (a / 100) := fun {a} ha => by rw [show (100 : Int32) = nI 100 from rfl, pk_div (by omega) (by omega) (by omega)]
  by_cases q1 : 50000 ≤ k
  · have s1 : x - 50000 = nI (k - 50000) := by rw [hx, show (50000 : Int32) = nI 50000 from rfl, pk_sub q1]
    rw [if_pos (g1.2 q1), s1, c1]
    by_cases q2 : 200000 ≤ k
    · have s2 : nI (k - 50000) - 150000 = nI (k - 200000) := by rw [show (150000 : Int32) = nI 150000 from rfl, pk_sub (by omega)]; exact congrArg nI (by omega)
      rw [if_pos (g2.2 q2), s2, c2, d (by omega), nI_add, nI_add, capM_n (by omega)]
      exact congrArg nI (by unfold shN; omega)
    · have s2 : nI (k - 50000) * 3 / 100 = nI ((k - 50000) * 3 / 100) := pct_n (r := 3) (by omega) (by omega)
      rw [if_neg (fun q => q2 (g2.1 q)), pk_sub (Nat.le_refl _), d (by omega), s2, nI_add, nI_add, capM_n (by omega)]
      exact congrArg nI (by unfold shN; omega)
  · have s0 : x - x = nI 0 := by rw [hx, pk_sub (Nat.le_refl _), Nat.sub_self]
    have s1 : x * 4 / 100 = nI (k * 4 / 100) := by rw [hx]; exact pct_n (r := 4) (by omega) (by omega)
    have s2 : nI 0 * 3 / 100 = nI 0 := rfl
    have s3 : (nI 0 - nI 0) / 100 = nI 0 := rfl
    rw [if_neg (fun q => q1 (g1.1 q)), if_neg (fun q => q1 (by have := g2.1 q; omega)), s0, s1, s2, s3, nI_add, nI_add, capM_n (by omega)]
    exact congrArg nI (by unfold shN; omega)
theorem fM_shareFor_eq {sL : NL} {sA : NA} {p0 x : Int32} (hx : sA 11 p0.toNatClampNeg = x) : fM_shareFor sL sA p0 = if sA 8 p0.toNatClampNeg = (-1) then 0 else (if x < 1000 then 0 else (if sA 8 p0.toNatClampNeg ≤ 0 then (if 50000 ≤ x then (if 200000 ≤ x then (if ((((50000 * 4) / 100) + ((150000 * 3) / 100)) + (((x - 50000) - 150000) / 100)) ≤ 12500 then (((50000 * 4) / 100) + ((150000 * 3) / 100)) + (((x - 50000) - 150000) / 100) else 12500) else (if ((((50000 * 4) / 100) + (((x - 50000) * 3) / 100)) + (((x - 50000) - (x - 50000)) / 100)) ≤ 12500 then (((50000 * 4) / 100) + (((x - 50000) * 3) / 100)) + (((x - 50000) - (x - 50000)) / 100) else 12500)) else (if 200000 ≤ x then (if ((((x * 4) / 100) + ((150000 * 3) / 100)) + (((x - x) - 150000) / 100)) ≤ 12500 then (((x * 4) / 100) + ((150000 * 3) / 100)) + (((x - x) - 150000) / 100) else 12500) else (if ((((x * 4) / 100) + (((x - x) * 3) / 100)) + (((x - x) - (x - x)) / 100)) ≤ 12500 then (((x * 4) / 100) + (((x - x) * 3) / 100)) + (((x - x) - (x - x)) / 100) else 12500))) else (if ((2000 + ((sA 12 p0.toNatClampNeg) / 365)) - (sA 8 p0.toNatClampNeg)) ≤ 70 then (if 50000 ≤ x then (if 200000 ≤ x then (if ((((50000 * 4) / 100) + ((150000 * 3) / 100)) + (((x - 50000) - 150000) / 100)) ≤ 12500 then (((50000 * 4) / 100) + ((150000 * 3) / 100)) + (((x - 50000) - 150000) / 100) else 12500) else (if ((((50000 * 4) / 100) + (((x - 50000) * 3) / 100)) + (((x - 50000) - (x - 50000)) / 100)) ≤ 12500 then (((50000 * 4) / 100) + (((x - 50000) * 3) / 100)) + (((x - 50000) - (x - 50000)) / 100) else 12500)) else (if 200000 ≤ x then (if ((((x * 4) / 100) + ((150000 * 3) / 100)) + (((x - x) - 150000) / 100)) ≤ 12500 then (((x * 4) / 100) + ((150000 * 3) / 100)) + (((x - x) - 150000) / 100) else 12500) else (if ((((x * 4) / 100) + (((x - x) * 3) / 100)) + (((x - x) - (x - x)) / 100)) ≤ 12500 then (((x * 4) / 100) + (((x - x) * 3) / 100)) + (((x - x) - (x - x)) / 100) else 12500))) else 0))) := by
  subst hx; rfl
/-- the artist's share of a sold lot -/
theorem sh_eq {n K : Nat} {sL s1 : NL} {sA sA2 : NA} (h : INV n K sL sA) {i : Nat} (hi : i < n) (h2 : 2 ≤ sA 9 i) (e8 : sA2 8 i = sA 8 i) (e11 : sA2 11 i = sA 11 i) (e12 : sA2 12 i = sA 12 i) : fX_shareOf sL sA i = fM_shareFor s1 sA2 (nI i) := by
  obtain ⟨-, ⟨q1, q2⟩, -, -, q4, -⟩ := h.si hi
  rcases q4 with ⟨-, -, -, p1, ⟨k, hk, p2⟩, p3⟩ | ⟨q, -⟩
  · have ec : (nI i).toNatClampNeg = i := h.i31 hi
    rw [fM_shareFor_eq (x := nI k) (by rw [ec, e11, p2]), ec, e8, e12, shM_n hk rfl, fX_shareOf, p1, p2, shX_n hk, q1]
    by_cases g1 : sA 8 i = -1
    · rw [if_pos g1, if_pos g1]
    rw [if_neg g1, if_neg g1]
    by_cases g2 : nI k < 1000
    · rw [if_pos g2, if_pos g2]
    rw [if_neg g2, if_neg g2]
    obtain ⟨a, ha, ea⟩ := q2.resolve_left g1
    rw [fX_isTooLongDead, q1, p3]
    by_cases g3 : sA 8 i = 0
    · rw [if_pos g3, if_pos rfl, if_pos (by rw [g3]; decide)]
    · have g4 : ¬ sA 8 i ≤ 0 := by
        intro q
        rw [ea] at q g3
        have := (le_n (b := 0) (by omega) (by omega)).1 q
        exact g3 (by rw [show a = 0 by omega]; rfl)
      rw [if_neg g3, if_neg g4]
      by_cases g5 : 2000 + sA 12 i / 365 - sA 8 i ≤ 70
      · rw [if_pos g5, if_pos rfl, if_pos g5]
      · rw [if_neg g5, if_neg n10, if_neg g5]
  · exact absurd h2 q
theorem E_share {n K : Nat} {sL : NL} {sA : NA} (h : INV n K sL sA) (hK : K ≤ 600) (p0 : Int32) : EQ n K (fW_share n sL sA p0) (fM_share (fW_share n sL sA p0).2.1 (fW_share n sL sA p0).2.2 p0) := by
  rcases h.lot p0 with ⟨i, hi, rfl, h1, h2⟩ | ⟨h1, h2⟩
  · have eW : fW_share n sL sA (nI i) = (0, up2L sL 4 0 (fX_shareOf sL sA i).toInt64, sA) := by rw [fW_share, fX_share, bndq_s h1]; exact wrapR_0 rfl
    rw [eW, fM_share, asks_1 (h2 _)]
    dsimp only
    rw [if_neg n10, h.i31 hi]
    have e : ∀ x, x ≠ 5 → up2 sA 5 23 0 x i = sA x i := fun x hx => up2_miss (Or.inl hx)
    by_cases g : 2 ≤ sA 9 i
    · rw [if_neg (by rw [e 9 (by omega), lt2]; exact fun q => q g)]
      exact EQ_get h (sh_eq h hi g (e 8 (by omega)) (e 11 (by omega)) (e 12 (by omega)))
    · rw [if_pos (by rw [e 9 (by omega), lt2]; exact g)]
      refine EQ_get h ?_
      rcases (h.si hi).2.2.2.2.1 with ⟨q, -⟩ | ⟨-, -, q⟩
      · exact absurd q g
      · rw [fX_shareOf, q]
        by_cases g1 : sA (4 * i + 22) 1 = -1
        · rw [if_pos g1]
        · rw [if_neg g1, if_pos (by decide)]
  · have eW : fW_share n sL sA p0 = (1, sL, sA) := by rw [fW_share, fX_share, bndq_n h1]; exact wrapR_1 rfl
    rw [eW, fM_share, asks_0 (h2 _)]
    dsimp only
    rw [if_pos rfl]
    exact EQ_err h (by decide)
