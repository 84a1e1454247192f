theorem vin_nat {x : Int32} {N : Nat} (h : vp_in x N) : x.toNatClampNeg < N := Nat.not_le.mp fun q => h (Or.inr q)
theorem vin_eq {x : Int32} {N : Nat} (h : vp_in x N) : x = nI x.toNatClampNeg := nI_self fun q => h (Or.inl q)
theorem up2_hit {f : NA} {a k : Nat} {v : Int32} : up2 f a k v a k = v := up2_same
theorem up2_miss {f : NA} {a k : Nat} {v : Int32} {x y : Nat} (h : x ≠ a ∨ y ≠ k) : up2 f a k v x y = f x y := by
  by_cases hx : x = a
  · subst hx
    rw [up2_row]
    rcases h with h | h
    · exact absurd rfl h
    · exact pk_un h
  · rw [up2_ne hx]
theorem up2_rmiss {f : NA} {a k : Nat} {v : Int32} {x : Nat} (h : x ≠ a) : up2 f a k v x = f x := up2_ne h
theorem up2L_hit {f : NL} {a k : Nat} {v : Int64} : up2L f a k v a k = v := by rw [up2L_row]; exact pk_uLs
theorem up2L_miss {f : NL} {a k : Nat} {v : Int64} {x y : Nat} (h : x ≠ a ∨ y ≠ k) : up2L f a k v x y = f x y := by
  by_cases hx : x = a
  · subst hx
    rw [up2L_row]
    rcases h with h | h
    · exact absurd rfl h
    · exact pk_uLn h
  · rw [up2L_ne hx]
theorem up2L_rmiss {f : NL} {a k : Nat} {v : Int64} {x : Nat} (h : x ≠ a) : up2L f a k v x = f x := up2L_ne h
theorem vin_ltM {x M : Int32} {N : Nat} (hN : N < 2 ^ 31) (hM : M = nI N) (h : vp_in x N) : ¬ x < 0 ∧ x < M := by
  have h1 := vin_nat h
  have e := vin_eq h
  exact ⟨fun q => h (Or.inl q), by rw [e, hM, nI_ltI (by omega) (by omega)]; exact h1⟩
/-- 0 to a million -/
def P6 (x : Int32) : Prop := ∃ k : Nat, k ≤ 1000000 ∧ x = nI k
theorem imin_n {a b : Nat} (ha : a < 2 ^ 31) (hb : b < 2 ^ 31) : imin (nI a) (nI b) = nI (min a b) := by
  show (if nI b < nI a then nI b else nI a) = _
  by_cases h : b < a
  · rw [if_pos ((nI_ltI hb ha).2 h), Nat.min_eq_right (by omega)]
  · rw [if_neg (fun q => h ((nI_ltI hb ha).1 q)), Nat.min_eq_left (by omega)]
theorem imax_n {a b : Nat} (ha : a < 2 ^ 31) (hb : b < 2 ^ 31) : imax (nI a) (nI b) = nI (max a b) := by
  show (if nI a < nI b then nI b else nI a) = _
  by_cases h : a < b
  · rw [if_pos ((nI_ltI ha hb).2 h), Nat.max_eq_right (by omega)]
  · rw [if_neg (fun q => h ((nI_ltI ha hb).1 q)), Nat.max_eq_left (by omega)]
theorem cut_n {a b : Nat} (ha : a < 2 ^ 30) (hb : b < 2 ^ 30) : imax 0 (nI a - nI b) = nI (a - b) := by
  by_cases h : b ≤ a
  · rw [pk_sub h, show (0 : Int32) = nI 0 from rfl, imax_n (by omega) (by omega)]
    exact congrArg nI (by omega)
  · show (if 0 < nI a - nI b then nI a - nI b else 0) = _
    rw [if_neg, show a - b = 0 by omega]
    · rfl
    · intro q
      rw [Int32.lt_iff_toInt_lt, pk_sub_toInt ha hb] at q
      have e : (0 : Int32).toInt = 0 := rfl
      omega
theorem pct_n {a r : Nat} (ha : a ≤ 1000000) (hr : r ≤ 100) : nI a * nI r / 100 = nI (a * r / 100) := by
  have h : a * r ≤ 1000000 * 100 := Nat.mul_le_mul ha hr
  rw [pk_mul, show (100 : Int32) = nI 100 from rfl, pk_div (by omega) (by omega) (by omega)]
theorem band_n {k lo hi r : Nat} (hk : k ≤ 1000000) (h1 : lo ≤ 1000000) (h2 : hi ≤ 1000000) (hr : r ≤ 100) : fX_ofBand (nI k) (nI lo) (nI hi) (nI r) = nI ((min k hi - lo) * r / 100) := by
  rw [fX_ofBand, imin_n (by omega) (by omega), cut_n (by omega) (by omega), pct_n (by omega) hr]
def feeN (k : Nat) : Nat := min k 10000 * 25 / 100 + (min k 50000 - 10000) * 20 / 100 + (min k 1000000 - 50000) * 12 / 100
theorem feeX_n {k : Nat} (hk : k ≤ 1000000) : fX_feeFor (nI k) = nI (feeN k) := by
  show fX_ofBand (nI k) (nI 0) (nI 10000) (nI 25) + fX_ofBand (nI k) (nI 10000) (nI 50000) (nI 20) + fX_ofBand (nI k) (nI 50000) (nI 1000000) (nI 12) = _
  rw [band_n hk (by omega) (by omega) (by omega), band_n hk (by omega) (by omega) (by omega), band_n hk (by omega) (by omega) (by omega), nI_add, nI_add]
  exact congrArg nI (by unfold feeN; omega)
theorem le_n {a b : Nat} (ha : a ≤ 1000000) (hb : b ≤ 1000000) : nI a ≤ nI b ↔ a ≤ b := nI_leI (by omega) (by omega)
theorem P6_of {x : Int32} (h1 : 0 ≤ x) (h2 : x ≤ 1000000) : P6 x := by
  refine ⟨x.toNatClampNeg, ?_, nI_self (by rw [Int32.not_lt]; exact h1)⟩
  rw [Int32.le_iff_toInt_le] at h2
  have e : (1000000 : Int32).toInt = 1000000 := rfl
  have e2 : x.toNatClampNeg = x.toInt.toNat := rfl
  omega
theorem P6.ge {x : Int32} (h : P6 x) : 0 ≤ x := by
  obtain ⟨k, hk, rfl⟩ := h
  exact (le_n (a := 0) (by omega) hk).2 (by omega)
theorem P6.le {x : Int32} (h : P6 x) : x ≤ 1000000 := by
  obtain ⟨k, hk, rfl⟩ := h
  exact (le_n (b := 1000000) hk (by omega)).2 hk
def shN (k : Nat) : Nat := min k 50000 * 4 / 100 + (min k 200000 - 50000) * 3 / 100 + (min k 1000000 - 200000) / 100
theorem shX_n {k : Nat} (hk : k ≤ 1000000) : imin 12500 (fX_ofBand (nI k) 0 50000 4 + fX_ofBand (nI k) 50000 200000 3 + fX_ofBand (nI k) 200000 1000000 1) = nI (min 12500 (shN k)) := by
  show imin (nI 12500) (fX_ofBand (nI k) (nI 0) (nI 50000) (nI 4) + fX_ofBand (nI k) (nI 50000) (nI 200000) (nI 3) + fX_ofBand (nI k) (nI 200000) (nI 1000000) (nI 1)) = _
  rw [band_n hk (by omega) (by omega) (by omega), band_n hk (by omega) (by omega) (by omega), band_n hk (by omega) (by omega) (by omega), nI_add, nI_add, imin_n (by omega) (by omega)]
  exact congrArg nI (by unfold shN; omega)
theorem i32_le {a b : Int32} : a ≤ b ↔ a.toInt ≤ b.toInt := Int32.le_iff_toInt_le
theorem i32_lt {a b : Int32} : a < b ↔ a.toInt < b.toInt := Int32.lt_iff_toInt_lt
theorem i32_eq {a b : Int32} : a = b ↔ a.toInt = b.toInt := Int32.toInt_inj.symm
theorem m1_int : (-1 : Int32).toInt = -1 := rfl
theorem z_int : (0 : Int32).toInt = 0 := rfl
theorem imin_ge {a b : Int32} (h : b ≤ a) : imin a b = b := by
  show (if b < a then b else a) = b
  by_cases g : b < a
  · exact if_pos g
  · rw [if_neg g, i32_eq]
    rw [i32_le] at h; rw [i32_lt] at g
    omega
theorem imin_lt {a b : Int32} (h : ¬ b ≤ a) : imin a b = a := by
  show (if b < a then b else a) = a
  rw [if_neg (fun g => h (by rw [i32_le]; rw [i32_lt] at g; omega))]
theorem imax_ge {a b : Int32} (h : a ≤ b) : imax a b = b := by
  show (if a < b then b else a) = b
  by_cases g : a < b
  · exact if_pos g
  · rw [if_neg g, i32_eq]
    rw [i32_le] at h; rw [i32_lt] at g
    omega
theorem imax_lt {a b : Int32} (h : ¬ a ≤ b) : imax a b = a := by
  show (if a < b then b else a) = a
  rw [if_neg (fun g => h (by rw [i32_le]; rw [i32_lt] at g; omega))]
theorem P6.int {a : Int32} (h : P6 a) : 0 ≤ a.toInt ∧ a.toInt ≤ 1000000 := by
  obtain ⟨k, hk, rfl⟩ := h
  rw [nI_toInt (by omega)]
  omega
theorem P6_int {a : Int32} (h1 : 0 ≤ a.toInt) (h2 : a.toInt ≤ 1000000) : P6 a := P6_of (by rw [i32_le, z_int]; exact h1) (by rw [i32_le]; exact h2)
theorem half_n {k : Nat} (hk : k ≤ 1000000) : nI k / 2 = nI (k / 2) := by rw [show (2 : Int32) = nI 2 from rfl, pk_div (by omega) (by omega) (by omega)]
theorem P6.sub_pos {a b : Int32} (ha : P6 a) (hb : P6 b) : imax 0 (a - b) = if a ≤ b then 0 else a - b := by
  obtain ⟨k, hk, rfl⟩ := ha
  obtain ⟨j, hj, rfl⟩ := hb
  rw [cut_n (by omega) (by omega)]
  by_cases g : k ≤ j
  · rw [if_pos ((le_n hk hj).2 g), show k - j = 0 by omega]; rfl
  · rw [if_neg (fun q => g ((le_n hk hj).1 q)), pk_sub (by omega)]
theorem mul10n (i : Nat) : (10 : Int32) * nI i = nI (10 * i) := pk_mul 10 i
theorem P6.ne {x : Int32} (h : P6 x) : x ≠ -1 := by
  obtain ⟨k, hk, rfl⟩ := h
  intro q
  have := congrArg Int32.toInt q
  rw [nI_toInt (by omega)] at this
  have e : (-1 : Int32).toInt = -1 := rfl
  omega
def cnt (P : Nat → Bool) : Nat → Nat
  | 0 => 0
  | m + 1 => cnt P m + (if P m then 1 else 0)
theorem cnt_cg {P Q : Nat → Bool} : ∀ m, (∀ b, b < m → P b = Q b) → cnt P m = cnt Q m
  | 0, _ => rfl
  | m + 1, h => by rw [cnt, cnt, cnt_cg m (fun b hb => h b (by omega)), h m (by omega)]
theorem cnt_add {P Q : Nat → Bool} {v : Nat} (hv : Q v = false) (hP : P v = true) (h : ∀ b, b ≠ v → P b = Q b) : ∀ m, cnt P m = cnt Q m + (if v < m then 1 else 0)
  | 0 => by rw [cnt, cnt, if_neg (by omega)]
  | m + 1 => by
    rw [cnt, cnt, cnt_add hv hP h m]
    by_cases e : m = v
    · rw [e, hv, hP, if_neg (show ¬ v < v by omega), if_pos (show v < v + 1 by omega)]
      simp
    · rw [h m e]
      by_cases g : v < m
      · rw [if_pos g, if_pos (show v < m + 1 by omega)]; omega
      · rw [if_neg g, if_neg (show ¬ v < m + 1 by omega)]; omega
theorem cnt_0 : ∀ m, cnt (fun _ => false) m = 0
  | 0 => rfl
  | m + 1 => by rw [cnt, cnt_0 m]; rfl
theorem cnt_le (P : Nat → Bool) : ∀ m, cnt P m ≤ m
  | 0 => Nat.le_refl _
  | m + 1 => by
    rw [cnt]
    have := cnt_le P m
    by_cases g : P m = true
    · rw [if_pos g]; omega
    · rw [if_neg g]; omega
theorem cnt_lt {P : Nat → Bool} {v : Nat} (hv : P v = false) : ∀ m, v < m → cnt P m < m
  | 0, h => by omega
  | m + 1, h => by
    rw [cnt]
    by_cases e : v = m
    · rw [← e, hv]
      have := cnt_le P v
      simp
      omega
    · have := cnt_lt hv m (by omega)
      by_cases g : P m = true
      · rw [if_pos g]; omega
      · rw [if_neg g]; omega
def hits (bs : Nat → Nat) : Nat → Nat → Bool
  | 0, _ => false
  | c + 1, b => hits bs c b || (bs c == b)
theorem hits_iff {bs : Nat → Nat} {b : Nat} : ∀ c, hits bs c b = true ↔ ∃ j, j < c ∧ bs j = b
  | 0 => ⟨fun h => (by rw [hits] at h; exact absurd h (by decide)), fun ⟨j, hj, _⟩ => by omega⟩
  | c + 1 => by
    rw [hits, Bool.or_eq_true, hits_iff c, beq_iff_eq]
    constructor
    · rintro (⟨j, h1, h2⟩ | h)
      · exact ⟨j, by omega, h2⟩
      · exact ⟨c, by omega, h⟩
    · rintro ⟨j, h1, h2⟩
      by_cases e : j = c
      · exact Or.inr (e ▸ h2)
      · exact Or.inl ⟨j, by omega, h2⟩
theorem hits_f {bs : Nat → Nat} {b c : Nat} (h : ∀ j, j < c → bs j ≠ b) : hits bs c b = false := by
  cases e : hits bs c b
  · rfl
  · obtain ⟨j, h1, h2⟩ := (hits_iff c).1 e
    exact absurd h2 (h j h1)
theorem cnt_hits {bs : Nat → Nat} : ∀ c, (∀ j, j < c → bs j < 10) → (∀ j k, j < k → k < c → bs j ≠ bs k) → cnt (hits bs c) 10 = c
  | 0, _, _ => cnt_0 10
  | c + 1, h1, h2 => by
    have ih := cnt_hits (bs := bs) c (fun j hj => h1 j (by omega)) (fun j k a b => h2 j k a (by omega))
    rw [cnt_add (P := hits bs (c + 1)) (Q := hits bs c) (v := bs c) (hits_f (fun j hj => h2 j c hj (by omega))) ((hits_iff (c + 1)).2 ⟨c, by omega, rfl⟩) (fun b hb => ?_) 10, ih, if_pos (h1 c (by omega))]
    rw [hits]
    have : (bs c == b) = false := by rw [beq_eq_false_iff_ne]; exact fun q => hb q.symm
    rw [this, Bool.or_false]
/-- the place of a buyer's bid -/
theorem place_ex {bs : Nat → Nat} {b : Nat} : ∀ c, (∃ j, j < c ∧ bs j = b ∧ ∀ k, k < j → bs k ≠ b) ∨ ∀ j, j < c → bs j ≠ b
  | 0 => Or.inr (fun j hj => by omega)
  | c + 1 => by
    rcases place_ex (bs := bs) (b := b) c with ⟨j, h1, h2, h3⟩ | h
    · exact Or.inl ⟨j, by omega, h2, h3⟩
    · by_cases e : bs c = b
      · exact Or.inl ⟨c, by omega, e, h⟩
      · refine Or.inr (fun j hj => ?_)
        by_cases q : j = c
        · rw [q]; exact e
        · exact h j (by omega)
theorem hund_n {k a b r : Nat} (hk : k ≤ 1000000) (ha : a ≤ 1000000) (hb : b ≤ 2000000) (hr : r ≤ 100) : fW_hundredths (nI k) (nI a) (nI b) (nI r) = nI ((min k b - a) * r / 100) := by
  have e : (if nI b ≤ nI k then nI b else nI k) = nI (min k b) := by
    by_cases h : b ≤ k
    · rw [if_pos ((nI_leI (by omega) (by omega)).2 h), Nat.min_eq_right h]
    · rw [if_neg (fun q => h ((nI_leI (by omega) (by omega)).1 q)), Nat.min_eq_left (by omega)]
  unfold fW_hundredths
  rw [e]
  by_cases h : min k b ≤ a
  · rw [if_pos ((nI_leI (by omega) (by omega)).2 h), show min k b - a = 0 by omega, Nat.zero_mul]
    rfl
  · rw [if_neg (fun q => h ((nI_leI (by omega) (by omega)).1 q)), pk_sub (by omega), pct_n (by omega) hr]
theorem feeN_le {k : Nat} (hk : k ≤ 1000000) : feeN k ≤ 250000 := by unfold feeN; omega
theorem feeW_n {k : Nat} (hk : k ≤ 1000000) : fW_fee (nI k) = nI (feeN k) := by
  show fW_hundredths (nI k) (nI 0) (nI 10000) (nI 25) + fW_hundredths (nI k) (nI 10000) (nI 50000) (nI 20) + fW_hundredths (nI k) (nI 50000) (nI 2000000) (nI 12) = _
  rw [hund_n hk (by omega) (by omega) (by omega), hund_n hk (by omega) (by omega) (by omega), hund_n hk (by omega) (by omega) (by omega), nI_add, nI_add]
  exact congrArg nI (by unfold feeN; omega)
theorem fee_eq {x : Int32} (h : P6 x) : fX_feeFor x = fW_fee x := by
  obtain ⟨k, hk, rfl⟩ := h
  rw [feeX_n hk, feeW_n hk]
/-- the share's sum, the law's way -/
def shS (x : Int32) : Int32 := if 12500 ≤ (((fW_hundredths x 0 50000 4) + (fW_hundredths x 50000 200000 3)) + (fW_hundredths x 200000 2000000 1)) then 12500 else ((fW_hundredths x 0 50000 4) + (fW_hundredths x 50000 200000 3)) + (fW_hundredths x 200000 2000000 1)
theorem shN_le {k : Nat} (hk : k ≤ 1000000) : shN k ≤ 1000000 := by unfold shN; omega
theorem shS_n {k : Nat} (hk : k ≤ 1000000) : shS (nI k) = nI (min 12500 (shN k)) := by
  have e : ((fW_hundredths (nI k) 0 50000 4) + (fW_hundredths (nI k) 50000 200000 3)) + (fW_hundredths (nI k) 200000 2000000 1) = nI (shN k) := by
    show fW_hundredths (nI k) (nI 0) (nI 50000) (nI 4) + fW_hundredths (nI k) (nI 50000) (nI 200000) (nI 3) + fW_hundredths (nI k) (nI 200000) (nI 2000000) (nI 1) = _
    rw [hund_n hk (by omega) (by omega) (by omega), hund_n hk (by omega) (by omega) (by omega), hund_n hk (by omega) (by omega) (by omega), nI_add, nI_add]
    exact congrArg nI (by unfold shN; omega)
  have hs := shN_le hk
  unfold shS
  rw [e]
  have g : (12500 : Int32) ≤ nI (shN k) ↔ 12500 ≤ shN k := le_n (a := 12500) (by omega) hs
  by_cases q : 12500 ≤ shN k
  · rw [if_pos (g.2 q), Nat.min_eq_left q]; rfl
  · rw [if_neg (fun z => q (g.1 z)), Nat.min_eq_right (by omega)]
theorem sh_cap {x : Int32} (h : P6 x) : imin 12500 (fX_ofBand x 0 50000 4 + fX_ofBand x 50000 200000 3 + fX_ofBand x 200000 1000000 1) = shS x := by
  obtain ⟨k, hk, rfl⟩ := h
  rw [shX_n hk, shS_n hk]
theorem callP {x : Int32} (h : P6 x) : fX_calledAmount x = fW_call x ∧ PC (fW_call x) := by
  obtain ⟨k, hk, rfl⟩ := h
  rw [callX_n (by omega), callW_n (by omega)]
  exact ⟨rfl, k, hk, rfl⟩
theorem PC.p6 {x : Int32} (h : PC x) : P6 x := by
  obtain ⟨k, hk, rfl⟩ := h
  exact ⟨callN k, Nat.le_trans (callN_le k) hk, rfl⟩
theorem PC.pos {x : Int32} (h : PC x) : 0 < x + 1 := by
  obtain ⟨k, hk, rfl⟩ := h.p6
  rw [show (1 : Int32) = nI 1 from rfl, nI_add]
  exact nI_lt (a := 0) (by omega) (by omega)
theorem i_sub_add (x : Int32) : x - 1 + 1 = x := Int32.sub_add_cancel x 1
theorem i_add_sub (x : Int32) : x + 1 - 1 = x := Int32.add_sub_cancel x 1
