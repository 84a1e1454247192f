/-- the bids of lot i cleared -/
def clr (sA : NA) (i : Nat) : NA := fun x y => if x = 13 ∧ 10 * i ≤ y ∧ y < 10 * i + 10 then -1 else sA x y
theorem clr_hit {sA : NA} {i b : Nat} (hb : b < 10) : clr sA i 13 (10 * i + b) = -1 := if_pos ⟨rfl, by omega, by omega⟩
theorem clr_miss {sA : NA} {i x y : Nat} (h : x ≠ 13 ∨ y < 10 * i ∨ 10 * i + 10 ≤ y) : clr sA i x y = sA x y := if_neg (fun q => by omega)
theorem clr_rmiss {sA : NA} {i x : Nat} (h : x ≠ 13) : clr sA i x = sA x := by funext y; exact clr_miss (Or.inl h)
theorem FR.clr {sA s1 : NA} {k i : Nat} (h : FR sA s1 k) (hk : k ≠ i) : FR sA (clr s1 i) k := by
  refine ⟨fun r hr => ?_, fun x h1 h2 h3 h4 => ?_, fun b hb => ⟨?_, ?_⟩⟩
  · rw [clr_rmiss (by omega)]; exact h.1 r hr
  · rw [clr_miss (by omega)]; exact h.2.1 x h1 h2 h3 h4
  · rw [clr_miss (by omega)]; exact (h.2.2 b hb).1
  · rw [clr_miss (by omega)]; exact (h.2.2 b hb).2
theorem mul10n (i : Nat) : (10 : Int32) * nI i = nI (10 * i) := pk_mul 10 i
theorem clear_lp {sL : NL} {i : Nat} (hi : i < 30) : ∀ (f j : Nat) (s : NA), j + f = 11 → j ≤ 10 → lM_clear sL (nI i) f j s = (sL, fun x y => if x = 13 ∧ 10 * i + j ≤ y ∧ y < 10 * i + 10 then -1 else s x y) := by
  intro f
  induction f with
  | zero => intro j s h h10; omega
  | succ f ih =>
    intro j s h h10
    have c10 : (10 : Int32) ≤ nI j ↔ 10 ≤ j := nI_leI (a := 10) (by omega) (by omega)
    rw [lM_clear]
    by_cases g : 10 ≤ j
    · rw [if_pos (c10.2 g)]
      congr 1
      funext x y
      rw [if_neg (by omega)]
    · rw [if_neg (fun q => g (c10.1 q)), ih (j + 1) _ (by omega) (by omega), mul10n, nI_add, nI_clamp (by omega)]
      congr 1
      funext x y
      by_cases e : x = 13 ∧ y = 10 * i + j
      · rw [e.1, e.2, up2_hit, if_neg (by omega), if_pos (by omega)]
      · rw [up2_miss (by omega)]
        by_cases q : x = 13 ∧ 10 * i + (j + 1) ≤ y ∧ y < 10 * i + 10
        · rw [if_pos q, if_pos (by omega)]
        · rw [if_neg q, if_neg (by omega)]
theorem clear_eq {sL : NL} {sA : NA} {i : Nat} (hi : i < 30) : fM_clearBids sL sA (nI i) = (sL, clr sA i) := clear_lp hi 11 0 sA rfl (by omega)
theorem P6.ne {x : Int32} (h : P6 x) : x ≠ -1 := by
  obtain ⟨k, hk, rfl⟩ := h
  intro q
  have := congrArg Int32.toInt q
  rw [nI_toInt (by omega)] at this
  have e : (-1 : Int32).toInt = -1 := rfl
  omega
/-! how many -/
def cnt (P : Nat → Bool) : Nat → Nat
  | 0 => 0
  | m + 1 => cnt P m + (if P m then 1 else 0)
theorem cnt_cg {P Q : Nat → Bool} : ∀ m, (∀ b, b < m → P b = Q b) → cnt P m = cnt Q m
  | 0, _ => rfl
  | m + 1, h => by rw [cnt, cnt, cnt_cg m (fun b hb => h b (by omega)), h m (by omega)]
theorem cnt_add {P Q : Nat → Bool} {v : Nat} (hv : Q v = false) (hP : P v = true) (h : ∀ b, b ≠ v → P b = Q b) : ∀ m, cnt P m = cnt Q m + (if v < m then 1 else 0)
  | 0 => by rw [cnt, cnt, if_neg (by omega)]
  | m + 1 => by
    rw [cnt, cnt, cnt_add hv hP h m]
    by_cases e : m = v
    · rw [e, hv, hP, if_neg (show ¬ v < v by omega), if_pos (show v < v + 1 by omega)]
      simp
    · rw [h m e]
      by_cases g : v < m
      · rw [if_pos g, if_pos (show v < m + 1 by omega)]; omega
      · rw [if_neg g, if_neg (show ¬ v < m + 1 by omega)]; omega
theorem cnt_0 : ∀ m, cnt (fun _ => false) m = 0
  | 0 => rfl
  | m + 1 => by rw [cnt, cnt_0 m]; rfl
theorem cnt_le (P : Nat → Bool) : ∀ m, cnt P m ≤ m
  | 0 => Nat.le_refl _
  | m + 1 => by
    rw [cnt]
    have := cnt_le P m
    by_cases g : P m = true
    · rw [if_pos g]; omega
    · rw [if_neg g]; omega
theorem cnt_lt {P : Nat → Bool} {v : Nat} (hv : P v = false) : ∀ m, v < m → cnt P m < m
  | 0, h => by omega
  | m + 1, h => by
    rw [cnt]
    by_cases e : v = m
    · rw [← e, hv]
      have := cnt_le P v
      simp
      omega
    · have := cnt_lt hv m (by omega)
      by_cases g : P m = true
      · rw [if_pos g]; omega
      · rw [if_neg g]; omega
def hits (bs : Nat → Nat) : Nat → Nat → Bool
  | 0, _ => false
  | c + 1, b => hits bs c b || (bs c == b)
theorem hits_iff {bs : Nat → Nat} {b : Nat} : ∀ c, hits bs c b = true ↔ ∃ j, j < c ∧ bs j = b
  | 0 => ⟨fun h => (by rw [hits] at h; exact absurd h (by decide)), fun ⟨j, hj, _⟩ => by omega⟩
  | c + 1 => by
    rw [hits, Bool.or_eq_true, hits_iff c, beq_iff_eq]
    constructor
    · rintro (⟨j, h1, h2⟩ | h)
      · exact ⟨j, by omega, h2⟩
      · exact ⟨c, by omega, h⟩
    · rintro ⟨j, h1, h2⟩
      by_cases e : j = c
      · exact Or.inr (e ▸ h2)
      · exact Or.inl ⟨j, by omega, h2⟩
theorem hits_f {bs : Nat → Nat} {b c : Nat} (h : ∀ j, j < c → bs j ≠ b) : hits bs c b = false := by
  cases e : hits bs c b
  · rfl
  · obtain ⟨j, h1, h2⟩ := (hits_iff c).1 e
    exact absurd h2 (h j h1)
theorem cnt_hits {bs : Nat → Nat} : ∀ c, (∀ j, j < c → bs j < 10) → (∀ j k, j < k → k < c → bs j ≠ bs k) → cnt (hits bs c) 10 = c
  | 0, _, _ => cnt_0 10
  | c + 1, h1, h2 => by
    have ih := cnt_hits (bs := bs) c (fun j hj => h1 j (by omega)) (fun j k a b => h2 j k a (by omega))
    rw [cnt_add (P := hits bs (c + 1)) (Q := hits bs c) (v := bs c) (hits_f (fun j hj => h2 j c hj (by omega))) ((hits_iff (c + 1)).2 ⟨c, by omega, rfl⟩) (fun b hb => ?_) 10, ih, if_pos (h1 c (by omega))]
    rw [hits]
    have : (bs c == b) = false := by rw [beq_eq_false_iff_ne]; exact fun q => hb q.symm
    rw [this, Bool.or_false]
theorem many_lp {s : NL} {sA : NA} {i : Nat} (hi : i < 30) (P : Nat → Bool) (hP : ∀ b, b < 10 → (P b = false ↔ sA 13 (10 * i + b) = -1)) : ∀ (f j : Nat), j + f = 11 → j ≤ 10 → lM_many s sA (nI i) f j (nI (cnt P j)) = nI (cnt P 10) := by
  intro f
  induction f with
  | zero => intro j h h10; omega
  | succ f ih =>
    intro j h h10
    rw [lM_many, mul10n, nI_clamp (by omega), show nI (10 * i) + 10 = nI (10 * i + 10) from nI_add _ 10]
    by_cases g : 10 ≤ j
    · rw [if_pos ((nI_leI (by omega) (by omega)).2 (by omega)), show j = 10 by omega]
    · rw [if_neg (fun q => g (by have := (nI_leI (by omega) (by omega)).1 q; omega))]
      by_cases e : sA 13 (10 * i + j) = -1
      · have hp := (hP j (by omega)).2 e
        rw [if_pos e, Int32.add_zero, show cnt P j = cnt P (j + 1) by rw [cnt, hp]; rfl]
        exact ih (j + 1) (by omega) (by omega)
      · have hp : P j = true := by
          cases q : P j
          · exact absurd ((hP j (by omega)).1 q) e
          · rfl
        rw [if_neg e, show nI (cnt P j) + 1 = nI (cnt P (j + 1)) by rw [cnt, hp]; exact nI_add _ 1]
        exact ih (j + 1) (by omega) (by omega)
theorem BX.many {lm c : Nat} {cn : Int32} {rb ra bid left : Nat → Int32} {bs la : Nat → Nat} (h : BX lm cn rb ra bid left c bs la) {s : NL} {sA : NA} {i : Nat} (hi : i < 30) (hb : ∀ b, b < 10 → sA 13 (10 * i + b) = bid b) : fM_bidMany s sA (nI i) = cn := by
  obtain ⟨h1, h2, h3, h4, h5⟩ := h
  rw [h2, ← cnt_hits c (fun j hj => (h3 j hj).1) (fun j k a b => (h4 j k a b).1)]
  refine many_lp hi (hits bs c) (fun b hb10 => ?_) 11 0 rfl (by omega)
  rw [hb b hb10]
  constructor
  · intro q
    refine h5 b hb10 (fun j hj e => ?_)
    rw [(hits_iff c).2 ⟨j, hj, e⟩] at q
    exact absurd q (by decide)
  · intro q
    refine hits_f (fun j hj e => ?_)
    obtain ⟨a1, a2, a3, a4, -⟩ := h3 j hj
    rw [e] at a4
    exact a3.ne (a4 ▸ q)
theorem INV.bi {n K : Nat} {sL : NL} {sA : NA} (h : INV n K sL sA) {i : Nat} (hi : i < n) : ∃ lm, lm ≤ K ∧ sA 5 10 = nI lm ∧ BI lm sA i := by
  obtain ⟨-, -, -, -, -, lm, h1, h2, hl, -⟩ := h
  exact ⟨lm, h1, h2, (hl i hi).2⟩
theorem E_bids {n K : Nat} {sL : NL} {sA : NA} (h : INV n K sL sA) (hK : K ≤ 600) (p0 : Int32) : EQ n K (fW_bids n sL sA p0) (fM_bids (fW_bids n sL sA p0).2.1 (fW_bids n sL sA p0).2.2 p0) := by
  rcases h.lot p0 with ⟨i, hi, rfl, h1, h2⟩ | ⟨h1, h2⟩
  · have hn := h.1.1
    have eW : fW_bids n sL sA (nI i) = (0, up2L sL 4 0 (sA (4 * i + 23) 2).toInt64, sA) := by rw [fW_bids, fX_bids, bndq_s h1]; exact wrapR_0 rfl
    rw [eW, fM_bids, asks_1 (h2 _)]
    dsimp only
    rw [if_neg n10]
    obtain ⟨lm, -, -, c, bs, la, hx⟩ := h.bi hi
    exact EQ_get h (hx.many (by omega) (fun b hb => up2_miss (by omega))).symm
  · have eW : fW_bids n sL sA p0 = (1, sL, sA) := by rw [fW_bids, fX_bids, bndq_n h1]; exact wrapR_1 rfl
    rw [eW, fM_bids, asks_0 (h2 _)]
    dsimp only
    rw [if_pos rfl]
    exact EQ_err h (by decide)
/-- no bids -/
theorem BI.none {lm : Nat} {sA : NA} {i : Nat} (h1 : sA (4 * i + 23) 2 = 0) (h2 : ∀ b, b < 10 → sA 13 (10 * i + b) = -1) : BI lm sA i := by
  refine ⟨0, fun _ => 0, fun _ => 0, by omega, h1, fun j hj => by omega, fun j k _ hk => by omega, fun b hb _ => h2 b hb⟩
