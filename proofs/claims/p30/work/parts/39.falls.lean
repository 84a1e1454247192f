theorem PC.ne {x : Int32} (h : PC x) : x ≠ -1 := h.p6.ne
theorem nI_m1 {k : Nat} (hk : k < 2 ^ 31) : nI k ≠ -1 := by
  intro q
  have := congrArg Int32.toInt q
  rw [nI_toInt hk, m1_int] at this
  omega
theorem best_lp {sL : NL} {sA : NA} {i c : Nat} (hc : sA (4 * i + 12) 2 = nI c) (hc10 : c ≤ 10) (hp : ∀ k, k < c → P6 (sA (4 * i + 14) k)) : ∀ (f j : Nat) (x : Int32), j + f = 11 → j ≤ c → ((j = 0 ∧ x = -1) ∨ ∃ J, J < j ∧ x = nI J ∧ (∀ k, k < J → sA (4 * i + 14) k < sA (4 * i + 14) J) ∧ ∀ k, k < j → sA (4 * i + 14) k ≤ sA (4 * i + 14) J) → (c = 0 ∧ lO_best sL sA i f j x = -1) ∨ ∃ J, J < c ∧ lO_best sL sA i f j x = nI J ∧ (∀ k, k < J → sA (4 * i + 14) k < sA (4 * i + 14) J) ∧ ∀ k, k < c → sA (4 * i + 14) k ≤ sA (4 * i + 14) J := by
  intro f
  induction f with
  | zero => intro j x h1 h2; omega
  | succ f ih =>
    intro j x h1 h2 hx
    rw [lO_best]
    have hcj : sA (4 * i + 12) 2 ≤ nI j ↔ c ≤ j := by rw [hc]; exact nI_leI (by omega) (by omega)
    by_cases g : c ≤ j
    · rw [if_pos (hcj.2 g)]
      have e : j = c := by omega
      rw [e] at hx
      exact hx
    · rw [if_neg (fun q => g (hcj.1 q)), amountAt_n hc (by omega) hc10]
      have hj := (hp j (by omega)).int
      rcases hx with ⟨e, ex⟩ | ⟨J, q1, q2, q3, q4⟩
      · rw [ex, amountAt_m, if_neg (by rw [i32_le, m1_int]; omega)]
        refine ih (j + 1) _ (by omega) (by omega) (Or.inr ⟨j, by omega, rfl, fun k hk => by omega, fun k hk => ?_⟩)
        rw [show k = j by omega, i32_le]; omega
      · rw [q2, amountAt_n hc (by omega) hc10]
        by_cases a : sA (4 * i + 14) j ≤ sA (4 * i + 14) J
        · rw [if_pos a]
          refine ih (j + 1) _ (by omega) (by omega) (Or.inr ⟨J, by omega, rfl, q3, fun k hk => ?_⟩)
          by_cases z : k = j
          · rw [z]; exact a
          · exact q4 k (by omega)
        · rw [if_neg a]
          refine ih (j + 1) _ (by omega) (by omega) (Or.inr ⟨j, by omega, rfl, fun k hk => ?_, fun k hk => ?_⟩)
          · have z := q4 k hk
            rw [i32_le] at z a
            rw [i32_lt]
            omega
          · by_cases z : k = j
            · rw [z, i32_le]; omega
            · have z := q4 k (by omega)
              rw [i32_le] at z a ⊢
              omega
theorem beside_lp {sL : NL} {sA : NA} {i c J : Nat} (hc : sA (4 * i + 12) 2 = nI c) (hc10 : c ≤ 10) (hJ : J < c) : ∀ (f j : Nat) (x : Int32), j + f = 11 → j ≤ c → (-1 ≤ x.toInt ∧ (x = -1 ∨ ∃ k, k < j ∧ k ≠ J ∧ x = sA (4 * i + 14) k) ∧ ∀ k, k < j → k ≠ J → (sA (4 * i + 14) k).toInt ≤ x.toInt) →
    (-1 ≤ (lO_beside sL sA i (nI J) f j x).toInt ∧ (lO_beside sL sA i (nI J) f j x = -1 ∨ ∃ k, k < c ∧ k ≠ J ∧ lO_beside sL sA i (nI J) f j x = sA (4 * i + 14) k) ∧ ∀ k, k < c → k ≠ J → (sA (4 * i + 14) k).toInt ≤ (lO_beside sL sA i (nI J) f j x).toInt) := by
  intro f
  induction f with
  | zero => intro j x h1 h2; omega
  | succ f ih =>
    intro j x h1 h2 hx
    rw [lO_beside]
    have hcj : sA (4 * i + 12) 2 ≤ nI j ↔ c ≤ j := by rw [hc]; exact nI_leI (by omega) (by omega)
    by_cases g : c ≤ j
    · rw [if_pos (hcj.2 g)]
      have e : j = c := by omega
      rw [e] at hx
      exact hx
    · rw [if_neg (fun q => g (hcj.1 q))]
      obtain ⟨x1, x2, x3⟩ := hx
      by_cases e : j = J
      · rw [if_pos (by rw [e])]
        refine ih (j + 1) _ (by omega) (by omega) ⟨x1, ?_, fun k hk hkJ => x3 k (by omega) hkJ⟩
        rcases x2 with x2 | ⟨k, a1, a2, a3⟩
        · exact Or.inl x2
        · exact Or.inr ⟨k, by omega, a2, a3⟩
      · rw [if_neg (fun q => e ((nI_eq (by omega) (by omega)).1 q)), amountAt_n hc (by omega) hc10]
        by_cases a : x ≤ sA (4 * i + 14) j
        · rw [imax_ge a]
          rw [i32_le] at a
          refine ih (j + 1) _ (by omega) (by omega) ⟨by omega, Or.inr ⟨j, by omega, e, rfl⟩, fun k hk hkJ => ?_⟩
          by_cases z : k = j
          · rw [z]; omega
          · have := x3 k (by omega) hkJ
            omega
        · rw [imax_lt a]
          rw [i32_le] at a
          refine ih (j + 1) _ (by omega) (by omega) ⟨x1, ?_, fun k hk hkJ => ?_⟩
          · rcases x2 with x2 | ⟨k, a1, a2, a3⟩
            · exact Or.inl x2
            · exact Or.inr ⟨k, by omega, a2, a3⟩
          · by_cases z : k = j
            · rw [z]; omega
            · exact x3 k (by omega) hkJ
theorem price_6 {res amt M : Int32} (h1 : P6 res) (h2 : P6 amt) (h : res ≤ amt) : P6 (fX_priceFor res amt M) := by
  have a1 := h1.int
  have a2 := h2.int
  rw [fX_priceFor]
  by_cases g : M = -1
  · rw [if_pos g]
    by_cases g2 : res = 0
    · rw [if_pos g2]
      by_cases g3 : amt ≤ 50
      · rw [imin_ge g3]; exact h2
      · rw [imin_lt g3]; exact ⟨50, by omega, rfl⟩
    · rw [if_neg g2]; exact h1
  · rw [if_neg g]
    generalize M + fX_stepOf M = q
    by_cases g2 : res ≤ q
    · rw [imax_ge g2]
      by_cases g3 : q ≤ amt
      · rw [imin_ge g3]
        rw [i32_le] at g2 g3
        exact P6_int (by omega) (by omega)
      · rw [imin_lt g3]; exact h2
    · rw [imax_lt g2, imin_ge h]; exact h1

/-- the reference's best bid is the class's -/
theorem best_same {lm c : Nat} {cn : Int32} {rb ra bid left : Nat → Int32} {bs la : Nat → Nat} (h : BX lm cn rb ra bid left c bs la) (hlm : lm < 2 ^ 31) {b0 J : Nat} (hb0 : b0 < 10) (hne : bid b0 ≠ -1) (hmax : ∀ b, b < 10 → bid b ≠ -1 → bid b ≤ bid b0 ∧ (bid b = bid b0 → left b0 ≤ left b)) (hJ : J < c) (hf : ∀ k, k < J → ra k < ra J) (hm : ∀ k, k < c → ra k ≤ ra J) : b0 = bs J := by
  obtain ⟨h1, h2, h3, h4, h5⟩ := h
  rcases place_ex (bs := bs) (b := b0) c with ⟨j, j1, j2, -⟩ | q
  · obtain ⟨a1, a2, a3, a4, a5, a6⟩ := h3 j j1
    obtain ⟨d1, d2, d3, d4, d5, d6⟩ := h3 J hJ
    obtain ⟨w1, w2⟩ := hmax (bs J) d1 (by rw [d4]; exact d3.ne)
    rw [← j2, d4, a4] at w1 w2
    rw [a6, d6] at w2
    have w3 := hm j j1
    rw [i32_le] at w1 w3
    have e : ra J = ra j := by rw [i32_eq]; omega
    have w4 := (nI_leI (by omega) (by omega)).1 (w2 e)
    have : j = J := by
      rcases Nat.lt_trichotomy j J with z | z | z
      · have y := hf j z
        rw [i32_lt, e] at y
        omega
      · exact z
      · have y := (h4 J j z j1).2
        omega
    rw [← j2, this]
  · exact absurd (h5 b0 hb0 q) hne
theorem beside_same {lm c : Nat} {cn : Int32} {rb ra bid left : Nat → Int32} {bs la : Nat → Nat} (h : BX lm cn rb ra bid left c bs la) {J : Nat} (hJ : J < c) {M N : Int32}
    (m1 : -1 ≤ M.toInt ∧ (M = -1 ∨ ∃ k, k < c ∧ k ≠ J ∧ M = ra k) ∧ ∀ k, k < c → k ≠ J → (ra k).toInt ≤ M.toInt)
    (m2 : -1 ≤ N.toInt ∧ (N = -1 ∨ ∃ b, b < 10 ∧ b ≠ bs J ∧ N = bid b) ∧ ∀ b, b < 10 → b ≠ bs J → (bid b).toInt ≤ N.toInt) : M = N := by
  obtain ⟨h1, h2, h3, h4, h5⟩ := h
  obtain ⟨x1, x2, x3⟩ := m1
  obtain ⟨y1, y2, y3⟩ := m2
  have hd : ∀ k, k < c → k ≠ J → bs k ≠ bs J := fun k hk hkj => by
    rcases Nat.lt_or_gt_of_ne hkj with g | g
    · exact (h4 k J g hJ).1
    · exact fun q => (h4 J k g hk).1 q.symm
  rw [i32_eq]
  have l1 : M.toInt ≤ N.toInt := by
    rcases x2 with x2 | ⟨k, a1, a2, a3⟩
    · rw [x2, m1_int]; exact y1
    · have z := y3 (bs k) (h3 k a1).1 (hd k a1 a2)
      rw [(h3 k a1).2.2.2.1] at z
      rw [a3]; exact z
  have l2 : N.toInt ≤ M.toInt := by
    rcases y2 with y2 | ⟨b, a1, a2, a3⟩
    · rw [y2, m1_int]; exact x1
    · rcases place_ex (bs := bs) (b := b) c with ⟨j, j1, j2, -⟩ | q
      · have z := x3 j j1 (fun e => a2 (by rw [← j2, e]))
        rw [a3, ← j2, (h3 j j1).2.2.2.1]; exact z
      · rw [a3, h5 b a1 q, m1_int]; exact x1
  omega
/-- behind the law's loop over the bids -/
def fallT (sL : NL) (sA : NA) (i : Nat) (x y : Int32) : Int32 × NL × NA := if x < 0 then ((-1), sL, (up2 sA 5 (10 * i + 3) 1)) else (if (sA 5 (10 * i + 1)) ≤ ((sA 7 x.toNatClampNeg) - 1) then (if 0 ≤ y then (wmin (wmax (fW_next y) (sA 5 (10 * i + 1))) ((sA 7 x.toNatClampNeg) - 1), sL, (up2 (up2 (up2 (up2 sA 5 (10 * i + 3) 2) 5 (10 * i + 4) (x - x / 10 * 10)) 5 (10 * i + 5) (wmin (wmax (fW_next y) (sA 5 (10 * i + 1))) ((sA 7 x.toNatClampNeg) - 1))) 5 (10 * i + 6) (sA 4 2))) else (if (sA 5 (10 * i + 1)) = 0 then (wmin (wmax 50 (sA 5 (10 * i + 1))) ((sA 7 x.toNatClampNeg) - 1), sL, (up2 (up2 (up2 (up2 sA 5 (10 * i + 3) 2) 5 (10 * i + 4) (x - x / 10 * 10)) 5 (10 * i + 5) (wmin (wmax 50 (sA 5 (10 * i + 1))) ((sA 7 x.toNatClampNeg) - 1))) 5 (10 * i + 6) (sA 4 2))) else (wmin (wmax (sA 5 (10 * i + 1)) (sA 5 (10 * i + 1))) ((sA 7 x.toNatClampNeg) - 1), sL, (up2 (up2 (up2 (up2 sA 5 (10 * i + 3) 2) 5 (10 * i + 4) (x - x / 10 * 10)) 5 (10 * i + 5) (wmin (wmax (sA 5 (10 * i + 1)) (sA 5 (10 * i + 1))) ((sA 7 x.toNatClampNeg) - 1))) 5 (10 * i + 6) (sA 4 2))))) else ((-1), sL, (up2 sA 5 (10 * i + 3) 1)))
/-- best place and second bid among the first j -/
def FI (sA : NA) (i j : Nat) (x y : Int32) : Prop :=
  (x = -1 ∧ y = -1 ∧ ∀ b, b < j → sA 7 (10 * i + b) ≤ 0) ∨
  ∃ b0, b0 < j ∧ x = nI (10 * i + b0) ∧ 0 < sA 7 (10 * i + b0) ∧ (∀ b, b < j → 0 < sA 7 (10 * i + b) → sA 7 (10 * i + b) ≤ sA 7 (10 * i + b0) ∧ (sA 7 (10 * i + b) = sA 7 (10 * i + b0) → sA 8 (10 * i + b0) ≤ sA 8 (10 * i + b))) ∧
    -1 ≤ y.toInt ∧ (y = -1 ∨ ∃ b, b < j ∧ b ≠ b0 ∧ y = sA 7 (10 * i + b) - 1) ∧ ∀ b, b < j → b ≠ b0 → 0 < sA 7 (10 * i + b) → (sA 7 (10 * i + b) - 1).toInt ≤ y.toInt
theorem falls_lp {sL : NL} {sA : NA} {i : Nat} (hi : i < 6) (hB : ∀ b, b < 10 → 0 ≤ (sA 7 (10 * i + b)).toInt ∧ (sA 7 (10 * i + b)).toInt ≤ 1000001) : ∀ (f j : Nat) (x y : Int32), j + f = 11 → j ≤ 10 → FI sA i j x y → ∃ x' y', FI sA i 10 x' y' ∧ lW_falls sL sA i f j x y = fallT sL sA i x' y' := by
  intro f
  induction f with
  | zero => intro j x y h1 h2; omega
  | succ f ih =>
    intro j x y h1 h2 hF
    have c10 : (10 : Int32) ≤ nI j ↔ 10 ≤ j := nI_leI (a := 10) (by omega) (by omega)
    by_cases g : 10 ≤ j
    · refine ⟨x, y, by rw [show j = 10 by omega] at hF; exact hF, ?_⟩
      rw [lW_falls, if_pos (c10.2 g)]
      rfl
    rw [lW_falls, if_neg (fun q => g (c10.1 q))]
    have s1 : ∀ b, b < 10 → (sA 7 (10 * i + b) - 1).toInt = (sA 7 (10 * i + b)).toInt - 1 := fun b hb => by
      have := hB b hb
      exact i_sub (by show _ ≤ _ - (1 : Int); omega) (by show _ - (1 : Int) < _; omega)
    have hj := hB j (by omega)
    by_cases e : sA 7 (10 * i + j) ≤ 0
    · rw [if_pos e]
      refine ih (j + 1) x y (by omega) (by omega) ?_
      rcases hF with ⟨q1, q2, q3⟩ | ⟨b0, q1, q2, q3, q4, q5, q6, q7⟩
      · refine Or.inl ⟨q1, q2, fun b hb => ?_⟩
        by_cases z : b = j
        · rw [z]; exact e
        · exact q3 b (by omega)
      · refine Or.inr ⟨b0, by omega, q2, q3, fun b hb hp => ?_, q5, ?_, fun b hb hne hp => ?_⟩
        · by_cases z : b = j
          · rw [z] at hp; exact absurd hp (Int32.not_lt.mpr e)
          · exact q4 b (by omega) hp
        · rcases q6 with q6 | ⟨b, a1, a2, a3⟩
          · exact Or.inl q6
          · exact Or.inr ⟨b, by omega, a2, a3⟩
        · by_cases z : b = j
          · rw [z] at hp; exact absurd hp (Int32.not_lt.mpr e)
          · exact q7 b (by omega) hne hp
    · have ep := Int32.not_le.mp e
      rw [if_neg e]
      rcases hF with ⟨q1, q2, q3⟩ | ⟨b0, q1, q2, q3, q4, q5, q6, q7⟩
      · subst q1
        rw [if_pos (by decide)]
        refine ih (j + 1) _ _ (by omega) (by omega) (Or.inr ⟨j, by omega, rfl, ep, fun b hb hp => ?_, by rw [m1_int]; omega, Or.inl rfl, fun b hb hne hp => ?_⟩)
        · by_cases z : b = j
          · rw [z]; exact ⟨by rw [i32_le]; omega, fun _ => by rw [i32_le]; omega⟩
          · exact absurd hp (Int32.not_lt.mpr (q3 b (by omega)))
        · exact absurd hp (Int32.not_lt.mpr (q3 b (by omega)))
      · have hx0 : ¬ x < 0 := by rw [q2]; exact nI_pos (by omega)
        have hb0 := hB b0 (by omega)
        have up : ∀ P : Prop, (y = -1 ∨ ∃ b, b < j ∧ b ≠ b0 ∧ y = sA 7 (10 * i + b) - 1) → (y = -1 ∨ ∃ b, b < j + 1 ∧ b ≠ b0 ∧ y = sA 7 (10 * i + b) - 1) := fun _ w => by
          rcases w with w | ⟨b, a1, a2, a3⟩
          · exact Or.inl w
          · exact Or.inr ⟨b, by omega, a2, a3⟩
        -- the best stays
        have stay : ∀ y2 : Int32, (sA 7 (10 * i + j) ≤ sA 7 (10 * i + b0) ∧ (sA 7 (10 * i + j) = sA 7 (10 * i + b0) → sA 8 (10 * i + b0) ≤ sA 8 (10 * i + j))) → ((y2 = y ∧ (sA 7 (10 * i + j) - 1).toInt ≤ y.toInt) ∨ (y2 = sA 7 (10 * i + j) - 1 ∧ y.toInt ≤ (sA 7 (10 * i + j) - 1).toInt)) → ∃ x' y', FI sA i 10 x' y' ∧ lW_falls sL sA i f (j + 1) x y2 = fallT sL sA i x' y' := by
          intro y2 hle hy
          refine ih (j + 1) x y2 (by omega) (by omega) (Or.inr ⟨b0, by omega, q2, q3, fun b hb hp => ?_, ?_, ?_, fun b hb hne hp => ?_⟩)
          · by_cases z : b = j
            · rw [z]; exact hle
            · exact q4 b (by omega) hp
          · rcases hy with ⟨w, -⟩ | ⟨w, w2⟩
            · rw [w]; exact q5
            · rw [w]; omega
          · rcases hy with ⟨w, -⟩ | ⟨w, w2⟩
            · rw [w]; exact up True q6
            · exact Or.inr ⟨j, by omega, by omega, w⟩
          · by_cases z : b = j
            · rcases hy with ⟨w, w2⟩ | ⟨w, w2⟩
              · rw [w, z]; exact w2
              · rw [w, z]; omega
            · have := q7 b (by omega) hne hp
              rcases hy with ⟨w, w2⟩ | ⟨w, w2⟩
              · rw [w]; exact this
              · rw [w]; omega
        -- a new best
        have fresh : (sA 7 (10 * i + b0) ≤ sA 7 (10 * i + j) ∧ (sA 7 (10 * i + b0) = sA 7 (10 * i + j) → sA 8 (10 * i + j) < sA 8 (10 * i + b0))) → ∃ x' y', FI sA i 10 x' y' ∧ lW_falls sL sA i f (j + 1) (nI (10 * i + j)) (sA 7 (10 * i + b0) - 1) = fallT sL sA i x' y' := by
          intro hle
          rw [i32_le, i32_eq, i32_lt] at hle
          refine ih (j + 1) _ _ (by omega) (by omega) (Or.inr ⟨j, by omega, rfl, ep, fun b hb hp => ?_, by rw [s1 b0 (by omega)]; omega, Or.inr ⟨b0, by omega, by omega, rfl⟩, fun b hb hne hp => ?_⟩)
          · by_cases z : b = j
            · rw [z]; exact ⟨by rw [i32_le]; omega, fun _ => by rw [i32_le]; omega⟩
            · obtain ⟨a1, a2⟩ := q4 b (by omega) hp
              rw [i32_le] at a1
              rw [i32_eq, i32_le] at a2
              rw [i32_le, i32_eq, i32_le]
              exact ⟨by omega, fun w => by have := hle.2 (by omega); have := a2 (by omega); omega⟩
          · by_cases z : b = b0
            · rw [z]; omega
            · obtain ⟨a1, -⟩ := q4 b (by omega) hp
              rw [i32_le] at a1
              rw [s1 b (by omega), s1 b0 (by omega)]
              omega
        rw [if_neg hx0, q2, nI_clamp (show 10 * i + b0 < 2 ^ 31 by omega)]
        rw [q2] at stay
        have hx1 : (0 : Int32) ≤ nI (10 * i + b0) := nI_pos' (by omega)
        by_cases a : sA 7 (10 * i + b0) < sA 7 (10 * i + j)
        · rw [if_pos a]
          rw [i32_lt] at a
          exact fresh ⟨by rw [i32_le]; omega, fun w => by rw [i32_eq] at w; omega⟩
        rw [if_neg a]
        rw [i32_lt] at a
        have tl : (sA 7 (10 * i + j) ≤ sA 7 (10 * i + b0) ∧ (sA 7 (10 * i + j) = sA 7 (10 * i + b0) → sA 8 (10 * i + b0) ≤ sA 8 (10 * i + j))) → ∃ x' y', FI sA i 10 x' y' ∧ (if sA 7 (10 * i + j) - 1 ≤ y then lW_falls sL sA i f (j + 1) (nI (10 * i + b0)) y else lW_falls sL sA i f (j + 1) (nI (10 * i + b0)) (sA 7 (10 * i + j) - 1)) = fallT sL sA i x' y' := by
          intro hle
          by_cases w : sA 7 (10 * i + j) - 1 ≤ y
          · rw [if_pos w]
            exact stay y hle (Or.inl ⟨rfl, by rw [i32_le] at w; exact w⟩)
          · rw [if_neg w]
            exact stay _ hle (Or.inr ⟨rfl, by rw [i32_le] at w; omega⟩)
        by_cases a2 : sA 7 (10 * i + j) = sA 7 (10 * i + b0)
        · rw [if_pos a2]
          by_cases a3 : sA 8 (10 * i + b0) ≤ sA 8 (10 * i + j)
          · rw [if_pos a3]
            exact tl ⟨by rw [i32_le]; rw [i32_eq] at a2; omega, fun _ => a3⟩
          · rw [if_neg a3]
            exact fresh ⟨by rw [i32_le]; rw [i32_eq] at a2; omega, fun _ => Int32.not_le.mp a3⟩
        · rw [if_neg a2]
          exact tl ⟨by rw [i32_le]; omega, fun w => absurd w a2⟩
theorem imin_w {a b : Int32} : imin a b = wmin a b := by
  by_cases h : b ≤ a
  · rw [imin_ge h, wmin, if_pos h]
  · rw [imin_lt h, wmin, if_neg h]
theorem imax_w {a b : Int32} : imax a b = wmax b a := by
  by_cases h : b ≤ a
  · rw [wmax, if_pos h]
    by_cases z : a ≤ b
    · rw [imax_ge z]; rw [i32_le] at h z; rw [i32_eq]; omega
    · rw [imax_lt z]
  · rw [wmax, if_neg h, imax_ge (by rw [i32_le] at h ⊢; omega)]
theorem imin_c {a b : Int32} : imin a b = imin b a := by
  by_cases h : b ≤ a
  · by_cases z : a ≤ b
    · rw [imin_ge h, imin_ge z]; rw [i32_le] at h z; rw [i32_eq]; omega
    · rw [imin_ge h, imin_lt z]
  · rw [imin_lt h, imin_ge (by rw [i32_le] at h ⊢; omega)]
/-- the law's price -/
def lawP (res amt y : Int32) : Int32 := if 0 ≤ y then wmin (wmax (fW_next y) res) amt else if res = 0 then wmin (wmax 50 res) amt else wmin (wmax res res) amt
theorem price_eq {res amt y : Int32} (hr : P6 res) (hle : res ≤ amt) (hy : -1 ≤ y.toInt) : fX_priceFor res amt y = lawP res amt y := by
  unfold fX_priceFor lawP
  by_cases h : y = -1
  · rw [if_pos h, if_neg (show ¬ 0 ≤ y by rw [h]; decide)]
    by_cases z : res = 0
    · rw [if_pos z, if_pos z, imin_w, z, show wmax 50 0 = 50 from rfl]
    · rw [if_neg z, if_neg z, wmax, if_pos (by rw [i32_le]; omega), ← imin_w]
      by_cases w : amt ≤ res
      · rw [imin_ge w]; rw [i32_le] at w hle; rw [i32_eq]; omega
      · rw [imin_lt w]
  · have h0 : 0 ≤ y := by
      rw [i32_le, z_int]
      have : y.toInt ≠ -1 := fun q => h (by rw [i32_eq, m1_int]; exact q)
      omega
    rw [if_neg h, if_pos h0, imin_c, imin_w, imax_w]
    rfl
