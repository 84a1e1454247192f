theorem i32_le {a b : Int32} : a ≤ b ↔ a.toInt ≤ b.toInt := Int32.le_iff_toInt_le
theorem i32_lt {a b : Int32} : a < b ↔ a.toInt < b.toInt := Int32.lt_iff_toInt_lt
theorem i32_eq {a b : Int32} : a = b ↔ a.toInt = b.toInt := Int32.toInt_inj.symm
theorem m1_int : (-1 : Int32).toInt = -1 := rfl
theorem z_int : (0 : Int32).toInt = 0 := rfl
theorem imin_ge {a b : Int32} (h : b ≤ a) : imin a b = b := by
  show (if b < a then b else a) = b
  by_cases g : b < a
  · exact if_pos g
  · rw [if_neg g, i32_eq]
    rw [i32_le] at h; rw [i32_lt] at g
    omega
theorem imin_lt {a b : Int32} (h : ¬ b ≤ a) : imin a b = a := by
  show (if b < a then b else a) = a
  rw [if_neg (fun g => h (by rw [i32_le]; rw [i32_lt] at g; omega))]
theorem imax_ge {a b : Int32} (h : a ≤ b) : imax a b = b := by
  show (if a < b then b else a) = b
  by_cases g : a < b
  · exact if_pos g
  · rw [if_neg g, i32_eq]
    rw [i32_le] at h; rw [i32_lt] at g
    omega
theorem imax_lt {a b : Int32} (h : ¬ a ≤ b) : imax a b = a := by
  show (if a < b then b else a) = a
  rw [if_neg (fun g => h (by rw [i32_le]; rw [i32_lt] at g; omega))]
theorem P6.int {a : Int32} (h : P6 a) : 0 ≤ a.toInt ∧ a.toInt ≤ 1000000 := by
  obtain ⟨k, hk, rfl⟩ := h
  rw [nI_toInt (by omega)]
  omega
theorem P6_int {a : Int32} (h1 : 0 ≤ a.toInt) (h2 : a.toInt ≤ 1000000) : P6 a := P6_of (by rw [i32_le, z_int]; exact h1) (by rw [i32_le]; exact h2)
theorem best_lp {sL : NL} {sA : NA} {i c : Nat} (hc : sA (4 * i + 23) 2 = nI c) (hc10 : c ≤ 10) (hp : ∀ k, k < c → P6 (sA (4 * i + 25) k)) : ∀ (f j : Nat) (x : Int32), j + f = 11 → j ≤ c → ((j = 0 ∧ x = -1) ∨ ∃ J, J < j ∧ x = nI J ∧ (∀ k, k < J → sA (4 * i + 25) k < sA (4 * i + 25) J) ∧ ∀ k, k < j → sA (4 * i + 25) k ≤ sA (4 * i + 25) J) → (c = 0 ∧ lO_best sL sA i f j x = -1) ∨ ∃ J, J < c ∧ lO_best sL sA i f j x = nI J ∧ (∀ k, k < J → sA (4 * i + 25) k < sA (4 * i + 25) J) ∧ ∀ k, k < c → sA (4 * i + 25) k ≤ sA (4 * i + 25) J := by
  intro f
  induction f with
  | zero => intro j x h1 h2; omega
  | succ f ih =>
    intro j x h1 h2 hx
    rw [lO_best]
    have hcj : sA (4 * i + 23) 2 ≤ nI j ↔ c ≤ j := by rw [hc]; exact nI_leI (by omega) (by omega)
    by_cases g : c ≤ j
    · rw [if_pos (hcj.2 g)]
      have e : j = c := by omega
      rw [e] at hx
      exact hx
    · rw [if_neg (fun q => g (hcj.1 q)), amountAt_n hc (by omega) hc10]
      have hj := (hp j (by omega)).int
      rcases hx with ⟨e, ex⟩ | ⟨J, q1, q2, q3, q4⟩
      · rw [ex, amountAt_m, if_neg (by rw [i32_le, m1_int]; omega)]
        refine ih (j + 1) _ (by omega) (by omega) (Or.inr ⟨j, by omega, rfl, fun k hk => by omega, fun k hk => ?_⟩)
        rw [show k = j by omega, i32_le]; omega
      · rw [q2, amountAt_n hc (by omega) hc10]
        by_cases a : sA (4 * i + 25) j ≤ sA (4 * i + 25) J
        · rw [if_pos a]
          refine ih (j + 1) _ (by omega) (by omega) (Or.inr ⟨J, by omega, rfl, q3, fun k hk => ?_⟩)
          by_cases z : k = j
          · rw [z]; exact a
          · exact q4 k (by omega)
        · rw [if_neg a]
          refine ih (j + 1) _ (by omega) (by omega) (Or.inr ⟨j, by omega, rfl, fun k hk => ?_, fun k hk => ?_⟩)
          · have z := q4 k hk
            rw [i32_le] at z a
            rw [i32_lt]
            omega
          · by_cases z : k = j
            · rw [z, i32_le]; omega
            · have z := q4 k (by omega)
              rw [i32_le] at z a ⊢
              omega
theorem beside_lp {sL : NL} {sA : NA} {i c J : Nat} (hc : sA (4 * i + 23) 2 = nI c) (hc10 : c ≤ 10) (hJ : J < c) : ∀ (f j : Nat) (x : Int32), j + f = 11 → j ≤ c → (-1 ≤ x.toInt ∧ (x = -1 ∨ ∃ k, k < j ∧ k ≠ J ∧ x = sA (4 * i + 25) k) ∧ ∀ k, k < j → k ≠ J → (sA (4 * i + 25) k).toInt ≤ x.toInt) →
    (-1 ≤ (lO_beside sL sA i (nI J) f j x).toInt ∧ (lO_beside sL sA i (nI J) f j x = -1 ∨ ∃ k, k < c ∧ k ≠ J ∧ lO_beside sL sA i (nI J) f j x = sA (4 * i + 25) k) ∧ ∀ k, k < c → k ≠ J → (sA (4 * i + 25) k).toInt ≤ (lO_beside sL sA i (nI J) f j x).toInt) := by
  intro f
  induction f with
  | zero => intro j x h1 h2; omega
  | succ f ih =>
    intro j x h1 h2 hx
    rw [lO_beside]
    have hcj : sA (4 * i + 23) 2 ≤ nI j ↔ c ≤ j := by rw [hc]; exact nI_leI (by omega) (by omega)
    by_cases g : c ≤ j
    · rw [if_pos (hcj.2 g)]
      have e : j = c := by omega
      rw [e] at hx
      exact hx
    · rw [if_neg (fun q => g (hcj.1 q))]
      obtain ⟨x1, x2, x3⟩ := hx
      by_cases e : j = J
      · rw [if_pos (by rw [e])]
        refine ih (j + 1) _ (by omega) (by omega) ⟨x1, ?_, fun k hk hkJ => x3 k (by omega) hkJ⟩
        rcases x2 with x2 | ⟨k, a1, a2, a3⟩
        · exact Or.inl x2
        · exact Or.inr ⟨k, by omega, a2, a3⟩
      · rw [if_neg (fun q => e ((nI_eq (by omega) (by omega)).1 q)), amountAt_n hc (by omega) hc10]
        by_cases a : x ≤ sA (4 * i + 25) j
        · rw [imax_ge a]
          rw [i32_le] at a
          refine ih (j + 1) _ (by omega) (by omega) ⟨by omega, Or.inr ⟨j, by omega, e, rfl⟩, fun k hk hkJ => ?_⟩
          by_cases z : k = j
          · rw [z]; omega
          · have := x3 k (by omega) hkJ
            omega
        · rw [imax_lt a]
          rw [i32_le] at a
          refine ih (j + 1) _ (by omega) (by omega) ⟨x1, ?_, fun k hk hkJ => ?_⟩
          · rcases x2 with x2 | ⟨k, a1, a2, a3⟩
            · exact Or.inl x2
            · exact Or.inr ⟨k, by omega, a2, a3⟩
          · by_cases z : k = j
            · rw [z]; omega
            · exact x3 k (by omega) hkJ
theorem nI_m1 {k : Nat} (hk : k < 2 ^ 31) : nI k ≠ -1 := by
  intro q
  have := congrArg Int32.toInt q
  rw [nI_toInt hk, m1_int] at this
  omega
theorem high_lp {s : NL} {sA : NA} {i : Nat} (hi : i < 30) : ∀ (f j : Nat) (x : Int32), j + f = 11 → j ≤ 10 →
    ((x = -1 ∧ ∀ b, b < j → sA 13 (10 * i + b) = -1) ∨ ∃ b0, b0 < j ∧ x = nI (10 * i + b0) ∧ sA 13 (10 * i + b0) ≠ -1 ∧ ∀ b, b < j → sA 13 (10 * i + b) ≠ -1 → sA 13 (10 * i + b) ≤ sA 13 (10 * i + b0) ∧ (sA 13 (10 * i + b) = sA 13 (10 * i + b0) → sA 14 (10 * i + b0) ≤ sA 14 (10 * i + b))) →
    ((lM_highest s sA (nI i) f j x = -1 ∧ ∀ b, b < 10 → sA 13 (10 * i + b) = -1) ∨ ∃ b0, b0 < 10 ∧ lM_highest s sA (nI i) f j x = nI (10 * i + b0) ∧ sA 13 (10 * i + b0) ≠ -1 ∧ ∀ b, b < 10 → sA 13 (10 * i + b) ≠ -1 → sA 13 (10 * i + b) ≤ sA 13 (10 * i + b0) ∧ (sA 13 (10 * i + b) = sA 13 (10 * i + b0) → sA 14 (10 * i + b0) ≤ sA 14 (10 * i + b))) := by
  intro f
  induction f with
  | zero => intro j x h1 h2; omega
  | succ f ih =>
    intro j x h1 h2 hx
    rw [lM_highest, mul10n, nI_clamp (show i < 2 ^ 31 by omega), show nI (10 * i) + 10 = nI (10 * i + 10) from nI_add _ 10]
    have hcj : nI (10 * i + 10) ≤ nI (10 * i + j) ↔ 10 ≤ j := by rw [nI_leI (by omega) (by omega)]; omega
    by_cases g : 10 ≤ j
    · rw [if_pos (hcj.2 g)]
      have e : j = 10 := by omega
      rw [e] at hx
      exact hx
    · rw [if_neg (fun q => g (hcj.1 q))]
      by_cases e : sA 13 (10 * i + j) = -1
      · rw [if_pos e]
        refine ih (j + 1) x (by omega) (by omega) ?_
        rcases hx with ⟨q1, q2⟩ | ⟨b0, q1, q2, q3, q4⟩
        · refine Or.inl ⟨q1, fun b hb => ?_⟩
          by_cases z : b = j
          · rw [z]; exact e
          · exact q2 b (by omega)
        · refine Or.inr ⟨b0, by omega, q2, q3, fun b hb hne => ?_⟩
          by_cases z : b = j
          · rw [z] at hne; exact absurd e hne
          · exact q4 b (by omega) hne
      · rw [if_neg e]
        rcases hx with ⟨q1, q2⟩ | ⟨b0, q1, q2, q3, q4⟩
        · rw [if_pos q1]
          refine ih (j + 1) _ (by omega) (by omega) (Or.inr ⟨j, by omega, rfl, e, fun b hb hne => ?_⟩)
          by_cases z : b = j
          · rw [z]; exact ⟨by rw [i32_le]; omega, fun _ => by rw [i32_le]; omega⟩
          · exact absurd (q2 b (by omega)) hne
        · rw [if_neg (by rw [q2]; exact nI_m1 (by omega)), q2, nI_clamp (show 10 * i + b0 < 2 ^ 31 by omega)]
          by_cases a : sA 13 (10 * i + b0) < sA 13 (10 * i + j)
          · rw [if_pos a]
            rw [i32_lt] at a
            refine ih (j + 1) _ (by omega) (by omega) (Or.inr ⟨j, by omega, rfl, e, fun b hb hne => ?_⟩)
            by_cases z : b = j
            · rw [z]; exact ⟨by rw [i32_le]; omega, fun _ => by rw [i32_le]; omega⟩
            · have w := (q4 b (by omega) hne).1
              rw [i32_le] at w
              exact ⟨by rw [i32_le]; omega, fun y => by rw [i32_eq] at y; omega⟩
          · rw [if_neg a]
            rw [i32_lt] at a
            by_cases a2 : sA 13 (10 * i + j) = sA 13 (10 * i + b0)
            · rw [if_pos a2]
              by_cases a3 : sA 14 (10 * i + b0) ≤ sA 14 (10 * i + j)
              · rw [if_pos a3]
                refine ih (j + 1) _ (by omega) (by omega) (Or.inr ⟨b0, by omega, rfl, q3, fun b hb hne => ?_⟩)
                by_cases z : b = j
                · rw [z]; exact ⟨by rw [a2, i32_le]; omega, fun _ => a3⟩
                · exact q4 b (by omega) hne
              · rw [if_neg a3]
                rw [i32_le] at a3
                refine ih (j + 1) _ (by omega) (by omega) (Or.inr ⟨j, by omega, rfl, e, fun b hb hne => ?_⟩)
                by_cases z : b = j
                · rw [z]; exact ⟨by rw [i32_le]; omega, fun _ => by rw [i32_le]; omega⟩
                · obtain ⟨w1, w2⟩ := q4 b (by omega) hne
                  refine ⟨by rw [a2]; exact w1, fun y => ?_⟩
                  have w3 := w2 (by rw [y, a2])
                  rw [i32_le] at w3 ⊢
                  omega
            · rw [if_neg a2]
              refine ih (j + 1) _ (by omega) (by omega) (Or.inr ⟨b0, by omega, rfl, q3, fun b hb hne => ?_⟩)
              by_cases z : b = j
              · rw [z]; exact ⟨by rw [i32_le]; omega, fun y => absurd y a2⟩
              · exact q4 b (by omega) hne
theorem but_lp {s : NL} {sA : NA} {i b0 : Nat} (hi : i < 30) (hb0 : b0 < 10) : ∀ (f j : Nat) (x : Int32), j + f = 11 → j ≤ 10 → (-1 ≤ x.toInt ∧ (x = -1 ∨ ∃ b, b < j ∧ b ≠ b0 ∧ x = sA 13 (10 * i + b)) ∧ ∀ b, b < j → b ≠ b0 → (sA 13 (10 * i + b)).toInt ≤ x.toInt) →
    (-1 ≤ (lM_but s sA (nI i) (nI (10 * i + b0)) f j x).toInt ∧ (lM_but s sA (nI i) (nI (10 * i + b0)) f j x = -1 ∨ ∃ b, b < 10 ∧ b ≠ b0 ∧ lM_but s sA (nI i) (nI (10 * i + b0)) f j x = sA 13 (10 * i + b)) ∧ ∀ b, b < 10 → b ≠ b0 → (sA 13 (10 * i + b)).toInt ≤ (lM_but s sA (nI i) (nI (10 * i + b0)) f j x).toInt) := by
  intro f
  induction f with
  | zero => intro j x h1 h2; omega
  | succ f ih =>
    intro j x h1 h2 hx
    rw [lM_but, mul10n, nI_clamp (show i < 2 ^ 31 by omega), show nI (10 * i) + 10 = nI (10 * i + 10) from nI_add _ 10]
    have hcj : nI (10 * i + 10) ≤ nI (10 * i + j) ↔ 10 ≤ j := by rw [nI_leI (by omega) (by omega)]; omega
    by_cases g : 10 ≤ j
    · rw [if_pos (hcj.2 g)]
      have e : j = 10 := by omega
      rw [e] at hx
      exact hx
    · rw [if_neg (fun q => g (hcj.1 q))]
      obtain ⟨x1, x2, x3⟩ := hx
      have up : x = -1 ∨ ∃ b, b < j + 1 ∧ b ≠ b0 ∧ x = sA 13 (10 * i + b) := by
        rcases x2 with x2 | ⟨k, a1, a2, a3⟩
        · exact Or.inl x2
        · exact Or.inr ⟨k, by omega, a2, a3⟩
      by_cases e : j = b0
      · rw [if_pos (by rw [e])]
        exact ih (j + 1) _ (by omega) (by omega) ⟨x1, up, fun k hk hkJ => x3 k (by omega) hkJ⟩
      · rw [if_neg (fun q => e (by have := (nI_eq (by omega) (by omega)).1 q; omega))]
        by_cases a : sA 13 (10 * i + j) ≤ x
        · rw [if_pos a]
          rw [i32_le] at a
          refine ih (j + 1) _ (by omega) (by omega) ⟨x1, up, fun k hk hkJ => ?_⟩
          by_cases z : k = j
          · rw [z]; omega
          · exact x3 k (by omega) hkJ
        · rw [if_neg a]
          rw [i32_le] at a
          refine ih (j + 1) _ (by omega) (by omega) ⟨by omega, Or.inr ⟨j, by omega, e, rfl⟩, fun k hk hkJ => ?_⟩
          by_cases z : k = j
          · rw [z]; omega
          · have := x3 k (by omega) hkJ
            omega
theorem ham_M {s : NL} {sA : NA} {p : Int32} {H M amt res : Int32} (hl : ¬ fM_isLot s sA p = 0) (hst : sA 9 p.toNatClampNeg = 0) (hH : fM_highest s (up2 sA 5 23 0) p = H) (hH1 : ¬ H = -1) (hamt : sA 13 H.toNatClampNeg = amt) (hres : sA 7 p.toNatClampNeg = res) (hM : fM_highestBut s (up2 sA 5 23 0) p H = M) (hle : res ≤ amt) :
    fM_hammer s sA p = (fX_priceFor res amt M, s, up2 (up2 (up2 (up2 (up2 sA 5 23 0) 9 p.toNatClampNeg 2) 10 p.toNatClampNeg (H - 10 * p)) 11 p.toNatClampNeg (fX_priceFor res amt M)) 12 p.toNatClampNeg (sA 5 19)) := by
  subst hM
  subst hamt
  subst hres
  subst hH
  rw [fM_hammer, if_neg hl, if_pos hst, if_neg hH1, if_pos hle]
  generalize fM_highestBut s (up2 sA 5 23 0) p (fM_highest s (up2 sA 5 23 0) p) = M
  generalize fM_highest s (up2 sA 5 23 0) p = H at *
  generalize sA 13 H.toNatClampNeg = amt at *
  generalize sA 7 p.toNatClampNeg = res at *
  by_cases g : M = -1
  · rw [if_pos g]
    have eP : fX_priceFor res amt M = if res = 0 then imin 50 amt else res := by rw [fX_priceFor, if_pos g]
    rw [eP]
    by_cases g2 : res = 0
    · rw [if_pos g2, if_pos g2, if_pos (by rw [g2]; decide)]
      by_cases g3 : 50 ≤ amt
      · have e : imin 50 amt = 50 := by
          show (if amt < 50 then amt else 50) = 50
          rw [if_neg (by rw [Int32.not_lt]; exact g3)]
        rw [if_pos g3, e]
      · have e : imin 50 amt = amt := by
          show (if amt < 50 then amt else 50) = amt
          rw [if_pos (by rw [← Int32.not_le]; exact g3)]
        rw [if_neg g3, e]
    · rw [if_neg g2, if_neg g2, if_pos (by rw [i32_le]; omega)]
  · rw [if_neg g]
    have eP : fX_priceFor res amt M = imin amt (imax res (M + fM_step M)) := by rw [fX_priceFor, if_neg g]; rfl
    rw [eP]
    generalize M + fM_step M = q
    by_cases g2 : res ≤ q
    · rw [if_pos g2, imax_ge g2]
      by_cases g3 : q ≤ amt
      · rw [if_pos g3, imin_ge g3]
      · rw [if_neg g3, imin_lt g3]
    · rw [if_neg g2, imax_lt g2, imin_ge hle]
theorem price_6 {res amt M : Int32} (h1 : P6 res) (h2 : P6 amt) (h : res ≤ amt) : P6 (fX_priceFor res amt M) := by
  have a1 := h1.int
  have a2 := h2.int
  rw [fX_priceFor]
  by_cases g : M = -1
  · rw [if_pos g]
    by_cases g2 : res = 0
    · rw [if_pos g2]
      by_cases g3 : amt ≤ 50
      · rw [imin_ge g3]; exact h2
      · rw [imin_lt g3]; exact ⟨50, by omega, rfl⟩
    · rw [if_neg g2]; exact h1
  · rw [if_neg g]
    generalize M + fX_stepOf M = q
    by_cases g2 : res ≤ q
    · rw [imax_ge g2]
      by_cases g3 : q ≤ amt
      · rw [imin_ge g3]
        rw [i32_le] at g2 g3
        exact P6_int (by omega) (by omega)
      · rw [imin_lt g3]; exact h2
    · rw [imax_lt g2, imin_ge h]; exact h1
