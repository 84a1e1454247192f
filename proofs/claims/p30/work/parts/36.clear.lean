theorem cnt_step {sA : NA} {j k : Nat} : nI (cnt (leftB sA j) k) + (if 0 < sA 7 (10 * j + k) then 1 else 0 : Int32) = nI (cnt (leftB sA j) (k + 1)) := by
  rw [cnt]
  by_cases h : 0 < sA 7 (10 * j + k)
  · have e : leftB sA j k = true := decide_eq_true h
    rw [if_pos h, e]
    exact nI_add _ 1
  · have e : leftB sA j k = false := decide_eq_false h
    rw [if_neg h, e]
    exact nI_add _ 0
/-- the law's bids of lot i cleared -/
def clr (sA : NA) (i : Nat) : NA := fun x y => if x = 7 ∧ 10 * i ≤ y ∧ y < 10 * i + 10 then 0 else sA x y
theorem clr_hit {sA : NA} {i b : Nat} (hb : b < 10) : clr sA i 7 (10 * i + b) = 0 := if_pos ⟨rfl, by omega, by omega⟩
theorem clr_miss {sA : NA} {i x y : Nat} (h : x ≠ 7 ∨ y < 10 * i ∨ 10 * i + 10 ≤ y) : clr sA i x y = sA x y := if_neg (fun q => by omega)
theorem clr_rmiss {sA : NA} {i x : Nat} (h : x ≠ 7) : clr sA i x = sA x := by funext y; exact clr_miss (Or.inl h)
theorem FR.clr {sA s1 : NA} {k i : Nat} (h : FR sA s1 k) (hk : k ≠ i) : FR sA (clr s1 i) k := by
  refine ⟨fun r hr => ?_, fun b hb => ⟨?_, ?_, ?_⟩, fun b hb => ?_⟩
  · rw [clr_rmiss (by omega)]; exact h.1 r hr
  · rw [clr_miss (by omega)]; exact (h.2.1 b hb).1
  · rw [clr_miss (by omega)]; exact (h.2.1 b hb).2.1
  · rw [clr_miss (by omega)]; exact (h.2.1 b hb).2.2
  · rw [clr_miss (by omega)]; exact h.2.2 b hb
theorem clears_lp {sL : NL} {sA : NA} {i : Nat} (hi : i < 6) : ∀ (f j : Nat) (s : NA), j + f = 11 → j ≤ 10 → (∀ b, j ≤ b → b < 10 → s 7 (10 * i + b) = sA 7 (10 * i + b)) → lW_clears sL i f j (nI (cnt (leftB sA i) j)) s = (nI (cnt (leftB sA i) 10), sL, fun x y => if x = 7 ∧ 10 * i + j ≤ y ∧ y < 10 * i + 10 then 0 else s x y) := by
  intro f
  induction f with
  | zero => intro j s h h10 hs; omega
  | succ f ih =>
    intro j s h h10 hs
    have c10 : nI (10 * i + 10) ≤ nI (10 * i + j) ↔ 10 ≤ j := by rw [nI_leI (by omega) (by omega)]; omega
    rw [lW_clears]
    by_cases g : 10 ≤ j
    · rw [if_pos (c10.2 g), show j = 10 by omega]
      congr 2
      funext x y
      rw [if_neg (by omega)]
    · have hs2 : ∀ b, j + 1 ≤ b → b < 10 → up2 s 7 (10 * i + j) 0 7 (10 * i + b) = sA 7 (10 * i + b) := fun b h1 h2 => by rw [up2_miss (by omega)]; exact hs b (by omega) h2
      have st := cnt_step (sA := sA) (j := i) (k := j)
      have fin : (fun x y => if x = 7 ∧ 10 * i + (j + 1) ≤ y ∧ y < 10 * i + 10 then (0 : Int32) else up2 s 7 (10 * i + j) 0 x y) = fun x y => if x = 7 ∧ 10 * i + j ≤ y ∧ y < 10 * i + 10 then 0 else s x y := by
        funext x y
        by_cases e : x = 7 ∧ y = 10 * i + j
        · rw [e.1, e.2, up2_hit, if_neg (by omega), if_pos (by omega)]
        · rw [up2_miss (by omega)]
          by_cases q : x = 7 ∧ 10 * i + (j + 1) ≤ y ∧ y < 10 * i + 10
          · rw [if_pos q, if_pos (by omega)]
          · rw [if_neg q, if_neg (by omega)]
      rw [if_neg (fun q => g (c10.1 q)), hs j (Nat.le_refl _) (by omega)]
      by_cases e : sA 7 (10 * i + j) ≤ 0
      · rw [if_neg (Int32.not_lt.mpr e)] at st
        rw [if_pos e, st, ih (j + 1) _ (by omega) (by omega) hs2, fin]
      · rw [if_pos (Int32.not_le.mp e)] at st
        rw [if_neg e, st, ih (j + 1) _ (by omega) (by omega) hs2, fin]
theorem clears_eq {sL : NL} {sA : NA} {i : Nat} (hi : i < 6) : fW_clears sL sA i = (nI (cnt (leftB sA i) 10), sL, clr sA i) := clears_lp hi 11 0 sA rfl (by omega) (fun _ _ _ => rfl)
theorem leftB_cg {sA sA2 : NA} {i : Nat} (h : ∀ b, b < 10 → sA2 7 (10 * i + b) = sA 7 (10 * i + b)) : cnt (leftB sA2 i) 10 = cnt (leftB sA i) 10 := cnt_cg 10 (fun b hb => by unfold leftB; rw [h b hb])
/-- no bids -/
theorem BI.none {lm : Nat} {sA : NA} {i : Nat} (h1 : sA (4 * i + 12) 2 = 0) (h2 : ∀ b, b < 10 → sA 7 (10 * i + b) = 0) : BI lm sA i := by
  refine ⟨0, fun _ => 0, fun _ => 0, by omega, h1, fun j hj => by omega, fun j k _ hk => by omega, fun b hb _ => ?_⟩
  show sA 7 (10 * i + b) - 1 = -1
  rw [h2 b hb]; decide
/-- a lot opened -/
def opn (sA : NA) (i : Nat) (v : Int32) : NA := up2 (up2 (up2 (up2 (up2 sA (4 * i + 12) 2 0) (4 * i + 11) 3 v) (4 * i + 11) 4 0) (4 * i + 11) 5 (-1)) (4 * i + 11) 6 (-1)
theorem opn_lo {sA : NA} {i : Nat} {v : Int32} {x : Nat} (hx : x < 11) : opn sA i v x = sA x := by
  unfold opn
  rw [up2_rmiss (by omega), up2_rmiss (by omega), up2_rmiss (by omega), up2_rmiss (by omega), up2_rmiss (by omega)]
theorem E_again {n K : Nat} {sL : NL} {sA : NA} (h : INV n K sL sA) {i a : Nat} (hi : i < n) (ha : a ≤ 1000000) (h3 : sA 5 (10 * i + 3) = 1) :
    ∃ sA2 : NA, fD_again n sL sA (nI i) (nI a) = ((fW_clears sL sA2 i).1, sL, sA2) ∧ INV n (K + 1) (fW_clears sL sA2 i).2.1 (up2 (up2 (fW_clears sL sA2 i).2.2 5 (10 * i + 1) (fW_call (nI a))) 5 (10 * i + 3) 0) := by
  have hn6 := h.n6
  obtain ⟨⟨v0, v0b⟩, ⟨v1, v1b⟩, ⟨v2, v2b⟩, ⟨e4, s4⟩, v5, ⟨v6a, v6b, v6c⟩, v7, ⟨v8, v8b⟩, ⟨e10, eP⟩, ⟨v11, v11b⟩, v12, v13, v14⟩ := h.si hi
  have e : fX_checkRange (nI a) 0 1000000 = 0 := range_n (lo := 0) (hi := 1000000) (by omega) ha (by omega)
  have e2 : fX_checkState sL sA i 1 = 0 := chk_y (by rw [e4, h3])
  obtain ⟨c1, c2⟩ := callP ⟨a, ha, rfl⟩
  have hp6 := c2.p6
  obtain ⟨lm, -, -, cn, bs, la, hx⟩ := h.bi hi
  obtain ⟨v, ev⟩ : ∃ v, v = fW_call (nI a) := ⟨_, rfl⟩
  rw [← ev] at hp6
  have q4 : ¬ sA 5 (10 * i + 3) = 4 := by rw [h3]; decide
  have q2 : sA 5 (10 * i + 3) ≤ 2 := by rw [h3]; decide
  refine ⟨opn sA i v, ?_, ?_⟩
  · rw [fD_again, fX_again, bndq_s (h.find hi), bnd_0 e, bnd_0 e2, clears_eq (by omega), leftB_cg (sA := sA) (fun b hb => by rw [opn_lo (by omega)]), ← hx.many, c1, ← ev]
    exact wrapD_0 rfl
  · rw [clears_eq (by omega), ← ev]
    dsimp only
    refine h.at hi 0 0 0 (h.1.cg (fun y hy => ?_) (fun y hy => ?_)) (h.2.1.cg (fun k hk => ?_) (fun k hk => ?_)) (h.2.2.1.cg (by omega) (fun k hk => ?_) (fun k hk => ?_) ?_) ⟨⟨?_, ?_⟩, ⟨?_, ?_⟩, ⟨?_, ?_⟩, ⟨?_, Or.inl ?_⟩, Or.inr ⟨?_, ?_, ?_⟩, ⟨?_, ?_, ?_⟩, ?_, ⟨?_, ?_⟩, ⟨?_, ?_⟩, ⟨?_, ?_⟩, ?_, ?_⟩ (fun lm l1 l2 _ => ⟨lm, Nat.le_refl _, by omega, ?_, BI.none ?_ (fun b hb => ?_)⟩) (fun k hk => ?_) ?_ ⟨?_, ?_⟩ ⟨?_, ?_⟩ ⟨?_, ?_⟩ <;> (try simp (disch := omega) only [opn, clr_miss, clr_hit, up2_hit, up2_miss]) <;> first | with_reducible assumption | with_reducible exact (Int64.add_zero _).symm | (refine FR.up (FR.up (FR.clr ?_ hk) (by omega)) (by omega); repeat (first | exact FR.refl | refine FR.up ?_ (by omega))) | decide | exact ⟨v13, v14⟩ | skip
    · unfold mI
      simp (disch := omega) only [opn, clr_miss, up2_hit, up2_miss]
      rw [if_pos (by decide), if_pos q2, Int64.add_zero]
    · unfold mO
      simp (disch := omega) only [opn, clr_miss, up2_hit, up2_miss]
      rw [if_neg (by decide), if_neg q4]
      exact (Int64.add_zero _).symm
    · unfold mK
      simp (disch := omega) only [opn, clr_miss, up2_hit, up2_miss]
      rw [if_pos (by decide), if_neg (by decide), if_pos q2, if_neg q4]
      exact (Int64.add_zero _).symm
theorem E_defaults {n K : Nat} {sL : NL} {sA : NA} (h : INV n K sL sA) {i : Nat} (hi : i < n) (h3 : sA 5 (10 * i + 3) = 2) :
    ∃ sA2 : NA, fD_defaults n sL sA (nI i) = (sA 5 (10 * i + 4), sL, sA2) ∧ (∀ x, x < 11 → sA2 x = sA x) ∧
      ∀ (g p : Int32), ((sA 5 (10 * i + 7) = 0 ∧ g = sA 5 (10 * i + 4) + 1 ∧ p = sA 5 (10 * i + 5)) ∨ (¬ sA 5 (10 * i + 7) ≤ 0 ∧ g = sA 5 (10 * i + 7) ∧ p = sA 5 (10 * i + 8))) → ∀ sA3, sA3 = up2 (up2 (up2 sA2 5 (10 * i + 8) p) 5 (10 * i + 7) g) 5 (10 * i + 3) 0 → INV n (K + 1) (fW_clears sL sA3 i).2.1 (fW_clears sL sA3 i).2.2 := by
  have hn6 := h.n6
  obtain ⟨⟨v0, v0b⟩, ⟨v1, v1b⟩, ⟨v2, v2b⟩, ⟨e4, s4⟩, v5, ⟨v6a, v6b, v6c⟩, v7, ⟨v8, v8b⟩, ⟨e10, eP⟩, ⟨v11, v11b⟩, v12, v13, v14⟩ := h.si hi
  obtain ⟨-, w5, w6, w7⟩ := v5.resolve_right (fun q => q.1 (by rw [h3]; decide))
  have e2 : fX_checkState sL sA i 2 = 0 := chk_y (by rw [e4, h3])
  have q4 : ¬ sA 5 (10 * i + 3) = 4 := by rw [h3]; decide
  have q2 : sA 5 (10 * i + 3) ≤ 2 := by rw [h3]; decide
  have fin : ∀ (c8 c9 g p : Int32), P6 p → ((g = 0 ∧ c8 = -1) ∨ ∃ q : Nat, q < 10 ∧ g = nI (q + 1) ∧ c8 = nI q) → c9 = p → ∀ sA3, sA3 = up2 (up2 (up2 (opn (up2 (up2 sA (4 * i + 11) 8 c8) (4 * i + 11) 9 c9) i (sA (4 * i + 11) 3)) 5 (10 * i + 8) p) 5 (10 * i + 7) g) 5 (10 * i + 3) 0 → INV n (K + 1) (fW_clears sL sA3 i).2.1 (fW_clears sL sA3 i).2.2 := by
    intro c8 c9 g p hp hg h9 sA3 e3
    subst e3
    subst h9
    rw [clears_eq (by omega)]
    dsimp only
    refine h.at hi 0 0 0 (h.1.cg (fun y hy => ?_) (fun y hy => ?_)) (h.2.1.cg (fun k hk => ?_) (fun k hk => ?_)) (h.2.2.1.cg (by omega) (fun k hk => ?_) (fun k hk => ?_) ?_) ⟨⟨?_, ?_⟩, ⟨?_, ?_⟩, ⟨?_, ?_⟩, ⟨?_, Or.inl ?_⟩, Or.inr ⟨?_, ?_, ?_⟩, ⟨?_, ?_, ?_⟩, ?_, ⟨?_, ?_⟩, ⟨?_, ?_⟩, ⟨?_, ?_⟩, ?_, ?_⟩ (fun lm l1 l2 _ => ⟨lm, Nat.le_refl _, by omega, ?_, BI.none ?_ (fun b hb => ?_)⟩) (fun k hk => ?_) ?_ ⟨?_, ?_⟩ ⟨?_, ?_⟩ ⟨?_, ?_⟩ <;> (try simp (disch := omega) only [opn, clr_miss, clr_hit, up2_hit, up2_miss]) <;> first | with_reducible assumption | with_reducible exact (Int64.add_zero _).symm | (refine FR.clr ?_ hk; repeat (first | exact FR.refl | refine FR.up ?_ (by omega))) | decide | exact ⟨v13, v14⟩ | skip
    · unfold mI
      simp (disch := omega) only [opn, clr_miss, up2_hit, up2_miss]
      rw [if_pos (by decide), if_pos q2, Int64.add_zero]
    · unfold mO
      simp (disch := omega) only [opn, clr_miss, up2_hit, up2_miss]
      rw [if_neg (by decide), if_neg q4]
      exact (Int64.add_zero _).symm
    · unfold mK
      simp (disch := omega) only [opn, clr_miss, up2_hit, up2_miss]
      rw [if_pos (by decide), if_neg (by decide), if_pos q2, if_neg q4]
      exact (Int64.add_zero _).symm
  rcases v7 with ⟨g7, g8⟩ | ⟨q, hq, g7, g8⟩
  · refine ⟨opn (up2 (up2 sA (4 * i + 11) 8 (sA 5 (10 * i + 4))) (4 * i + 11) 9 (sA 5 (10 * i + 5))) i (sA (4 * i + 11) 3), ?_, fun x hx => by rw [opn_lo hx, up2_rmiss (by omega), up2_rmiss (by omega)], fun g p hgp => ?_⟩
    · rw [fD_defaults, fX_defaults, bndq_s (h.find hi), bnd_0 e2, if_pos g8, w5, w6]
      exact wrapD_0 rfl
    · rcases hgp with ⟨-, y1, y2⟩ | ⟨y, -⟩
      · refine fin _ _ g p (by rw [y2]; exact v6b) (Or.inr ⟨(sA 5 (10 * i + 4)).toNatClampNeg, vin_nat v6a, ?_, vin_eq v6a⟩) y2.symm
        rw [y1, ← nI_1, ← vin_eq v6a]
      · exact absurd (by rw [g7]; decide) y
  · refine ⟨opn sA i (sA (4 * i + 11) 3), ?_, fun x hx => opn_lo hx, fun g p hgp => ?_⟩
    · rw [fD_defaults, fX_defaults, bndq_s (h.find hi), bnd_0 e2, if_neg (by rw [g8]; intro z; have := congrArg Int32.toInt z; rw [nI_toInt (by omega), m1_int] at this; omega), w5]
      exact wrapD_0 rfl
    · rcases hgp with ⟨y, -⟩ | ⟨-, y1, y2⟩
      · exact absurd y (by rw [g7]; exact nI_ne0 (by omega) (by omega))
      · have e8 : up2 (up2 sA (4 * i + 11) 8 (nI q)) (4 * i + 11) 9 (sA 5 (10 * i + 8)) = sA := by
          rw [up2_id (sA := sA) g8.symm, up2_id v8.symm]
        intro sA3 e3
        exact fin (nI q) (sA 5 (10 * i + 8)) g p (by rw [y2]; exact v8b) (Or.inr ⟨q, hq, by rw [y1, g7], rfl⟩) y2.symm sA3 (by rw [e8]; exact e3)
