theorem BX.bnd {lm c : Nat} {cn : Int32} {rb ra left : Nat → Int32} {bs la : Nat → Nat} {sA : NA} {i : Nat} (h : BX lm cn rb ra (fun b => sA 7 (10 * i + b) - 1) left c bs la) : ∀ b, b < 10 → (sA 7 (10 * i + b) = 0 ∧ ∀ j, j < c → bs j ≠ b) ∨ (PC (sA 7 (10 * i + b) - 1) ∧ 0 < sA 7 (10 * i + b)) := by
  obtain ⟨h1, h2, h3, h4, h5⟩ := h
  intro b hb
  rcases place_ex (bs := bs) (b := b) c with ⟨j, j1, j2, -⟩ | q
  · obtain ⟨-, -, a3, a4, -⟩ := h3 j j1
    rw [j2] at a4
    dsimp only at a4
    have a5 : sA 7 (10 * i + b) = ra j + 1 := by rw [← a4, i_sub_add]
    exact Or.inr ⟨by rw [a4]; exact a3, by rw [a5]; exact a3.pos⟩
  · have a4 : sA 7 (10 * i + b) - 1 = -1 := h5 b hb q
    exact Or.inl ⟨by rw [← i_sub_add (sA 7 (10 * i + b)), a4]; decide, q⟩
theorem pc_b {x : Int32} (h : PC (x - 1)) : 0 ≤ x.toInt ∧ x.toInt ≤ 1000001 := by
  obtain ⟨k, hk, e⟩ := h.p6
  have : x = nI (k + 1) := by rw [← i_sub_add x, e]; exact nI_1 k
  rw [this, nI_toInt (by omega)]
  omega
theorem INV.hpc {n K : Nat} {sL : NL} {sA : NA} (h : INV n K sL sA) {i : Nat} (hi : i < n) : ∀ q : Nat, q < 10 → 0 < sA 7 (10 * i + q) → PC (sA 7 (10 * i + q) - 1) := by
  intro q hq h0
  obtain ⟨lm, -, -, c, bs, la, hx⟩ := h.bi hi
  rcases hx.bnd q hq with ⟨z, -⟩ | ⟨z, -⟩
  · rw [z] at h0; exact absurd h0 (by decide)
  · exact z
/-- no bid, or none that is enough -/
theorem INV.unsold {n K : Nat} {sL : NL} {sA : NA} (h : INV n K sL sA) {i : Nat} (hi : i < n) (h3 : sA 5 (10 * i + 3) = 0) : INV n (K + 1) sL (up2 (up2 sA (4 * i + 11) 4 1) 5 (10 * i + 3) 1) := by
  have hn6 := h.n6
  obtain ⟨⟨v0, v0b⟩, ⟨v1, v1b⟩, ⟨v2, v2b⟩, ⟨e4, s4⟩, v5, ⟨v6a, v6b, v6c⟩, v7, ⟨v8, v8b⟩, ⟨e10, eP⟩, ⟨v11, v11b⟩, v12, v13, v14⟩ := h.si hi
  obtain ⟨-, w5, w6⟩ := v5.resolve_left (fun q => absurd q.1 (by rw [h3]; decide))
  have q4 : ¬ sA 5 (10 * i + 3) = 4 := by rw [h3]; decide
  have q2 : sA 5 (10 * i + 3) ≤ 2 := by rw [h3]; decide
  refine h.at hi 0 0 0 (h.1.cg (fun y hy => ?_) (fun y hy => ?_)) (h.2.1.cg (fun k hk => ?_) (fun k hk => ?_)) (h.2.2.1.cg (by omega) (fun k hk => ?_) (fun k hk => ?_) ?_) ⟨⟨?_, ?_⟩, ⟨?_, ?_⟩, ⟨?_, ?_⟩, ⟨?_, Or.inr (Or.inl ?_)⟩, Or.inr ⟨?_, ?_, ?_⟩, ⟨?_, ?_, ?_⟩, ?_, ⟨?_, ?_⟩, ⟨?_, ?_⟩, ⟨?_, ?_⟩, ?_, ?_⟩ (bi_same h ?_ ?_) (fun k hk => ?_) ?_ ⟨?_, ?_⟩ ⟨?_, ?_⟩ ⟨?_, ?_⟩ <;> (try simp (disch := omega) only [up2_hit, up2_miss]) <;> first | with_reducible assumption | with_reducible exact (Int64.add_zero _).symm | (refine FR.up ?_ (by omega); repeat (first | exact FR.refl | refine FR.up ?_ (by omega))) | (refine FB.up ?_ (by omega); repeat (first | exact FB.refl | refine FB.up ?_ (by omega))) | decide | exact ⟨v13, v14⟩ | skip
  · unfold mI
    simp (disch := omega) only [up2_hit, up2_miss]
    rw [if_pos (by decide), if_pos q2, Int64.add_zero]
  · unfold mO
    simp (disch := omega) only [up2_hit, up2_miss]
    rw [if_neg (by decide), if_neg q4]
    exact (Int64.add_zero _).symm
  · unfold mK
    simp (disch := omega) only [up2_hit, up2_miss]
    rw [if_pos (by decide), if_neg (by decide), if_pos q2, if_neg q4]
    exact (Int64.add_zero _).symm
theorem INV.sold {n K : Nat} {sL : NL} {sA : NA} (h : INV n K sL sA) {i : Nat} (hi : i < n) (h3 : sA 5 (10 * i + 3) = 0) {b : Nat} (hb : b < 10) {pr : Int32} (hp : P6 pr) : INV n (K + 1) sL (up2 (up2 (up2 (up2 (up2 (up2 (up2 (up2 sA (4 * i + 11) 4 2) (4 * i + 11) 5 (nI b)) (4 * i + 11) 6 pr) (4 * i + 11) 7 (2000 + sA 0 4 / 365)) 5 (10 * i + 3) 2) 5 (10 * i + 4) (nI b)) 5 (10 * i + 5) pr) 5 (10 * i + 6) (sA 4 2)) := by
  have hn6 := h.n6
  obtain ⟨⟨v0, v0b⟩, ⟨v1, v1b⟩, ⟨v2, v2b⟩, ⟨e4, s4⟩, v5, ⟨v6a, v6b, v6c⟩, v7, ⟨v8, v8b⟩, ⟨e10, eP⟩, ⟨v11, v11b⟩, v12, v13, v14⟩ := h.si hi
  obtain ⟨-, ⟨td, t1, t2, t3⟩, -⟩ := h.1
  have vb : vp_in (nI b) 10 := vp_in_nI hb (by omega)
  have q4 : ¬ sA 5 (10 * i + 3) = 4 := by rw [h3]; decide
  have q2 : sA 5 (10 * i + 3) ≤ 2 := by rw [h3]; decide
  refine h.at hi 0 0 0 (h.1.cg (fun y hy => ?_) (fun y hy => ?_)) (h.2.1.cg (fun k hk => ?_) (fun k hk => ?_)) (h.2.2.1.cg (by omega) (fun k hk => ?_) (fun k hk => ?_) ?_) ⟨⟨?_, ?_⟩, ⟨?_, ?_⟩, ⟨?_, ?_⟩, ⟨?_, Or.inr (Or.inr (Or.inl ?_))⟩, Or.inl ⟨?_, ?_, ?_, ?_⟩, ⟨?_, ?_, ?_⟩, ?_, ⟨?_, ?_⟩, ⟨?_, ?_⟩, ⟨?_, ?_⟩, ?_, ?_⟩ (bi_same h ?_ ?_) (fun k hk => ?_) ?_ ⟨?_, ?_⟩ ⟨?_, ?_⟩ ⟨?_, ?_⟩ <;> (try simp (disch := omega) only [up2_hit, up2_miss]) <;> first | with_reducible assumption | with_reducible exact (Int64.add_zero _).symm | (refine FR.up ?_ (by omega); repeat (first | exact FR.refl | refine FR.up ?_ (by omega))) | (refine FB.up ?_ (by omega); repeat (first | exact FB.refl | refine FB.up ?_ (by omega))) | decide | exact ⟨v13, v14⟩ | skip
  · rw [t2, t3]
  · exact ⟨td, t1, t3⟩
  · unfold mI
    simp (disch := omega) only [up2_hit, up2_miss]
    rw [if_pos (by decide), if_pos q2, Int64.add_zero]
  · unfold mO
    simp (disch := omega) only [up2_hit, up2_miss]
    rw [if_neg (by decide), if_neg q4]
    exact (Int64.add_zero _).symm
  · unfold mK
    simp (disch := omega) only [up2_hit, up2_miss]
    rw [if_pos (by decide), if_neg (by decide), if_pos q2, if_neg q4]
    exact (Int64.add_zero _).symm
theorem fallT_at (sL : NL) (sA : NA) (i : Nat) (x y : Int32) : fallT sL sA i x y = if x < 0 then (-1, sL, up2 sA 5 (10 * i + 3) 1) else if sA 5 (10 * i + 1) ≤ sA 7 x.toNatClampNeg - 1 then (lawP (sA 5 (10 * i + 1)) (sA 7 x.toNatClampNeg - 1) y, sL, up2 (up2 (up2 (up2 sA 5 (10 * i + 3) 2) 5 (10 * i + 4) (x - x / 10 * 10)) 5 (10 * i + 5) (lawP (sA 5 (10 * i + 1)) (sA 7 x.toNatClampNeg - 1) y)) 5 (10 * i + 6) (sA 4 2)) else (-1, sL, up2 sA 5 (10 * i + 3) 1) := by
  unfold fallT lawP
  by_cases h1 : x < 0
  · rw [if_pos h1, if_pos h1]
  rw [if_neg h1, if_neg h1]
  by_cases h2 : sA 5 (10 * i + 1) ≤ sA 7 x.toNatClampNeg - 1
  · rw [if_pos h2, if_pos h2]
    by_cases h4 : 0 ≤ y
    · rw [if_pos h4, if_pos h4]
    · rw [if_neg h4, if_neg h4]
      by_cases h5 : sA 5 (10 * i + 1) = 0
      · rw [if_pos h5, if_pos h5]
      · rw [if_neg h5, if_neg h5]
  · rw [if_neg h2, if_neg h2]
theorem E_hammer {n K : Nat} {sL : NL} {sA : NA} (h : INV n K sL sA) (hK : K ≤ 130) {i : Nat} (hi : i < n) (h3 : sA 5 (10 * i + 3) = 0) :
    ∃ (v : Int32) (sA2 : NA), fD_hammer n sL sA (nI i) = (v, sL, sA2) ∧ (∀ x, x < 11 → sA2 x = sA x) ∧ v = (fW_falls sL sA2 i).1 ∧ INV n (K + 1) (fW_falls sL sA2 i).2.1 (fW_falls sL sA2 i).2.2 := by
  have hn6 := h.n6
  have hs := h.si hi
  obtain ⟨⟨v0, v0b⟩, ⟨v1, v1b⟩, ⟨v2, v2b⟩, ⟨e4, s4⟩, -⟩ := hs
  have e2 : fX_checkState sL sA i 0 = 0 := chk_y (by rw [e4, h3])
  obtain ⟨lm, hlm, e41, c, bs, la, hx⟩ := h.bi hi
  have hx2 := hx
  obtain ⟨c1, c2, c3, c4, c5⟩ := hx2
  -- the law's side, in any state with the same rows of its own
  have hlaw : ∀ sA2 : NA, (∀ x, x < 11 → sA2 x = sA x) → ∃ x y, FI sA i 10 x y ∧ fW_falls sL sA2 i = fallT sL sA2 i x y := by
    intro sA2 hw
    have w7 : sA2 7 = sA 7 := hw 7 (by omega)
    have w8 : sA2 8 = sA 8 := hw 8 (by omega)
    obtain ⟨x, y, f1, f2⟩ := falls_lp (sL := sL) (sA := sA2) (i := i) (by omega) (fun b hb => by
      rw [w7]
      rcases hx.bnd b hb with ⟨z, -⟩ | ⟨z, -⟩
      · rw [z, z_int]; omega
      · exact pc_b z) 11 0 (-1) (-1) rfl (by omega) (Or.inl ⟨rfl, rfl, fun b hb => by omega⟩)
    refine ⟨x, y, ?_, f2⟩
    unfold FI at f1 ⊢
    rw [w7, w8] at f1
    exact f1
  have unsoldE : ∀ sA2 : NA, sA2 = up2 sA (4 * i + 11) 4 1 → (∀ x, x < 11 → sA2 x = sA x) := fun sA2 e x hx => by rw [e, up2_rmiss (by omega)]
  rcases best_lp (sL := sL) c2 c1 (fun k hk => (c3 k hk).2.2.1.p6) 11 0 (-1) rfl (Nat.zero_le _) (Or.inl ⟨rfl, rfl⟩) with ⟨z1, z2⟩ | ⟨J, z1, z2, z3, z4⟩
  · -- no bids
    have eB : fO_placeOfBest sL sA i = -1 := z2
    have hw := unsoldE _ rfl
    obtain ⟨x, y, f1, f2⟩ := hlaw _ hw
    have ex : x = -1 := by
      rcases f1 with ⟨q, -⟩ | ⟨b0, q1, -, q3, -⟩
      · exact q
      · rcases hx.bnd b0 q1 with ⟨z, -⟩ | ⟨z, -⟩
        · rw [z] at q3; exact absurd q3 (by decide)
        · rcases place_ex (bs := bs) (b := b0) c with ⟨j, j1, -⟩ | q
          · omega
          · have := c5 b0 q1 q
            dsimp only at this
            exact absurd this z.ne
    refine ⟨-1, up2 sA (4 * i + 11) 4 1, ?_, hw, ?_, ?_⟩
    · rw [fD_hammer, fX_hammer, bndq_s (h.find hi), bnd_0 e2, eB, amountAt_m, if_neg (by have := v2b.int; rw [v2, i32_le, m1_int]; omega)]
      exact wrapD_0 rfl
    · rw [f2, fallT_at, ex, if_pos (by decide)]
    · rw [f2, fallT_at, ex, if_pos (by decide)]
      exact h.unsold hi h3
  · have eB : fO_placeOfBest sL sA i = nI J := z2
    have eA : fO_amountAt sL sA i (nI J) = sA (4 * i + 14) J := amountAt_n c2 z1 c1
    obtain ⟨d1, d2, d3, d4, d5, d6⟩ := c3 J z1
    dsimp only at d4
    have hJ7 : sA 7 (10 * i + bs J) = sA (4 * i + 14) J + 1 := by rw [← d4, i_sub_add]
    have hJp : 0 < sA 7 (10 * i + bs J) := by rw [hJ7]; exact d3.pos
    -- the law's best is the class's
    have hbest : ∀ x y, FI sA i 10 x y → x = nI (10 * i + bs J) ∧ -1 ≤ y.toInt ∧ y = fO_highestBeside sL sA i (nI J) := by
      intro x y hF
      rcases hF with ⟨-, -, q⟩ | ⟨b0, q1, q2, q3, q4, q5, q6, q7⟩
      · exact absurd hJp (Int32.not_lt.mpr (q (bs J) d1))
      · have hp : ∀ b, b < 10 → sA 7 (10 * i + b) - 1 ≠ -1 → 0 < sA 7 (10 * i + b) := fun b hb hne => by
          rcases hx.bnd b hb with ⟨z, -⟩ | ⟨-, z⟩
          · exact absurd (by rw [z]; decide) hne
          · exact z
        have hB : ∀ b, b < 10 → 0 ≤ (sA 7 (10 * i + b)).toInt ∧ (sA 7 (10 * i + b)).toInt ≤ 1000001 := fun b hb => by
          rcases hx.bnd b hb with ⟨z, -⟩ | ⟨z, -⟩
          · rw [z, z_int]; omega
          · exact pc_b z
        have s1 : ∀ b, b < 10 → (sA 7 (10 * i + b) - 1).toInt = (sA 7 (10 * i + b)).toInt - 1 := fun b hb => by
          have := hB b hb
          exact i_sub (by show _ ≤ _ - (1 : Int); omega) (by show _ - (1 : Int) < _; omega)
        have e0 : b0 = bs J := by
          refine best_same hx (by omega) q1 ?_ (fun b hb hne => ?_) z1 z3 z4
          · show sA 7 (10 * i + b0) - 1 ≠ -1
            intro q
            have := congrArg Int32.toInt q
            rw [s1 b0 q1, m1_int] at this
            rw [i32_lt, z_int] at q3
            omega
          · show sA 7 (10 * i + b) - 1 ≤ sA 7 (10 * i + b0) - 1 ∧ (sA 7 (10 * i + b) - 1 = sA 7 (10 * i + b0) - 1 → sA 8 (10 * i + b0) ≤ sA 8 (10 * i + b))
            obtain ⟨a1, a2⟩ := q4 b hb (hp b hb hne)
            refine ⟨?_, fun q => a2 ?_⟩
            · rw [i32_le] at a1
              rw [i32_le, s1 b hb, s1 b0 q1]; omega
            · rw [← i_sub_add (sA 7 (10 * i + b)), q, i_sub_add]
        subst e0
        refine ⟨q2, q5, ?_⟩
        have m1 := beside_lp (sL := sL) (sA := sA) (i := i) (c := c) (J := J) c2 c1 z1 11 0 (-1) rfl (Nat.zero_le _) ⟨by rw [m1_int]; omega, Or.inl rfl, fun k hk => by omega⟩
        refine (beside_same hx z1 m1 ⟨q5, ?_, fun b hb hne => ?_⟩).symm
        · rcases q6 with q6 | ⟨b, a1, a2, a3⟩
          · exact Or.inl q6
          · exact Or.inr ⟨b, a1, a2, a3⟩
        · show (sA 7 (10 * i + b) - 1).toInt ≤ y.toInt
          rcases hx.bnd b hb with ⟨z, -⟩ | ⟨-, z⟩
          · rw [z, show ((0 : Int32) - 1) = -1 by decide, m1_int]; exact q5
          · exact q7 b hb hne z
    have ec : (nI (10 * i + bs J)).toNatClampNeg = 10 * i + bs J := nI_clamp (by omega)
    have hx0 : ¬ nI (10 * i + bs J) < 0 := nI_pos (by omega)
    by_cases gr : sA 5 (10 * i + 1) ≤ sA (4 * i + 14) J
    · -- sold
      obtain ⟨M, eM⟩ : ∃ M, M = fO_highestBeside sL sA i (nI J) := ⟨_, rfl⟩
      obtain ⟨pr, epr⟩ : ∃ pr, pr = fX_priceFor (sA 5 (10 * i + 1)) (sA (4 * i + 14) J) M := ⟨_, rfl⟩
      have hp6 : P6 pr := by rw [epr]; exact price_6 v2b d3.p6 gr
      have eBu : ∀ v, fO_buyerAt sL (up2 sA (4 * i + 11) 4 v) i (nI J) = nI (bs J) := fun v => by
        rw [buyerAt_n (c := c) (by rw [up2_rmiss (by omega)]; exact c2) z1 c1, up2_rmiss (by omega), d2]
      have hM2 : ∀ (s4 : NA), s4 (4 * i + 12) = sA (4 * i + 12) → s4 (4 * i + 14) = sA (4 * i + 14) → fO_highestBeside sL s4 i (nI J) = M := fun s4 g1 g2 => by
        have m1 := beside_lp (sL := sL) (sA := s4) (i := i) (c := c) (J := J) (by rw [g1]; exact c2) c1 z1 11 0 (-1) rfl (Nat.zero_le _) ⟨by rw [m1_int]; omega, Or.inl rfl, fun k hk => by omega⟩
        have m2 := beside_lp (sL := sL) (sA := sA) (i := i) (c := c) (J := J) c2 c1 z1 11 0 (-1) rfl (Nat.zero_le _) ⟨by rw [m1_int]; omega, Or.inl rfl, fun k hk => by omega⟩
        rw [g2] at m1
        rw [eM]
        obtain ⟨a1, a2, a3⟩ := m1
        obtain ⟨b1, b2, b3⟩ := m2
        show lO_beside sL s4 i (nI J) 11 0 (-1) = lO_beside sL sA i (nI J) 11 0 (-1)
        rw [i32_eq]
        have l1 : (lO_beside sL s4 i (nI J) 11 0 (-1)).toInt ≤ (lO_beside sL sA i (nI J) 11 0 (-1)).toInt := by
          rcases a2 with a2 | ⟨k, k1, k2, k3⟩
          · rw [a2, m1_int]; exact b1
          · rw [k3]; exact b3 k k1 k2
        have l2 : (lO_beside sL sA i (nI J) 11 0 (-1)).toInt ≤ (lO_beside sL s4 i (nI J) 11 0 (-1)).toInt := by
          rcases b2 with b2 | ⟨k, k1, k2, k3⟩
          · rw [b2, m1_int]; exact a1
          · rw [k3]; exact a3 k k1 k2
        omega
      have hw : ∀ x, x < 11 → up2 (up2 (up2 (up2 sA (4 * i + 11) 4 2) (4 * i + 11) 5 (nI (bs J))) (4 * i + 11) 6 pr) (4 * i + 11) 7 (2000 + sA 0 4 / 365) x = sA x := fun x hx => by rw [up2_rmiss (by omega), up2_rmiss (by omega), up2_rmiss (by omega), up2_rmiss (by omega)]
      obtain ⟨x, y, f1, f2⟩ := hlaw _ hw
      obtain ⟨g1, g2, g3⟩ := hbest x y f1
      have e10 : nI (10 * i + bs J) - nI (10 * i + bs J) / 10 * 10 = nI (bs J) := by
        rw [show nI (10 * i + bs J) - nI (10 * i + bs J) / (10 : Int32) * 10 = nI ((10 * i + bs J) % 10) from pk_rem (a := 10 * i + bs J) (d := 10) (by omega) (by omega) (by omega)]
        exact congrArg nI (by omega)
      have ef : fW_falls sL (up2 (up2 (up2 (up2 sA (4 * i + 11) 4 2) (4 * i + 11) 5 (nI (bs J))) (4 * i + 11) 6 pr) (4 * i + 11) 7 (2000 + sA 0 4 / 365)) i = (pr, sL, up2 (up2 (up2 (up2 (up2 (up2 (up2 (up2 sA (4 * i + 11) 4 2) (4 * i + 11) 5 (nI (bs J))) (4 * i + 11) 6 pr) (4 * i + 11) 7 (2000 + sA 0 4 / 365)) 5 (10 * i + 3) 2) 5 (10 * i + 4) (nI (bs J))) 5 (10 * i + 5) pr) 5 (10 * i + 6) (sA 4 2)) := by
        rw [f2, fallT_at, g1, if_neg hx0, ec, hw 5 (by omega), hw 7 (by omega), hw 4 (by omega), d4, if_pos gr, e10, ← price_eq v2b gr g2, g3, ← eM, ← epr]
      refine ⟨pr, _, ?_, hw, ?_, ?_⟩
      · rw [fD_hammer, fX_hammer, bndq_s (h.find hi), bnd_0 e2, eB, eA, v2, if_pos gr, eBu, hM2 _ (by rw [up2_rmiss (by omega), up2_rmiss (by omega)]) (by rw [up2_rmiss (by omega), up2_rmiss (by omega)]), ← epr]
        exact wrapD_0 rfl
      · rw [ef]
      · rw [ef]
        exact h.sold hi h3 d1 hp6
    · -- under the reserve
      have hw := unsoldE _ rfl
      obtain ⟨x, y, f1, f2⟩ := hlaw _ hw
      obtain ⟨g1, g2, g3⟩ := hbest x y f1
      have ef : fW_falls sL (up2 sA (4 * i + 11) 4 1) i = (-1, sL, up2 (up2 sA (4 * i + 11) 4 1) 5 (10 * i + 3) 1) := by
        rw [f2, fallT_at, g1, if_neg hx0, ec, hw 5 (by omega), hw 7 (by omega), d4, if_neg gr]
      refine ⟨-1, up2 sA (4 * i + 11) 4 1, ?_, hw, ?_, ?_⟩
      · rw [fD_hammer, fX_hammer, bndq_s (h.find hi), bnd_0 e2, eB, eA, v2, if_neg gr]
        exact wrapD_0 rfl
      · rw [ef]
      · rw [ef]
        exact h.unsold hi h3
