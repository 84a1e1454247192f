/-- the reference's best bid is the class's -/
theorem best_same {lm c : Nat} {cn : Int32} {rb ra bid left : Nat → Int32} {bs la : Nat → Nat} (h : BX lm cn rb ra bid left c bs la) (hlm : lm < 2 ^ 31) {b0 J : Nat} (hb0 : b0 < 10) (hne : bid b0 ≠ -1) (hmax : ∀ b, b < 10 → bid b ≠ -1 → bid b ≤ bid b0 ∧ (bid b = bid b0 → left b0 ≤ left b)) (hJ : J < c) (hf : ∀ k, k < J → ra k < ra J) (hm : ∀ k, k < c → ra k ≤ ra J) : b0 = bs J := by
  obtain ⟨h1, h2, h3, h4, h5⟩ := h
  rcases place_ex (bs := bs) (b := b0) c with ⟨j, j1, j2, -⟩ | q
  · obtain ⟨a1, a2, a3, a4, a5, a6⟩ := h3 j j1
    obtain ⟨d1, d2, d3, d4, d5, d6⟩ := h3 J hJ
    obtain ⟨w1, w2⟩ := hmax (bs J) d1 (by rw [d4]; exact d3.ne)
    rw [← j2, d4, a4] at w1 w2
    rw [a6, d6] at w2
    have w3 := hm j j1
    rw [i32_le] at w1 w3
    have e : ra J = ra j := by rw [i32_eq]; omega
    have w4 := (nI_leI (by omega) (by omega)).1 (w2 e)
    have : j = J := by
      rcases Nat.lt_trichotomy j J with z | z | z
      · have y := hf j z
        rw [i32_lt, e] at y
        omega
      · exact z
      · have y := (h4 J j z j1).2
        omega
    rw [← j2, this]
  · exact absurd (h5 b0 hb0 q) hne
theorem beside_same {lm c : Nat} {cn : Int32} {rb ra bid left : Nat → Int32} {bs la : Nat → Nat} (h : BX lm cn rb ra bid left c bs la) {J : Nat} (hJ : J < c) {M N : Int32}
    (m1 : -1 ≤ M.toInt ∧ (M = -1 ∨ ∃ k, k < c ∧ k ≠ J ∧ M = ra k) ∧ ∀ k, k < c → k ≠ J → (ra k).toInt ≤ M.toInt)
    (m2 : -1 ≤ N.toInt ∧ (N = -1 ∨ ∃ b, b < 10 ∧ b ≠ bs J ∧ N = bid b) ∧ ∀ b, b < 10 → b ≠ bs J → (bid b).toInt ≤ N.toInt) : M = N := by
  obtain ⟨h1, h2, h3, h4, h5⟩ := h
  obtain ⟨x1, x2, x3⟩ := m1
  obtain ⟨y1, y2, y3⟩ := m2
  have hd : ∀ k, k < c → k ≠ J → bs k ≠ bs J := fun k hk hkj => by
    rcases Nat.lt_or_gt_of_ne hkj with g | g
    · exact (h4 k J g hJ).1
    · exact fun q => (h4 J k g hk).1 q.symm
  rw [i32_eq]
  have l1 : M.toInt ≤ N.toInt := by
    rcases x2 with x2 | ⟨k, a1, a2, a3⟩
    · rw [x2, m1_int]; exact y1
    · have z := y3 (bs k) (h3 k a1).1 (hd k a1 a2)
      rw [(h3 k a1).2.2.2.1] at z
      rw [a3]; exact z
  have l2 : N.toInt ≤ M.toInt := by
    rcases y2 with y2 | ⟨b, a1, a2, a3⟩
    · rw [y2, m1_int]; exact x1
    · rcases place_ex (bs := bs) (b := b) c with ⟨j, j1, j2, -⟩ | q
      · have z := x3 j j1 (fun e => a2 (by rw [← j2, e]))
        rw [a3, ← j2, (h3 j j1).2.2.2.1]; exact z
      · rw [a3, h5 b a1 q, m1_int]; exact x1
  omega
theorem INV.unsold {n K : Nat} {sL : NL} {sA : NA} (h : INV n K sL sA) {i : Nat} (hi : i < n) (hst : sA 9 i = 0) : EQ n K (0, up2L sL 4 0 (-1 : Int32).toInt64, up2 sA (4 * i + 22) 4 1) (-1, up2L sL 4 0 (-1 : Int32).toInt64, up2 (up2 (up2 sA (4 * i + 22) 4 1) 5 23 0) 9 i 1) := by
  have hn := h.1.1
  obtain ⟨⟨v1, v1b⟩, v2, ⟨v3, v4⟩, ⟨v5, v6⟩, v7, v8, v9, ⟨v10, v11⟩, v12, v13⟩ := h.si hi
  obtain ⟨-, w1, w2⟩ := v7.resolve_left (fun q => absurd q.1 (by rw [hst]; decide))
  refine EQ_mk (h.mp.up (by omega)) ?_ ?_ (h.at hi (fun x y z => ?_) ⟨?_, ?_, ?_⟩ (fun k hk => ⟨?_, ?_⟩) (fun k hk => ?_) ?_ (bi_fb (((FB.refl.up (by omega)).up (by omega)).up (by omega))) (fun k hk => (((FR.refl.up (by omega)).up (by omega)).up (by omega)))) <;> try simp (disch := omega) only [up2_hit, up2_miss, up2L_hit, up2L_miss]
  · exact h.2.2.1.1
  · exact h.2.2.1.2.1
  · exact h.2.2.1.2.2
  · exact h.2.2.2.2.1 k hk
  · refine ⟨⟨?_, ?_⟩, ?_, ⟨?_, ?_⟩, ⟨?_, ?_⟩, Or.inr ⟨?_, ?_, ?_⟩, ?_, ?_, ⟨?_, ?_⟩, ?_, ?_⟩ <;> (try simp (disch := omega) only [up2_hit, up2_miss]) <;> first | assumption | decide | exact Or.inr (Or.inl trivial)
theorem E_hammer {n K : Nat} {sL : NL} {sA : NA} (h : INV n K sL sA) (hK : K ≤ 600) (p0 : Int32) : EQ n K (fW_hammer n sL sA p0) (fM_hammer (fW_hammer n sL sA p0).2.1 (fW_hammer n sL sA p0).2.2 p0) := by
  rcases h.lot p0 with ⟨i, hi, rfl, h1, h2⟩ | ⟨h1, h2⟩
  · have ec := h.i31 hi
    have hs := h.si hi
    have hn := h.1.1
    have hl0 : ¬ fM_isLot sL sA (nI i) = 0 := by rw [h2]; exact n10
    obtain ⟨⟨v1, v1b⟩, v2, ⟨v3, v4⟩, ⟨v5, v6⟩, v7, v8, v9, ⟨v10, v11⟩, v12, v13⟩ := hs
    rcases st_chk (sL := sL) (sA := sA) (i := i) 0 with ⟨g1, g2⟩ | ⟨g1, g2⟩
    · rw [v5] at g2
      obtain ⟨lm, hlm, e10, c, bs, la, hx⟩ := h.bi hi
      have hx2 := hx
      obtain ⟨c1, c2, c3, c4, c5⟩ := hx2
      -- the unsold end, for both
      have hU : ∀ s1, fW_hammer n sL sA (nI i) = (0, up2L sL 4 0 (-1 : Int32).toInt64, up2 sA (4 * i + 22) 4 1) → (fM_hammer s1 (up2 sA (4 * i + 22) 4 1) (nI i) = (-1, s1, up2 (up2 (up2 sA (4 * i + 22) 4 1) 5 23 0) 9 i 1)) → s1 = up2L sL 4 0 (-1 : Int32).toInt64 → EQ n K (fW_hammer n sL sA (nI i)) (fM_hammer (fW_hammer n sL sA (nI i)).2.1 (fW_hammer n sL sA (nI i)).2.2 (nI i)) := fun s1 a b e => by
        subst e
        rw [a]
        dsimp only
        rw [b]
        exact h.unsold hi g2
      rcases best_lp (sL := sL) c2 c1 (fun k hk => (c3 k hk).2.2.1) 11 0 (-1) rfl (Nat.zero_le _) (Or.inl ⟨rfl, rfl⟩) with ⟨z1, z2⟩ | ⟨J, z1, z2, z3, z4⟩
      · -- no bids
        have eB : fO_placeOfBest sL sA i = -1 := z2
        have eW : fW_hammer n sL sA (nI i) = (0, up2L sL 4 0 (-1 : Int32).toInt64, up2 sA (4 * i + 22) 4 1) := by
          rw [fW_hammer, fX_hammer, bndq_s h1, bnd_0 g1, eB, amountAt_m, if_neg (by have := v4.int; rw [v3, i32_le, m1_int]; omega)]
          exact wrapR_0 rfl
        have w : ∀ x, x < 22 → up2 sA (4 * i + 22) 4 1 x = sA x := fun x hx => up2_rmiss (by omega)
        refine hU _ eW ?_ rfl
        rw [fM_hammer, ec, if_neg (by rw [isLot_cg (sA := sA) (s := sL) (by rw [w 5 (by omega)])]; exact hl0), if_pos (by rw [w 9 (by omega)]; exact g2), if_pos ?_]
        rcases high_lp (s := up2L sL 4 0 (-1 : Int32).toInt64) (sA := up2 (up2 sA (4 * i + 22) 4 1) 5 23 0) (i := i) (by omega) 11 0 (-1) rfl (by omega) (Or.inl ⟨rfl, fun b hb => by omega⟩) with ⟨y1, y2⟩ | ⟨b0, y1, y2, y3, y4⟩
        · exact y1
        · exfalso
          refine y3 ?_
          rw [up2_miss (by omega), up2_miss (by omega)]
          exact c5 b0 y1 (fun j hj => by omega)
      · have eB : fO_placeOfBest sL sA i = nI J := z2
        have eA : fO_amountAt sL sA i (nI J) = sA (4 * i + 25) J := amountAt_n c2 z1 c1
        obtain ⟨d1, d2, d3, d4, d5, d6⟩ := c3 J z1
        dsimp only at d4
        -- the reference's best, in any state that has the same bids
        have hH : ∀ (s1 : NL) (s2 : NA), s2 13 = sA 13 → s2 14 = sA 14 → fM_highest s1 s2 (nI i) = nI (10 * i + bs J) := fun s1 s2 q13 q14 => by
          rcases high_lp (s := s1) (sA := s2) (i := i) (by omega) 11 0 (-1) rfl (by omega) (Or.inl ⟨rfl, fun b hb => by omega⟩) with ⟨y1, y2⟩ | ⟨b0, y1, y2, y3, y4⟩
          · have y := y2 (bs J) d1
            rw [q13, d4] at y
            exact absurd y d3.ne
          · rw [q13] at y3 y4
            rw [q14] at y4
            have e := best_same hx (by omega) y1 y3 y4 z1 z3 z4
            rw [← e]; exact y2
        by_cases gr : sA 7 i ≤ sA (4 * i + 25) J
        · -- sold
          have hM : ∀ (s1 : NL) (s2 : NA) (s3 : NL) (s4 : NA), s2 13 = sA 13 → s4 (4 * i + 23) = sA (4 * i + 23) → s4 (4 * i + 25) = sA (4 * i + 25) → fM_highestBut s1 s2 (nI i) (nI (10 * i + bs J)) = fO_highestBeside s3 s4 i (nI J) := fun s1 s2 s3 s4 q13 q23 q25 => by
            have y1 := beside_lp (sL := s3) (sA := s4) (i := i) (c := c) (J := J) (by rw [q23]; exact c2) c1 z1 11 0 (-1) rfl (Nat.zero_le _) ⟨by rw [m1_int]; omega, Or.inl rfl, fun k hk => by omega⟩
            have y2 := but_lp (s := s1) (sA := s2) (i := i) (b0 := bs J) (by omega) d1 11 0 (-1) rfl (by omega) ⟨by rw [m1_int]; omega, Or.inl rfl, fun k hk => by omega⟩
            rw [q25] at y1
            rw [q13] at y2
            exact (beside_same hx z1 y1 y2).symm
          obtain ⟨M, eM⟩ : ∃ M, M = fM_highestBut sL sA (nI i) (nI (10 * i + bs J)) := ⟨_, rfl⟩
          have hM1 : ∀ (s1 : NL) (s2 : NA), s2 13 = sA 13 → fM_highestBut s1 s2 (nI i) (nI (10 * i + bs J)) = M := fun s1 s2 q => by
            rw [eM, hM s1 s2 sL sA q rfl rfl, hM sL sA sL sA rfl rfl rfl]
          have hM2 : ∀ (s3 : NL) (s4 : NA), s4 (4 * i + 23) = sA (4 * i + 23) → s4 (4 * i + 25) = sA (4 * i + 25) → fO_highestBeside s3 s4 i (nI J) = M := fun s3 s4 q1 q2 => by
            rw [eM, hM sL sA s3 s4 rfl q1 q2]
          obtain ⟨amt, ea⟩ : ∃ amt, amt = sA (4 * i + 25) J := ⟨_, rfl⟩
          rw [← ea] at gr
          obtain ⟨pr, epr⟩ : ∃ pr, pr = fX_priceFor (sA 7 i) amt M := ⟨_, rfl⟩
          have hp6 : P6 pr := by rw [epr]; exact price_6 v4 (by rw [ea]; exact d3) gr
          have eBu : ∀ v, fO_buyerAt sL (up2 sA (4 * i + 22) 4 v) i (nI J) = nI (bs J) := fun v => by
            rw [buyerAt_n (c := c) (by rw [up2_rmiss (by omega)]; exact c2) z1 c1, up2_rmiss (by omega), d2]
          have eW : fW_hammer n sL sA (nI i) = (0, up2L sL 4 0 pr.toInt64, up2 (up2 (up2 (up2 sA (4 * i + 22) 4 2) (4 * i + 22) 5 (nI (bs J))) (4 * i + 22) 6 pr) (4 * i + 22) 7 (2000 + sA 0 4 / 365)) := by
            rw [fW_hammer, fX_hammer, bndq_s h1, bnd_0 g1, eB, eA, v3, ← ea, if_pos gr, eBu, hM2 sL _ (by rw [up2_rmiss (by omega), up2_rmiss (by omega)]) (by rw [up2_rmiss (by omega), up2_rmiss (by omega)]), ← epr]
            exact wrapR_0 rfl
          have w : ∀ x, x < 22 → up2 (up2 (up2 (up2 sA (4 * i + 22) 4 2) (4 * i + 22) 5 (nI (bs J))) (4 * i + 22) 6 pr) (4 * i + 22) 7 (2000 + sA 0 4 / 365) x = sA x := fun x hx => by rw [up2_rmiss (by omega), up2_rmiss (by omega), up2_rmiss (by omega), up2_rmiss (by omega)]
          have eMm : ∀ s1, fM_hammer s1 (up2 (up2 (up2 (up2 sA (4 * i + 22) 4 2) (4 * i + 22) 5 (nI (bs J))) (4 * i + 22) 6 pr) (4 * i + 22) 7 (2000 + sA 0 4 / 365)) (nI i) = (pr, s1, up2 (up2 (up2 (up2 (up2 (up2 (up2 (up2 (up2 sA (4 * i + 22) 4 2) (4 * i + 22) 5 (nI (bs J))) (4 * i + 22) 6 pr) (4 * i + 22) 7 (2000 + sA 0 4 / 365)) 5 23 0) 9 i 2) 10 i (nI (bs J))) 11 i pr) 12 i (sA 5 19)) := fun s1 => by
            rw [ham_M (H := nI (10 * i + bs J)) (M := M) (amt := amt) (res := sA 7 i) (by rw [isLot_cg (sA := sA) (s := sL) (by rw [w 5 (by omega)])]; exact hl0) (by rw [ec, w 9 (by omega)]; exact g2) (hH _ _ (by rw [up2_rmiss (by omega), w 13 (by omega)]) (by rw [up2_rmiss (by omega), w 14 (by omega)])) (nI_m1 (by omega)) (by rw [nI_clamp (by omega), w 13 (by omega), ea]; exact d4) (by rw [ec, w 7 (by omega)]) (hM1 _ _ (by rw [up2_rmiss (by omega), w 13 (by omega)])) gr, ec, ← epr, w 5 (by omega), mul10n, pk_sub (by omega), show 10 * i + bs J - 10 * i = bs J by omega]
          rw [eW]
          dsimp only
          rw [eMm]
          have hv : vp_in (nI (bs J)) 10 := vp_in_nI d1 (by omega)
          have h04 : 2000 + sA 0 4 / 365 = 2000 + sA 5 19 / 365 := by rw [h.2.1.1]
          refine EQ_mk ((((h.mp.up (by omega)).up (by omega)).up (by omega)).up (by omega)) ?_ ?_ (h.at hi (fun x y z => ?_) ⟨?_, ?_, ?_⟩ (fun k hk => ⟨?_, ?_⟩) (fun k hk => ?_) ?_ (bi_fb (((((((((FB.refl.up (by omega)).up (by omega)).up (by omega)).up (by omega)).up (by omega)).up (by omega)).up (by omega)).up (by omega)).up (by omega))) (fun k hk => (((((((((FR.refl.up (by omega)).up (by omega)).up (by omega)).up (by omega)).up (by omega)).up (by omega)).up (by omega)).up (by omega)).up (by omega)))) <;> try simp (disch := omega) only [up2_hit, up2_miss, up2L_hit, up2L_miss]
          · exact h.2.2.1.1
          · exact h.2.2.1.2.1
          · exact h.2.2.1.2.2
          · exact h.2.2.2.2.1 k hk
          · refine ⟨⟨?_, ?_⟩, ?_, ⟨?_, ?_⟩, ⟨?_, ?_⟩, Or.inl ⟨?_, ?_, ?_, ?_, ?_, ?_⟩, ?_, ?_, ⟨?_, ?_⟩, ?_, ?_⟩ <;> (try simp (disch := omega) only [up2_hit, up2_miss]) <;> first | assumption | decide | exact Or.inr (Or.inr (Or.inl trivial))
        · -- under the reserve
          have eW : fW_hammer n sL sA (nI i) = (0, up2L sL 4 0 (-1 : Int32).toInt64, up2 sA (4 * i + 22) 4 1) := by
            rw [fW_hammer, fX_hammer, bndq_s h1, bnd_0 g1, eB, eA, v3, if_neg gr]
            exact wrapR_0 rfl
          have w : ∀ x, x < 22 → up2 sA (4 * i + 22) 4 1 x = sA x := fun x hx => up2_rmiss (by omega)
          refine hU _ eW ?_ rfl
          have hHs := hH (up2L sL 4 0 (-1 : Int32).toInt64) (up2 (up2 sA (4 * i + 22) 4 1) 5 23 0) (by rw [up2_rmiss (by omega), w 13 (by omega)]) (by rw [up2_rmiss (by omega), w 14 (by omega)])
          rw [fM_hammer, ec, if_neg (by rw [isLot_cg (sA := sA) (s := sL) (by rw [w 5 (by omega)])]; exact hl0), if_pos (by rw [w 9 (by omega)]; exact g2), if_neg (by rw [hHs]; exact nI_m1 (by omega)), if_neg (by rw [hHs, nI_clamp (by omega), w 7 (by omega), w 13 (by omega), d4]; exact gr)]
    · rw [v5] at g2
      have eW : fW_hammer n sL sA (nI i) = (2, sL, sA) := by rw [fW_hammer, fX_hammer, bndq_s h1, bnd_n (by rw [g1]; decide), g1]; exact wrapR_3 rfl
      rw [eW, fM_hammer]
      dsimp only
      rw [if_neg hl0, ec, if_neg g2]
      exact EQ_err h (by decide)
  · have eW : fW_hammer n sL sA p0 = (1, sL, sA) := by rw [fW_hammer, fX_hammer, bndq_n h1]; exact wrapR_1 rfl
    rw [eW, fM_hammer]
    dsimp only
    rw [if_pos (h2 _)]
    exact EQ_err h (by decide)
