theorem P6_call {x : Int32} (h : P6 x) : P6 (fX_calledAmount x) := by
  obtain ⟨k, hk, rfl⟩ := h
  have hs : ∃ s, 0 < s ∧ s ≤ 1000 ∧ fX_stepOf (nI k) = nI s := by
    unfold fX_stepOf
    by_cases g1 : (1000 : Int32) ≤ nI k
    · rw [if_pos g1]
      by_cases g2 : (5000 : Int32) ≤ nI k
      · rw [if_pos g2]
        by_cases g3 : (20000 : Int32) ≤ nI k
        · exact ⟨1000, by omega, by omega, if_pos g3⟩
        · exact ⟨500, by omega, by omega, if_neg g3⟩
      · exact ⟨100, by omega, by omega, if_neg g2⟩
    · exact ⟨50, by omega, by omega, if_neg g1⟩
  obtain ⟨s, h1, h2, h3⟩ := hs
  have hd : k / s * s ≤ k := Nat.div_mul_le_self k s
  refine ⟨k / s * s, by omega, ?_⟩
  rw [called_at, h3, pk_div (by omega) h1 (by omega), pk_mul]
theorem E_again {n K : Nat} {sL : NL} {sA : NA} (h : INV n K sL sA) (hK : K ≤ 600) (p0 : Int32) (p1 : Int32) : EQ n K (fW_again n sL sA p0 p1) (fM_again (fW_again n sL sA p0 p1).2.1 (fW_again n sL sA p0 p1).2.2 p0 p1) := by
  rcases h.lot p0 with ⟨i, hi, rfl, h1, h2⟩ | ⟨h1, h2⟩
  · have ec := h.i31 hi
    have hs := h.si hi
    have hn := h.1.1
    have hl0 : ¬ fM_isLot sL sA (nI i) = 0 := by rw [h2]; exact n10
    obtain ⟨⟨v1, v1b⟩, v2, ⟨v3, v4⟩, ⟨v5, v6⟩, v7, v8, v9, ⟨v10, v11⟩, v12, v13⟩ := hs
    rcases rng_chk p1 0 1000000 with ⟨r1, r2, r3, r4⟩ | ⟨r1, r2⟩
    · have hp := P6_call (P6_of r3 r4)
      obtain ⟨v, ev⟩ : ∃ v, v = fX_calledAmount p1 := ⟨_, rfl⟩
      rw [← ev] at hp
      rcases st_chk (sL := sL) (sA := sA) (i := i) 1 with ⟨g1, g2⟩ | ⟨g1, g2⟩
      · rw [v5] at g2
        have eW : fW_again n sL sA (nI i) p1 = (0, up2L sL 4 0 (sA (4 * i + 23) 2).toInt64, up2 (up2 (up2 (up2 (up2 sA (4 * i + 23) 2 0) (4 * i + 22) 3 v) (4 * i + 22) 4 0) (4 * i + 22) 5 (-1)) (4 * i + 22) 6 (-1)) := by
          rw [fW_again, fX_again, bndq_s h1, bnd_0 r1, bnd_0 g1, fL_open, ← ev]
          exact wrapR_0 rfl
        have w : ∀ x, x < 22 → up2 (up2 (up2 (up2 (up2 sA (4 * i + 23) 2 0) (4 * i + 22) 3 v) (4 * i + 22) 4 0) (4 * i + 22) 5 (-1)) (4 * i + 22) 6 (-1) x = sA x := fun x hx => by rw [up2_rmiss (by omega), up2_rmiss (by omega), up2_rmiss (by omega), up2_rmiss (by omega), up2_rmiss (by omega)]
        obtain ⟨lm, -, -, c, bs, la, hx⟩ := h.bi hi
        rw [eW, fM_again]
        dsimp only
        rw [ec, if_neg (by rw [isLot_cg (sA := sA) (s := sL) (by rw [w 5 (by omega)])]; exact hl0), if_neg (by rw [r2]; exact n10), if_pos (by rw [w 9 (by omega)]; exact g2), ← call_eq, ← ev, clear_eq (by omega), hx.many (by omega) (fun b hb => by rw [up2_miss (by omega), w 13 (by omega)])]
        dsimp only
        refine EQ_mk (((((h.mp.up (by omega)).up (by omega)).up (by omega)).up (by omega)).up (by omega)) ?_ ?_ (h.at hi (fun x y z => ?_) ⟨?_, ?_, ?_⟩ (fun k hk => ⟨?_, ?_⟩) (fun k hk => ?_) ?_ (fun lm _ => BI.none ?_ (fun b hb => ?_)) (fun k hk => ((((((((FR.refl.up (by omega)).up (by omega)).up (by omega)).up (by omega)).up (by omega)).up (by omega)).clr hk).up (by omega)).up (by omega))) <;> try simp (disch := omega) only [up2_hit, up2_miss, up2L_hit, up2L_miss, clr_miss, clr_hit]
        · exact h.2.2.1.1
        · exact h.2.2.1.2.1
        · exact h.2.2.1.2.2
        · exact h.2.2.2.2.1 k hk
        · refine ⟨⟨?_, ?_⟩, ?_, ⟨?_, ?_⟩, ⟨?_, ?_⟩, Or.inr ⟨?_, ?_, ?_⟩, ?_, ?_, ⟨?_, ?_⟩, ?_, ?_⟩ <;> (try simp (disch := omega) only [up2_hit, up2_miss, clr_miss]) <;> first | assumption | decide | exact Or.inl trivial
      · rw [v5] at g2
        have eW : fW_again n sL sA (nI i) p1 = (3, sL, sA) := by rw [fW_again, fX_again, bndq_s h1, bnd_0 r1, bnd_n (by rw [g1]; decide), g1]; exact wrapR_3 rfl
        rw [eW, fM_again]
        dsimp only
        rw [if_neg hl0, ec, if_neg (by rw [r2]; exact n10), if_neg g2]
        exact EQ_err h (by decide)
    · have eW : fW_again n sL sA (nI i) p1 = (2, sL, sA) := by rw [fW_again, fX_again, bndq_s h1, bnd_n (by rw [r1]; decide), r1]; exact wrapR_2 rfl
      rw [eW, fM_again]
      dsimp only
      rw [if_neg hl0, ec, if_pos r2]
      exact EQ_err h (by decide)
  · have eW : fW_again n sL sA p0 p1 = (1, sL, sA) := by rw [fW_again, fX_again, bndq_n h1]; exact wrapR_1 rfl
    rw [eW, fM_again]
    dsimp only
    rw [if_pos (h2 _)]
    exact EQ_err h (by decide)
theorem E_defaults {n K : Nat} {sL : NL} {sA : NA} (h : INV n K sL sA) (hK : K ≤ 600) (p0 : Int32) : EQ n K (fW_defaults n sL sA p0) (fM_defaults (fW_defaults n sL sA p0).2.1 (fW_defaults n sL sA p0).2.2 p0) := by
  rcases h.lot p0 with ⟨i, hi, rfl, h1, h2⟩ | ⟨h1, h2⟩
  · have ec := h.i31 hi
    have hs := h.si hi
    have hn := h.1.1
    have hl0 : ¬ fM_isLot sL sA (nI i) = 0 := by rw [h2]; exact n10
    obtain ⟨⟨v1, v1b⟩, v2, ⟨v3, v4⟩, ⟨v5, v6⟩, v7, ⟨v8, v8b⟩, ⟨v9, v9b⟩, ⟨v10, v11⟩, v12, v13⟩ := hs
    rcases st_chk (sL := sL) (sA := sA) (i := i) 2 with ⟨g1, g2⟩ | ⟨g1, g2⟩
    · rw [v5] at g2
      have s2 : 2 ≤ sA 9 i := by rw [g2]; decide
      obtain ⟨-, w1, w2, w3, w4, w5⟩ := v7.resolve_right (fun q => q.1 s2)
      by_cases gb : sA 15 i = -1
      · have eW : fW_defaults n sL sA (nI i) = (0, up2L sL 4 0 (sA 10 i).toInt64, up2 (up2 (up2 (up2 (up2 (up2 (up2 sA (4 * i + 22) 8 (sA 10 i)) (4 * i + 22) 9 (sA 11 i)) (4 * i + 23) 2 0) (4 * i + 22) 3 (sA 7 i)) (4 * i + 22) 4 0) (4 * i + 22) 5 (-1)) (4 * i + 22) 6 (-1)) := by
          rw [fW_defaults, fX_defaults, bndq_s h1, bnd_0 g1, if_pos (by rw [v8]; exact gb), fL_open, w1, w3, v3]
          exact wrapR_0 rfl
        have w : ∀ x, x < 22 → up2 (up2 (up2 (up2 (up2 (up2 (up2 sA (4 * i + 22) 8 (sA 10 i)) (4 * i + 22) 9 (sA 11 i)) (4 * i + 23) 2 0) (4 * i + 22) 3 (sA 7 i)) (4 * i + 22) 4 0) (4 * i + 22) 5 (-1)) (4 * i + 22) 6 (-1) x = sA x := fun x hx => by rw [up2_rmiss (by omega), up2_rmiss (by omega), up2_rmiss (by omega), up2_rmiss (by omega), up2_rmiss (by omega), up2_rmiss (by omega), up2_rmiss (by omega)]
        rw [eW, fM_defaults]
        dsimp only
        rw [ec, if_neg (by rw [isLot_cg (sA := sA) (s := sL) (by rw [w 5 (by omega)])]; exact hl0), if_pos (by rw [w 9 (by omega)]; exact g2), if_pos (by rw [w 15 (by omega)]; exact gb), clear_eq (by omega), w 10 (by omega), w 11 (by omega)]
        dsimp only
        refine EQ_mk (((((((h.mp.up (by omega)).up (by omega)).up (by omega)).up (by omega)).up (by omega)).up (by omega)).up (by omega)) ?_ ?_ (h.at hi (fun x y z => ?_) ⟨?_, ?_, ?_⟩ (fun k hk => ⟨?_, ?_⟩) (fun k hk => ?_) ?_ (fun lm _ => BI.none ?_ (fun b hb => ?_)) (fun k hk => (((((((((((FR.refl.up (by omega)).up (by omega)).up (by omega)).up (by omega)).up (by omega)).up (by omega)).up (by omega)).up (by omega)).up (by omega)).up (by omega)).clr hk).up (by omega))) <;> try simp (disch := omega) only [up2_hit, up2_miss, up2L_hit, up2L_miss, clr_miss, clr_hit]
        · exact h.2.2.1.1
        · exact h.2.2.1.2.1
        · exact h.2.2.1.2.2
        · exact h.2.2.2.2.1 k hk
        · refine ⟨⟨?_, ?_⟩, ?_, ⟨?_, ?_⟩, ⟨?_, ?_⟩, Or.inr ⟨?_, ?_, ?_⟩, ⟨?_, Or.inr ?_⟩, ⟨?_, ?_⟩, ⟨?_, ?_⟩, ?_, ?_⟩ <;> (try simp (disch := omega) only [up2_hit, up2_miss, clr_miss]) <;> first | assumption | decide | exact Or.inl trivial
      · have eW : fW_defaults n sL sA (nI i) = (0, up2L sL 4 0 (sA 10 i).toInt64, up2 (up2 (up2 (up2 (up2 sA (4 * i + 23) 2 0) (4 * i + 22) 3 (sA 7 i)) (4 * i + 22) 4 0) (4 * i + 22) 5 (-1)) (4 * i + 22) 6 (-1)) := by
          rw [fW_defaults, fX_defaults, bndq_s h1, bnd_0 g1, if_neg (by rw [v8]; exact gb), fL_open, w1, v3]
          exact wrapR_0 rfl
        have w : ∀ x, x < 22 → up2 (up2 (up2 (up2 (up2 sA (4 * i + 23) 2 0) (4 * i + 22) 3 (sA 7 i)) (4 * i + 22) 4 0) (4 * i + 22) 5 (-1)) (4 * i + 22) 6 (-1) x = sA x := fun x hx => by rw [up2_rmiss (by omega), up2_rmiss (by omega), up2_rmiss (by omega), up2_rmiss (by omega), up2_rmiss (by omega)]
        rw [eW, fM_defaults]
        dsimp only
        rw [ec, if_neg (by rw [isLot_cg (sA := sA) (s := sL) (by rw [w 5 (by omega)])]; exact hl0), if_pos (by rw [w 9 (by omega)]; exact g2), if_neg (by rw [w 15 (by omega)]; exact gb), clear_eq (by omega)]
        dsimp only
        refine EQ_mk (((((h.mp.up (by omega)).up (by omega)).up (by omega)).up (by omega)).up (by omega)) ?_ ?_ (h.at hi (fun x y z => ?_) ⟨?_, ?_, ?_⟩ (fun k hk => ⟨?_, ?_⟩) (fun k hk => ?_) ?_ (fun lm _ => BI.none ?_ (fun b hb => ?_)) (fun k hk => (((((((FR.refl.up (by omega)).up (by omega)).up (by omega)).up (by omega)).up (by omega)).up (by omega)).clr hk).up (by omega))) <;> try simp (disch := omega) only [up2_hit, up2_miss, up2L_hit, up2L_miss, clr_miss, clr_hit]
        · exact h.2.2.1.1
        · exact h.2.2.1.2.1
        · exact h.2.2.1.2.2
        · exact h.2.2.2.2.1 k hk
        · refine ⟨⟨?_, ?_⟩, ?_, ⟨?_, ?_⟩, ⟨?_, ?_⟩, Or.inr ⟨?_, ?_, ?_⟩, ⟨?_, ?_⟩, ⟨?_, ?_⟩, ⟨?_, ?_⟩, ?_, ?_⟩ <;> (try simp (disch := omega) only [up2_hit, up2_miss, clr_miss]) <;> first | assumption | decide | exact Or.inl trivial
    · rw [v5] at g2
      have eW : fW_defaults n sL sA (nI i) = (2, sL, sA) := by rw [fW_defaults, fX_defaults, bndq_s h1, bnd_n (by rw [g1]; decide), g1]; exact wrapR_3 rfl
      rw [eW, fM_defaults]
      dsimp only
      rw [if_neg hl0, ec, if_neg g2]
      exact EQ_err h (by decide)
  · have eW : fW_defaults n sL sA p0 = (1, sL, sA) := by rw [fW_defaults, fX_defaults, bndq_n h1]; exact wrapR_1 rfl
    rw [eW, fM_defaults]
    dsimp only
    rw [if_pos (h2 _)]
    exact EQ_err h (by decide)
