theorem isLot_cg {sA sA2 : NA} {s s2 : NL} {p : Int32} (h : sA2 5 0 = sA 5 0) : fM_isLot s2 sA2 p = fM_isLot s sA p := by rw [fM_isLot, fM_isLot, h]
theorem INV.at {n K : Nat} {sL sL2 : NL} {sA sA2 : NA} (h : INV n K sL sA) {i : Nat} (hi : i < n)
    (hc : ∀ x y, (x = 0 ∧ (y = 3 ∨ y = 4 ∨ y = 5)) ∨ (x = 5 ∧ (y = 0 ∨ y = 10 ∨ y = 18 ∨ y = 19)) → sA2 x y = sA x y)
    (hL : sL2 0 6 = sL2 5 20 ∧ sL2 0 7 = sL2 5 21 ∧ sL2 0 8 = sL2 5 22) (h2 : ∀ k, k < 6 → sA2 2 k = sA 2 k ∧ sA2 21 k = sA 21 k) (h3 : ∀ k, k < 10 → sA2 3 k = sA2 20 k)
    (hS : SI sA2 i) (hB : ∀ lm, BI lm sA i → BI lm sA2 i) (hf : ∀ k, k ≠ i → FR sA sA2 k) : INV n (K + 1) sL2 sA2 := by
  obtain ⟨⟨a1, a2, a3⟩, ⟨a4, a5⟩, a6, a7, a8, lm, a9, a10, a11, a12⟩ := h
  refine ⟨⟨a1, ?_, ?_⟩, ⟨?_, ?_⟩, hL, fun k hk => ?_, h3, lm, by omega, ?_, lots_fr a11 (Nat.le_refl _) i hS (hB lm (a11 i hi).2) (fun k hk hne => hf k hne), a12.fr (fun k hk => hf k (by omega))⟩
  · rw [hc 0 3 (by omega), a2]
  · rw [hc 5 0 (by omega), a3]
  · rw [hc 0 4 (by omega), hc 5 19 (by omega), a4]
  · rw [hc 0 5 (by omega), hc 5 18 (by omega), a5]
  · rw [(h2 k hk).1, (h2 k hk).2, a7 k hk]
  · rw [hc 5 10 (by omega), a10]
theorem bi_fb {sA sA2 : NA} {i : Nat} (f : FB sA sA2 i) : ∀ lm, BI lm sA i → BI lm sA2 i := fun _ h => h.fb (Nat.le_refl _) f
theorem st34 {x : Int32} (h : x = 0 ∨ x = 1 ∨ x = 2 ∨ x = 3 ∨ x = 4) : 3 ≤ x ↔ x = 3 ∨ x = 4 := by
  rcases h with h | h | h | h | h <;> subst h <;> decide
theorem half_n {k : Nat} (hk : k ≤ 1000000) : nI k / 2 = nI (k / 2) := by rw [show (2 : Int32) = nI 2 from rfl, pk_div (by omega) (by omega) (by omega)]
theorem E_advance {n K : Nat} {sL : NL} {sA : NA} (h : INV n K sL sA) (hK : K ≤ 600) (p0 : Int32) (p1 : Int32) : EQ n K (fW_advance n sL sA p0 p1) (fM_advance (fW_advance n sL sA p0 p1).2.1 (fW_advance n sL sA p0 p1).2.2 p0 p1) := by
  rcases h.lot p0 with ⟨i, hi, rfl, h1, h2⟩ | ⟨h1, h2⟩
  · have ec := h.i31 hi
    have hs := h.si hi
    have hn := h.1.1
    have hl0 : ¬ fM_isLot sL sA (nI i) = 0 := by rw [h2]; exact n10
    obtain ⟨v1, v2, ⟨v3, v4⟩, ⟨v5, v6⟩, v7, v8, v9, ⟨v10, v11⟩, v12, v13⟩ := hs
    rcases rng_chk p1 1 (sA 7 i / 2) with ⟨g1, g2, g3, g4⟩ | ⟨g1, g2⟩
    · by_cases q : 3 ≤ sA 9 i
      · have eW : fW_advance n sL sA (nI i) p1 = (3, sL, sA) := by
          rw [fW_advance, fX_advance, bndq_s h1, v3, bnd_0 g1, v5]
          rcases (st34 v6).1 q with q | q <;> rw [q]
          · exact wrapR_3 rfl
          · exact wrapR_3 rfl
        rw [eW, fM_advance]
        dsimp only
        rw [if_neg hl0, ec, if_neg (by rw [g2]; exact n10), if_pos q]
        exact EQ_err h (by decide)
      · have q34 := fun z => q ((st34 v6).2 z)
        by_cases r : sA 17 i ≤ 0
        · have eW : fW_advance n sL sA (nI i) p1 = (0, up2L (up2L sL 0 7 (sL 0 7 + p1.toInt64)) 4 0 (sA 7 i / 2).toInt64, up2 (up2 sA (4 * i + 22) 10 p1) (4 * i + 22) 11 (sA 0 4)) := by
            rw [fW_advance, fX_advance, bndq_s h1, v3, bnd_0 g1, v5, if_neg (fun z => q34 (Or.inl z)), if_neg (fun z => q34 (Or.inr z)), v10, if_pos r]
            exact wrapR_0 rfl
          have w : ∀ x, x < 20 → up2 (up2 sA (4 * i + 22) 10 p1) (4 * i + 22) 11 (sA 0 4) x = sA x := fun x hx => by rw [up2_rmiss (by omega), up2_rmiss (by omega)]
          rw [eW, fM_advance]
          dsimp only
          rw [ec, if_neg (by rw [isLot_cg (sA := sA) (s := sL) (by rw [w 5 (by omega)])]; exact hl0), if_neg (by rw [w 7 (by omega), g2]; exact n10), if_neg (by rw [w 9 (by omega)]; exact q), if_pos (by rw [w 17 (by omega)]; exact r), w 7 (by omega)]
          have hp : P6 p1 := by
            refine P6_of (Int32.le_trans (by decide) g3) (Int32.le_trans g4 ?_)
            obtain ⟨k, hk, e⟩ := v4
            rw [e, half_n hk]
            exact (le_n (b := 1000000) (by omega) (by omega)).2 (by omega)
          refine EQ_mk ((h.mp.up (by omega)).up (by omega)) ?_ ?_ (h.at hi (fun x y z => ?_) ⟨?_, ?_, ?_⟩ (fun k hk => ⟨?_, ?_⟩) (fun k hk => ?_) ?_ (bi_fb ((((FB.refl.up (by omega)).up (by omega)).up (by omega)).up (by omega) |>.up (by omega))) (fun k hk => (((((FR.refl.up (by omega)).up (by omega)).up (by omega)).up (by omega)).up (by omega)))) <;> try simp (disch := omega) only [up2_hit, up2_miss, up2L_hit, up2L_miss]
          · exact h.2.2.1.1
          · rw [h.2.2.1.2.1]
          · exact h.2.2.1.2.2
          · exact h.2.2.2.2.1 k hk
          · have h04 := h.2.1.1
            refine ⟨?_, ?_, ⟨?_, ?_⟩, ⟨?_, ?_⟩, ?_, ?_, ?_, ⟨?_, ?_⟩, ?_, ?_⟩ <;> (try simp (disch := omega) only [up2_hit, up2_miss]) <;> assumption
        · have eW : fW_advance n sL sA (nI i) p1 = (3, sL, sA) := by
            rw [fW_advance, fX_advance, bndq_s h1, v3, bnd_0 g1, v5, if_neg (fun z => q34 (Or.inl z)), if_neg (fun z => q34 (Or.inr z)), v10, if_neg r]
            exact wrapR_3 rfl
          rw [eW, fM_advance]
          dsimp only
          rw [if_neg hl0, ec, if_neg (by rw [g2]; exact n10), if_neg q, if_neg r]
          exact EQ_err h (by decide)
    · have eW : fW_advance n sL sA (nI i) p1 = (2, sL, sA) := by rw [fW_advance, fX_advance, bndq_s h1, v3, bnd_n (by rw [g1]; decide), g1]; exact wrapR_2 rfl
      rw [eW, fM_advance]
      dsimp only
      rw [if_neg hl0, ec, if_pos g2]
      exact EQ_err h (by decide)
  · have eW : fW_advance n sL sA p0 p1 = (1, sL, sA) := by rw [fW_advance, fX_advance, bndq_n h1]; exact wrapR_1 rfl
    rw [eW, fM_advance]
    dsimp only
    rw [if_pos (h2 _)]
    exact EQ_err h (by decide)
theorem E_settle {n K : Nat} {sL : NL} {sA : NA} (h : INV n K sL sA) (hK : K ≤ 600) (p0 : Int32) : EQ n K (fW_settle n sL sA p0) (fM_settle (fW_settle n sL sA p0).2.1 (fW_settle n sL sA p0).2.2 p0) := by
  rcases h.lot p0 with ⟨i, hi, rfl, h1, h2⟩ | ⟨h1, h2⟩
  · have ec := h.i31 hi
    have hs := h.si hi
    have hn := h.1.1
    have hl0 : ¬ fM_isLot sL sA (nI i) = 0 := by rw [h2]; exact n10
    obtain ⟨⟨v1, v1b⟩, v2, ⟨v3, v4⟩, ⟨v5, v6⟩, v7, v8, v9, ⟨v10, v11⟩, v12, v13⟩ := hs
    rcases st_chk (sL := sL) (sA := sA) (i := i) 3 with ⟨g1, g2⟩ | ⟨g1, g2⟩
    · rw [v5] at g2
      have s2 : 2 ≤ sA 9 i := by rw [g2]; decide
      have hse := vin_nat v1b
      have hsl : fX_checkSeller (sA 6 i) = 0 := by
        obtain ⟨z1, z2⟩ := vin_ltM (M := 6) (N := 6) (by omega) rfl v1b
        unfold fX_checkSeller
        rw [if_neg z1, if_pos z2]
      have hh : fX_hundredthsOf sL sA (sA 6 i) = (0, sA 2 (sA 6 i).toNatClampNeg) := by rw [fX_hundredthsOf, bnd_0 hsl]
      obtain ⟨-, w1, w2, w3, w4, w5⟩ := v7.resolve_right (fun q => q.1 s2)
      obtain ⟨s, es⟩ : ∃ s, s = fX_shareOf sL sA i := ⟨_, rfl⟩
      obtain ⟨t, et⟩ : ∃ t, t = fX_interestOf sL sA i := ⟨_, rfl⟩
      obtain ⟨c, eC⟩ : ∃ c, c = sA 2 (sA 6 i).toNatClampNeg := ⟨_, rfl⟩
      have eW : fW_settle n sL sA (nI i) = (0, up2L (up2L (up2L sL 0 7 (sL 0 7 + (sA 11 i - sA 11 i * c / 100 - s - sA 17 i - t + s : Int32).toInt64)) 0 8 (sL 0 8 + (sA 11 i * c / 100 + t : Int32).toInt64)) 4 0 (sA 11 i - sA 11 i * c / 100 - s - sA 17 i - t).toInt64, up2 (up2 sA (4 * i + 22) 12 t) (4 * i + 22) 4 4) := by
        rw [fW_settle, fX_settle, bndq_s h1, bnd_0 g1, v1, hh, bnd_0 rfl, ← es, ← et, w3, v10, ← eC]
        exact wrapR_0 rfl
      have w : ∀ x, x < 22 → up2 (up2 sA (4 * i + 22) 12 t) (4 * i + 22) 4 4 x = sA x := fun x hx => by rw [up2_rmiss (by omega), up2_rmiss (by omega)]
      have wl : ∀ k a b d, up2L (up2L (up2L sL 0 7 a) 0 8 b) 4 0 d 5 k = sL 5 k := fun k a b d => by rw [up2L_miss (by omega), up2L_miss (by omega), up2L_miss (by omega)]
      have m1 : ∀ s1 v, fM_shareFor s1 (up2 (up2 (up2 sA (4 * i + 22) 12 t) (4 * i + 22) 4 4) 5 23 v) (nI i) = s := fun s1 v => by
        rw [es]; exact (sh_eq h hi s2 (by rw [up2_miss (by omega), w 8 (by omega)]) (by rw [up2_miss (by omega), w 11 (by omega)]) (by rw [up2_miss (by omega), w 12 (by omega)])).symm
      have m2 : ∀ s1 v z, fM_shareFor s1 (up2 (up2 (up2 (up2 sA (4 * i + 22) 12 t) (4 * i + 22) 4 4) 5 23 v) 19 i z) (nI i) = s := fun s1 v z => by
        rw [es]; exact (sh_eq h hi s2 (by rw [up2_miss (by omega), up2_miss (by omega), w 8 (by omega)]) (by rw [up2_miss (by omega), up2_miss (by omega), w 11 (by omega)]) (by rw [up2_miss (by omega), up2_miss (by omega), w 12 (by omega)])).symm
      have m3 : ∀ s1 v, fM_interestFor s1 (up2 (up2 (up2 sA (4 * i + 22) 12 t) (4 * i + 22) 4 4) 5 23 v) (nI i) = t := fun s1 v => by
        refine Eq.trans (b := fM_interestFor s1 (up2 sA 5 23 v) (nI i)) ?_ (et.trans (int_eq h hi)).symm
        rw [fM_interestFor, fM_interestFor, ec]
        have e : ∀ x y, x < 22 → up2 (up2 (up2 sA (4 * i + 22) 12 t) (4 * i + 22) 4 4) 5 23 v x y = up2 sA 5 23 v x y := fun x y hx => by
          by_cases z : x = 5 ∧ y = 23
          · rw [z.1, z.2, up2_hit, up2_hit]
          · rw [up2_miss (by omega), w x hx, up2_miss (by omega)]
        rw [e 9 i (by omega), e 19 i (by omega), e 17 i (by omega), e 5 19 (by omega), e 18 i (by omega), e 5 18 (by omega)]
      rw [eW, fM_settle]
      dsimp only
      rw [ec, if_neg (by rw [isLot_cg (sA := sA) (s := sL) (by rw [w 5 (by omega)])]; exact hl0), if_pos (by rw [w 9 (by omega)]; exact g2), m1, m2, m3, w 11 (by omega), w 21 (by omega), w 6 (by omega), w 17 (by omega), ← h.2.2.2.1 _ hse, ← eC]
      refine EQ_mk ((h.mp.up (by omega)).up (by omega)) ?_ ?_ (h.at hi (fun x y z => ?_) ⟨?_, ?_, ?_⟩ (fun k hk => ⟨?_, ?_⟩) (fun k hk => ?_) ?_ (bi_fb (((((FB.refl.up (by omega)).up (by omega)).up (by omega)).up (by omega)).up (by omega))) (fun k hk => (((((FR.refl.up (by omega)).up (by omega)).up (by omega)).up (by omega)).up (by omega)))) <;> try simp (disch := omega) only [up2_hit, up2_miss, up2L_hit, up2L_miss]
      · exact h.2.2.1.1
      · rw [h.2.2.1.2.1]
      · rw [h.2.2.1.2.2]
      · exact h.2.2.2.2.1 k hk
      · refine ⟨⟨?_, ?_⟩, ?_, ⟨?_, ?_⟩, ⟨?_, ?_⟩, Or.inl ⟨?_, ?_, ?_, ?_, ?_, ?_⟩, ?_, ?_, ⟨?_, ?_⟩, ?_, ?_⟩ <;> (try simp (disch := omega) only [up2_hit, up2_miss]) <;> first | assumption | decide
    · rw [v5] at g2
      have eW : fW_settle n sL sA (nI i) = (2, sL, sA) := by rw [fW_settle, fX_settle, bndq_s h1, bnd_n (by rw [g1]; decide), g1]; exact wrapR_3 rfl
      rw [eW, fM_settle]
      dsimp only
      rw [if_neg hl0, ec, if_neg g2]
      exact EQ_err h (by decide)
  · have eW : fW_settle n sL sA p0 = (1, sL, sA) := by rw [fW_settle, fX_settle, bndq_n h1]; exact wrapR_1 rfl
    rw [eW, fM_settle]
    dsimp only
    rw [if_pos (h2 _)]
    exact EQ_err h (by decide)
theorem P6.sub_pos {a b : Int32} (ha : P6 a) (hb : P6 b) : imax 0 (a - b) = if a ≤ b then 0 else a - b := by
  obtain ⟨k, hk, rfl⟩ := ha
  obtain ⟨j, hj, rfl⟩ := hb
  rw [cut_n (by omega) (by omega)]
  by_cases g : k ≤ j
  · rw [if_pos ((le_n hk hj).2 g), show k - j = 0 by omega]; rfl
  · rw [if_neg (fun q => g ((le_n hk hj).1 q)), pk_sub (by omega)]
theorem E_pay {n K : Nat} {sL : NL} {sA : NA} (h : INV n K sL sA) (hK : K ≤ 600) (p0 : Int32) : EQ n K (fW_pay n sL sA p0) (fM_pay (fW_pay n sL sA p0).2.1 (fW_pay n sL sA p0).2.2 p0) := by
  rcases h.lot p0 with ⟨i, hi, rfl, h1, h2⟩ | ⟨h1, h2⟩
  · have ec := h.i31 hi
    have hs := h.si hi
    have hn := h.1.1
    have hl0 : ¬ fM_isLot sL sA (nI i) = 0 := by rw [h2]; exact n10
    obtain ⟨⟨v1, v1b⟩, v2, ⟨v3, v4⟩, ⟨v5, v6⟩, v7, ⟨v8, v8b⟩, ⟨v9, v9b⟩, ⟨v10, v11⟩, v12, v13⟩ := hs
    rcases st_chk (sL := sL) (sA := sA) (i := i) 2 with ⟨g1, g2⟩ | ⟨g1, g2⟩
    · rw [v5] at g2
      have s2 : 2 ≤ sA 9 i := by rw [g2]; decide
      obtain ⟨-, w1, w2, w3, w4, w5⟩ := v7.resolve_right (fun q => q.1 s2)
      obtain ⟨f, ef⟩ : ∃ f, f = fM_feeFor (sA 11 i) := ⟨_, rfl⟩
      have ef2 : fX_feeFor (sA 11 i) = f := by rw [ef]; exact fee_eq w4
      by_cases gb : sA 15 i = -1
      · have eW : fW_pay n sL sA (nI i) = (0, up2L (up2L (up2L sL 0 6 (sL 0 6 + (sA 11 i + f : Int32).toInt64)) 0 8 (sL 0 8 + f.toInt64)) 4 0 (sA 11 i + f).toInt64, up2 sA (4 * i + 22) 4 3) := by
          rw [fW_pay, fX_pay, bndq_s h1, bnd_0 g1, w3, ef2]
          have ek : ∀ s1, fX_closeGap s1 (up2 sA (4 * i + 22) 4 3) i = (s1, up2 sA (4 * i + 22) 4 3) := fun s1 => by
            rw [fX_closeGap, if_pos (by rw [up2_miss (by omega), v8]; exact gb)]
          rw [ek]
          dsimp only
          rw [up2_miss (x := 4 * i + 22) (y := 6) (by omega), w3]
          exact wrapR_0 rfl
        have w : ∀ x, x < 22 → up2 sA (4 * i + 22) 4 3 x = sA x := fun x hx => up2_rmiss (by omega)
        rw [eW, fM_pay]
        dsimp only
        rw [ec, if_neg (by rw [isLot_cg (sA := sA) (s := sL) (by rw [w 5 (by omega)])]; exact hl0), if_pos (by rw [w 9 (by omega)]; exact g2), if_pos (by rw [w 15 (by omega)]; exact gb), w 11 (by omega), ← ef]
        refine EQ_mk (h.mp.up (by omega)) ?_ ?_ (h.at hi (fun x y z => ?_) ⟨?_, ?_, ?_⟩ (fun k hk => ⟨?_, ?_⟩) (fun k hk => ?_) ?_ (bi_fb (((FB.refl.up (by omega)).up (by omega)).up (by omega))) (fun k hk => (((FR.refl.up (by omega)).up (by omega)).up (by omega)))) <;> try simp (disch := omega) only [up2_hit, up2_miss, up2L_hit, up2L_miss]
        · rw [h.2.2.1.1]
        · exact h.2.2.1.2.1
        · rw [h.2.2.1.2.2]
        · exact h.2.2.2.2.1 k hk
        · refine ⟨⟨?_, ?_⟩, ?_, ⟨?_, ?_⟩, ⟨?_, ?_⟩, Or.inl ⟨?_, ?_, ?_, ?_, ?_, ?_⟩, ⟨?_, ?_⟩, ⟨?_, ?_⟩, ⟨?_, ?_⟩, ?_, ?_⟩ <;> (try simp (disch := omega) only [up2_hit, up2_miss]) <;> first | assumption | decide
      · have vb := v8b.resolve_left gb
        have hb := vin_nat vb
        obtain ⟨b, eb⟩ : ∃ b, b = (sA 15 i).toNatClampNeg := ⟨_, rfl⟩
        rw [← eb] at hb
        have e3 := h.2.2.2.2.1 b hb
        have eW : fW_pay n sL sA (nI i) = (0, up2L (up2L (up2L sL 0 6 (sL 0 6 + (sA 11 i + f : Int32).toInt64)) 0 8 (sL 0 8 + f.toInt64)) 4 0 (sA 11 i + f).toInt64, up2 (up2 (up2 sA (4 * i + 22) 4 3) 3 b (sA 3 b + if sA 16 i ≤ sA 11 i then 0 else sA 16 i - sA 11 i)) (4 * i + 22) 8 (-1)) := by
          rw [fW_pay, fX_pay, bndq_s h1, bnd_0 g1, w3, ef2]
          have r8 : up2 sA (4 * i + 22) 4 3 (4 * i + 22) 8 = sA 15 i := by rw [up2_miss (by omega), v8]
          have r9 : up2 sA (4 * i + 22) 4 3 (4 * i + 22) 9 = sA 16 i := by rw [up2_miss (by omega), v9]
          have r6 : up2 sA (4 * i + 22) 4 3 (4 * i + 22) 6 = sA 11 i := by rw [up2_miss (by omega), w3]
          have r3 : up2 sA (4 * i + 22) 4 3 3 b = sA 3 b := up2_miss (by omega)
          have ek : ∀ s1, fX_closeGap s1 (up2 sA (4 * i + 22) 4 3) i = (s1, up2 (up2 (up2 sA (4 * i + 22) 4 3) 3 b (sA 3 b + if sA 16 i ≤ sA 11 i then 0 else sA 16 i - sA 11 i)) (4 * i + 22) 8 (-1)) := fun s1 => by
            rw [fX_closeGap, if_neg (by rw [r8]; exact gb), fX_addToDebt, r8, r9, r6, ← eb, r3, v9b.sub_pos w4]
          rw [ek]
          dsimp only
          rw [up2_miss (x := 4 * i + 22) (y := 6) (by omega), up2_miss (x := 4 * i + 22) (y := 6) (by omega), r6]
          exact wrapR_0 rfl
        obtain ⟨d, ed⟩ : ∃ d, d = if sA 16 i ≤ sA 11 i then 0 else sA 16 i - sA 11 i := ⟨_, rfl⟩
        rw [← ed] at eW
        have w : ∀ x, 3 < x → x < 22 → up2 (up2 (up2 sA (4 * i + 22) 4 3) 3 b (sA 3 b + d)) (4 * i + 22) 8 (-1) x = sA x := fun x hx hx2 => by rw [up2_rmiss (by omega), up2_rmiss (by omega), up2_rmiss (by omega)]
        have eM : ∀ s1 : NL, fM_pay s1 (up2 (up2 (up2 sA (4 * i + 22) 4 3) 3 b (sA 3 b + d)) (4 * i + 22) 8 (-1)) (nI i) = (sA 11 i + f, up2L (up2L s1 5 20 (s1 5 20 + (sA 11 i + f : Int32).toInt64)) 5 22 (s1 5 22 + f.toInt64), up2 (up2 (up2 (up2 (up2 (up2 (up2 sA (4 * i + 22) 4 3) 3 b (sA 3 b + d)) (4 * i + 22) 8 (-1)) 5 23 0) 9 i 3) 20 b (sA 20 b + d)) 15 i (-1)) := fun s1 => by
          rw [fM_pay, ec, if_neg (by rw [isLot_cg (sA := sA) (s := sL) (by rw [w 5 (by omega) (by omega)])]; exact hl0), if_pos (by rw [w 9 (by omega) (by omega)]; exact g2), if_neg (by rw [w 15 (by omega) (by omega)]; exact gb)]
          by_cases gd : sA 16 i ≤ sA 11 i
          · rw [if_pos gd] at ed
            rw [if_pos (by rw [w 16 (by omega) (by omega), w 11 (by omega) (by omega)]; exact gd), w 11 (by omega) (by omega), w 15 (by omega) (by omega), w 20 (by omega) (by omega), ← eb, ← ef, ed]
          · rw [if_neg gd] at ed
            rw [if_neg (by rw [w 16 (by omega) (by omega), w 11 (by omega) (by omega)]; exact gd), w 11 (by omega) (by omega), w 15 (by omega) (by omega), w 16 (by omega) (by omega), w 20 (by omega) (by omega), ← eb, ← ef, ← ed]
        rw [eW]
        dsimp only
        rw [eM]
        refine EQ_mk (((h.mp.up (by omega)).up (by omega)).up (by omega)) ?_ ?_ (h.at hi (fun x y z => ?_) ⟨?_, ?_, ?_⟩ (fun k hk => ⟨?_, ?_⟩) (fun k hk => ?_) ?_ (bi_fb (((((((FB.refl.up (by omega)).up (by omega)).up (by omega)).up (by omega)).up (by omega)).up (by omega)).up (by omega))) (fun k hk => (((((((FR.refl.up (by omega)).up (by omega)).up (by omega)).up (by omega)).up (by omega)).up (by omega)).up (by omega)))) <;> try simp (disch := omega) only [up2_hit, up2_miss, up2L_hit, up2L_miss]
        · rw [h.2.2.1.1]
        · exact h.2.2.1.2.1
        · rw [h.2.2.1.2.2]
        · by_cases e : k = b
          · rw [e]; simp (disch := omega) only [up2_hit, up2_miss]; rw [e3]
          · simp (disch := omega) only [up2_miss]; exact h.2.2.2.2.1 k hk
        · refine ⟨⟨?_, ?_⟩, ?_, ⟨?_, ?_⟩, ⟨?_, ?_⟩, Or.inl ⟨?_, ?_, ?_, ?_, ?_, ?_⟩, ⟨?_, ?_⟩, ⟨?_, ?_⟩, ⟨?_, ?_⟩, ?_, ?_⟩ <;> (try simp (disch := omega) only [up2_hit, up2_miss]) <;> first | assumption | decide | exact Or.inl trivial
    · rw [v5] at g2
      have eW : fW_pay n sL sA (nI i) = (2, sL, sA) := by rw [fW_pay, fX_pay, bndq_s h1, bnd_n (by rw [g1]; decide), g1]; exact wrapR_3 rfl
      rw [eW, fM_pay]
      dsimp only
      rw [if_neg hl0, ec, if_neg g2]
      exact EQ_err h (by decide)
  · have eW : fW_pay n sL sA p0 = (1, sL, sA) := by rw [fW_pay, fX_pay, bndq_n h1]; exact wrapR_1 rfl
    rw [eW, fM_pay]
    dsimp only
    rw [if_pos (h2 _)]
    exact EQ_err h (by decide)
