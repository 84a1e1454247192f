theorem E_days {n K : Nat} {sL : NL} {sA : NA} (h : INV n K sL sA) (hK : K ≤ 600) (p0 : Int32) : EQ n K (fW_days sL sA p0) (fM_days (fW_days sL sA p0).2.1 (fW_days sL sA p0).2.2 p0) := by
  have g := h
  obtain ⟨⟨a1, a2, a3⟩, ⟨a4, a5⟩, a6, a7, a8, lm, a9, a10, a11, a12⟩ := g
  have hz : ∀ v, up2 (up2 sA 5 23 v) 5 19 (sA 5 19 + 0) = up2 sA 5 23 v := fun v => by
    funext x y
    by_cases e : x = 5 ∧ y = 19
    · rw [e.1, e.2, up2_hit, up2_miss (by omega), Int32.add_zero]
    · rw [up2_miss (by omega)]
  rcases rng_chk p0 1 200 with ⟨h1, h2, -, -⟩ | ⟨h1, h2⟩
  · by_cases hd : sA 5 19 + p0 ≤ 7300
    · have eW : fW_days sL sA p0 = (0, up2L sL 4 0 (sA 0 4 + p0).toInt64, up2 sA 0 4 (sA 0 4 + p0)) := by rw [fW_days, fX_days, bnd_0 h1, if_pos (by rw [a4]; exact hd)]; exact wrapR_0 rfl
      have e5 : up2 sA 0 4 (sA 0 4 + p0) 5 19 = sA 5 19 := up2_miss (by omega)
      rw [eW, fM_days]
      dsimp only
      rw [if_neg (by rw [h2]; exact n10), if_pos (by rw [e5]; exact hd)]
      refine EQ_mk (h.mp.up (by omega)) ?_ ?_ ⟨⟨a1, ?_, ?_⟩, ⟨?_, ?_⟩, ?_, fun k hk => ?_, fun k hk => ?_, lm, by omega, ?_, fun k hk => ⟨(a11 k hk).1.fr (((FR.refl.up (by omega)).up (by omega)).up (by omega)), (a11 k hk).2.fr (Nat.le_refl _) (((FR.refl.up (by omega)).up (by omega)).up (by omega))⟩, a12.fr (fun k _ => (((FR.refl.up (by omega)).up (by omega)).up (by omega)))⟩ <;> simp (disch := omega) only [up2_hit, up2_miss, up2L_hit, up2L_miss]
      · rw [a4]
      · exact a2
      · exact a3
      · rw [a4]
      · exact a5
      · exact a6
      · exact a7 k hk
      · exact a8 k hk
      · exact a10
    · have eW : fW_days sL sA p0 = (2, sL, sA) := by rw [fW_days, fX_days, bnd_0 h1, if_neg (by rw [a4]; exact hd)]; exact wrapR_3 rfl
      rw [eW, fM_days]
      dsimp only
      rw [if_neg (by rw [h2]; exact n10), if_neg hd, hz]
      exact EQ_err h (by decide)
  · have eW : fW_days sL sA p0 = (1, sL, sA) := by rw [fW_days, fX_days, bnd_n (by rw [h1]; decide), h1]; exact wrapR_2 rfl
    rw [eW, fM_days]
    dsimp only
    rw [if_pos h2, hz]
    exact EQ_err h (by decide)
theorem E_commission {n K : Nat} {sL : NL} {sA : NA} (h : INV n K sL sA) (hK : K ≤ 600) (p0 : Int32) (p1 : Int32) : EQ n K (fW_commission sL sA p0 p1) (fM_commission (fW_commission sL sA p0 p1).2.1 (fW_commission sL sA p0 p1).2.2 p0 p1) := by
  have g := h
  obtain ⟨⟨a1, a2, a3⟩, ⟨a4, a5⟩, a6, a7, a8, lm, a9, a10, a11, a12⟩ := g
  rcases sel_chk p0 with ⟨h1, h2, h3⟩ | ⟨h1, h2⟩
  · rcases rng_chk p1 0 50 with ⟨g1, g2, -, -⟩ | ⟨g1, g2⟩
    · have eW : fW_commission sL sA p0 p1 = (0, up2L sL 4 0 (sA 2 p0.toNatClampNeg).toInt64, up2 sA 2 p0.toNatClampNeg p1) := by rw [fW_commission, fX_commission, bnd_0 h1, bnd_0 g1]; exact wrapR_0 rfl
      rw [eW, fM_commission]
      dsimp only
      rw [if_neg (by rw [h2]; exact n10), if_neg (by rw [g2]; exact n10)]
      have hn := vin_nat h3
      refine EQ_mk (h.mp.up (by omega)) ?_ ?_ ⟨⟨a1, ?_, ?_⟩, ⟨?_, ?_⟩, ?_, fun k hk => ?_, fun k hk => ?_, lm, by omega, ?_, fun k hk => ⟨(a11 k hk).1.fr (((FR.refl.up (by omega)).up (by omega)).up (by omega)), (a11 k hk).2.fr (Nat.le_refl _) (((FR.refl.up (by omega)).up (by omega)).up (by omega))⟩, a12.fr (fun k _ => (((FR.refl.up (by omega)).up (by omega)).up (by omega)))⟩ <;> try simp (disch := omega) only [up2_hit, up2_miss, up2L_hit, up2L_miss]
      · rw [a7 _ hn]
      · exact a2
      · exact a3
      · exact a4
      · exact a5
      · exact a6
      · by_cases e : k = p0.toNatClampNeg
        · rw [e]; simp (disch := omega) only [up2_hit, up2_miss]
        · simp (disch := omega) only [up2_miss]
          exact a7 k hk
      · exact a8 k hk
      · exact a10
    · have eW : fW_commission sL sA p0 p1 = (2, sL, sA) := by rw [fW_commission, fX_commission, bnd_0 h1, bnd_n (by rw [g1]; decide), g1]; exact wrapR_2 rfl
      rw [eW, fM_commission]
      dsimp only
      rw [if_neg (by rw [h2]; exact n10), if_pos g2]
      exact EQ_err h (by decide)
  · have eW : fW_commission sL sA p0 p1 = (1, sL, sA) := by rw [fW_commission, fX_commission, bnd_n (by rw [h1]; decide), h1]; exact wrapR_1 rfl
    rw [eW, fM_commission]
    dsimp only
    rw [if_pos h2]
    exact EQ_err h (by decide)
theorem owed_1 {sL : NL} {sA : NA} {p : Int32} (h : fX_checkBuyer p = 0) : (fX_owedBy sL sA p).1 = 0 ∧ (fX_owedBy sL sA p).2 = sA 3 p.toNatClampNeg := by
  rw [fX_owedBy, bnd_0 h]; exact ⟨rfl, rfl⟩
theorem add_neg32 (x : Int32) : x + -x = 0 := by
  rw [← Int32.toBitVec_inj]
  show x.toBitVec + -x.toBitVec = 0#32
  apply BitVec.eq_of_toNat_eq
  rw [BitVec.toNat_add, BitVec.toNat_neg]
  have h1 := x.toBitVec.isLt
  show _ = 0
  omega
theorem E_payGaps {n K : Nat} {sL : NL} {sA : NA} (h : INV n K sL sA) (hK : K ≤ 600) (p0 : Int32) : EQ n K (fW_payGaps sL sA p0) (fM_payGaps (fW_payGaps sL sA p0).2.1 (fW_payGaps sL sA p0).2.2 p0) := by
  have g := h
  obtain ⟨⟨a1, a2, a3⟩, ⟨a4, a5⟩, ⟨a61, a62, a63⟩, a7, a8, lm, a9, a10, a11, a12⟩ := g
  rcases buy_chk p0 with ⟨h1, h2, h3⟩ | ⟨h1, h2⟩
  · obtain ⟨o1, o2⟩ := owed_1 (sL := sL) (sA := sA) h1
    have hn := vin_nat h3
    have e3 := a8 _ hn
    by_cases hd : sA 3 p0.toNatClampNeg = 0
    · have eW : fW_payGaps sL sA p0 = (2, sL, sA) := by rw [fW_payGaps, fX_payGaps, bnd_0 o1, if_pos (by rw [o2]; exact hd)]; exact wrapR_3 rfl
      rw [eW, fM_payGaps]
      dsimp only
      rw [if_neg (by rw [h2]; exact n10), if_pos (by rw [← e3]; exact hd)]
      exact EQ_err h (by decide)
    · have eW : fW_payGaps sL sA p0 = (0, up2L (up2L (up2L sL 0 6 (sL 0 6 + (sA 3 p0.toNatClampNeg).toInt64)) 0 8 (sL 0 8 + (sA 3 p0.toNatClampNeg).toInt64)) 4 0 (sA 3 p0.toNatClampNeg).toInt64, up2 sA 3 p0.toNatClampNeg 0) := by
        rw [fW_payGaps, fX_payGaps, bnd_0 o1, if_neg (by rw [o2]; exact hd), o2, fX_addToDebt, add_neg32]; exact wrapR_0 rfl
      have e20 : up2 sA 3 p0.toNatClampNeg 0 20 p0.toNatClampNeg = sA 3 p0.toNatClampNeg := by rw [up2_miss (by omega)]; exact e3.symm
      rw [eW, fM_payGaps]
      dsimp only
      rw [if_neg (by rw [h2]; exact n10), if_neg (by rw [e20]; exact hd)]
      refine EQ_mk (h.mp.up (by omega)) ?_ ?_ ⟨⟨a1, ?_, ?_⟩, ⟨?_, ?_⟩, ⟨?_, ?_, ?_⟩, fun k hk => ?_, fun k hk => ?_, lm, by omega, ?_, fun k hk => ⟨(a11 k hk).1.fr (((FR.refl.up (by omega)).up (by omega)).up (by omega)), (a11 k hk).2.fr (Nat.le_refl _) (((FR.refl.up (by omega)).up (by omega)).up (by omega))⟩, a12.fr (fun k _ => (((FR.refl.up (by omega)).up (by omega)).up (by omega)))⟩ <;> try simp (disch := omega) only [up2_hit, up2_miss, up2L_hit, up2L_miss]
      · rw [e3]
      · exact a2
      · exact a3
      · exact a4
      · exact a5
      · rw [a61, e3]
      · exact a62
      · rw [a63, e3]
      · exact a7 k hk
      · by_cases e : k = p0.toNatClampNeg
        · rw [e]; simp (disch := omega) only [up2_hit, up2_miss]
        · simp (disch := omega) only [up2_miss]
          exact a8 k hk
      · exact a10
  · have o1 : (fX_owedBy sL sA p0).1 = 1 := by rw [fX_owedBy, h1]; rfl
    have eW : fW_payGaps sL sA p0 = (1, sL, sA) := by rw [fW_payGaps, fX_payGaps, o1]; exact wrapR_1 rfl
    rw [eW, fM_payGaps]
    dsimp only
    rw [if_pos h2]
    exact EQ_err h (by decide)
theorem E_lots {n K : Nat} {sL : NL} {sA : NA} (h : INV n K sL sA) : MP n sA ∧ fX_lots sL sA = (fM_lots sL sA).1 ∧ INV n (K + 1) (fM_lots sL sA).2.1 (fM_lots sL sA).2.2 := ⟨h.mp, h.1.2.1.trans h.1.2.2.symm, h.thr 0⟩
theorem E_in {n K : Nat} {sL : NL} {sA : NA} (h : INV n K sL sA) : MP n sA ∧ fX_in sL sA = (fM_in sL sA).1 ∧ INV n (K + 1) (fM_in sL sA).2.1 (fM_in sL sA).2.2 := ⟨h.mp, h.2.2.1.1, h.thr 0⟩
theorem E_out {n K : Nat} {sL : NL} {sA : NA} (h : INV n K sL sA) : MP n sA ∧ fX_out sL sA = (fM_out sL sA).1 ∧ INV n (K + 1) (fM_out sL sA).2.1 (fM_out sL sA).2.2 := ⟨h.mp, h.2.2.1.2.1, h.thr 0⟩
theorem E_kept {n K : Nat} {sL : NL} {sA : NA} (h : INV n K sL sA) : MP n sA ∧ fX_kept sL sA = (fM_kept sL sA).1 ∧ INV n (K + 1) (fM_kept sL sA).2.1 (fM_kept sL sA).2.2 := ⟨h.mp, h.2.2.1.2.2, h.thr 0⟩
theorem E_held {n K : Nat} {sL : NL} {sA : NA} (h : INV n K sL sA) : MP n sA ∧ fX_held sL sA = (fM_held sL sA).1 ∧ INV n (K + 1) (fM_held sL sA).2.1 (fM_held sL sA).2.2 := ⟨h.mp, by show sL 0 6 - sL 0 7 - sL 0 8 = sL 5 20 - sL 5 21 - sL 5 22; rw [h.2.2.1.1, h.2.2.1.2.1, h.2.2.1.2.2], h.thr 0⟩
