theorem ring3 (p x s v t : Int32) : p - (p - x - s - v - t) - s - v = x + t := by grind
/-- the interest is not large -/
theorem int_b {sL : NL} {sA : NA} {i V td dy rt : Nat} (hV : sA 6 (3 * i) = nI V) (hV6 : V ≤ 1000000) (ht : sA 4 2 = nI td) (ht7 : td ≤ 7300) (hd : sA 6 (3 * i + 1) = nI dy) (hd7 : dy ≤ 7300) (hr : sA 4 3 = nI rt) (hr1 : rt ≤ 100) (h3 : ¬ sA 5 (10 * i + 3) = 4) : -7300000 ≤ (fW_interest sL sA i).toInt ∧ (fW_interest sL sA i).toInt ≤ 7300000 := by
  rw [fW_interest, if_neg h3, hV, ht, hd, hr]
  obtain ⟨t, et⟩ : ∃ t : Int, t = (td : Int) - dy := ⟨_, rfl⟩
  have tb : t.natAbs ≤ 7300 := by omega
  have e1 : (nI V).toInt64 * (nI td - nI dy).toInt64 * (nI rt).toInt64 = Int64.ofInt ((V : Int) * t * rt) := by
    rw [w64, w64, w64, nI_toInt (by omega), nI_toInt (by omega), pk_sub_toInt (by omega) (by omega), ← et, ← Int64.ofInt_mul, ← Int64.ofInt_mul]
  obtain ⟨y, ey⟩ : ∃ y : Int, y = (V : Int) * t * rt := ⟨_, rfl⟩
  have yb : y.natAbs ≤ 730000000000 := by
    rw [ey, Int.natAbs_mul, Int.natAbs_mul, Int.natAbs_natCast, Int.natAbs_natCast]
    calc V * t.natAbs * rt ≤ 1000000 * 7300 * 100 := Nat.mul_le_mul (Nat.mul_le_mul hV6 tb) hr1
      _ = 730000000000 := rfl
  have qb : (y.tdiv 100000).natAbs ≤ 7300000 := by
    rw [Int.natAbs_tdiv]
    show y.natAbs / 100000 ≤ 7300000
    omega
  have e2 : Int64.ofInt y / 100000 = Int64.ofInt (y.tdiv 100000) := by
    rw [Int64.ofInt_tdiv (by show (-9223372036854775808 : Int) ≤ y; omega) (by show y ≤ (9223372036854775807 : Int); omega) (by decide) (by decide)]
    rfl
  rw [e1, ← ey, e2]
  have e3 : ((Int64.ofInt (y.tdiv 100000)).toInt32).toInt = y.tdiv 100000 := by
    obtain ⟨z, ez⟩ : ∃ z, z = y.tdiv 100000 := ⟨_, rfl⟩
    rw [← ez] at qb ⊢
    have b1 : z.bmod 18446744073709551616 = z := by rw [Int.bmod_def]; split <;> omega
    have b2 : z.bmod 4294967296 = z := by rw [Int.bmod_def]; split <;> omega
    rw [Int64.toInt_toInt32, Int64.toInt_ofInt]
    show (z.bmod 18446744073709551616).bmod 4294967296 = z
    rw [b1, b2]
  rw [e3]
  omega
theorem seller_ok {x : Int32} (h : vp_in x 6) : fX_checkSeller x = 0 := by
  obtain ⟨z1, z2⟩ := vin_ltM (M := 6) (N := 6) (by omega) rfl h
  unfold fX_checkSeller
  rw [if_neg z1, if_pos z2]
theorem FRof {sA sA2 : NA} (h : ∀ x y, sA2 x y = sA x y) (k : Nat) : FR sA sA2 k := ⟨fun r _ => funext (h _), fun j _ => ⟨h _ _, h _ _, h _ _⟩, fun j _ => h _ _⟩
theorem E_settle {n K : Nat} {sL : NL} {sA : NA} (h : INV n K sL sA) {i : Nat} (hi : i < n) (h3 : sA 5 (10 * i + 3) = 3) {G : Int32} (eG : G = (((sA 5 (10 * i + 5) - (sA 5 (10 * i + 5) * sA 9 (sA 5 (10 * i)).toNatClampNeg) / 100) - fW_share sL sA i) - sA 6 (3 * i)) - fW_interest sL sA i) :
    ∃ (sL2 : NL) (sA2 : NA), fD_settle n sL sA (nI i) = (G, sL2, sA2) ∧ INV n (K + 1) sL2 (up2 (up2 (up2 sA2 5 (10 * i + 3) 4) 5 (10 * i + 9) G) 6 (3 * i + 2) (fW_interest sL sA i)) := by
  have hn6 := h.n6
  obtain ⟨⟨v0, v0b⟩, ⟨v1, v1b⟩, ⟨v2, v2b⟩, ⟨e4, s4⟩, v5, ⟨v6a, v6b, v6c⟩, v7, v8, ⟨e10, eP⟩, ⟨v11, dy, v11b, v11c⟩, v12, v13⟩ := h.si hi
  obtain ⟨-, w5, w6, w7⟩ := v5.resolve_right (fun q => q.1 (by rw [h3]; decide))
  obtain ⟨-, ⟨td, t1, t2, t3⟩, rt, r1, r2, r3⟩ := h.1
  have hse := vin_nat v0b
  obtain ⟨c, c1, c2, c3⟩ := h.2.1 _ hse
  have hst : fX_checkState sL sA i 3 = 0 := chk_y (by rw [e4, h3])
  have hh : fX_hundredthsOf sL sA (sA 5 (10 * i)) = (0, sA 9 (sA 5 (10 * i)).toNatClampNeg) := by rw [fX_hundredthsOf, bnd_0 (seller_ok v0b), c2, c3]
  obtain ⟨X, eX⟩ : ∃ X, X = (sA 5 (10 * i + 5) * sA 9 (sA 5 (10 * i)).toNatClampNeg) / 100 := ⟨_, rfl⟩
  obtain ⟨T, eT⟩ : ∃ T, T = fW_interest sL sA i := ⟨_, rfl⟩
  obtain ⟨S, eS⟩ : ∃ S, S = fW_share sL sA i := ⟨_, rfl⟩
  rw [← eX, ← eS, ← eT] at eG
  refine ⟨up2L (up2L sL 0 7 (sL 0 7 + (G + S).toInt64)) 0 8 (sL 0 8 + (X + T).toInt64), up2 (up2 sA (4 * i + 11) 12 T) (4 * i + 11) 4 4, ?_, ?_⟩
  · rw [fD_settle, fX_settle, bndq_s (h.find hi), bnd_0 hst, v0, hh, bnd_0 rfl]
    refine (wrapD_0 rfl).trans ?_
    dsimp only
    rw [w6, e10, h.sh hi, h.int hi, ← eX, ← eS, ← eT, ← eG]
  · have sb : S = shW sA i := eS
    obtain ⟨sn, sn1, sn2⟩ := shW_b v6b
    have q4 : ¬ sA 5 (10 * i + 3) = 4 := by rw [h3]; decide
    have q2 : ¬ sA 5 (10 * i + 3) ≤ 2 := by rw [h3]; decide
    have gb : -20000000 ≤ G.toInt ∧ G.toInt ≤ 20000000 := by
      obtain ⟨V, hV, eV⟩ := eP
      obtain ⟨pn, hp, ep⟩ := v6b
      obtain ⟨b1, b2⟩ := int_b (sL := sL) eV hV t3 t1 v11c v11b r3 r1 q4
      rw [← eT] at b1 b2
      have x1 : X = nI (pn * c / 100) := by rw [eX, ep, c3, pct_n hp (by omega)]
      have x2 : pn * c / 100 ≤ 1000000 := by
        have : pn * c ≤ 1000000 * 50 := Nat.mul_le_mul hp c1
        omega
      have i1 : (nI pn - nI (pn * c / 100)).toInt = (pn : Int) - (pn * c / 100 : Nat) := pk_sub_toInt (by omega) (by omega)
      have i2 : (nI pn - nI (pn * c / 100) - nI sn).toInt = (pn : Int) - (pn * c / 100 : Nat) - sn := by
        rw [i_sub (by rw [i1, nI_toInt (by omega)]; omega) (by rw [i1, nI_toInt (by omega)]; omega), i1, nI_toInt (by omega)]
      have i3 : (nI pn - nI (pn * c / 100) - nI sn - nI V).toInt = (pn : Int) - (pn * c / 100 : Nat) - sn - V := by
        rw [i_sub (by rw [i2, nI_toInt (by omega)]; omega) (by rw [i2, nI_toInt (by omega)]; omega), i2, nI_toInt (by omega)]
      rw [eG, ep, x1, sb, sn2, eV, i_sub (by rw [i3]; omega) (by rw [i3]; omega), i3]
      omega
    have sh2 : ∀ sA2 : NA, sA2 5 (10 * i + 2) = sA 5 (10 * i + 2) → sA2 5 (10 * i + 3) = 4 → sA2 5 (10 * i + 5) = sA 5 (10 * i + 5) → sA2 5 (10 * i + 6) = sA 5 (10 * i + 6) → shW sA2 i = S := fun sA2 a2 a3 a5 a6 => by
      rw [sb, ← shW_at sL, ← shW_at sL, share_at, share_at, a2, a3, a5, a6, h3, if_neg (show ¬ (4 : Int32) < 2 by decide), if_neg (show ¬ (3 : Int32) < 2 by decide)]
    have hS2 : shW (up2 (up2 (up2 (up2 (up2 sA (4 * i + 11) 12 T) (4 * i + 11) 4 4) 5 (10 * i + 3) 4) 5 (10 * i + 9) G) 6 (3 * i + 2) T) i = S := by
      refine sh2 _ ?_ ?_ ?_ ?_ <;> simp (disch := omega) only [up2_hit, up2_miss]
    rw [← eT]
    refine h.at hi 0 (G + S).toInt64 (X + T).toInt64 (h.1.cg (fun y hy => ?_) (fun y hy => ?_)) (h.2.1.cg (fun k hk => ?_) (fun k hk => ?_)) (h.2.2.1.cg (by omega) (fun k hk => ?_) (fun k hk => ?_) ?_) ⟨⟨?_, ?_⟩, ⟨?_, ?_⟩, ⟨?_, ?_⟩, ⟨?_, ?_⟩, Or.inl ⟨?_, ?_, ?_, ?_⟩, ⟨?_, ?_, ?_⟩, ?_, ?_, ⟨?_, ?_⟩, ⟨?_, ?_⟩, ?_, ?_⟩ (bi_same h ?_ ?_) (fun k hk => ?_) ?_ ⟨?_, ?_⟩ ⟨?_, ?_⟩ ⟨?_, ?_⟩ <;> (try simp (disch := omega) only [up2_hit, up2_miss, up2L_hit, up2L_miss]) <;> first | assumption | exact (Int64.add_zero _).symm | (refine FR.up ?_ (by omega); repeat (first | exact FR.refl | refine FR.up ?_ (by omega))) | (refine FB.up ?_ (by omega); repeat (first | exact FB.refl | refine FB.up ?_ (by omega))) | decide | exact ⟨dy, v11b, v11c⟩ | skip
    · unfold mI
      simp (disch := omega) only [up2_hit, up2_miss]
      rw [if_neg (by decide), if_neg q2]
      exact (Int64.add_zero _).symm
    · unfold mO
      rw [hS2]
      simp (disch := omega) only [up2_hit, up2_miss]
      rw [if_pos trivial, if_neg q4, Int64.add_zero]
    · unfold mK
      rw [hS2]
      simp (disch := omega) only [up2_hit, up2_miss]
      rw [if_neg (by decide), if_pos trivial, if_neg q2, if_neg q4, Int64.add_zero, eG, ring3]
