theorem DEB.add {K : Nat} {sA sA2 : NA} (h : DEB K sA) {q d : Nat} (hq : q < 10) (hd : d ≤ 1000000) (h3 : ∀ k, k < 10 → sA2 3 k = if k = q then sA 3 q + nI d else sA 3 k) (h10 : ∀ k, k < 10 → sA2 10 k = if k = q then sA 10 q + nI d else sA 10 k) (h44 : sA2 4 4 = sA 4 4) : DEB (K + 1) sA2 := by
  obtain ⟨dd, g, h1, h2, h5⟩ := h
  have hs := s10_upd (d := dd) (v := dd q + d) hq
  refine ⟨fun k => if k = q then dd q + d else dd k, g, fun k hk => ?_, by rw [h44]; exact h2, by omega⟩
  rw [h3 k hk, h10 k hk]
  dsimp only
  by_cases z : k = q
  · rw [if_pos z, if_pos z, if_pos z, (h1 q hq).1, (h1 q hq).2, nI_add]; exact ⟨rfl, rfl⟩
  · rw [if_neg z, if_neg z, if_neg z]; exact h1 k hk
theorem E_pay {n K : Nat} {sL : NL} {sA : NA} (h : INV n K sL sA) {i : Nat} (hi : i < n) (h3 : sA 5 (10 * i + 3) = 2) :
    ∃ (sL2 : NL) (sA2 : NA), fD_pay n sL sA (nI i) = (sA 5 (10 * i + 5) + fW_fee (sA 5 (10 * i + 5)), sL2, sA2) ∧ (∀ x, 4 ≤ x → x < 11 → sA2 x = sA x) ∧
      ((sA 5 (10 * i + 7) = 0 ∨ sA 5 (10 * i + 8) ≤ sA 5 (10 * i + 5)) → INV n (K + 1) sL2 (up2 (up2 sA2 5 (10 * i + 3) 3) 5 (10 * i + 7) 0)) ∧
      ∀ q : Nat, q < 10 → sA 5 (10 * i + 7) = nI (q + 1) → ¬ sA 5 (10 * i + 8) ≤ sA 5 (10 * i + 5) → INV n (K + 1) sL2 (up2 (up2 (up2 sA2 5 (10 * i + 3) 3) 10 q (sA 10 q + (sA 5 (10 * i + 8) - sA 5 (10 * i + 5)))) 5 (10 * i + 7) 0) := by
  have hn6 := h.n6
  obtain ⟨⟨v0, v0b⟩, ⟨v1, v1b⟩, ⟨v2, v2b⟩, ⟨e4, s4⟩, v5, ⟨v6a, v6b, v6c⟩, v7, ⟨v8, v8b⟩, ⟨e10, eP⟩, ⟨v11, v11b⟩, v12, v13, v14⟩ := h.si hi
  obtain ⟨-, w5, w6, w7⟩ := v5.resolve_right (fun q => q.1 (by rw [h3]; decide))
  have e2 : fX_checkState sL sA i 2 = 0 := chk_y (by rw [e4, h3])
  have q4 : ¬ sA 5 (10 * i + 3) = 4 := by rw [h3]; decide
  have q2 : sA 5 (10 * i + 3) ≤ 2 := by rw [h3]; decide
  have hfee := fee_eq v6b
  obtain ⟨sL2, eL⟩ : ∃ sL2, sL2 = up2L (up2L sL 0 6 (sL 0 6 + (sA 5 (10 * i + 5) + fW_fee (sA 5 (10 * i + 5))).toInt64)) 0 8 (sL 0 8 + (fW_fee (sA 5 (10 * i + 5))).toInt64) := ⟨_, rfl⟩
  have fin : ∀ (q : Nat) (a b : Int32), q < 10 → ∀ sA3, sA3 = up2 (up2 (up2 (up2 (up2 (up2 sA (4 * i + 11) 4 3) 3 q a) (4 * i + 11) 8 (-1)) 5 (10 * i + 3) 3) 10 q b) 5 (10 * i + 7) 0 → DEB (K + 1) sA3 → INV n (K + 1) sL2 sA3 := by
    intro q a b hq sA3 e3 hD
    have hS2 : shW sA3 i = shW sA i := by
      rw [← shW_at sL, ← shW_at sL, share_at, share_at, e3]
      simp (disch := omega) only [up2_hit, up2_miss]
      rw [h3]
      rfl
    refine h.at hi (sA 5 (10 * i + 5) + fW_fee (sA 5 (10 * i + 5))).toInt64 0 (fW_fee (sA 5 (10 * i + 5))).toInt64 (h.1.cg (fun y hy => ?_) (fun y hy => ?_)) (h.2.1.cg (fun k hk => ?_) (fun k hk => ?_)) hD ⟨⟨?_, ?_⟩, ⟨?_, ?_⟩, ⟨?_, ?_⟩, ⟨?_, ?_⟩, Or.inl ⟨?_, ?_, ?_, ?_⟩, ⟨?_, ?_, ?_⟩, Or.inl ⟨?_, ?_⟩, ⟨?_, ?_⟩, ⟨?_, ?_⟩, ⟨?_, ?_⟩, ?_, ?_⟩ (bi_same h ?_ ?_) (fun k hk => ?_) ?_ ⟨?_, ?_⟩ ⟨?_, ?_⟩ ⟨?_, ?_⟩ <;> (try rw [e3]) <;> (try rw [eL]) <;> (try simp (disch := omega) only [up2_hit, up2_miss, up2L_hit, up2L_miss]) <;> first | with_reducible assumption | with_reducible exact (Int64.add_zero _).symm | (refine FR.up ?_ (by omega); repeat (first | exact FR.refl | refine FR.up ?_ (by omega))) | (refine FB.up ?_ (by omega); repeat (first | exact FB.refl | refine FB.up ?_ (by omega))) | decide | exact ⟨v13, v14⟩ | skip
    · unfold mI
      simp (disch := omega) only [up2_hit, up2_miss]
      rw [if_neg (by decide), if_pos q2]
      exact (Int64.zero_add _).symm
    · rw [← e3]
      unfold mO
      rw [hS2, e3]
      simp (disch := omega) only [up2_hit, up2_miss]
      rw [if_neg (by decide), if_neg q4]
      exact (Int64.add_zero _).symm
    · rw [← e3]
      unfold mK
      rw [hS2, e3]
      simp (disch := omega) only [up2_hit, up2_miss]
      rw [if_neg (by decide), if_neg (by decide), if_pos q2, if_neg q4, Int64.add_zero]
      exact (Int64.zero_add _).symm
  rcases v7 with ⟨g7, g8⟩ | ⟨q, hq, g7, g8⟩
  · refine ⟨sL2, up2 sA (4 * i + 11) 4 3, ?_, fun x h1 h2 => up2_rmiss (by omega), fun _ => ?_, fun q hq z => absurd (by rw [← z]; exact g7) (nI_ne0 (n := q + 1) (by omega) (by omega))⟩
    · rw [fD_pay, fX_pay, bndq_s (h.find hi), bnd_0 e2, w6, hfee, ← eL]
      refine (wrapD_0 rfl).trans ?_
      dsimp only
      rw [fX_closeGap, if_pos (by rw [up2_miss (by omega)]; exact g8)]
      dsimp only
      rw [up2_miss (by omega), w6]
    · have e : up2 (up2 (up2 sA (4 * i + 11) 4 3) 5 (10 * i + 3) 3) 5 (10 * i + 7) 0 = up2 (up2 (up2 (up2 (up2 (up2 sA (4 * i + 11) 4 3) 3 0 (sA 3 0)) (4 * i + 11) 8 (-1)) 5 (10 * i + 3) 3) 10 0 (sA 10 0)) 5 (10 * i + 7) 0 := by
        rw [up2_id (sA := up2 sA (4 * i + 11) 4 3) (x := 3) (y := 0) (by rw [up2_miss (by omega)]), up2_id (sA := up2 sA (4 * i + 11) 4 3) (x := 4 * i + 11) (y := 8) (by rw [up2_miss (by omega)]; exact g8.symm), up2_id (x := 10) (y := 0) (v := sA 10 0) (by rw [up2_miss (by omega), up2_miss (by omega)])]
      refine fin 0 (sA 3 0) (sA 10 0) (by omega) _ e (h.2.2.1.cg (by omega) (fun k hk => ?_) (fun k hk => ?_) ?_) <;> simp (disch := omega) only [up2_hit, up2_miss]
  · obtain ⟨mx, emx⟩ : ∃ mx, mx = imax 0 (sA 5 (10 * i + 8) - sA 5 (10 * i + 5)) := ⟨_, rfl⟩
    refine ⟨sL2, up2 (up2 (up2 sA (4 * i + 11) 4 3) 3 q (sA 3 q + mx)) (4 * i + 11) 8 (-1), ?_, fun x h1 h2 => by rw [up2_rmiss (by omega), up2_rmiss (by omega), up2_rmiss (by omega)], fun hz => ?_, fun q2 hq2 z hc => ?_⟩
    · rw [fD_pay, fX_pay, bndq_s (h.find hi), bnd_0 e2, w6, hfee, ← eL]
      refine (wrapD_0 rfl).trans ?_
      have eg : up2 sA (4 * i + 11) 4 3 (4 * i + 11) 8 = nI q := by rw [up2_miss (by omega)]; exact g8
      have ec : fX_closeGap sL2 (up2 sA (4 * i + 11) 4 3) i = (sL2, up2 (up2 (up2 sA (4 * i + 11) 4 3) 3 q (sA 3 q + mx)) (4 * i + 11) 8 (-1)) := by
        rw [fX_closeGap, if_neg (by rw [eg]; intro z; have := congrArg Int32.toInt z; rw [nI_toInt (by omega), m1_int] at this; omega), eg, fX_addToDebt, nI_clamp (by omega)]
        dsimp only
        rw [up2_miss (a := 4 * i + 11) (k := 4) (x := 4 * i + 11) (y := 9) (by omega), up2_miss (a := 4 * i + 11) (k := 4) (x := 4 * i + 11) (y := 6) (by omega), up2_miss (a := 4 * i + 11) (k := 4) (x := 3) (by omega), v8, w6, ← emx]
      dsimp only
      rw [ec]
      dsimp only
      rw [up2_miss (by omega), up2_miss (by omega), up2_miss (by omega), w6]
    · have hle : sA 5 (10 * i + 8) ≤ sA 5 (10 * i + 5) := hz.resolve_left (by rw [g7]; exact nI_ne0 (by omega) (by omega))
      have m0 : mx = nI 0 := by rw [emx, P6.sub_pos v8b v6b, if_pos hle]; rfl
      have e : up2 (up2 (up2 (up2 (up2 sA (4 * i + 11) 4 3) 3 q (sA 3 q + mx)) (4 * i + 11) 8 (-1)) 5 (10 * i + 3) 3) 5 (10 * i + 7) 0 = up2 (up2 (up2 (up2 (up2 (up2 sA (4 * i + 11) 4 3) 3 q (sA 3 q + mx)) (4 * i + 11) 8 (-1)) 5 (10 * i + 3) 3) 10 q (sA 10 q)) 5 (10 * i + 7) 0 := by
        rw [up2_id (x := 10) (y := q) (v := sA 10 q) (by simp (disch := omega) only [up2_miss])]
      refine fin q (sA 3 q + mx) (sA 10 q) hq _ e (h.2.2.1.add hq (d := 0) (by omega) (fun k hk => ?_) (fun k hk => ?_) ?_) <;> simp (disch := omega) only [up2_hit, up2_miss]
      · by_cases z : k = q
        · rw [if_pos z, z]; simp (disch := omega) only [up2_hit, up2_miss]; rw [m0]
        · rw [if_neg z]; simp (disch := omega) only [up2_miss]
      · by_cases z : k = q
        · rw [if_pos z, z]; exact (Int32.add_zero _).symm
        · rw [if_neg z]
    · have eq : q2 = q := by rw [g7] at z; have := (nI_eq (by omega) (by omega)).1 z; omega
      subst eq
      obtain ⟨a, ha, ea⟩ := v8b
      obtain ⟨b, hb, eb⟩ := v6b
      have hlt : b < a := by
        rw [ea, eb] at hc
        exact Nat.lt_of_not_le fun q => hc ((nI_leI (by omega) (by omega)).2 q)
      have m1 : sA 5 (10 * i + 8) - sA 5 (10 * i + 5) = nI (a - b) := by rw [ea, eb, pk_sub (by omega)]
      have m2 : mx = nI (a - b) := by rw [emx, P6.sub_pos ⟨a, ha, ea⟩ ⟨b, hb, eb⟩, if_neg hc, m1]
      refine fin q2 (sA 3 q2 + mx) (sA 10 q2 + (sA 5 (10 * i + 8) - sA 5 (10 * i + 5))) hq _ rfl (h.2.2.1.add hq (d := a - b) (by omega) (fun k hk => ?_) (fun k hk => ?_) ?_)
      · by_cases z : k = q2
        · rw [if_pos z, z]; simp (disch := omega) only [up2_hit, up2_miss]; rw [m2]
        · rw [if_neg z]; simp (disch := omega) only [up2_miss]
      · by_cases z : k = q2
        · rw [if_pos z, z]; simp (disch := omega) only [up2_hit, up2_miss]; rw [m1]
        · rw [if_neg z]; simp (disch := omega) only [up2_miss]
      · simp (disch := omega) only [up2_miss]
