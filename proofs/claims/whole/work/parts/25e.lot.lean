/-- the state after the class's lot, by its code -/
def lotS (c n : Nat) (sL : NL) (sA sA2 : NA) : Nat × NL × NA := if c = 0 then (n + 1, up2L sL 4 0 (nI n).toInt64, sA2) else (n, sL, sA)
theorem nl_miss {sA : NA} {n x : Nat} {p0 p1 p2 : Int32} (h : x < 4 * n + 22) : newlot sA n p0 p1 p2 x = sA x := by
  unfold newlot
  rw [if_neg (by omega), if_neg (by omega)]
theorem nl_new {sA : NA} {n : Nat} {p0 p1 p2 : Int32} : newlot sA n p0 p1 p2 (4 * n + 22) = newrow p0 p1 p2 := by
  unfold newlot
  rw [if_pos rfl]
theorem nl_hi {sA : NA} {n x : Nat} {p0 p1 p2 : Int32} (h : 4 * n + 22 < x) : newlot sA n p0 p1 p2 x = fun _ => 0 := by
  unfold newlot
  rw [if_neg (by omega), if_pos h]
theorem FR.nl {sA : NA} {n k : Nat} {p0 p1 p2 : Int32} (h : k < n) : FR sA (newlot sA n p0 p1 p2) k := ⟨fun r hr => nl_miss (by omega), fun x h1 h2 h3 h4 => by rw [nl_miss (by omega)], fun b hb => ⟨by rw [nl_miss (by omega)], by rw [nl_miss (by omega)]⟩⟩
theorem art_chk (p : Int32) : (fX_checkArtist p = 0 ∧ (¬ fM_isWithin p (-1) 0 = 0 ∨ (fM_isWithin p (-1) 0 = 0 ∧ ¬ fM_isWithin p 1800 2000 = 0)) ∧ (p = -1 ∨ ∃ k : Nat, k ≤ 2000 ∧ p = nI k)) ∨ (fX_checkArtist p = 2 ∧ fM_isWithin p (-1) 0 = 0 ∧ fM_isWithin p 1800 2000 = 0) := by
  unfold fX_checkArtist
  by_cases h1 : p = -1
  · exact Or.inl ⟨if_pos h1, Or.inl (by rw [h1]; decide), Or.inl h1⟩
  rw [if_neg h1]
  by_cases h2 : p = 0
  · exact Or.inl ⟨if_pos h2, Or.inl (by rw [h2]; decide), Or.inr ⟨0, by omega, h2⟩⟩
  rw [if_neg h2]
  have hw : fM_isWithin p (-1) 0 = 0 := by
    rcases rng_chk p (-1) 0 with ⟨-, -, a, b⟩ | ⟨-, a⟩
    · exfalso
      rw [i32_le] at a b
      rw [m1_int] at a
      rw [z_int] at b
      rw [i32_eq, m1_int] at h1
      rw [i32_eq, z_int] at h2
      omega
    · exact a
  rcases rng_chk p 1800 2000 with ⟨a1, a2, a3, a4⟩ | ⟨a1, a2⟩
  · refine Or.inl ⟨by rw [bnd4_0 a1], Or.inr ⟨hw, by rw [a2]; exact n10⟩, Or.inr ⟨p.toNatClampNeg, ?_, nI_self ?_⟩⟩
    · rw [i32_le] at a4
      have e : (2000 : Int32).toInt = 2000 := rfl
      have e2 : p.toNatClampNeg = p.toInt.toNat := rfl
      omega
    · rw [Int32.not_lt]; exact Int32.le_trans (by decide) a3
  · exact Or.inr ⟨by rw [bnd4_n (by rw [a1]; decide), a1], hw, a2⟩
theorem lot_err {n K c : Nat} {sL : NL} {sA sA2 : NA} (h : INV n K sL sA) {p0 p1 p2 : Int32} {S : Nat × NL × NA} (hS : S = lotS c n sL sA sA2) (hc : c ≠ 0) (hM : fM_lot sL sA p0 p1 p2 = (0, sL, up2 sA 5 23 (nI c))) :
    (n ≤ 30 ∧ S.2.2 5 0 = nI n) ∧ fM_thrown (fM_lot S.2.1 S.2.2 p0 p1 p2).2.1 (fM_lot S.2.1 S.2.2 p0 p1 p2).2.2 = nI c ∧ (c = 0 → (fM_lot S.2.1 S.2.2 p0 p1 p2).2.1 4 0 = (fM_lot S.2.1 S.2.2 p0 p1 p2).1.toInt64) ∧ INV S.1 (K + 1) (fM_lot S.2.1 S.2.2 p0 p1 p2).2.1 (fM_lot S.2.1 S.2.2 p0 p1 p2).2.2 := by
  have e : S = (n, sL, sA) := by rw [hS, lotS, if_neg hc]
  subst e
  dsimp only
  rw [hM]
  refine ⟨⟨h.1.1, h.1.2.2⟩, ?_, fun q => absurd q hc, h.thr _⟩
  show up2 sA 5 23 (nI c) 5 23 = nI c
  exact up2_hit
theorem lot_ok {n K : Nat} {sL : NL} {sA : NA} (h : INV n K sL sA) {p0 p1 p2 v : Int32} (hn : n < 30) (hs : vp_in p0 6) (hp : P6 v) (ha : p2 = -1 ∨ ∃ k : Nat, k ≤ 2000 ∧ p2 = nI k) {S : Nat × NL × NA} (hS : S = lotS 0 n sL sA (up2 (newlot sA n p0 v p2) 0 3 (sA 0 3 + 1)))
    (hM : ∀ (s1 : NL) (s2 : NA), s2 5 0 = nI n → fM_lot s1 s2 p0 p1 p2 = fM_lot_k (fM_clearBids s1 (up2 (up2 (up2 (up2 (up2 (up2 s2 5 23 0) 6 ((s2 5 0).toNatClampNeg) p0) 7 ((s2 5 0).toNatClampNeg) v) 8 ((s2 5 0).toNatClampNeg) p2) 9 ((s2 5 0).toNatClampNeg) 0) 15 ((s2 5 0).toNatClampNeg) (-1)) (s2 5 0)) p0 p1 p2) :
    (n ≤ 30 ∧ S.2.2 5 0 = nI n) ∧ fM_thrown (fM_lot S.2.1 S.2.2 p0 p1 p2).2.1 (fM_lot S.2.1 S.2.2 p0 p1 p2).2.2 = nI 0 ∧ (0 = 0 → (fM_lot S.2.1 S.2.2 p0 p1 p2).2.1 4 0 = (fM_lot S.2.1 S.2.2 p0 p1 p2).1.toInt64) ∧ INV S.1 (K + 1) (fM_lot S.2.1 S.2.2 p0 p1 p2).2.1 (fM_lot S.2.1 S.2.2 p0 p1 p2).2.2 := by
  have e : S = (n + 1, up2L sL 4 0 (nI n).toInt64, up2 (newlot sA n p0 v p2) 0 3 (sA 0 3 + 1)) := by rw [hS, lotS, if_pos rfl]
  subst e
  dsimp only
  obtain ⟨⟨a1, a2, a3⟩, ⟨a4, a5⟩, ⟨a61, a62, a63⟩, a7, a8, lm, a9, a10, a11, a12⟩ := h
  have w : ∀ x, 0 < x → x < 22 → up2 (newlot sA n p0 v p2) 0 3 (sA 0 3 + 1) x = sA x := fun x h1 h2 => by rw [up2_rmiss (by omega), nl_miss (by omega)]
  have e50 : up2 (newlot sA n p0 v p2) 0 3 (sA 0 3 + 1) 5 0 = nI n := by rw [w 5 (by omega) (by omega)]; exact a3
  have e1 : nI n + 1 = nI (n + 1) := nI_add n 1
  have e2 : nI (n + 1) - 1 = nI n := by rw [show (1 : Int32) = nI 1 from rfl, pk_sub (by omega)]; rfl
  have eM : ∀ s1, fM_lot s1 (up2 (newlot sA n p0 v p2) 0 3 (sA 0 3 + 1)) p0 p1 p2 = (nI n, s1, up2 (clr (up2 (up2 (up2 (up2 (up2 (up2 (up2 (newlot sA n p0 v p2) 0 3 (sA 0 3 + 1)) 5 23 0) 6 n p0) 7 n v) 8 n p2) 9 n 0) 15 n (-1)) n) 5 0 (nI (n + 1))) := fun s1 => by
    have e3 : clr (up2 (up2 (up2 (up2 (up2 (up2 (up2 (newlot sA n p0 v p2) 0 3 (sA 0 3 + 1)) 5 23 0) 6 n p0) 7 n v) 8 n p2) 9 n 0) 15 n (-1)) n 5 0 = nI n := by
      rw [clr_rmiss (by omega), up2_miss (by omega), up2_miss (by omega), up2_miss (by omega), up2_miss (by omega), up2_miss (by omega), up2_miss (by omega)]
      exact e50
    rw [hM s1 _ e50, e50, nI_clamp (by omega), clear_eq hn, fM_lot_k]
    dsimp only
    rw [e3, e1, e2]
  rw [eM]
  refine ⟨⟨a1, e50⟩, ?_, fun _ => ?_, ?_⟩
  · show up2 _ 5 0 (nI (n + 1)) 5 23 = 0
    simp (disch := omega) only [up2_hit, up2_miss, clr_miss]
  · show up2L sL 4 0 (nI n).toInt64 4 0 = (nI n).toInt64
    exact up2L_hit
  · dsimp only
    have r0 : newlot sA n p0 v p2 (4 * n + 22) 0 = p0 := by rw [nl_new]; rfl
    have r1 : newlot sA n p0 v p2 (4 * n + 22) 1 = p2 := by rw [nl_new]; rfl
    have r3 : newlot sA n p0 v p2 (4 * n + 22) 3 = v := by rw [nl_new]; rfl
    have r4 : newlot sA n p0 v p2 (4 * n + 22) 4 = 0 := by rw [nl_new]; rfl
    have r5 : newlot sA n p0 v p2 (4 * n + 22) 5 = -1 := by rw [nl_new]; rfl
    have r6 : newlot sA n p0 v p2 (4 * n + 22) 6 = -1 := by rw [nl_new]; rfl
    have r8 : newlot sA n p0 v p2 (4 * n + 22) 8 = -1 := by rw [nl_new]; rfl
    have r9 : newlot sA n p0 v p2 (4 * n + 22) 9 = 0 := by rw [nl_new]; rfl
    have r10 : newlot sA n p0 v p2 (4 * n + 22) 10 = 0 := by rw [nl_new]; rfl
    have r11 : newlot sA n p0 v p2 (4 * n + 22) 11 = 0 := by rw [nl_new]; rfl
    have r12 : newlot sA n p0 v p2 (4 * n + 22) 12 = 0 := by rw [nl_new]; rfl
    have z : ∀ x, 16 ≤ x → x < 20 → newlot sA n p0 v p2 x n = 0 := fun x h1 h2 => by rw [nl_miss (by omega)]; exact a12 n (Nat.le_refl _) x h1 h2
    have z16 := z 16 (by omega) (by omega)
    have z17 := z 17 (by omega) (by omega)
    have z18 := z 18 (by omega) (by omega)
    have z19 := z 19 (by omega) (by omega)
    have z23 : newlot sA n p0 v p2 (4 * n + 23) 2 = 0 := by rw [nl_hi (by omega)]
    have p60 := P6_0
    have fr : ∀ k, k < n → FR sA (up2 (clr (up2 (up2 (up2 (up2 (up2 (up2 (up2 (newlot sA n p0 v p2) 0 3 (sA 0 3 + 1)) 5 23 0) 6 n p0) 7 n v) 8 n p2) 9 n 0) 15 n (-1)) n) 5 0 (nI (n + 1))) k := fun k hk => (((((((((FR.nl hk).up (by omega)).up (by omega)).up (by omega)).up (by omega)).up (by omega)).up (by omega)).up (by omega)).clr (by omega)).up (by omega)
    refine ⟨⟨by omega, ?_, ?_⟩, ⟨?_, ?_⟩, ⟨?_, ?_, ?_⟩, fun k hk => ?_, fun k hk => ?_, lm, by omega, ?_, fun k hk => ?_, fun k hk x h3 h4 => ?_⟩
    · simp (disch := omega) only [up2_hit, up2_miss, clr_miss]; rw [a2, e1]
    · exact up2_hit
    · simp (disch := omega) only [up2_hit, up2_miss, clr_miss, nl_miss]; exact a4
    · simp (disch := omega) only [up2_hit, up2_miss, clr_miss, nl_miss]; exact a5
    · simp (disch := omega) only [up2L_miss]; exact a61
    · simp (disch := omega) only [up2L_miss]; exact a62
    · simp (disch := omega) only [up2L_miss]; exact a63
    · simp (disch := omega) only [up2_hit, up2_miss, clr_miss, nl_miss]; exact a7 k hk
    · simp (disch := omega) only [up2_hit, up2_miss, clr_miss, nl_miss]; exact a8 k hk
    · simp (disch := omega) only [up2_hit, up2_miss, clr_miss, nl_miss]; exact a10
    · by_cases g : k = n
      · subst g
        refine ⟨?_, BI.none ?_ (fun b hb => ?_)⟩
        · refine ⟨⟨?_, ?_⟩, ⟨?_, ?_⟩, ⟨?_, ?_⟩, ⟨?_, ?_⟩, Or.inr ⟨?_, ?_, ?_⟩, ⟨?_, ?_⟩, ⟨?_, ?_⟩, ⟨?_, ?_⟩, ?_, ?_⟩ <;> (try simp (disch := omega) only [up2_hit, up2_miss, clr_miss, r0, r1, r3, r4, r5, r6, r8, r9, r10, r11, r12, z16, z17, z18, z19]) <;> first | assumption | decide | exact Or.inl trivial
        · simp (disch := omega) only [up2_hit, up2_miss, clr_miss, z23]
        · simp (disch := omega) only [up2_hit, up2_miss, clr_hit]
      · exact ⟨(a11 k (by omega)).1.fr (fr k (by omega)), (a11 k (by omega)).2.fr (Nat.le_refl _) (fr k (by omega))⟩
    · simp (disch := omega) only [up2_hit, up2_miss, clr_miss, nl_miss]; exact a12 k (by omega) x h3 h4
theorem E_lot {n K : Nat} {sL : NL} {sA : NA} (h : INV n K sL sA) (hK : K ≤ 600) (p0 p1 p2 : Int32) (c : Nat) (hc : c = fX_lot sL sA p0 p1 p2) (S : Nat × NL × NA) (hS : S = lotS c n sL sA (up2 (newlot sA n p0 (fX_calledAmount p1) p2) 0 3 (sA 0 3 + 1))) :
    (n ≤ 30 ∧ S.2.2 5 0 = nI n) ∧ fM_thrown (fM_lot S.2.1 S.2.2 p0 p1 p2).2.1 (fM_lot S.2.1 S.2.2 p0 p1 p2).2.2 = nI c ∧ (c = 0 → (fM_lot S.2.1 S.2.2 p0 p1 p2).2.1 4 0 = (fM_lot S.2.1 S.2.2 p0 p1 p2).1.toInt64) ∧ INV S.1 (K + 1) (fM_lot S.2.1 S.2.2 p0 p1 p2).2.1 (fM_lot S.2.1 S.2.2 p0 p1 p2).2.2 := by
  have hn := h.1.1
  rcases sel_chk p0 with ⟨s1, s2, s3⟩ | ⟨s1, s2⟩
  · rcases rng_chk p1 0 1000000 with ⟨r1, r2, r3, r4⟩ | ⟨r1, r2⟩
    · rcases art_chk p2 with ⟨b1, b2, b3⟩ | ⟨b1, b2, b3⟩
      · have c30 : nI n < 30 ↔ n < 30 := nI_ltI (b := 30) (by omega) (by omega)
        have c0 : ¬ nI n < 0 := by rw [show (0 : Int32) = nI 0 from rfl, nI_ltI (by omega) (by omega)]; omega
        by_cases g : n < 30
        · have ec : c = 0 := by rw [hc, fX_lot, bnd4_0 s1, bnd4_0 r1, bnd4_0 b1, h.1.2.1, if_neg c0, if_pos (c30.2 g)]
          subst ec
          refine lot_ok h g s3 (P6_call (P6_of r3 r4)) b3 hS (fun t1 t2 e50 => ?_)
          have hne : ¬ t2 5 0 = 30 := by rw [e50]; exact fun q => by have := (nI_eq (b := 30) (by omega) (by omega)).1 q; omega
          rw [call_eq, fM_lot, if_neg (by rw [r2]; exact n10)]
          rcases b2 with b2 | ⟨b2, b4⟩
          · rw [if_neg b2, if_neg (by rw [s2]; exact n10), if_neg hne]
          · rw [if_pos b2, if_neg b4, if_neg (by rw [s2]; exact n10), if_neg hne]
        · have ec : c = 3 := by rw [hc, fX_lot, bnd4_0 s1, bnd4_0 r1, bnd4_0 b1, h.1.2.1, if_neg c0, if_neg (fun q => g (c30.1 q))]
          subst ec
          refine lot_err h hS (by omega) ?_
          have he : sA 5 0 = 30 := by rw [h.1.2.2, show n = 30 by omega]; rfl
          rw [fM_lot, if_neg (by rw [r2]; exact n10)]
          rcases b2 with b2 | ⟨b2, b4⟩
          · rw [if_neg b2, if_neg (by rw [s2]; exact n10), if_pos he]; rfl
          · rw [if_pos b2, if_neg b4, if_neg (by rw [s2]; exact n10), if_pos he]; rfl
      · have ec : c = 2 := by rw [hc, fX_lot, bnd4_0 s1, bnd4_0 r1, bnd4_n (by rw [b1]; decide), b1]
        subst ec
        refine lot_err h hS (by omega) ?_
        rw [fM_lot, if_neg (by rw [r2]; exact n10), if_pos b2, if_pos b3, if_neg (by rw [s2]; exact n10)]; rfl
    · have ec : c = 2 := by rw [hc, fX_lot, bnd4_0 s1, bnd4_n (by rw [r1]; decide), r1]
      subst ec
      refine lot_err h hS (by omega) ?_
      rw [fM_lot, if_pos r2, if_neg (by rw [s2]; exact n10)]; rfl
  · have ec : c = 1 := by rw [hc, fX_lot, bnd4_n (by rw [s1]; decide), s1]
    subst ec
    refine lot_err h hS (by omega) ?_
    rw [fM_lot]
    by_cases r2 : fM_isWithin p1 0 1000000 = 0
    · rw [if_pos r2, if_pos s2]; rfl
    · rw [if_neg r2]
      by_cases b2 : fM_isWithin p2 (-1) 0 = 0
      · rw [if_pos b2]
        by_cases b3 : fM_isWithin p2 1800 2000 = 0
        · rw [if_pos b3, if_pos s2]; rfl
        · rw [if_neg b3, if_pos s2]; rfl
      · rw [if_neg b2, if_pos s2]; rfl
