theorem s10_upd {d : Nat → Nat} {p v : Nat} (hp : p < 10) : s10 (fun k => if k = p then v else d k) + d p = s10 d + v := by
  have : p = 0 ∨ p = 1 ∨ p = 2 ∨ p = 3 ∨ p = 4 ∨ p = 5 ∨ p = 6 ∨ p = 7 ∨ p = 8 ∨ p = 9 := by omega
  rcases this with rfl | rfl | rfl | rfl | rfl | rfl | rfl | rfl | rfl | rfl <;> simp [s10] <;> omega
theorem s10_ge {d : Nat → Nat} {p : Nat} (hp : p < 10) : d p ≤ s10 d := by
  have : p = 0 ∨ p = 1 ∨ p = 2 ∨ p = 3 ∨ p = 4 ∨ p = 5 ∨ p = 6 ∨ p = 7 ∨ p = 8 ∨ p = 9 := by omega
  rcases this with rfl | rfl | rfl | rfl | rfl | rfl | rfl | rfl | rfl | rfl <;> unfold s10 <;> omega
theorem up2_id {sA : NA} {x y : Nat} {v : Int32} (h : v = sA x y) : up2 sA x y v = sA := by
  funext a b
  by_cases z : a = x ∧ b = y
  · rw [z.1, z.2, up2_hit, h]
  · rw [up2_miss (by omega)]
theorem owed_n {sL : NL} {sA : NA} {p : Nat} (hp : p < 10) : fX_owedBy sL sA (nI p) = (0, sA 3 p) := by rw [fX_owedBy, bnd_0 (buyer_n hp), nI_clamp (by omega)]
theorem E_payGaps0 {n K : Nat} {sL : NL} {sA : NA} (h : INV n K sL sA) {p : Nat} (hp : p < 10) (hz : sA 10 p = 0) : fD_payGaps sL sA (nI p) = (-2000000013, sL, sA) ∧ INV n (K + 1) sL (up2 (up2 sA 4 4 (sA 4 4 + sA 10 p)) 10 p 0) := by
  obtain ⟨dd, g, h1, -⟩ := h.2.2.1
  constructor
  · have e : sA 3 p = 0 := by rw [(h1 p hp).1, ← (h1 p hp).2, hz]
    rw [fD_payGaps, fX_payGaps, owed_n hp, bnd_0 rfl]
    dsimp only
    rw [if_pos e]
    exact wrapD_3 rfl
  · rw [up2_id (x := 4) (by rw [hz, Int32.add_zero]), up2_id hz.symm]
    exact h.mono (by omega)
theorem E_payGaps1 {n K : Nat} {sL : NL} {sA : NA} (h : INV n K sL sA) (hK : K ≤ 130) {p : Nat} (hp : p < 10) (hz : ¬ sA 10 p = 0) : fD_payGaps sL sA (nI p) = (sA 10 p, up2L (up2L sL 0 6 (sL 0 6 + (sA 10 p).toInt64)) 0 8 (sL 0 8 + (sA 10 p).toInt64), up2 sA 3 p 0) ∧
    INV n (K + 1) (up2L (up2L sL 0 6 (sL 0 6 + (sA 10 p).toInt64)) 0 8 (sL 0 8 + (sA 10 p).toInt64)) (up2 (up2 (up2 sA 3 p 0) 4 4 (sA 4 4 + sA 10 p)) 10 p 0) := by
  obtain ⟨dd, g, h1, h2, h3⟩ := h.2.2.1
  have hd := s10_ge (d := dd) hp
  have hu := s10_upd (d := dd) (v := 0) hp
  have e3 : sA 3 p = sA 10 p := by rw [(h1 p hp).1, (h1 p hp).2]
  constructor
  · rw [fD_payGaps, fX_payGaps, owed_n hp, bnd_0 rfl]
    dsimp only
    rw [if_neg (by rw [e3]; exact hz), fX_addToDebt, nI_clamp (by omega), Int32.add_right_neg, e3]
    refine (wrapD_0 rfl).trans ?_
    rfl
  · refine h.all (h.1.cg (fun y hy => ?_) (fun y hy => ?_)) (h.2.1.cg (fun k hk => ?_) (fun k hk => ?_)) ⟨fun k => if k = p then 0 else dd k, g + dd p, fun k hk => ?_, ?_, by omega⟩ ?_ (fun k => ?_) (sA 10 p).toInt64 ?_ ?_ ?_ ?_ <;> (try simp (disch := omega) only [up2_hit, up2_miss, up2L_hit, up2L_miss]) <;> first | (refine FR.up ?_ (by omega); repeat (first | exact FR.refl | refine FR.up ?_ (by omega))) | skip
    · by_cases z : k = p
      · rw [z, if_pos rfl]
        constructor <;> simp (disch := omega) only [up2_hit, up2_miss] <;> rfl
      · rw [if_neg z]
        simp (disch := omega) only [up2_miss]
        exact h1 k hk
    · rw [h2, (h1 p hp).2, nI_add]
    · rw [h2, (h1 p hp).2]
      exact add64 (by rw [nI_toInt (by omega), nI_toInt (by omega)]; omega) (by rw [nI_toInt (by omega), nI_toInt (by omega)]; omega)
theorem adv_rng {n K : Nat} {sL : NL} {sA : NA} (h : INV n K sL sA) {i : Nat} (hi : i < n) {R : Nat} (hR : R ≤ 1000000) (eR : sA 5 (10 * i + 1) = nI R) : sA (4 * i + 11) 3 / 2 = nI (R / 2) := by
  rw [(h.si hi).2.2.1.1, eR, half_n hR]
theorem X_advance2 {n K : Nat} {sL : NL} {sA : NA} (h : INV n K sL sA) {i w : Nat} (hi : i < n) {R : Nat} (hR : R ≤ 1000000) (eR : sA 5 (10 * i + 1) = nI R) (h1 : 1 ≤ w) (hw6 : w ≤ 1000000) (hw : R / 2 < w) : fD_advance n sL sA (nI i) (nI w) = (-2000000012, sL, sA) := by
  have e : fX_checkRange (nI w) 1 (nI (R / 2)) = 2 := by
    unfold fX_checkRange
    rw [if_neg (show ¬ nI w < (1 : Int32) from nI_nlt (b := w) (a := w) (Nat.le_refl _) (by omega) |> fun _ => nI_nlt (b := 1) h1 (by omega)), if_neg (nI_ge hw (by omega))]
  rw [fD_advance, fX_advance, bndq_s (h.find hi), adv_rng h hi hR eR, bnd_n (by rw [e]; decide), e]
  exact wrapD_2 rfl
theorem adv_ok {w R : Nat} (hR : R ≤ 1000000) (h1 : 1 ≤ w) (hw : w ≤ R / 2) : fX_checkRange (nI w) 1 (nI (R / 2)) = 0 := range_n (lo := 1) h1 hw (by omega)
theorem X_advance3 {n K : Nat} {sL : NL} {sA : NA} (h : INV n K sL sA) {i w : Nat} (hi : i < n) {R : Nat} (hR : R ≤ 1000000) (eR : sA 5 (10 * i + 1) = nI R) (h1 : 1 ≤ w) (hw : w ≤ R / 2) (hs : sA 5 (10 * i + 3) = 3 ∨ sA 5 (10 * i + 3) = 4 ∨ ¬ sA 6 (3 * i) ≤ 0) : fD_advance n sL sA (nI i) (nI w) = (-2000000013, sL, sA) := by
  obtain ⟨-, -, -, ⟨e4, -⟩, -, -, -, -, ⟨e10, -⟩, -⟩ := h.si hi
  rw [fD_advance, fX_advance, bndq_s (h.find hi), adv_rng h hi hR eR, bnd_0 (adv_ok hR h1 hw), e4, e10]
  by_cases q3 : sA 5 (10 * i + 3) = 3
  · rw [if_pos q3]; exact wrapD_3 rfl
  rw [if_neg q3]
  by_cases q4 : sA 5 (10 * i + 3) = 4
  · rw [if_pos q4]; exact wrapD_3 rfl
  rw [if_neg q4, if_neg ((hs.resolve_left q3).resolve_left q4)]; exact wrapD_3 rfl
theorem bi_same {n K : Nat} {sL : NL} {sA sA2 : NA} (h : INV n K sL sA) {i : Nat} (h41 : sA2 4 1 = sA 4 1) (f : FB sA sA2 i) : ∀ lm, lm ≤ K → sA 4 1 = nI lm → BI lm sA i → ∃ lm2, lm ≤ lm2 ∧ lm2 ≤ K + 1 ∧ sA2 4 1 = nI lm2 ∧ BI lm2 sA2 i := fun lm h1 h2 h3 => ⟨lm, Nat.le_refl _, by omega, by rw [h41]; exact h2, h3.fb (Nat.le_refl _) f⟩
theorem E_advance {n K : Nat} {sL : NL} {sA : NA} (h : INV n K sL sA) {i w : Nat} (hi : i < n) {R : Nat} (hR : R ≤ 1000000) (eR : sA 5 (10 * i + 1) = nI R) (h1 : 1 ≤ w) (hw : w ≤ R / 2) (hs : sA 5 (10 * i + 3) = 0 ∨ sA 5 (10 * i + 3) = 1 ∨ sA 5 (10 * i + 3) = 2) (hv : sA 6 (3 * i) ≤ 0) {sA1 : NA} (e1 : sA1 = up2 (up2 sA 6 (3 * i) (nI w)) 6 (3 * i + 1) (sA 4 2)) :
    fD_advance n sL sA1 (nI i) (nI w) = (nI (R / 2), up2L sL 0 7 (sL 0 7 + (nI w).toInt64), up2 (up2 sA1 (4 * i + 11) 10 (nI w)) (4 * i + 11) 11 (sA1 0 4)) ∧ INV n (K + 1) (up2L sL 0 7 (sL 0 7 + (nI w).toInt64)) (up2 (up2 sA1 (4 * i + 11) 10 (nI w)) (4 * i + 11) 11 (sA1 0 4)) := by
  have hn6 := h.n6
  obtain ⟨⟨v0, v0b⟩, ⟨v1, v1b⟩, ⟨v2, v2b⟩, ⟨e4, s4⟩, v5, v6, v7, v8, ⟨e10, eP⟩, v11, v12, v13⟩ := h.si hi
  obtain ⟨-, ⟨td, t1, t2, t3⟩, -⟩ := h.1
  have z6 : sA 6 (3 * i) = 0 := by
    obtain ⟨k, hk, e⟩ := eP
    rw [e] at hv ⊢
    have := (le_n (b := 0) hk (by omega)).1 hv
    rw [show k = 0 by omega]; rfl
  have q3 : ¬ sA 5 (10 * i + 3) = 3 := by rcases hs with q | q | q <;> rw [q] <;> decide
  have q4 : ¬ sA 5 (10 * i + 3) = 4 := by rcases hs with q | q | q <;> rw [q] <;> decide
  have w11 : ∀ y, sA1 (4 * i + 11) y = sA (4 * i + 11) y := fun y => by rw [e1]; simp (disch := omega) only [up2_miss]
  constructor
  · rw [fD_advance, fX_advance, bndq_s (h.find hi), w11 3, adv_rng h hi hR eR, bnd_0 (adv_ok hR h1 hw), w11 4, w11 10, e4, e10, if_neg q3, if_neg q4, if_pos hv]
    exact wrapD_0 rfl
  · subst e1
    have hwP : P6 (nI w) := ⟨w, by omega, rfl⟩
    refine h.at hi 0 (nI w).toInt64 0 (h.1.cg (fun y hy => ?_) (fun y hy => ?_)) (h.2.1.cg (fun k hk => ?_) (fun k hk => ?_)) (h.2.2.1.cg (by omega) (fun k hk => ?_) (fun k hk => ?_) ?_) ⟨⟨?_, ?_⟩, ⟨?_, ?_⟩, ⟨?_, ?_⟩, ⟨?_, ?_⟩, ?_, ?_, ?_, ?_, ⟨?_, ?_⟩, ⟨?_, ?_⟩, ?_, ?_⟩ (bi_same h ?_ ?_) (fun k hk => ?_) ?_ ⟨?_, ?_⟩ ⟨?_, ?_⟩ ⟨?_, ?_⟩ <;> (try simp (disch := omega) only [up2_hit, up2_miss, up2L_hit, up2L_miss]) <;> first | assumption | exact (Int64.add_zero _).symm | (refine FR.up ?_ (by omega); repeat (first | exact FR.refl | refine FR.up ?_ (by omega))) | (refine FB.up ?_ (by omega); repeat (first | exact FB.refl | refine FB.up ?_ (by omega))) | skip
    · rw [t2, t3]
    · exact ⟨td, t1, t3⟩
    · unfold mO
      simp (disch := omega) only [up2_hit, up2_miss]
      rw [if_neg q4, if_neg q4, z6]
      exact (Int64.add_comm _ _).trans (by rw [show (0 : Int32).toInt64 = 0 from rfl, Int64.add_zero])
    · unfold mK
      simp (disch := omega) only [up2_hit, up2_miss]
      rw [if_neg q4, if_neg q4]
      exact (Int64.add_zero _).symm
