theorem nl_miss {sA : NA} {n x : Nat} {p0 p1 p2 : Int32} (h : x < 4 * n + 11) : newlot sA n p0 p1 p2 x = sA x := by
  unfold newlot
  rw [if_neg (by omega), if_neg (by omega)]
theorem nl_new {sA : NA} {n : Nat} {p0 p1 p2 : Int32} : newlot sA n p0 p1 p2 (4 * n + 11) = newrow p0 p1 p2 := by
  unfold newlot
  rw [if_pos rfl]
theorem nl_hi {sA : NA} {n x : Nat} {p0 p1 p2 : Int32} (h : 4 * n + 11 < x) : newlot sA n p0 p1 p2 x = fun _ => 0 := by
  unfold newlot
  rw [if_neg (by omega), if_pos h]
theorem FR.nl {sA : NA} {n k : Nat} {p0 p1 p2 : Int32} (h : k < n) : FR sA (newlot sA n p0 p1 p2) k := ⟨fun r hr => nl_miss (by omega), fun j hj => ⟨by rw [nl_miss (by omega)], by rw [nl_miss (by omega)], by rw [nl_miss (by omega)]⟩, fun j hj => by rw [nl_miss (by omega)]⟩
theorem art_ok {a : Int32} (ha : a = -1 ∨ a = 0 ∨ ∃ y : Nat, 1800 ≤ y ∧ y ≤ 2000 ∧ a = nI y) : fX_checkArtist a = 0 ∧ (a = -1 ∨ ∃ k : Nat, k ≤ 2000 ∧ a = nI k) := by
  unfold fX_checkArtist
  rcases ha with ha | ha | ⟨y, y1, y2, ha⟩
  · exact ⟨if_pos ha, Or.inl ha⟩
  · refine ⟨?_, Or.inr ⟨0, by omega, ha⟩⟩
    rw [if_neg (by rw [ha]; decide), if_pos ha]
  · refine ⟨?_, Or.inr ⟨y, y2, ha⟩⟩
    have e : fX_checkRange (nI y) 1800 2000 = 0 := range_n (lo := 1800) (hi := 2000) y1 y2 (by omega)
    rw [if_neg (show ¬ a = -1 by rw [ha]; exact nI_m1 (by omega)), if_neg (show ¬ a = 0 by rw [ha]; exact nI_ne0 (by omega) (by omega)), ha, e]
    rfl
theorem E_lot {n K : Nat} {sL : NL} {sA : NA} (h : INV n K sL sA) (hn : n < 6) {k r : Nat} (hk : k < 6) (hr : r ≤ 1000000) {a : Int32} (ha : a = -1 ∨ a = 0 ∨ ∃ y : Nat, 1800 ≤ y ∧ y ≤ 2000 ∧ a = nI y) :
    fX_lot sL sA (nI k) (nI r) a = 0 ∧ ∀ S, S = up2 (newlot sA n (nI k) (fX_calledAmount (nI r)) a) 0 3 (sA 0 3 + 1) → S 4 0 = nI n ∧ INV (n + 1) (K + 1) sL (up2 (up2 (up2 (up2 S 5 (10 * n) (nI k)) 5 (10 * n + 1) (fW_call (nI r))) 5 (10 * n + 2) a) 4 0 (nI n + 1)) := by
  have e : fX_checkRange (nI r) 0 1000000 = 0 := range_n (lo := 0) (hi := 1000000) (by omega) hr (by omega)
  have vk : vp_in (nI k) 6 := vp_in_nI hk (by omega)
  obtain ⟨a1, a2⟩ := art_ok ha
  obtain ⟨⟨b1, b2, b3⟩, ⟨td, t1, t2, t3⟩, rt, r1, r2, r3⟩ := h.1
  obtain ⟨c1, c2⟩ := callP ⟨r, hr, rfl⟩
  have hp6 := c2.p6
  constructor
  · rw [fX_lot, seller_ok vk, e, a1, b2]
    rw [if_neg (nI_pos (by omega)), if_pos (show nI n < (30 : Int32) from nI_lt (b := 30) (by omega) (by omega))]
    rfl
  · intro S eS
    rw [c1] at eS
    obtain ⟨v, ev⟩ : ∃ v, v = fW_call (nI r) := ⟨_, rfl⟩
    rw [← ev] at eS hp6 ⊢
    obtain ⟨-, hcm, hdb, ⟨lm, l1, l2, l3⟩, hz, w1, w2, w3⟩ := h
    obtain ⟨z1, z2⟩ := hz n (Nat.le_refl _) hn
    have lo : ∀ x y, x < 11 → (x = 0 → y ≠ 3) → S x y = sA x y := fun x y hx hy => by rw [eS, up2_miss (by omega), nl_miss (by omega)]
    have h40 : S 4 0 = nI n := by rw [lo 4 0 (by omega) (by omega), b3]
    refine ⟨h40, ?_⟩
    obtain ⟨T, eT⟩ : ∃ T, T = up2 (up2 (up2 (up2 S 5 (10 * n) (nI k)) 5 (10 * n + 1) v) 5 (10 * n + 2) a) 4 0 (nI n + 1) := ⟨_, rfl⟩
    rw [← eT]
    have lt : ∀ x y, x < 11 → (x = 0 → y ≠ 3) → (x = 4 → y ≠ 0) → (x = 5 → y ≠ 10 * n ∧ y ≠ 10 * n + 1 ∧ y ≠ 10 * n + 2) → T x y = sA x y := fun x y hx h1 h2 h3 => by
      rw [eT, up2_miss (by omega), up2_miss (by omega), up2_miss (by omega), up2_miss (by omega), lo x y hx h1]
    have row : ∀ y, T (4 * n + 11) y = newrow (nI k) v a y := fun y => by
      rw [eT, up2_miss (by omega), up2_miss (by omega), up2_miss (by omega), up2_miss (by omega), eS, up2_miss (by omega), nl_new]
    have hfr : ∀ q, q < n → FR sA T q := fun q hq => by
      rw [eT, eS]
      refine FR.up ?_ (by omega)
      refine FR.up ?_ (by omega)
      refine FR.up ?_ (by omega)
      refine FR.up ?_ (by omega)
      refine FR.up ?_ (by omega)
      exact FR.nl hq
    have y0 : T 5 (10 * n) = nI k := by rw [eT]; simp (disch := omega) only [up2_hit, up2_miss]
    have y1 : T 5 (10 * n + 1) = v := by rw [eT]; simp (disch := omega) only [up2_hit, up2_miss]
    have y2 : T 5 (10 * n + 2) = a := by rw [eT]; simp (disch := omega) only [up2_hit, up2_miss]
    have yz : ∀ j, 3 ≤ j → j < 10 → T 5 (10 * n + j) = 0 := fun j h1 h2 => by rw [lt 5 _ (by omega) (by omega) (by omega) (by omega)]; exact (z1 j h2).1
    have y6 : ∀ j, j < 3 → T 6 (3 * n + j) = 0 := fun j hj => by rw [lt 6 _ (by omega) (by omega) (by omega) (by omega)]; exact z2 j hj
    have y60 : T 6 (3 * n) = 0 := y6 0 (by omega)
    have e1n : nI n + 1 = nI (n + 1) := nI_1 n
    have P0 : P6 (0 : Int32) := ⟨0, by omega, rfl⟩
    have D0 : ∃ k : Nat, k ≤ 7300 ∧ (0 : Int32) = nI k := ⟨0, by omega, rfl⟩
    refine ⟨⟨⟨by omega, ?_, ?_⟩, ⟨td, t1, ?_, ?_⟩, rt, r1, ?_, ?_⟩, hcm.cg (fun q hq => ?_) (fun q hq => ?_), hdb.cg (by omega) (fun q hq => ?_) (fun q hq => ?_) ?_, ⟨lm, by omega, ?_, fun q hq => ?_⟩, fun q h1 h2 => ⟨fun j hj => ⟨?_, ?_⟩, fun j hj => ?_⟩, ?_, ?_, ?_⟩
    · rw [eT, up2_miss (by omega), up2_miss (by omega), up2_miss (by omega), up2_miss (by omega), eS, up2_hit, b2, e1n]
    · rw [eT, up2_hit, e1n]
    · rw [lt 0 4 (by omega) (by omega) (by omega) (by omega), t2]
    · rw [lt 4 2 (by omega) (by omega) (by omega) (by omega), t3]
    · rw [lt 0 5 (by omega) (by omega) (by omega) (by omega), r2]
    · rw [lt 4 3 (by omega) (by omega) (by omega) (by omega), r3]
    · exact lt 2 q (by omega) (by omega) (by omega) (by omega)
    · exact lt 9 q (by omega) (by omega) (by omega) (by omega)
    · exact lt 3 q (by omega) (by omega) (by omega) (by omega)
    · exact lt 10 q (by omega) (by omega) (by omega) (by omega)
    · exact lt 4 4 (by omega) (by omega) (by omega) (by omega)
    · rw [lt 4 1 (by omega) (by omega) (by omega) (by omega), l2]
    · by_cases z : q = n
      · subst z
        refine ⟨?_, BI.none ?_ (fun b hb => ?_)⟩
        · unfold SI
          rw [row, row, row, row, row, row, row, row, row, row, row, row, y0, y1, y2, yz 3 (by omega) (by omega), yz 4 (by omega) (by omega), yz 5 (by omega) (by omega), yz 6 (by omega) (by omega), yz 7 (by omega) (by omega), yz 8 (by omega) (by omega), yz 9 (by omega) (by omega), y60, y6 1 (by omega), y6 2 (by omega)]
          exact ⟨⟨rfl, vk⟩, ⟨rfl, a2⟩, ⟨rfl, hp6⟩, ⟨rfl, Or.inl rfl⟩, Or.inr ⟨by decide, rfl, rfl⟩, ⟨by rw [vp_in_iff]; decide, P0, D0⟩, Or.inl ⟨rfl, rfl⟩, ⟨rfl, P0⟩, ⟨rfl, P0⟩, ⟨rfl, D0⟩, rfl, by decide, by decide⟩
        · rw [eT, up2_miss (by omega), up2_miss (by omega), up2_miss (by omega), up2_miss (by omega), eS, up2_miss (by omega), nl_hi (by omega)]
        · rw [lt 7 _ (by omega) (by omega) (by omega) (by omega)]; exact (z1 b hb).2
      · exact ⟨(l3 q (by omega)).1.fr (hfr q (by omega)), (l3 q (by omega)).2.fb (Nat.le_refl _) (hfr q (by omega)).fb⟩
    · rw [lt 5 _ (by omega) (by omega) (by omega) (by omega)]; exact ((hz q (by omega) h2).1 j hj).1
    · rw [lt 7 _ (by omega) (by omega) (by omega) (by omega)]; exact ((hz q (by omega) h2).1 j hj).2
    · rw [lt 6 _ (by omega) (by omega) (by omega) (by omega)]; exact (hz q (by omega) h2).2 j hj
    · have f : mI T n = 0 := by unfold mI; rw [yz 3 (by omega) (by omega), if_pos (by decide)]
      rw [w1, lt 4 4 (by omega) (by omega) (by omega) (by omega), sm, f, Int64.add_zero, sm_cg n (fun q hq => (hfr q hq).cI)]
    · have f : mO T n = 0 := by unfold mO; rw [yz 3 (by omega) (by omega), if_neg (by decide), y60]; rfl
      rw [w2, sm, f, Int64.add_zero, sm_cg n (fun q hq => (hfr q hq).cO)]
    · have f : mK T n = 0 := by unfold mK; rw [yz 3 (by omega) (by omega), if_pos (by decide), if_neg (by decide)]; rfl
      rw [w3, lt 4 4 (by omega) (by omega) (by omega) (by omega), sm, f, Int64.add_zero, sm_cg n (fun q hq => (hfr q hq).cK)]
