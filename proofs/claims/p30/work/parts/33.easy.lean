theorem n100 : ¬ (1 : Int32) = 0 := by decide
theorem chk_y {sL : NL} {sA : NA} {i : Nat} {q : Int32} (h : sA (4 * i + 11) 4 = q) : fX_checkState sL sA i q = 0 := if_pos h
theorem chk_n {sL : NL} {sA : NA} {i : Nat} {q : Int32} (h : sA (4 * i + 11) 4 ≠ q) : fX_checkState sL sA i q = 3 := if_neg h
theorem INV.st {n K : Nat} {sL : NL} {sA : NA} (h : INV n K sL sA) {i : Nat} (hi : i < n) {v : Int32} (hv : sA 5 (10 * i + 3) = v) : sA (4 * i + 11) 4 = v := by rw [(h.si hi).2.2.2.1.1, hv]
/-- nothing changed -/
theorem INV.mono {n K K2 : Nat} {sL : NL} {sA : NA} (h : INV n K sL sA) (hK : K ≤ K2) : INV n K2 sL sA := by
  obtain ⟨h1, h2, h3, ⟨lm, l1, l2⟩, h5, h6⟩ := h
  exact ⟨h1, h2, h3.cg hK (fun _ _ => rfl) (fun _ _ => rfl) rfl, ⟨lm, by omega, l2⟩, h5, h6⟩
/-! wrong states -/
theorem X_bid {n K : Nat} {sL : NL} {sA : NA} (h : INV n K sL sA) {i q a : Nat} (hi : i < n) (hq : q < 10) (h1 : 1 ≤ a) (h2 : a ≤ 1000000) {v : Int32} (hv : sA 5 (10 * i + 3) = v) (hn : v ≠ 0) : fD_bid n sL sA (nI i) (nI q) (nI a) = (-2000000013, sL, sA) := by
  have e : fX_checkRange (nI a) 1 1000000 = 0 := range_n (lo := 1) (hi := 1000000) h1 h2 (by omega)
  have e3 : fX_checkState sL sA i 0 = 3 := chk_n (by rw [h.st hi hv]; exact hn)
  rw [fD_bid, fX_bid, bndq_s (h.find hi), bnd_0 (buyer_n hq), bnd_0 e, bnd_n (by rw [e3]; decide), e3]
  exact wrapD_3 rfl
theorem X_hammer {n K : Nat} {sL : NL} {sA : NA} (h : INV n K sL sA) {i : Nat} (hi : i < n) {v : Int32} (hv : sA 5 (10 * i + 3) = v) (hn : v ≠ 0) : fD_hammer n sL sA (nI i) = (-2000000013, sL, sA) := by
  have e3 : fX_checkState sL sA i 0 = 3 := chk_n (by rw [h.st hi hv]; exact hn)
  rw [fD_hammer, fX_hammer, bndq_s (h.find hi), bnd_n (by rw [e3]; decide), e3]
  exact wrapD_3 rfl
theorem X_again {n K : Nat} {sL : NL} {sA : NA} (h : INV n K sL sA) {i a : Nat} (hi : i < n) (h2 : a ≤ 1000000) {v : Int32} (hv : sA 5 (10 * i + 3) = v) (hn : v ≠ 1) : fD_again n sL sA (nI i) (nI a) = (-2000000013, sL, sA) := by
  have e : fX_checkRange (nI a) 0 1000000 = 0 := range_n (lo := 0) (hi := 1000000) (by omega) h2 (by omega)
  have e3 : fX_checkState sL sA i 1 = 3 := chk_n (by rw [h.st hi hv]; exact hn)
  rw [fD_again, fX_again, bndq_s (h.find hi), bnd_0 e, bnd_n (by rw [e3]; decide), e3]
  exact wrapD_3 rfl
theorem X_pay {n K : Nat} {sL : NL} {sA : NA} (h : INV n K sL sA) {i : Nat} (hi : i < n) {v : Int32} (hv : sA 5 (10 * i + 3) = v) (hn : v ≠ 2) : fD_pay n sL sA (nI i) = (-2000000013, sL, sA) := by
  have e3 : fX_checkState sL sA i 2 = 3 := chk_n (by rw [h.st hi hv]; exact hn)
  rw [fD_pay, fX_pay, bndq_s (h.find hi), bnd_n (by rw [e3]; decide), e3]
  exact wrapD_3 rfl
theorem X_defaults {n K : Nat} {sL : NL} {sA : NA} (h : INV n K sL sA) {i : Nat} (hi : i < n) {v : Int32} (hv : sA 5 (10 * i + 3) = v) (hn : v ≠ 2) : fD_defaults n sL sA (nI i) = (-2000000013, sL, sA) := by
  have e3 : fX_checkState sL sA i 2 = 3 := chk_n (by rw [h.st hi hv]; exact hn)
  rw [fD_defaults, fX_defaults, bndq_s (h.find hi), bnd_n (by rw [e3]; decide), e3]
  exact wrapD_3 rfl
theorem X_settle {n K : Nat} {sL : NL} {sA : NA} (h : INV n K sL sA) {i : Nat} (hi : i < n) {v : Int32} (hv : sA 5 (10 * i + 3) = v) (hn : v ≠ 3) : fD_settle n sL sA (nI i) = (-2000000013, sL, sA) := by
  have e3 : fX_checkState sL sA i 3 = 3 := chk_n (by rw [h.st hi hv]; exact hn)
  rw [fD_settle, fX_settle, bndq_s (h.find hi), bnd_n (by rw [e3]; decide), e3]
  exact wrapD_3 rfl
/-! numbers of the house -/
theorem E_rate {n K : Nat} {sL : NL} {sA : NA} (h : INV n K sL sA) {r : Nat} (hr : r ≤ 100) : fX_rate sL sA (nI r) = (0, sA 4 3, sL, up2 sA 0 5 (nI r)) ∧ INV n (K + 1) sL (up2 (up2 sA 0 5 (nI r)) 4 3 (nI r)) := by
  have e : fX_checkRange (nI r) 0 100 = 0 := range_n (lo := 0) (hi := 100) (by omega) hr (by omega)
  obtain ⟨⟨a1, a2, a3⟩, ⟨td, b1, b2, b3⟩, rt, r1, r2, r3⟩ := h.1
  refine ⟨by rw [fX_rate, bnd_0 e, r2, r3], h.all ⟨⟨a1, ?_, ?_⟩, ⟨td, b1, ?_, ?_⟩, r, hr, ?_, ?_⟩ (h.2.1.cg (fun k hk => ?_) (fun k hk => ?_)) (h.2.2.1.cg (by omega) (fun k hk => ?_) (fun k hk => ?_) ?_) ?_ (fun k => ?_) 0 ?_ ?_ rfl ?_⟩ <;> (try simp (disch := omega) only [up2_hit, up2_miss]) <;> first | assumption | exact (Int64.add_zero _).symm | (refine FR.up ?_ (by omega); repeat (first | exact FR.refl | refine FR.up ?_ (by omega)))
theorem E_commission {n K : Nat} {sL : NL} {sA : NA} (h : INV n K sL sA) {k c : Nat} (hk : k < 6) (hc : c ≤ 50) : fX_commission sL sA (nI k) (nI c) = (0, sA 9 k, sL, up2 sA 2 k (nI c)) ∧ INV n (K + 1) sL (up2 (up2 sA 2 k (nI c)) 9 k (nI c)) := by
  have e : fX_checkRange (nI c) 0 50 = 0 := range_n (lo := 0) (hi := 50) (by omega) hc (by omega)
  have e2 : fX_checkSeller (nI k) = 0 := by
    unfold fX_checkSeller
    rw [if_neg (nI_pos (by omega)), if_pos (show nI k < (6 : Int32) from nI_lt (b := 6) hk (by omega))]
  obtain ⟨c0, -, q1, q2⟩ := h.2.1 k hk
  refine ⟨by rw [fX_commission, bnd_0 e2, bnd_0 e, nI_clamp (by omega), q1, q2], h.all (h.1.cg (fun y hy => ?_) (fun y hy => ?_)) (fun j hj => ?_) (h.2.2.1.cg (by omega) (fun k hk => ?_) (fun k hk => ?_) ?_) ?_ (fun k => ?_) 0 ?_ ?_ rfl ?_⟩ <;> (try simp (disch := omega) only [up2_hit, up2_miss]) <;> first | assumption | exact (Int64.add_zero _).symm | (refine FR.up ?_ (by omega); repeat (first | exact FR.refl | refine FR.up ?_ (by omega))) | skip
  by_cases z : j = k
  · rw [z]
    exact ⟨c, hc, by simp (disch := omega) only [up2_hit, up2_miss], by simp (disch := omega) only [up2_hit]⟩
  · simp (disch := omega) only [up2_miss]
    exact h.2.1 j hj
theorem E_days {n K : Nat} {sL : NL} {sA : NA} (h : INV n K sL sA) {td d : Nat} (htd : sA 4 2 = nI td) (h1 : 1 ≤ d) (h2 : d ≤ 200) (h3 : td + d ≤ 7300) : fD_days sL (up2 sA 4 2 (nI (td + d))) (nI d) = (nI (td + d), sL, up2 (up2 sA 4 2 (nI (td + d))) 0 4 (nI (td + d))) ∧ INV n (K + 1) sL (up2 (up2 (up2 sA 4 2 (nI (td + d))) 0 4 (nI (td + d))) 4 2 (nI (td + d) - 0)) := by
  have e : fX_checkRange (nI d) 1 200 = 0 := range_n (lo := 1) (hi := 200) h1 h2 (by omega)
  obtain ⟨⟨a1, a2, a3⟩, ⟨td2, b1, b2, b3⟩, rt, r1, r2, r3⟩ := h.1
  have eq : td2 = td := by rw [b3] at htd; exact (nI_eq (by omega) (by omega)).1 htd
  subst eq
  have e4 : up2 sA 4 2 (nI (td2 + d)) 0 4 + nI d = nI (td2 + d) := by rw [up2_miss (by omega), b2, nI_add]
  rw [Int32.sub_zero]
  refine ⟨?_, h.all ⟨⟨a1, ?_, ?_⟩, ⟨td2 + d, h3, ?_, ?_⟩, rt, r1, ?_, ?_⟩ (h.2.1.cg (fun k hk => ?_) (fun k hk => ?_)) (h.2.2.1.cg (by omega) (fun k hk => ?_) (fun k hk => ?_) ?_) ?_ (fun k => ?_) 0 ?_ ?_ rfl ?_⟩ <;> (try simp (disch := omega) only [up2_hit, up2_miss]) <;> first | assumption | exact (Int64.add_zero _).symm | (refine FR.up ?_ (by omega); repeat (first | exact FR.refl | refine FR.up ?_ (by omega))) | skip
  rw [fD_days, fX_days, bnd_0 e, e4, if_pos (show nI (td2 + d) ≤ (7300 : Int32) from nI_le (b := 7300) h3 (by omega))]
  exact wrapD_0 rfl
theorem E_daysN {n K : Nat} {sL : NL} {sA : NA} (h : INV n K sL sA) {td d : Nat} (htd : sA 4 2 = nI td) : INV n (K + 1) sL (up2 (up2 sA 4 2 (nI (td + d))) 4 2 (nI (td + d) - nI d)) := by
  have e : nI (td + d) - nI d = nI td := by rw [pk_sub (by omega), Nat.add_sub_cancel]
  rw [e, ← htd]
  have e2 : up2 (up2 sA 4 2 (nI (td + d))) 4 2 (sA 4 2) = sA := by
    funext x y
    by_cases z : x = 4 ∧ y = 2
    · rw [z.1, z.2, up2_hit]
    · rw [up2_miss (by omega), up2_miss (by omega)]
  rw [e2]
  exact h.mono (by omega)
