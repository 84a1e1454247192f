theorem w64 (x : Int32) : x.toInt64 = Int64.ofInt x.toInt := rfl
theorem i_add {a b : Int32} (h1 : -2147483648 ≤ a.toInt + b.toInt) (h2 : a.toInt + b.toInt < 2147483648) : (a + b).toInt = a.toInt + b.toInt := by
  rw [Int32.toInt_add, Int.bmod_def]; split <;> omega
theorem i_sub {a b : Int32} (h1 : -2147483648 ≤ a.toInt - b.toInt) (h2 : a.toInt - b.toInt < 2147483648) : (a - b).toInt = a.toInt - b.toInt := by
  rw [Int32.toInt_sub, Int.bmod_def]; split <;> omega
theorem ring1 (g a b c : Int64) : g + a - b - (g + c) = a - b - c := by grind
theorem ring2 (a b c x y z : Int64) : a + x - (b + y) - (c + z) = a - b - c + (x - y - z) := by grind
theorem add64 {a b : Int32} (h1 : -2147483648 ≤ a.toInt + b.toInt) (h2 : a.toInt + b.toInt < 2147483648) : (a + b).toInt64 = a.toInt64 + b.toInt64 := by
  rw [w64, w64, w64, i_add h1 h2, Int64.ofInt_add]
theorem INV.r_state {n K : Nat} {sL : NL} {sA : NA} (h : INV n K sL sA) {i : Nat} (hi : i < n) : fX_state n sL sA (nI i) = (0, sA 5 (10 * i + 3), sL, sA) := by
  rw [fX_state, bndq_s (h.find hi), (h.si hi).2.2.2.1.1]
theorem INV.r_buyerOf {n K : Nat} {sL : NL} {sA : NA} (h : INV n K sL sA) {i : Nat} (hi : i < n) : fX_buyerOf n sL sA (nI i) = (0, if 2 ≤ sA 5 (10 * i + 3) then sA 5 (10 * i + 4) else (-1), sL, sA) := by
  rw [fX_buyerOf, bndq_s (h.find hi)]
  rcases (h.si hi).2.2.2.2.1 with ⟨g, e, -⟩ | ⟨g, e, -⟩
  · rw [if_pos g, e]
  · rw [if_neg g, e]
theorem INV.r_price {n K : Nat} {sL : NL} {sA : NA} (h : INV n K sL sA) {i : Nat} (hi : i < n) : fX_price n sL sA (nI i) = (0, if 2 ≤ sA 5 (10 * i + 3) then sA 5 (10 * i + 5) else (-1), sL, sA) := by
  rw [fX_price, bndq_s (h.find hi)]
  rcases (h.si hi).2.2.2.2.1 with ⟨g, -, e, -⟩ | ⟨g, -, e⟩
  · rw [if_pos g, e]
  · rw [if_neg g, e]
def leftB (sA : NA) (i : Nat) : Nat → Bool := fun b => decide (0 < sA 7 (10 * i + b))
theorem BX.many {lm c : Nat} {cn : Int32} {rb ra left : Nat → Int32} {bs la : Nat → Nat} {sA : NA} {i : Nat} (h : BX lm cn rb ra (fun b => sA 7 (10 * i + b) - 1) left c bs la) : cn = nI (cnt (leftB sA i) 10) := by
  obtain ⟨h1, h2, h3, h4, h5⟩ := h
  rw [h2, ← cnt_hits c (fun j hj => (h3 j hj).1) (fun j k a b => (h4 j k a b).1)]
  refine congrArg nI (cnt_cg 10 (fun b hb => ?_))
  rcases place_ex (bs := bs) (b := b) c with ⟨j, j1, j2, -⟩ | q
  · rw [(hits_iff c).2 ⟨j, j1, j2⟩]
    obtain ⟨-, -, a3, a4, -⟩ := h3 j j1
    rw [j2] at a4
    have a5 : sA 7 (10 * i + b) = ra j + 1 := by rw [← a4, i_sub_add]
    exact (decide_eq_true (by rw [a5]; exact a3.pos)).symm
  · rw [hits_f q]
    have a4 : sA 7 (10 * i + b) - 1 = -1 := h5 b hb q
    have a5 : sA 7 (10 * i + b) = 0 := by rw [← i_sub_add (sA 7 (10 * i + b)), a4]; decide
    exact (decide_eq_false (by rw [a5]; decide)).symm
theorem INV.r_bids {n K : Nat} {sL : NL} {sA : NA} (h : INV n K sL sA) {i : Nat} (hi : i < n) : fX_bids n sL sA (nI i) = (0, nI (cnt (leftB sA i) 10), sL, sA) := by
  obtain ⟨lm, -, -, c, bs, la, hx⟩ := h.bi hi
  rw [fX_bids, bndq_s (h.find hi), hx.many]
theorem share_at (sL : NL) (sA : NA) (i : Nat) : fW_share sL sA i = if sA 5 (10 * i + 3) < 2 then 0 else if sA 5 (10 * i + 2) < 0 then 0 else if sA 5 (10 * i + 5) < 1000 then 0 else if sA 5 (10 * i + 2) = 0 then shS (sA 5 (10 * i + 5)) else if 2000 + sA 5 (10 * i + 6) / 365 ≤ sA 5 (10 * i + 2) + 70 then shS (sA 5 (10 * i + 5)) else 0 := rfl
theorem shW_at (sL : NL) (sA : NA) (i : Nat) : fW_share sL sA i = shW sA i := rfl
theorem shS_b {x : Int32} (h : P6 x) : ∃ s : Nat, s ≤ 12500 ∧ shS x = nI s := by
  obtain ⟨k, hk, rfl⟩ := h
  exact ⟨_, Nat.min_le_left _ _, shS_n hk⟩
theorem shW_b {sA : NA} {i : Nat} (h : P6 (sA 5 (10 * i + 5))) : ∃ s : Nat, s ≤ 12500 ∧ shW sA i = nI s := by
  rw [← shW_at (fun _ _ => 0), share_at]
  have z : ∃ s : Nat, s ≤ 12500 ∧ (0 : Int32) = nI s := ⟨0, by omega, rfl⟩
  have hs := shS_b h
  repeat' split
  all_goals first | exact z | exact hs
theorem lt2 {x : Int32} : x < 2 ↔ ¬ 2 ≤ x := by rw [Int32.not_le]
theorem INV.sh {n K : Nat} {sL : NL} {sA : NA} (h : INV n K sL sA) {i : Nat} (hi : i < n) : fX_shareOf sL sA i = fW_share sL sA i := by
  obtain ⟨-, ⟨e1, ha⟩, -, -, hs, ⟨-, hp, d, hd, ed⟩, -⟩ := h.si hi
  rw [share_at, fX_shareOf, e1]
  rcases hs with ⟨g, -, e6, e7⟩ | ⟨g, -, e6⟩
  · rw [if_neg (fun q => lt2.1 q g), e6]
    rcases ha with ha | ⟨a, ha, ea⟩
    · rw [if_pos ha, if_pos (show sA 5 (10 * i + 2) < 0 by rw [ha]; decide)]
    rw [if_neg (show ¬ sA 5 (10 * i + 2) = -1 by rw [ea]; intro q; have := congrArg Int32.toInt q; rw [nI_toInt (by omega), m1_int] at this; omega), if_neg (show ¬ sA 5 (10 * i + 2) < 0 by rw [ea]; exact nI_pos (by omega))]
    by_cases gp : sA 5 (10 * i + 5) < 1000
    · rw [if_pos gp, if_pos gp]
    rw [if_neg gp, if_neg gp, sh_cap hp, fX_isTooLongDead, e1, e7]
    by_cases g0 : sA 5 (10 * i + 2) = 0
    · rw [if_pos g0, if_pos rfl, if_pos g0]
    rw [if_neg g0, if_neg g0]
    have ey : 2000 + sA 5 (10 * i + 6) / 365 = nI (2000 + d / 365) := by
      rw [ed, show (365 : Int32) = nI 365 from rfl, pk_div (by omega) (by omega) (by omega), show (2000 : Int32) = nI 2000 from rfl, nI_add]
    have c1 : nI (2000 + d / 365) - nI a ≤ 70 ↔ 2000 + d / 365 ≤ a + 70 := by
      rw [i32_le, pk_sub_toInt (by omega) (by omega), show (70 : Int32).toInt = 70 from rfl]; omega
    have c2 : nI (2000 + d / 365) ≤ nI a + 70 ↔ 2000 + d / 365 ≤ a + 70 := by
      rw [show nI a + (70 : Int32) = nI (a + 70) from nI_add a 70]; exact nI_leI (by omega) (by omega)
    rw [ey, ea]
    by_cases gy : 2000 + d / 365 ≤ a + 70
    · rw [if_pos (c1.2 gy), if_pos rfl, if_pos (c2.2 gy)]
    · rw [if_neg (fun q => gy (c1.1 q)), if_neg (by decide), if_neg (fun q => gy (c2.1 q))]
  · rw [if_pos (lt2.2 g), e6]
    by_cases g1 : sA 5 (10 * i + 2) = -1
    · rw [if_pos g1]
    · rw [if_neg g1, if_pos (by decide)]
theorem INV.r_share {n K : Nat} {sL : NL} {sA : NA} (h : INV n K sL sA) {i : Nat} (hi : i < n) : fX_share n sL sA (nI i) = (0, fW_share sL sA i, sL, sA) := by
  rw [fX_share, bndq_s (h.find hi), h.sh hi]
theorem INV.int {n K : Nat} {sL : NL} {sA : NA} (h : INV n K sL sA) {i : Nat} (hi : i < n) : fX_interestOf sL sA i = fW_interest sL sA i := by
  have h0 := h
  obtain ⟨⟨-, ⟨td, -, t1, t2⟩, rt, -, r1, r2⟩, -⟩ := h0
  obtain ⟨-, -, -, ⟨e4, -⟩, -, -, -, -, ⟨e10, -⟩, ⟨e11, -⟩, e12, -⟩ := INV.si h hi
  rw [fX_interestOf, fW_interest, e4, e10, e11, e12, t1, t2, r1, r2]
theorem INV.r_interest {n K : Nat} {sL : NL} {sA : NA} (h : INV n K sL sA) {i : Nat} (hi : i < n) : fX_interest n sL sA (nI i) = (0, fW_interest sL sA i, sL, sA) := by
  rw [fX_interest, bndq_s (h.find hi), h.int hi]
theorem INV.r_lots {n K : Nat} {sL : NL} {sA : NA} (h : INV n K sL sA) : fX_lots sL sA = sA 4 0 := by
  rw [fX_lots, h.1.1.2.1, h.1.1.2.2]
theorem INV.r_owes {n K : Nat} {sL : NL} {sA : NA} (h : INV n K sL sA) {k : Nat} (hk : k < 10) : fX_owes sL sA (nI k) = (0, sA 10 k, sL, sA) := by
  obtain ⟨-, -, ⟨dd, g, h1, -⟩, -⟩ := h
  have e : fX_owedBy sL sA (nI k) = (0, sA 3 k) := by rw [fX_owedBy, bnd_0 (buyer_n hk), nI_clamp (by omega)]
  rw [fX_owes, e, bnd_0 rfl, (h1 k hk).1, (h1 k hk).2]
theorem range_n {a lo hi : Nat} (h1 : lo ≤ a) (h2 : a ≤ hi) (h3 : hi < 2 ^ 31) : fX_checkRange (nI a) (nI lo) (nI hi) = 0 := by
  unfold fX_checkRange
  rw [if_neg (nI_nlt h1 (by omega)), if_pos (nI_le h2 h3)]
theorem r_callOf {sL : NL} {sA : NA} {a : Nat} (ha : a ≤ 1000000) : fX_callOf sL sA (nI a) = (0, fW_call (nI a), sL, sA) := by
  have e : fX_checkRange (nI a) 0 1000000 = 0 := range_n (lo := 0) (hi := 1000000) (by omega) ha (by omega)
  rw [fX_callOf, bnd_0 e, (callP ⟨a, ha, rfl⟩).1]
theorem r_fee {sL : NL} {sA : NA} {a : Nat} (ha : a ≤ 1000000) : fX_fee sL sA (nI a) = (0, fW_fee (nI a), sL, sA) := by
  have e : fX_checkRange (nI a) 0 1000000 = 0 := range_n (lo := 0) (hi := 1000000) (by omega) ha (by omega)
  rw [fX_fee, bnd_0 e, fee_eq ⟨a, ha, rfl⟩]
/-! what is held -/
theorem o64 (a b : Int) : Int64.ofInt (a - b) = Int64.ofInt a - Int64.ofInt b := Int64.ofInt_sub a b
theorem INV.held1 {n K : Nat} {sL : NL} {sA : NA} (h : INV n K sL sA) {i : Nat} (hi : i < n) : (fL_heldForIt sL sA i).toInt64 = mI sA i - mO sA i - mK sA i := by
  obtain ⟨-, -, -, ⟨e4, s4⟩, hs, ⟨-, hp, -⟩, -, -, ⟨e10, ha⟩, -, -, g1, g2⟩ := h.si hi
  obtain ⟨s, hs1, es⟩ := shW_b hp
  have z0 : (0 : Int64) = Int64.ofInt 0 := rfl
  obtain ⟨a, ha, ea⟩ := ha
  obtain ⟨p, hp, ep⟩ := hp
  have hf := feeN_le hp
  unfold mI mO mK
  rw [fL_heldForIt, e4, e10, es, ea, ep, feeW_n hp]
  have lowcase : ¬ sA 5 (10 * i + 3) = 4 → ¬ sA 5 (10 * i + 3) = 3 → sA 5 (10 * i + 3) ≤ 2 → (if sA 5 (10 * i + 3) = 4 then 0 else if sA 5 (10 * i + 3) = 3 then sA (4 * i + 11) 6 - nI a else 0 - nI a).toInt64 = (if sA 5 (10 * i + 3) ≤ 2 then 0 else (nI p + nI (feeN p)).toInt64) - ((nI a).toInt64 + if sA 5 (10 * i + 3) = 4 then (sA 5 (10 * i + 9) + nI s).toInt64 else 0) - ((if sA 5 (10 * i + 3) ≤ 2 then 0 else (nI (feeN p)).toInt64) + if sA 5 (10 * i + 3) = 4 then (nI p - sA 5 (10 * i + 9) - nI s - nI a).toInt64 else 0) := by
    intro q4 q3 q2
    rw [if_neg q4, if_neg q3, if_pos q2, if_neg q4, if_pos q2, if_neg q4, Int64.add_zero, Int64.add_zero, Int64.sub_zero, w64, w64, i_sub (by rw [z_int, nI_toInt (by omega)]; omega) (by rw [z_int, nI_toInt (by omega)]; omega), o64]
    rfl
  rcases s4 with s4 | s4 | s4 | s4 | s4
  · exact lowcase (by rw [s4]; decide) (by rw [s4]; decide) (by rw [s4]; decide)
  · exact lowcase (by rw [s4]; decide) (by rw [s4]; decide) (by rw [s4]; decide)
  · exact lowcase (by rw [s4]; decide) (by rw [s4]; decide) (by rw [s4]; decide)
  · have e6 : sA (4 * i + 11) 6 = nI p := by
      rcases hs with ⟨-, -, e6, -⟩ | ⟨g, -⟩
      · rw [e6, ep]
      · exact absurd (by rw [s4]; decide) g
    rw [if_neg (by rw [s4]; decide), if_pos s4, if_neg (by rw [s4]; decide), if_neg (by rw [s4]; decide), if_neg (by rw [s4]; decide), if_neg (by rw [s4]; decide), Int64.add_zero, Int64.add_zero, e6, nI_add]
    simp only [w64]
    rw [pk_sub_toInt (by omega) (by omega), nI_toInt (by omega), nI_toInt (by omega), nI_toInt (by omega), ← o64, ← o64]
    exact congrArg Int64.ofInt (by omega)
  · rw [if_pos s4, if_neg (by rw [s4]; decide), if_pos s4, if_neg (by rw [s4]; decide), if_pos s4, nI_add]
    have i1 : (nI p - sA 5 (10 * i + 9)).toInt = p - (sA 5 (10 * i + 9)).toInt := by
      rw [i_sub (by rw [nI_toInt (by omega)]; omega) (by rw [nI_toInt (by omega)]; omega), nI_toInt (by omega)]
    have i2 : (nI p - sA 5 (10 * i + 9) - nI s).toInt = p - (sA 5 (10 * i + 9)).toInt - s := by
      rw [i_sub (by rw [i1, nI_toInt (by omega)]; omega) (by rw [i1, nI_toInt (by omega)]; omega), i1, nI_toInt (by omega)]
    have i3 : (nI p - sA 5 (10 * i + 9) - nI s - nI a).toInt = p - (sA 5 (10 * i + 9)).toInt - s - a := by
      rw [i_sub (by rw [i2, nI_toInt (by omega)]; omega) (by rw [i2, nI_toInt (by omega)]; omega), i2, nI_toInt (by omega)]
    have i4 : (sA 5 (10 * i + 9) + nI s).toInt = (sA 5 (10 * i + 9)).toInt + s := by
      rw [i_add (by rw [nI_toInt (by omega)]; omega) (by rw [nI_toInt (by omega)]; omega), nI_toInt (by omega)]
    simp only [w64]
    rw [i3, i4, nI_toInt (by omega), nI_toInt (by omega), nI_toInt (by omega), ← Int64.ofInt_add, ← Int64.ofInt_add, ← o64, ← o64]
    exact congrArg Int64.ofInt (by rw [z_int]; omega)
theorem held_lp {n : Nat} {sL : NL} {sA : NA} (hn : n ≤ 30) : ∀ (f j : Nat), j + f = 31 → j ≤ 30 → ∀ x, (j ≤ n → x = sm (fun i => (fL_heldForIt sL sA i).toInt64) j) → (n ≤ j → x = sm (fun i => (fL_heldForIt sL sA i).toInt64) n) → lX_held n sL sA f j x = sm (fun i => (fL_heldForIt sL sA i).toInt64) n := by
  intro f
  induction f with
  | zero => intro j h1 h2; omega
  | succ f ih =>
    intro j h1 h2 x x1 x2
    have c30 : (30 : Int32) ≤ nI j ↔ 30 ≤ j := nI_leI (a := 30) (by omega) (by omega)
    rw [lX_held]
    by_cases g : 30 ≤ j
    · rw [if_pos (c30.2 g)]; exact x2 (by omega)
    · rw [if_neg (fun q => g (c30.1 q))]
      by_cases q : j < n
      · rw [if_pos q]
        have e : x + (fL_heldForIt sL sA j).toInt64 = sm (fun i => (fL_heldForIt sL sA i).toInt64) (j + 1) := by rw [sm, x1 (by omega)]
        exact ih (j + 1) (by omega) (by omega) _ (fun _ => e) (fun q2 => by rw [e, show n = j + 1 by omega])
      · rw [if_neg q]
        exact ih (j + 1) (by omega) (by omega) x (fun q2 => by omega) (fun _ => x2 (by omega))
theorem sm_sub {f g h k : Nat → Int64} : ∀ n, (∀ i, i < n → f i = g i - h i - k i) → sm f n = sm g n - sm h n - sm k n
  | 0, _ => by show (0 : Int64) = 0 - 0 - 0; decide
  | n + 1, q => by
    rw [sm, sm, sm, sm, sm_sub n (fun i hi => q i (by omega)), q n (by omega)]
    exact (ring2 _ _ _ _ _ _).symm
theorem INV.r_heldByLots {n K : Nat} {sL : NL} {sA : NA} (h : INV n K sL sA) : fX_heldByLots n sL sA = (sA 4 4).toInt64 + sm (mI sA) n - sm (mO sA) n - ((sA 4 4).toInt64 + sm (mK sA) n) := by
  have hn := h.n6
  have e : fX_heldByLots n sL sA = sm (fun i => (fL_heldForIt sL sA i).toInt64) n := held_lp (by omega) 31 0 rfl (by omega) 0 (fun _ => rfl) (fun q => by rw [show n = 0 by omega]; rfl)
  rw [e, ring1]
  exact sm_sub n (fun i hi => h.held1 hi)
theorem INV.r_in {n K : Nat} {sL : NL} {sA : NA} (h : INV n K sL sA) : fX_in sL sA = (sA 4 4).toInt64 + sm (mI sA) n := h.2.2.2.2.2.1
theorem INV.r_out {n K : Nat} {sL : NL} {sA : NA} (h : INV n K sL sA) : fX_out sL sA = sm (mO sA) n := h.2.2.2.2.2.2.1
theorem INV.r_kept {n K : Nat} {sL : NL} {sA : NA} (h : INV n K sL sA) : fX_kept sL sA = (sA 4 4).toInt64 + sm (mK sA) n := h.2.2.2.2.2.2.2
theorem INV.r_held {n K : Nat} {sL : NL} {sA : NA} (h : INV n K sL sA) : fX_held sL sA = (sA 4 4).toInt64 + sm (mI sA) n - sm (mO sA) n - ((sA 4 4).toInt64 + sm (mK sA) n) := by
  rw [fX_held, h.2.2.2.2.2.1, h.2.2.2.2.2.2.1, h.2.2.2.2.2.2.2]
