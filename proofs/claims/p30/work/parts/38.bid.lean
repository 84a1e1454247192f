theorem buyerAt_n {sL : NL} {sA : NA} {i c j : Nat} (hc : sA (4 * i + 12) 2 = nI c) (h1 : j < c) (h2 : c ≤ 10) : fO_buyerAt sL sA i (nI j) = sA (4 * i + 13) j := by
  rw [fO_buyerAt, hc, if_neg (fun q => by rw [show (0 : Int32) = nI 0 from rfl, nI_ltI (by omega) (by omega)] at q; omega), if_neg (fun q => by rw [nI_leI (by omega) (by omega)] at q; omega), if_neg (fun q => by rw [show (10 : Int32) = nI 10 from rfl, nI_leI (by omega) (by omega)] at q; omega), nI_clamp (by omega)]
theorem amountAt_n {sL : NL} {sA : NA} {i c j : Nat} (hc : sA (4 * i + 12) 2 = nI c) (h1 : j < c) (h2 : c ≤ 10) : fO_amountAt sL sA i (nI j) = sA (4 * i + 14) j := by
  rw [fO_amountAt, hc, if_neg (fun q => by rw [show (0 : Int32) = nI 0 from rfl, nI_ltI (by omega) (by omega)] at q; omega), if_neg (fun q => by rw [nI_leI (by omega) (by omega)] at q; omega), if_neg (fun q => by rw [show (10 : Int32) = nI 10 from rfl, nI_leI (by omega) (by omega)] at q; omega), nI_clamp (by omega)]
theorem amountAt_m {sL : NL} {sA : NA} {i : Nat} : fO_amountAt sL sA i (-1) = -1 := by rw [fO_amountAt, if_pos (by decide)]
theorem leave_lp {sL : NL} {sA : NA} {i c J : Nat} {p0 p1 : Int32} (hc : sA (4 * i + 12) 2 = nI c) (hc10 : c ≤ 10) (hJ : J ≤ c) (hJ9 : J < 10) (hne : ∀ k, k < J → sA (4 * i + 13) k ≠ p0) (hat : J < c → sA (4 * i + 13) J = p0) : ∀ (f j : Nat), j + f = 11 → j ≤ J → lO_leave sL sA i p0 p1 f j = (sL, up2 (up2 (up2 sA (4 * i + 13) J p0) (4 * i + 14) J p1) (4 * i + 12) 2 (nI (max c (J + 1)))) := by
  intro f
  induction f with
  | zero => intro j h1 h2; omega
  | succ f ih =>
    intro j h1 h2
    rw [lO_leave]
    have hcj : sA (4 * i + 12) 2 ≤ nI j ↔ c ≤ j := by rw [hc]; exact nI_leI (by omega) (by omega)
    have hj10 : nI j < 10 ↔ j < 10 := nI_ltI (b := 10) (by omega) (by omega)
    have hk10 : (10 : Int32) ≤ nI j ↔ 10 ≤ j := nI_leI (a := 10) (by omega) (by omega)
    have hm : imax (sA (4 * i + 12) 2) (nI j + 1) = nI (max c (j + 1)) := by rw [hc, show nI j + 1 = nI (j + 1) from nI_add _ 1, imax_n (by omega) (by omega)]
    by_cases g : c ≤ j
    · have e : j = J := by omega
      rw [if_pos (hcj.2 g), if_neg (fun q => absurd (hk10.1 q) (by omega)), if_pos (hj10.2 (by omega)), hm, e]
    · rw [if_neg (fun q => g (hcj.1 q)), buyerAt_n hc (by omega) hc10]
      by_cases e : j = J
      · rw [if_pos (by rw [e]; exact hat (by omega)), if_neg (fun q => absurd (hk10.1 q) (by omega)), if_pos (hj10.2 (by omega)), hm, e]
      · rw [if_neg (hne j (by omega))]
        exact ih (j + 1) (by omega) (by omega)
theorem leave_eq {sL : NL} {sA : NA} {i c J : Nat} {p0 p1 : Int32} (hc : sA (4 * i + 12) 2 = nI c) (hc10 : c ≤ 10) (hJ : J ≤ c) (hJ9 : J < 10) (hne : ∀ k, k < J → sA (4 * i + 13) k ≠ p0) (hat : J < c → sA (4 * i + 13) J = p0) : fO_leave sL sA i p0 p1 = (sL, up2 (up2 (up2 sA (4 * i + 13) J p0) (4 * i + 14) J p1) (4 * i + 12) 2 (nI (max c (J + 1)))) := leave_lp hc hc10 hJ hJ9 hne hat 11 0 rfl (Nat.zero_le _)
/-- a bid changed -/
theorem BX.chg {lm c : Nat} {cn : Int32} {rb ra bid left : Nat → Int32} {bs la : Nat → Nat} (h : BX lm cn rb ra bid left c bs la) {j : Nat} (hj : j < c) {v : Int32} (hv : PC v) {rb2 ra2 bid2 left2 : Nat → Int32}
    (e1 : ∀ k, k < c → rb2 k = rb k) (e2 : ra2 j = v) (e3 : ∀ k, k < c → k ≠ j → ra2 k = ra k) (e4 : bid2 (bs j) = v) (e5 : ∀ b, b < 10 → b ≠ bs j → bid2 b = bid b) (e6 : ∀ b, b < 10 → left2 b = left b) : BX lm cn rb2 ra2 bid2 left2 c bs la := by
  obtain ⟨h1, h2, h3, h4, h5⟩ := h
  have hd : ∀ k, k < c → k ≠ j → bs k ≠ bs j := fun k hk hkj => by
    rcases Nat.lt_or_gt_of_ne hkj with g | g
    · exact (h4 k j g hj).1
    · exact fun q => (h4 j k g hk).1 q.symm
  refine ⟨h1, h2, fun k hk => ?_, h4, fun b hb hn => ?_⟩
  · obtain ⟨a1, a2, a3, a4, a5, a6⟩ := h3 k hk
    by_cases e : k = j
    · subst e
      exact ⟨a1, by rw [e1 k hk]; exact a2, by rw [e2]; exact hv, by rw [e2, e4], a5, by rw [e6 _ a1]; exact a6⟩
    · exact ⟨a1, by rw [e1 k hk]; exact a2, by rw [e3 k hk e]; exact a3, by rw [e3 k hk e, e5 _ a1 (hd k hk e)]; exact a4, a5, by rw [e6 _ a1]; exact a6⟩
  · rw [e5 b hb (fun q => hn j hj q.symm)]
    exact h5 b hb hn
/-- a bid added -/
theorem BX.add {lm c : Nat} {cn : Int32} {rb ra bid left : Nat → Int32} {bs la : Nat → Nat} (h : BX lm cn rb ra bid left c bs la) {b : Nat} (hb : b < 10) (hn : ∀ j, j < c → bs j ≠ b) (hc : c < 10) {v : Int32} (hv : PC v) {rb2 ra2 bid2 left2 : Nat → Int32}
    (e1 : ∀ k, k < c → rb2 k = rb k) (e1b : rb2 c = nI b) (e2 : ra2 c = v) (e3 : ∀ k, k < c → ra2 k = ra k) (e4 : bid2 b = v) (e5 : ∀ a, a < 10 → a ≠ b → bid2 a = bid a) (e6 : ∀ a, a < 10 → a ≠ b → left2 a = left a) (e7 : left2 b = nI lm) :
    BX (lm + 1) (nI (c + 1)) rb2 ra2 bid2 left2 (c + 1) (fun k => if k = c then b else bs k) (fun k => if k = c then lm else la k) := by
  obtain ⟨h1, h2, h3, h4, h5⟩ := h
  refine ⟨by omega, rfl, fun k hk => ?_, fun j k hj hk => ?_, fun a ha hne => ?_⟩
  · dsimp only
    by_cases e : k = c
    · rw [if_pos e, if_pos e, e, e2, e4]
      exact ⟨hb, e1b, hv, rfl, by omega, e7⟩
    · obtain ⟨a1, a2, a3, a4, a5, a6⟩ := h3 k (by omega)
      have q := hn k (by omega)
      rw [if_neg e, if_neg e, e1 k (by omega), e3 k (by omega), e5 _ a1 q, e6 _ a1 q]
      exact ⟨a1, a2, a3, a4, by omega, a6⟩
  · dsimp only
    rw [if_neg (show ¬ j = c by omega), if_neg (show ¬ j = c by omega)]
    by_cases e : k = c
    · rw [if_pos e, if_pos e]
      exact ⟨hn j (by omega), (h3 j (by omega)).2.2.2.2.1⟩
    · rw [if_neg e, if_neg e]
      exact h4 j k hj (by omega)
  · have q := hne c (by omega)
    dsimp only at q
    rw [if_pos rfl] at q
    rw [e5 a ha (fun z => q z.symm)]
    refine h5 a ha (fun j hj => ?_)
    have z := hne j (by omega)
    dsimp only at z
    rw [if_neg (show ¬ j = c by omega)] at z
    exact z
theorem BX.cast {lm c : Nat} {cn cn2 : Int32} {rb ra bid left : Nat → Int32} {bs la : Nat → Nat} (e : cn2 = cn) (h : BX lm cn rb ra bid left c bs la) : BX lm cn2 rb ra bid left c bs la := by rw [e]; exact h
theorem E_bid {n K : Nat} {sL : NL} {sA : NA} (h : INV n K sL sA) (hK : K ≤ 130) {i q a : Nat} (hi : i < n) (hq : q < 10) (h1 : 1 ≤ a) (h2 : a ≤ 1000000) (h3 : sA 5 (10 * i + 3) = 0) :
    ∃ sA2 : NA, fD_bid n sL sA (nI i) (nI q) (nI a) = (fW_call (nI a), sL, sA2) ∧ (∀ x, x < 11 → sA2 x = sA x) ∧
      INV n (K + 1) sL (up2 (up2 (up2 sA2 8 (10 * i + q) (if sA 7 (10 * i + q) ≤ 0 then sA 4 1 else sA 8 (10 * i + q))) 7 (10 * i + q) (fW_call (nI a) + 1)) 4 1 (sA 4 1 + 1)) := by
  have hn6 := h.n6
  obtain ⟨⟨v0, v0b⟩, ⟨v1, v1b⟩, ⟨v2, v2b⟩, ⟨e4, s4⟩, v5, ⟨v6a, v6b, v6c⟩, v7, ⟨v8, v8b⟩, ⟨e10, eP⟩, ⟨v11, v11b⟩, v12, v13, v14⟩ := h.si hi
  have e : fX_checkRange (nI a) 1 1000000 = 0 := range_n (lo := 1) (hi := 1000000) h1 h2 (by omega)
  have e2 : fX_checkState sL sA i 0 = 0 := chk_y (by rw [e4, h3])
  obtain ⟨c1, hpc⟩ := callP ⟨a, h2, rfl⟩
  obtain ⟨v, ev⟩ : ∃ v, v = fW_call (nI a) := ⟨_, rfl⟩
  rw [← ev] at hpc c1
  have q4 : ¬ sA 5 (10 * i + 3) = 4 := by rw [h3]; decide
  have q2 : sA 5 (10 * i + 3) ≤ 2 := by rw [h3]; decide
  obtain ⟨lm, hlm, e41, c, bs, la, hx⟩ := h.bi hi
  have hx2 := hx
  obtain ⟨d1, d2, d3, d4, d5⟩ := hx2
  rw [← ev]
  -- all but the bids
  have fin : ∀ (j : Nat) (cn w : Int32), ∀ sA3, sA3 = up2 (up2 (up2 (up2 (up2 (up2 sA (4 * i + 13) j (nI q)) (4 * i + 14) j v) (4 * i + 12) 2 cn) 8 (10 * i + q) w) 7 (10 * i + q) (v + 1)) 4 1 (sA 4 1 + 1) → BI (lm + 1) sA3 i → INV n (K + 1) sL sA3 := by
    intro j cn w sA3 e3 hB
    refine h.at hi 0 0 0 (h.1.cg (fun y hy => ?_) (fun y hy => ?_)) (h.2.1.cg (fun k hk => ?_) (fun k hk => ?_)) (h.2.2.1.cg (by omega) (fun k hk => ?_) (fun k hk => ?_) ?_) ⟨⟨?_, ?_⟩, ⟨?_, ?_⟩, ⟨?_, ?_⟩, ⟨?_, ?_⟩, ?_, ⟨?_, ?_, ?_⟩, ?_, ⟨?_, ?_⟩, ⟨?_, ?_⟩, ⟨?_, ?_⟩, ?_, ?_⟩ (fun lm2 l1 l2 _ => ⟨lm + 1, ?_, by omega, ?_, hB⟩) (fun k hk => ?_) ?_ ⟨?_, ?_⟩ ⟨?_, ?_⟩ ⟨?_, ?_⟩ <;> (try rw [e3]) <;> (try simp (disch := omega) only [up2_hit, up2_miss]) <;> first | with_reducible assumption | with_reducible exact (Int64.add_zero _).symm | (refine FR.up ?_ (by omega); repeat (first | exact FR.refl | refine FR.up ?_ (by omega))) | exact ⟨v13, v14⟩ | skip
    · rw [e41] at l2
      have := (nI_eq (by omega) (by omega)).1 l2
      omega
    · rw [e41]; exact nI_1 lm
    · unfold mI; simp (disch := omega) only [up2_hit, up2_miss]; exact (Int64.add_zero _).symm
    · rw [← e3]
      unfold mO
      rw [e3]
      simp (disch := omega) only [up2_hit, up2_miss]
      rw [if_neg q4, if_neg q4]; exact (Int64.add_zero _).symm
    · rw [← e3]
      unfold mK
      rw [e3]
      simp (disch := omega) only [up2_hit, up2_miss]
      rw [if_neg q4, if_neg q4]; exact (Int64.add_zero _).symm
  rcases place_ex (bs := bs) (b := q) c with ⟨j, j1, j2, j3⟩ | hno
  · have eL : fO_leave sL sA i (nI q) v = (sL, up2 (up2 (up2 sA (4 * i + 13) j (nI q)) (4 * i + 14) j v) (4 * i + 12) 2 (nI c)) := by
      rw [leave_eq (J := j) d2 d1 (by omega) (by omega) (fun k hk => ?_) (fun _ => ?_), show max c (j + 1) = c by omega]
      · rw [(d3 k (by omega)).2.1]
        exact fun z => j3 k hk ((nI_eq (by have := (d3 k (by omega)).1; omega) (by omega)).1 z)
      · rw [(d3 j j1).2.1, j2]
    have hb7 : sA 7 (10 * i + q) = sA (4 * i + 14) j + 1 := by
      have z := (d3 j j1).2.2.2.1
      dsimp only at z
      rw [j2] at z
      rw [← z, i_sub_add]
    have hpos : ¬ sA 7 (10 * i + q) ≤ 0 := by rw [hb7]; exact Int32.not_le.mpr (d3 j j1).2.2.1.pos
    refine ⟨up2 (up2 (up2 sA (4 * i + 13) j (nI q)) (4 * i + 14) j v) (4 * i + 12) 2 (nI c), ?_, fun x hx => ?_, fin j (nI c) (sA 8 (10 * i + q)) _ ?_ ?_⟩
    · rw [fD_bid, fX_bid, bndq_s (h.find hi), bnd_0 (buyer_n hq), bnd_0 e, bnd_0 e2, c1, eL]
      exact wrapD_0 rfl
    · rw [up2_rmiss (by omega), up2_rmiss (by omega), up2_rmiss (by omega)]
    · rw [if_neg hpos]
    · refine ⟨c, bs, la, BX.cast ?_ ((hx.chg (j := j) j1 hpc (fun k hk => ?_) ?_ (fun k hk hkj => ?_) ?_ (fun b hb hbj => ?_) (fun b hb => ?_)).fr (show lm ≤ lm + 1 by omega) (fun b hb => ⟨rfl, rfl⟩))⟩ <;> (try dsimp only) <;> (try rw [if_neg hpos]) <;> (try simp (disch := omega) only [up2_hit, up2_miss])
      · exact d2.symm
      · by_cases z : k = j
        · rw [z]; simp (disch := omega) only [up2_hit, up2_miss]
          rw [(d3 j j1).2.1, j2]
        · simp (disch := omega) only [up2_miss]
      · rw [j2]; simp (disch := omega) only [up2_hit, up2_miss]; exact i_add_sub v
      · by_cases z : b = q
        · rw [z]; simp (disch := omega) only [up2_hit, up2_miss]
        · simp (disch := omega) only [up2_miss]
  · have hc9 : c < 10 := by
      have z := cnt_lt (hits_f hno) 10 hq
      rw [cnt_hits c (fun j hj => (d3 j hj).1) (fun j k a b => (d4 j k a b).1)] at z
      exact z
    have eL : fO_leave sL sA i (nI q) v = (sL, up2 (up2 (up2 sA (4 * i + 13) c (nI q)) (4 * i + 14) c v) (4 * i + 12) 2 (nI (c + 1))) := by
      rw [leave_eq (J := c) d2 d1 (by omega) hc9 (fun k hk => ?_) (fun z => ?_), show max c (c + 1) = c + 1 by omega]
      · rw [(d3 k hk).2.1]
        exact fun z => hno k hk ((nI_eq (by have := (d3 k hk).1; omega) (by omega)).1 z)
      · omega
    have hb7 : sA 7 (10 * i + q) ≤ 0 := by
      have z : sA 7 (10 * i + q) - 1 = -1 := d5 q hq hno
      rw [← i_sub_add (sA 7 (10 * i + q)), z]; decide
    refine ⟨up2 (up2 (up2 sA (4 * i + 13) c (nI q)) (4 * i + 14) c v) (4 * i + 12) 2 (nI (c + 1)), ?_, fun x hx => ?_, fin c (nI (c + 1)) (sA 4 1) _ ?_ ?_⟩
    · rw [fD_bid, fX_bid, bndq_s (h.find hi), bnd_0 (buyer_n hq), bnd_0 e, bnd_0 e2, c1, eL]
      exact wrapD_0 rfl
    · rw [up2_rmiss (by omega), up2_rmiss (by omega), up2_rmiss (by omega)]
    · rw [if_pos hb7]
    · refine ⟨c + 1, (fun k => if k = c then q else bs k), (fun k => if k = c then lm else la k), BX.cast ?_ (hx.add (b := q) hq hno hc9 hpc (fun k hk => ?_) ?_ ?_ (fun k hk => ?_) ?_ (fun b hb hbj => ?_) (fun b hb hbj => ?_) ?_)⟩ <;> (try dsimp only) <;> (try rw [if_pos hb7]) <;> (try simp (disch := omega) only [up2_hit, up2_miss])
      · exact i_add_sub v
      · exact e41
