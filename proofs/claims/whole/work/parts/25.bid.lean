theorem BX.at {lm c : Nat} {cn : Int32} {rb ra bid left : Nat → Int32} {bs la : Nat → Nat} (h : BX lm cn rb ra bid left c bs la) : c ≤ 10 ∧ cn = nI c := ⟨h.1, h.2.1⟩
theorem buyerAt_n {sL : NL} {sA : NA} {i c j : Nat} (hc : sA (4 * i + 23) 2 = nI c) (h1 : j < c) (h2 : c ≤ 10) : fO_buyerAt sL sA i (nI j) = sA (4 * i + 24) j := by
  rw [fO_buyerAt, hc, if_neg (fun q => by rw [show (0 : Int32) = nI 0 from rfl, nI_ltI (by omega) (by omega)] at q; omega), if_neg (fun q => by rw [nI_leI (by omega) (by omega)] at q; omega), if_neg (fun q => by rw [show (10 : Int32) = nI 10 from rfl, nI_leI (by omega) (by omega)] at q; omega), nI_clamp (by omega)]
theorem amountAt_n {sL : NL} {sA : NA} {i c j : Nat} (hc : sA (4 * i + 23) 2 = nI c) (h1 : j < c) (h2 : c ≤ 10) : fO_amountAt sL sA i (nI j) = sA (4 * i + 25) j := by
  rw [fO_amountAt, hc, if_neg (fun q => by rw [show (0 : Int32) = nI 0 from rfl, nI_ltI (by omega) (by omega)] at q; omega), if_neg (fun q => by rw [nI_leI (by omega) (by omega)] at q; omega), if_neg (fun q => by rw [show (10 : Int32) = nI 10 from rfl, nI_leI (by omega) (by omega)] at q; omega), nI_clamp (by omega)]
theorem amountAt_m {sL : NL} {sA : NA} {i : Nat} : fO_amountAt sL sA i (-1) = -1 := by rw [fO_amountAt, if_pos (by decide)]
/-- the place of a buyer's bid -/
theorem place_ex {bs : Nat → Nat} {b : Nat} : ∀ c, (∃ j, j < c ∧ bs j = b ∧ ∀ k, k < j → bs k ≠ b) ∨ ∀ j, j < c → bs j ≠ b
  | 0 => Or.inr (fun j hj => by omega)
  | c + 1 => by
    rcases place_ex (bs := bs) (b := b) c with ⟨j, h1, h2, h3⟩ | h
    · exact Or.inl ⟨j, by omega, h2, h3⟩
    · by_cases e : bs c = b
      · exact Or.inl ⟨c, by omega, e, h⟩
      · refine Or.inr (fun j hj => ?_)
        by_cases q : j = c
        · rw [q]; exact e
        · exact h j (by omega)
theorem leave_lp {sL : NL} {sA : NA} {i c J : Nat} {p0 p1 : Int32} (hc : sA (4 * i + 23) 2 = nI c) (hc10 : c ≤ 10) (hJ : J ≤ c) (hJ9 : J < 10) (hne : ∀ k, k < J → sA (4 * i + 24) k ≠ p0) (hat : J < c → sA (4 * i + 24) J = p0) : ∀ (f j : Nat), j + f = 11 → j ≤ J → lO_leave sL sA i p0 p1 f j = (sL, up2 (up2 (up2 sA (4 * i + 24) J p0) (4 * i + 25) J p1) (4 * i + 23) 2 (nI (max c (J + 1)))) := by
  intro f
  induction f with
  | zero => intro j h1 h2; omega
  | succ f ih =>
    intro j h1 h2
    rw [lO_leave]
    have hcj : sA (4 * i + 23) 2 ≤ nI j ↔ c ≤ j := by rw [hc]; exact nI_leI (by omega) (by omega)
    have hj10 : nI j < 10 ↔ j < 10 := nI_ltI (b := 10) (by omega) (by omega)
    have hk10 : (10 : Int32) ≤ nI j ↔ 10 ≤ j := nI_leI (a := 10) (by omega) (by omega)
    have hm : imax (sA (4 * i + 23) 2) (nI j + 1) = nI (max c (j + 1)) := by rw [hc, show nI j + 1 = nI (j + 1) from nI_add _ 1, imax_n (by omega) (by omega)]
    by_cases g : c ≤ j
    · have e : j = J := by omega
      rw [if_pos (hcj.2 g), if_neg (fun q => absurd (hk10.1 q) (by omega)), if_pos (hj10.2 (by omega)), hm, e]
    · rw [if_neg (fun q => g (hcj.1 q)), buyerAt_n hc (by omega) hc10]
      by_cases e : j = J
      · rw [if_pos (by rw [e]; exact hat (by omega)), if_neg (fun q => absurd (hk10.1 q) (by omega)), if_pos (hj10.2 (by omega)), hm, e]
      · rw [if_neg (hne j (by omega))]
        exact ih (j + 1) (by omega) (by omega)
theorem leave_eq {sL : NL} {sA : NA} {i c J : Nat} {p0 p1 : Int32} (hc : sA (4 * i + 23) 2 = nI c) (hc10 : c ≤ 10) (hJ : J ≤ c) (hJ9 : J < 10) (hne : ∀ k, k < J → sA (4 * i + 24) k ≠ p0) (hat : J < c → sA (4 * i + 24) J = p0) : fO_leave sL sA i p0 p1 = (sL, up2 (up2 (up2 sA (4 * i + 24) J p0) (4 * i + 25) J p1) (4 * i + 23) 2 (nI (max c (J + 1)))) := leave_lp hc hc10 hJ hJ9 hne hat 11 0 rfl (Nat.zero_le _)
/-- a bid changed -/
theorem BX.chg {lm c : Nat} {cn : Int32} {rb ra bid left : Nat → Int32} {bs la : Nat → Nat} (h : BX lm cn rb ra bid left c bs la) {j : Nat} (hj : j < c) {v : Int32} (hv : P6 v) {rb2 ra2 bid2 left2 : Nat → Int32}
    (e1 : ∀ k, k < c → rb2 k = rb k) (e2 : ra2 j = v) (e3 : ∀ k, k < c → k ≠ j → ra2 k = ra k) (e4 : bid2 (bs j) = v) (e5 : ∀ b, b < 10 → b ≠ bs j → bid2 b = bid b) (e6 : ∀ b, b < 10 → left2 b = left b) : BX lm cn rb2 ra2 bid2 left2 c bs la := by
  obtain ⟨h1, h2, h3, h4, h5⟩ := h
  have hd : ∀ k, k < c → k ≠ j → bs k ≠ bs j := fun k hk hkj => by
    rcases Nat.lt_or_gt_of_ne hkj with g | g
    · exact (h4 k j g hj).1
    · exact fun q => (h4 j k g hk).1 q.symm
  refine ⟨h1, h2, fun k hk => ?_, h4, fun b hb hn => ?_⟩
  · obtain ⟨a1, a2, a3, a4, a5, a6⟩ := h3 k hk
    by_cases e : k = j
    · subst e
      exact ⟨a1, by rw [e1 k hk]; exact a2, by rw [e2]; exact hv, by rw [e2, e4], a5, by rw [e6 _ a1]; exact a6⟩
    · exact ⟨a1, by rw [e1 k hk]; exact a2, by rw [e3 k hk e]; exact a3, by rw [e3 k hk e, e5 _ a1 (hd k hk e)]; exact a4, a5, by rw [e6 _ a1]; exact a6⟩
  · rw [e5 b hb (fun q => hn j hj q.symm)]
    exact h5 b hb hn
/-- a bid added -/
theorem BX.add {lm c : Nat} {cn : Int32} {rb ra bid left : Nat → Int32} {bs la : Nat → Nat} (h : BX lm cn rb ra bid left c bs la) {b : Nat} (hb : b < 10) (hn : ∀ j, j < c → bs j ≠ b) (hc : c < 10) {v : Int32} (hv : P6 v) {rb2 ra2 bid2 left2 : Nat → Int32}
    (e1 : ∀ k, k < c → rb2 k = rb k) (e1b : rb2 c = nI b) (e2 : ra2 c = v) (e3 : ∀ k, k < c → ra2 k = ra k) (e4 : bid2 b = v) (e5 : ∀ a, a < 10 → a ≠ b → bid2 a = bid a) (e6 : ∀ a, a < 10 → a ≠ b → left2 a = left a) (e7 : left2 b = nI lm) :
    BX (lm + 1) (nI (c + 1)) rb2 ra2 bid2 left2 (c + 1) (fun k => if k = c then b else bs k) (fun k => if k = c then lm else la k) := by
  obtain ⟨h1, h2, h3, h4, h5⟩ := h
  refine ⟨by omega, rfl, fun k hk => ?_, fun j k hj hk => ?_, fun a ha hne => ?_⟩
  · dsimp only
    by_cases e : k = c
    · rw [if_pos e, if_pos e, e, e2, e4]
      exact ⟨hb, e1b, hv, rfl, by omega, e7⟩
    · obtain ⟨a1, a2, a3, a4, a5, a6⟩ := h3 k (by omega)
      have q := hn k (by omega)
      rw [if_neg e, if_neg e, e1 k (by omega), e3 k (by omega), e5 _ a1 q, e6 _ a1 q]
      exact ⟨a1, a2, a3, a4, by omega, a6⟩
  · dsimp only
    rw [if_neg (show ¬ j = c by omega), if_neg (show ¬ j = c by omega)]
    by_cases e : k = c
    · rw [if_pos e, if_pos e]
      exact ⟨hn j (by omega), (h3 j (by omega)).2.2.2.2.1⟩
    · rw [if_neg e, if_neg e]
      exact h4 j k hj (by omega)
  · have q := hne c (by omega)
    dsimp only at q
    rw [if_pos rfl] at q
    rw [e5 a ha (fun z => q z.symm)]
    refine h5 a ha (fun j hj => ?_)
    have z := hne j (by omega)
    dsimp only at z
    rw [if_neg (show ¬ j = c by omega)] at z
    exact z
theorem BX.cast {lm c : Nat} {cn cn2 : Int32} {rb ra bid left : Nat → Int32} {bs la : Nat → Nat} (e : cn2 = cn) (h : BX lm cn rb ra bid left c bs la) : BX lm cn2 rb ra bid left c bs la := by rw [e]; exact h
theorem INV.at2 {n K : Nat} {sL sL2 : NL} {sA sA2 : NA} (h : INV n K sL sA) {i : Nat} (hi : i < n)
    (hc : ∀ x y, (x = 0 ∧ (y = 3 ∨ y = 4 ∨ y = 5)) ∨ (x = 5 ∧ (y = 0 ∨ y = 18 ∨ y = 19)) → sA2 x y = sA x y)
    (hL : sL2 0 6 = sL2 5 20 ∧ sL2 0 7 = sL2 5 21 ∧ sL2 0 8 = sL2 5 22) (h2 : ∀ k, k < 6 → sA2 2 k = sA 2 k ∧ sA2 21 k = sA 21 k) (h3 : ∀ k, k < 10 → sA2 3 k = sA2 20 k)
    (hS : SI sA2 i) (hB : ∀ lm, lm ≤ K → sA 5 10 = nI lm → BI lm sA i → ∃ lm2, lm ≤ lm2 ∧ lm2 ≤ K + 1 ∧ sA2 5 10 = nI lm2 ∧ BI lm2 sA2 i) (hf : ∀ k, k ≠ i → FR sA sA2 k) : INV n (K + 1) sL2 sA2 := by
  obtain ⟨⟨a1, a2, a3⟩, ⟨a4, a5⟩, a6, a7, a8, lm, a9, a10, a11, a12⟩ := h
  obtain ⟨lm2, b1, b2, b3, b4⟩ := hB lm a9 a10 (a11 i hi).2
  refine ⟨⟨a1, ?_, ?_⟩, ⟨?_, ?_⟩, hL, fun k hk => ?_, h3, lm2, b2, b3, lots_fr a11 b1 i hS b4 (fun k hk hne => hf k hne), a12.fr (fun k hk => hf k (by omega))⟩
  · rw [hc 0 3 (by omega), a2]
  · rw [hc 5 0 (by omega), a3]
  · rw [hc 0 4 (by omega), hc 5 19 (by omega), a4]
  · rw [hc 0 5 (by omega), hc 5 18 (by omega), a5]
  · rw [(h2 k hk).1, (h2 k hk).2, a7 k hk]
theorem E_bid {n K : Nat} {sL : NL} {sA : NA} (h : INV n K sL sA) (hK : K ≤ 600) (p0 : Int32) (p1 : Int32) (p2 : Int32) : EQ n K (fW_bid n sL sA p0 p1 p2) (fM_bid (fW_bid n sL sA p0 p1 p2).2.1 (fW_bid n sL sA p0 p1 p2).2.2 p0 p1 p2) := by
  rcases h.lot p0 with ⟨i, hi, rfl, h1, h2⟩ | ⟨h1, h2⟩
  · have ec := h.i31 hi
    have hs := h.si hi
    have hn := h.1.1
    have hl0 : ¬ fM_isLot sL sA (nI i) = 0 := by rw [h2]; exact n10
    obtain ⟨⟨v1, v1b⟩, v2, ⟨v3, v4⟩, ⟨v5, v6⟩, v7, v8, v9, ⟨v10, v11⟩, v12, v13⟩ := hs
    rcases buy_chk p1 with ⟨u1, u2, u3⟩ | ⟨u1, u2⟩
    · rcases rng_chk p2 1 1000000 with ⟨r1, r2, r3, r4⟩ | ⟨r1, r2⟩
      · have hp := P6_call (P6_of (Int32.le_trans (by decide) r3) r4)
        obtain ⟨v, ev⟩ : ∃ v, v = fX_calledAmount p2 := ⟨_, rfl⟩
        rw [← ev] at hp
        rcases st_chk (sL := sL) (sA := sA) (i := i) 0 with ⟨g1, g2⟩ | ⟨g1, g2⟩
        · rw [v5] at g2
          obtain ⟨lm, hlm, e10, c, bs, la, hx⟩ := h.bi hi
          have hx2 := hx
          obtain ⟨c1, c2, c3, c4, c5⟩ := hx2
          obtain ⟨b, eb⟩ : ∃ b, b = p1.toNatClampNeg := ⟨_, rfl⟩
          have hb : b < 10 := by rw [eb]; exact vin_nat u3
          have ep : p1 = nI b := by rw [eb]; exact vin_eq u3
          have eix : (10 * nI i + p1).toNatClampNeg = 10 * i + b := by rw [ep, mul10n, nI_add, nI_clamp (by omega)]
          rcases place_ex (bs := bs) (b := b) c with ⟨j, j1, j2, j3⟩ | hno
          · have eL : fO_leave sL sA i p1 v = (sL, up2 (up2 (up2 sA (4 * i + 24) j p1) (4 * i + 25) j v) (4 * i + 23) 2 (nI c)) := by
              rw [leave_eq (J := j) c2 c1 (by omega) (by omega) (fun k hk => ?_) (fun _ => ?_), show max c (j + 1) = c by omega]
              · rw [(c3 k (by omega)).2.1, ep]
                exact fun q => j3 k hk ((nI_eq (by have := (c3 k (by omega)).1; omega) (by omega)).1 q)
              · rw [(c3 j j1).2.1, j2, ep]
            have eW : fW_bid n sL sA (nI i) p1 p2 = (0, up2L sL 4 0 v.toInt64, up2 (up2 (up2 sA (4 * i + 24) j p1) (4 * i + 25) j v) (4 * i + 23) 2 (nI c)) := by
              rw [fW_bid, fX_bid, bndq_s h1, bnd_0 u1, bnd_0 r1, bnd_0 g1, ← ev, eL]
              exact wrapR_0 rfl
            have w : ∀ x, x < 22 → up2 (up2 (up2 sA (4 * i + 24) j p1) (4 * i + 25) j v) (4 * i + 23) 2 (nI c) x = sA x := fun x hx => by rw [up2_rmiss (by omega), up2_rmiss (by omega), up2_rmiss (by omega)]
            have hbid : sA 13 (10 * i + b) ≠ -1 := by
              have z := (c3 j j1).2.2.2.1
              have z2 := (c3 j j1).2.2.1
              dsimp only at z
              rw [j2] at z
              rw [z]; exact z2.ne
            rw [eW, fM_bid]
            dsimp only
            rw [ec, eix, if_neg (by rw [isLot_cg (sA := sA) (s := sL) (by rw [w 5 (by omega)])]; exact hl0), if_neg (by rw [u2]; exact n10), if_neg (by rw [r2]; exact n10), if_pos (by rw [w 9 (by omega)]; exact g2), if_neg (by rw [w 13 (by omega)]; exact hbid), ← call_eq, ← ev]
            refine EQ_mk (((h.mp.up (by omega)).up (by omega)).up (by omega)) ?_ ?_ (h.at2 hi (fun x y z => ?_) ⟨?_, ?_, ?_⟩ (fun k hk => ⟨?_, ?_⟩) (fun k hk => ?_) ?_ (fun lm2 hl2 e2 _ => ⟨lm, ?_, by omega, ?_, c, bs, la, BX.cast ?_ (hx.chg (j := j) j1 hp (fun k hk => ?_) ?_ (fun k hk hkj => ?_) ?_ (fun a ha hab => ?_) (fun a ha => ?_))⟩) (fun k hk => (((((FR.refl.up (by omega)).up (by omega)).up (by omega)).up (by omega)).up (by omega)))) <;> try simp (disch := omega) only [up2_hit, up2_miss, up2L_hit, up2L_miss]
            · exact h.2.2.1.1
            · exact h.2.2.1.2.1
            · exact h.2.2.1.2.2
            · exact h.2.2.2.2.1 k hk
            · refine ⟨⟨?_, ?_⟩, ?_, ⟨?_, ?_⟩, ⟨?_, ?_⟩, ?_, ?_, ?_, ⟨?_, ?_⟩, ?_, ?_⟩ <;> (try simp (disch := omega) only [up2_hit, up2_miss]) <;> assumption
            · rw [e10] at e2
              have := (nI_eq (by omega) (by omega)).1 e2
              omega
            · exact e10
            · exact c2.symm
            · by_cases e : k = j
              · rw [e]; simp (disch := omega) only [up2_hit, up2_miss]
                rw [(c3 j j1).2.1, j2, ep]
              · simp (disch := omega) only [up2_miss]
            · rw [j2]; simp (disch := omega) only [up2_hit]
          · have hc9 : c < 10 := by
              have z := cnt_lt (hits_f hno) 10 hb
              rw [cnt_hits c (fun j hj => (c3 j hj).1) (fun j k a b => (c4 j k a b).1)] at z
              exact z
            have eL : fO_leave sL sA i p1 v = (sL, up2 (up2 (up2 sA (4 * i + 24) c p1) (4 * i + 25) c v) (4 * i + 23) 2 (nI (c + 1))) := by
              rw [leave_eq (J := c) c2 c1 (by omega) hc9 (fun k hk => ?_) (fun q => ?_), show max c (c + 1) = c + 1 by omega]
              · rw [(c3 k hk).2.1, ep]
                exact fun q => hno k hk ((nI_eq (by have := (c3 k hk).1; omega) (by omega)).1 q)
              · omega
            have eW : fW_bid n sL sA (nI i) p1 p2 = (0, up2L sL 4 0 v.toInt64, up2 (up2 (up2 sA (4 * i + 24) c p1) (4 * i + 25) c v) (4 * i + 23) 2 (nI (c + 1))) := by
              rw [fW_bid, fX_bid, bndq_s h1, bnd_0 u1, bnd_0 r1, bnd_0 g1, ← ev, eL]
              exact wrapR_0 rfl
            have w : ∀ x, x < 22 → up2 (up2 (up2 sA (4 * i + 24) c p1) (4 * i + 25) c v) (4 * i + 23) 2 (nI (c + 1)) x = sA x := fun x hx => by rw [up2_rmiss (by omega), up2_rmiss (by omega), up2_rmiss (by omega)]
            have hbid : sA 13 (10 * i + b) = -1 := c5 b hb hno
            have el : nI lm + 1 = nI (lm + 1) := nI_add _ 1
            rw [eW, fM_bid]
            dsimp only
            rw [ec, eix, if_neg (by rw [isLot_cg (sA := sA) (s := sL) (by rw [w 5 (by omega)])]; exact hl0), if_neg (by rw [u2]; exact n10), if_neg (by rw [r2]; exact n10), if_pos (by rw [w 9 (by omega)]; exact g2), if_pos (by rw [w 13 (by omega)]; exact hbid), ← call_eq, ← ev, w 5 (by omega), e10, el]
            refine EQ_mk (((h.mp.up (by omega)).up (by omega)).up (by omega)) ?_ ?_ (h.at2 hi (fun x y z => ?_) ⟨?_, ?_, ?_⟩ (fun k hk => ⟨?_, ?_⟩) (fun k hk => ?_) ?_ (fun lm2 hl2 e2 _ => ⟨lm + 1, ?_, by omega, ?_, c + 1, (fun k => if k = c then b else bs k), (fun k => if k = c then lm else la k), BX.cast ?_ (hx.add hb hno hc9 hp (fun k hk => ?_) ?_ ?_ (fun k hk => ?_) ?_ (fun a ha hab => ?_) (fun a ha hab => ?_) ?_)⟩) (fun k hk => (((((((FR.refl.up (by omega)).up (by omega)).up (by omega)).up (by omega)).up (by omega)).up (by omega)).up (by omega)))) <;> try simp (disch := omega) only [up2_hit, up2_miss, up2L_hit, up2L_miss]
            · exact h.2.2.1.1
            · exact h.2.2.1.2.1
            · exact h.2.2.1.2.2
            · exact h.2.2.2.2.1 k hk
            · refine ⟨⟨?_, ?_⟩, ?_, ⟨?_, ?_⟩, ⟨?_, ?_⟩, ?_, ?_, ?_, ⟨?_, ?_⟩, ?_, ?_⟩ <;> (try simp (disch := omega) only [up2_hit, up2_miss]) <;> assumption
            · rw [e10] at e2
              have := (nI_eq (by omega) (by omega)).1 e2
              omega
            · exact ep
        · rw [v5] at g2
          have eW : fW_bid n sL sA (nI i) p1 p2 = (3, sL, sA) := by rw [fW_bid, fX_bid, bndq_s h1, bnd_0 u1, bnd_0 r1, bnd_n (by rw [g1]; decide), g1]; exact wrapR_3 rfl
          rw [eW, fM_bid]
          dsimp only
          rw [if_neg hl0, ec, if_neg (by rw [u2]; exact n10), if_neg (by rw [r2]; exact n10), if_neg g2]
          exact EQ_err h (by decide)
      · have eW : fW_bid n sL sA (nI i) p1 p2 = (2, sL, sA) := by rw [fW_bid, fX_bid, bndq_s h1, bnd_0 u1, bnd_n (by rw [r1]; decide), r1]; exact wrapR_2 rfl
        rw [eW, fM_bid]
        dsimp only
        rw [if_neg hl0, if_neg (by rw [u2]; exact n10), if_pos r2]
        exact EQ_err h (by decide)
    · have eW : fW_bid n sL sA (nI i) p1 p2 = (1, sL, sA) := by rw [fW_bid, fX_bid, bndq_s h1, bnd_n (by rw [u1]; decide), u1]; exact wrapR_1 rfl
      rw [eW, fM_bid]
      dsimp only
      rw [if_neg hl0, if_pos u2]
      exact EQ_err h (by decide)
  · have eW : fW_bid n sL sA p0 p1 p2 = (1, sL, sA) := by rw [fW_bid, fX_bid, bndq_n h1]; exact wrapR_1 rfl
    rw [eW, fM_bid]
    dsimp only
    rw [if_pos (h2 _)]
    exact EQ_err h (by decide)
