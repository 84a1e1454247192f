/-! what stands between the class and the law's own rows -/
def NUM (n : Nat) (sA : NA) : Prop := (n ≤ 6 ∧ sA 0 3 = nI n ∧ sA 4 0 = nI n) ∧ (∃ td : Nat, td ≤ 7300 ∧ sA 0 4 = nI td ∧ sA 4 2 = nI td) ∧ ∃ rt : Nat, rt ≤ 100 ∧ sA 0 5 = nI rt ∧ sA 4 3 = nI rt
def COM (sA : NA) : Prop := ∀ k, k < 6 → ∃ c : Nat, c ≤ 50 ∧ sA 2 k = nI c ∧ sA 9 k = nI c
def s10 (d : Nat → Nat) : Nat := d 0 + d 1 + d 2 + d 3 + d 4 + d 5 + d 6 + d 7 + d 8 + d 9
def DEB (K : Nat) (sA : NA) : Prop := ∃ (dd : Nat → Nat) (g : Nat), (∀ k, k < 10 → sA 3 k = nI (dd k) ∧ sA 10 k = nI (dd k)) ∧ sA 4 4 = nI g ∧ g + s10 dd ≤ 1000000 * K
/-- lot i, bids apart -/
def SI (sA : NA) (i : Nat) : Prop :=
  (sA (4 * i + 11) 0 = sA 5 (10 * i) ∧ vp_in (sA 5 (10 * i)) 6) ∧ (sA (4 * i + 11) 1 = sA 5 (10 * i + 2) ∧ (sA 5 (10 * i + 2) = -1 ∨ ∃ k : Nat, k ≤ 2000 ∧ sA 5 (10 * i + 2) = nI k)) ∧ (sA (4 * i + 11) 3 = sA 5 (10 * i + 1) ∧ P6 (sA 5 (10 * i + 1))) ∧
  (sA (4 * i + 11) 4 = sA 5 (10 * i + 3) ∧ (sA 5 (10 * i + 3) = 0 ∨ sA 5 (10 * i + 3) = 1 ∨ sA 5 (10 * i + 3) = 2 ∨ sA 5 (10 * i + 3) = 3 ∨ sA 5 (10 * i + 3) = 4)) ∧
  ((2 ≤ sA 5 (10 * i + 3) ∧ sA (4 * i + 11) 5 = sA 5 (10 * i + 4) ∧ sA (4 * i + 11) 6 = sA 5 (10 * i + 5) ∧ sA (4 * i + 11) 7 = 2000 + sA 5 (10 * i + 6) / 365) ∨ (¬ 2 ≤ sA 5 (10 * i + 3) ∧ sA (4 * i + 11) 5 = -1 ∧ sA (4 * i + 11) 6 = -1)) ∧
  (vp_in (sA 5 (10 * i + 4)) 10 ∧ P6 (sA 5 (10 * i + 5)) ∧ ∃ k : Nat, k ≤ 7300 ∧ sA 5 (10 * i + 6) = nI k) ∧
  ((sA 5 (10 * i + 7) = 0 ∧ sA (4 * i + 11) 8 = -1) ∨ ∃ q : Nat, q < 10 ∧ sA 5 (10 * i + 7) = nI (q + 1) ∧ sA (4 * i + 11) 8 = nI q) ∧ (sA (4 * i + 11) 9 = sA 5 (10 * i + 8) ∧ P6 (sA 5 (10 * i + 8))) ∧
  (sA (4 * i + 11) 10 = sA 6 (3 * i) ∧ P6 (sA 6 (3 * i))) ∧ (sA (4 * i + 11) 11 = sA 6 (3 * i + 1) ∧ ∃ k : Nat, k ≤ 7300 ∧ sA 6 (3 * i + 1) = nI k) ∧ sA (4 * i + 11) 12 = sA 6 (3 * i + 2) ∧
  (-20000000 ≤ (sA 5 (10 * i + 9)).toInt ∧ (sA 5 (10 * i + 9)).toInt ≤ 20000000)
/-- its bids: the class's in the order in which they were left, the law's by buyers -/
def BX (lm : Nat) (cnt : Int32) (rb ra : Nat → Int32) (bid left : Nat → Int32) (c : Nat) (bs la : Nat → Nat) : Prop :=
  c ≤ 10 ∧ cnt = nI c ∧ (∀ j, j < c → bs j < 10 ∧ rb j = nI (bs j) ∧ PC (ra j) ∧ bid (bs j) = ra j ∧ la j < lm ∧ left (bs j) = nI (la j)) ∧
  (∀ j k, j < k → k < c → bs j ≠ bs k ∧ la j < la k) ∧ ∀ b, b < 10 → (∀ j, j < c → bs j ≠ b) → bid b = -1
def BI (lm : Nat) (sA : NA) (i : Nat) : Prop := ∃ (c : Nat) (bs la : Nat → Nat), BX lm (sA (4 * i + 12) 2) (sA (4 * i + 13)) (sA (4 * i + 14)) (fun b => sA 7 (10 * i + b) - 1) (fun b => sA 8 (10 * i + b)) c bs la
def LTS (n K : Nat) (sA : NA) : Prop := ∃ lm : Nat, lm ≤ K ∧ sA 4 1 = nI lm ∧ ∀ i, i < n → SI sA i ∧ BI lm sA i
/-- the law's rows of lots that are not there yet -/
def ZN (n : Nat) (sA : NA) : Prop := ∀ i, n ≤ i → i < 6 → (∀ j, j < 10 → sA 5 (10 * i + j) = 0 ∧ sA 7 (10 * i + j) = 0) ∧ ∀ j, j < 3 → sA 6 (3 * i + j) = 0
/-! money, lot by lot -/
def shW (sA : NA) (i : Nat) : Int32 := fW_share (fun _ _ => 0) sA i
def mI (sA : NA) (i : Nat) : Int64 := if sA 5 (10 * i + 3) ≤ 2 then 0 else (sA 5 (10 * i + 5) + fW_fee (sA 5 (10 * i + 5))).toInt64
def mO (sA : NA) (i : Nat) : Int64 := (sA 6 (3 * i)).toInt64 + (if sA 5 (10 * i + 3) = 4 then (sA 5 (10 * i + 9) + shW sA i).toInt64 else 0)
def mK (sA : NA) (i : Nat) : Int64 := (if sA 5 (10 * i + 3) ≤ 2 then 0 else (fW_fee (sA 5 (10 * i + 5))).toInt64) + (if sA 5 (10 * i + 3) = 4 then (sA 5 (10 * i + 5) - sA 5 (10 * i + 9) - shW sA i - sA 6 (3 * i)).toInt64 else 0)
def sm (f : Nat → Int64) : Nat → Int64
  | 0 => 0
  | n + 1 => sm f n + f n
def MON (n : Nat) (sL : NL) (sA : NA) : Prop := sL 0 6 = (sA 4 4).toInt64 + sm (mI sA) n ∧ sL 0 7 = sm (mO sA) n ∧ sL 0 8 = (sA 4 4).toInt64 + sm (mK sA) n
def INV (n K : Nat) (sL : NL) (sA : NA) : Prop := NUM n sA ∧ COM sA ∧ DEB K sA ∧ LTS n K sA ∧ ZN n sA ∧ MON n sL sA
theorem sm_cg {f g : Nat → Int64} : ∀ n, (∀ k, k < n → f k = g k) → sm f n = sm g n
  | 0, _ => rfl
  | n + 1, h => by rw [sm, sm, sm_cg n (fun k hk => h k (by omega)), h n (by omega)]
theorem sm_at {f g : Nat → Int64} {i : Nat} {a : Int64} (ha : g i = f i + a) (h : ∀ k, k ≠ i → g k = f k) : ∀ n, i < n → sm g n = sm f n + a
  | 0, hi => by omega
  | n + 1, hi => by
    rw [sm, sm]
    by_cases e : n = i
    · rw [sm_cg n (fun k hk => h k (by omega)), e, ha, ← e, Int64.add_assoc]
    · rw [sm_at ha h n (by omega), h n e, Int64.add_assoc, Int64.add_comm a, Int64.add_assoc]
/-! frames -/
def FR (sA sA2 : NA) (k : Nat) : Prop := (∀ r, r < 4 → sA2 (4 * k + 11 + r) = sA (4 * k + 11 + r)) ∧ (∀ j, j < 10 → sA2 5 (10 * k + j) = sA 5 (10 * k + j) ∧ sA2 7 (10 * k + j) = sA 7 (10 * k + j) ∧ sA2 8 (10 * k + j) = sA 8 (10 * k + j)) ∧ ∀ j, j < 3 → sA2 6 (3 * k + j) = sA 6 (3 * k + j)
theorem FR.refl {sA : NA} {k : Nat} : FR sA sA k := ⟨fun _ _ => rfl, fun _ _ => ⟨rfl, rfl, rfl⟩, fun _ _ => rfl⟩
theorem FR.up {sA s1 : NA} {k c j : Nat} {v : Int32} (h : FR sA s1 k) (hc : (c < 11 ∧ c ≠ 5 ∧ c ≠ 6 ∧ c ≠ 7 ∧ c ≠ 8) ∨ (11 ≤ c ∧ (c < 4 * k + 11 ∨ 4 * k + 15 ≤ c)) ∨ ((c = 5 ∨ c = 7 ∨ c = 8) ∧ (j < 10 * k ∨ 10 * k + 10 ≤ j)) ∨ (c = 6 ∧ (j < 3 * k ∨ 3 * k + 3 ≤ j))) : FR sA (up2 s1 c j v) k := by
  refine ⟨fun r hr => ?_, fun b hb => ⟨?_, ?_, ?_⟩, fun b hb => ?_⟩
  · rw [up2_rmiss (by omega)]; exact h.1 r hr
  · rw [up2_miss (by omega)]; exact (h.2.1 b hb).1
  · rw [up2_miss (by omega)]; exact (h.2.1 b hb).2.1
  · rw [up2_miss (by omega)]; exact (h.2.1 b hb).2.2
  · rw [up2_miss (by omega)]; exact h.2.2 b hb
theorem SI.fr {sA sA2 : NA} {k : Nat} (h : SI sA k) (f : FR sA sA2 k) : SI sA2 k := by
  unfold SI at h ⊢
  have r : sA2 (4 * k + 11) = sA (4 * k + 11) := f.1 0 (by omega)
  have r0 : sA2 5 (10 * k) = sA 5 (10 * k) := (f.2.1 0 (by omega)).1
  have v0 : sA2 6 (3 * k) = sA 6 (3 * k) := f.2.2 0 (by omega)
  rw [r, r0, v0, (f.2.1 1 (by omega)).1, (f.2.1 2 (by omega)).1, (f.2.1 3 (by omega)).1, (f.2.1 4 (by omega)).1, (f.2.1 5 (by omega)).1, (f.2.1 6 (by omega)).1, (f.2.1 7 (by omega)).1, (f.2.1 8 (by omega)).1, (f.2.1 9 (by omega)).1, f.2.2 1 (by omega), f.2.2 2 (by omega)]
  exact h
theorem BX.fr {lm lm2 : Nat} {cnt : Int32} {rb ra bid left bid2 left2 : Nat → Int32} {c : Nat} {bs la : Nat → Nat} (h : BX lm cnt rb ra bid left c bs la) (hl : lm ≤ lm2) (hb : ∀ b, b < 10 → bid2 b = bid b ∧ left2 b = left b) : BX lm2 cnt rb ra bid2 left2 c bs la := by
  obtain ⟨h1, h2, h3, h4, h5⟩ := h
  refine ⟨h1, h2, fun j hj => ?_, h4, fun b hb2 hn => ?_⟩
  · obtain ⟨a1, a2, a3, a4, a5, a6⟩ := h3 j hj
    exact ⟨a1, a2, a3, by rw [(hb _ a1).1]; exact a4, by omega, by rw [(hb _ a1).2]; exact a6⟩
  · rw [(hb b hb2).1]; exact h5 b hb2 hn
/-- its bids alone -/
def FB (sA sA2 : NA) (k : Nat) : Prop := sA2 (4 * k + 12) 2 = sA (4 * k + 12) 2 ∧ sA2 (4 * k + 13) = sA (4 * k + 13) ∧ sA2 (4 * k + 14) = sA (4 * k + 14) ∧ ∀ j, j < 10 → sA2 7 (10 * k + j) = sA 7 (10 * k + j) ∧ sA2 8 (10 * k + j) = sA 8 (10 * k + j)
theorem FB.refl {sA : NA} {k : Nat} : FB sA sA k := ⟨rfl, rfl, rfl, fun _ _ => ⟨rfl, rfl⟩⟩
theorem FB.up {sA s1 : NA} {k c j : Nat} {v : Int32} (h : FB sA s1 k) (hc : (c < 11 ∧ c ≠ 7 ∧ c ≠ 8) ∨ (11 ≤ c ∧ (c < 4 * k + 12 ∨ 4 * k + 15 ≤ c))) : FB sA (up2 s1 c j v) k := by
  refine ⟨?_, ?_, ?_, fun b hb => ⟨?_, ?_⟩⟩
  · rw [up2_rmiss (by omega)]; exact h.1
  · rw [up2_rmiss (by omega)]; exact h.2.1
  · rw [up2_rmiss (by omega)]; exact h.2.2.1
  · rw [up2_rmiss (by omega)]; exact (h.2.2.2 b hb).1
  · rw [up2_rmiss (by omega)]; exact (h.2.2.2 b hb).2
theorem BI.fb {lm lm2 : Nat} {sA sA2 : NA} {k : Nat} (h : BI lm sA k) (hl : lm ≤ lm2) (f : FB sA sA2 k) : BI lm2 sA2 k := by
  obtain ⟨c, bs, la, h⟩ := h
  refine ⟨c, bs, la, ?_⟩
  rw [f.1, f.2.1, f.2.2.1]
  exact h.fr hl (fun b hb => ⟨by rw [(f.2.2.2 b hb).1], (f.2.2.2 b hb).2⟩)
theorem FR.fb {sA sA2 : NA} {k : Nat} (f : FR sA sA2 k) : FB sA sA2 k := ⟨by rw [show sA2 (4 * k + 12) = sA (4 * k + 12) from f.1 1 (by omega)], f.1 2 (by omega), f.1 3 (by omega), fun j hj => ⟨(f.2.1 j hj).2.1, (f.2.1 j hj).2.2⟩⟩
theorem shW_fr {sA sA2 : NA} {k : Nat} (h2 : sA2 5 (10 * k + 2) = sA 5 (10 * k + 2)) (h3 : sA2 5 (10 * k + 3) = sA 5 (10 * k + 3)) (h5 : sA2 5 (10 * k + 5) = sA 5 (10 * k + 5)) (h6 : sA2 5 (10 * k + 6) = sA 5 (10 * k + 6)) : shW sA2 k = shW sA k := by
  unfold shW fW_share
  rw [h2, h3, h5, h6]
theorem FR.sh {sA sA2 : NA} {k : Nat} (f : FR sA sA2 k) : shW sA2 k = shW sA k := shW_fr (f.2.1 2 (by omega)).1 (f.2.1 3 (by omega)).1 (f.2.1 5 (by omega)).1 (f.2.1 6 (by omega)).1
theorem FR.cI {sA sA2 : NA} {k : Nat} (f : FR sA sA2 k) : mI sA2 k = mI sA k := by
  unfold mI
  rw [(f.2.1 3 (by omega)).1, (f.2.1 5 (by omega)).1]
theorem FR.cO {sA sA2 : NA} {k : Nat} (f : FR sA sA2 k) : mO sA2 k = mO sA k := by
  unfold mO
  rw [show sA2 6 (3 * k) = sA 6 (3 * k) from f.2.2 0 (by omega), f.sh, (f.2.1 3 (by omega)).1, (f.2.1 9 (by omega)).1]
theorem FR.cK {sA sA2 : NA} {k : Nat} (f : FR sA sA2 k) : mK sA2 k = mK sA k := by
  unfold mK
  rw [show sA2 6 (3 * k) = sA 6 (3 * k) from f.2.2 0 (by omega), f.sh, (f.2.1 3 (by omega)).1, (f.2.1 5 (by omega)).1, (f.2.1 9 (by omega)).1]
theorem NUM.cg {n : Nat} {sA sA2 : NA} (h : NUM n sA) (h0 : ∀ y, (y = 3 ∨ y = 4 ∨ y = 5) → sA2 0 y = sA 0 y) (h4 : ∀ y, (y = 0 ∨ y = 2 ∨ y = 3) → sA2 4 y = sA 4 y) : NUM n sA2 := by
  unfold NUM at h ⊢
  rw [h0 3 (by omega), h0 4 (by omega), h0 5 (by omega), h4 0 (by omega), h4 2 (by omega), h4 3 (by omega)]
  exact h
theorem COM.cg {sA sA2 : NA} (h : COM sA) (h2 : ∀ k, k < 6 → sA2 2 k = sA 2 k) (h9 : ∀ k, k < 6 → sA2 9 k = sA 9 k) : COM sA2 := fun k hk => by
  rw [h2 k hk, h9 k hk]; exact h k hk
theorem DEB.cg {K K2 : Nat} {sA sA2 : NA} (h : DEB K sA) (hK : K ≤ K2) (h3 : ∀ k, k < 10 → sA2 3 k = sA 3 k) (h10 : ∀ k, k < 10 → sA2 10 k = sA 10 k) (h4 : sA2 4 4 = sA 4 4) : DEB K2 sA2 := by
  obtain ⟨dd, g, h1, h2, h5⟩ := h
  exact ⟨dd, g, fun k hk => by rw [h3 k hk, h10 k hk]; exact h1 k hk, by rw [h4]; exact h2, by omega⟩
theorem LTS.at {n K : Nat} {sA sA2 : NA} (h : LTS n K sA) {i : Nat} (hS : SI sA2 i) (hB : ∀ lm, lm ≤ K → sA 4 1 = nI lm → BI lm sA i → ∃ lm2, lm ≤ lm2 ∧ lm2 ≤ K + 1 ∧ sA2 4 1 = nI lm2 ∧ BI lm2 sA2 i) (hi : i < n) (hf : ∀ k, k ≠ i → FR sA sA2 k) : LTS n (K + 1) sA2 := by
  obtain ⟨lm, h1, h2, h3⟩ := h
  obtain ⟨lm2, b1, b2, b3, b4⟩ := hB lm h1 h2 (h3 i hi).2
  refine ⟨lm2, b2, b3, fun k hk => ?_⟩
  by_cases e : k = i
  · rw [e]; exact ⟨hS, b4⟩
  · exact ⟨(h3 k hk).1.fr (hf k e), (h3 k hk).2.fb b1 (hf k e).fb⟩
theorem ZN.fr {n : Nat} {sA sA2 : NA} (h : ZN n sA) (f : ∀ k, n ≤ k → FR sA sA2 k) : ZN n sA2 := fun i h1 h2 => ⟨fun j hj => by rw [((f i h1).2.1 j hj).1, ((f i h1).2.1 j hj).2.1]; exact (h i h1 h2).1 j hj, fun j hj => by rw [(f i h1).2.2 j hj]; exact (h i h1 h2).2 j hj⟩
/-- one lot changed -/
theorem INV.at {n K : Nat} {sL sL2 : NL} {sA sA2 : NA} (h : INV n K sL sA) {i : Nat} (hi : i < n) (a b c : Int64) (hN : NUM n sA2) (hC : COM sA2) (hD : DEB (K + 1) sA2) (hS : SI sA2 i)
    (hB : ∀ lm, lm ≤ K → sA 4 1 = nI lm → BI lm sA i → ∃ lm2, lm ≤ lm2 ∧ lm2 ≤ K + 1 ∧ sA2 4 1 = nI lm2 ∧ BI lm2 sA2 i) (hf : ∀ k, k ≠ i → FR sA sA2 k) (h44 : sA2 4 4 = sA 4 4)
    (m1 : sL2 0 6 = sL 0 6 + a ∧ mI sA2 i = mI sA i + a) (m2 : sL2 0 7 = sL 0 7 + b ∧ mO sA2 i = mO sA i + b) (m3 : sL2 0 8 = sL 0 8 + c ∧ mK sA2 i = mK sA i + c) : INV n (K + 1) sL2 sA2 := by
  obtain ⟨-, -, -, hl, hz, w1, w2, w3⟩ := h
  refine ⟨hN, hC, hD, hl.at hS hB hi hf, hz.fr (fun k hk => hf k (by omega)), ?_, ?_, ?_⟩
  · rw [m1.1, w1, h44, sm_at m1.2 (fun k hk => (hf k hk).cI) n hi, Int64.add_assoc]
  · rw [m2.1, w2, sm_at m2.2 (fun k hk => (hf k hk).cO) n hi]
  · rw [m3.1, w3, h44, sm_at m3.2 (fun k hk => (hf k hk).cK) n hi, Int64.add_assoc]
/-- no lot changed -/
theorem INV.all {n K : Nat} {sL sL2 : NL} {sA sA2 : NA} (h : INV n K sL sA) (hN : NUM n sA2) (hC : COM sA2) (hD : DEB (K + 1) sA2) (h41 : sA2 4 1 = sA 4 1) (hf : ∀ k, FR sA sA2 k) (a : Int64) (h44 : (sA2 4 4).toInt64 = (sA 4 4).toInt64 + a)
    (m1 : sL2 0 6 = sL 0 6 + a) (m2 : sL2 0 7 = sL 0 7) (m3 : sL2 0 8 = sL 0 8 + a) : INV n (K + 1) sL2 sA2 := by
  obtain ⟨-, -, -, ⟨lm, l1, l2, l3⟩, hz, w1, w2, w3⟩ := h
  refine ⟨hN, hC, hD, ⟨lm, by omega, by rw [h41]; exact l2, fun k hk => ⟨(l3 k hk).1.fr (hf k), (l3 k hk).2.fb (Nat.le_refl _) (hf k).fb⟩⟩, hz.fr (fun k _ => hf k), ?_, ?_, ?_⟩
  · rw [m1, w1, h44, sm_cg n (fun k _ => (hf k).cI), Int64.add_assoc, Int64.add_assoc, Int64.add_comm a]
  · rw [m2, w2, sm_cg n (fun k _ => (hf k).cO)]
  · rw [m3, w3, h44, sm_cg n (fun k _ => (hf k).cK), Int64.add_assoc, Int64.add_assoc, Int64.add_comm a]
theorem INV.n6 {n K : Nat} {sL : NL} {sA : NA} (h : INV n K sL sA) : n ≤ 6 := h.1.1.1
theorem INV.si {n K : Nat} {sL : NL} {sA : NA} (h : INV n K sL sA) {i : Nat} (hi : i < n) : SI sA i := by
  obtain ⟨-, -, -, ⟨lm, -, -, h3⟩, -⟩ := h
  exact (h3 i hi).1
theorem INV.bi {n K : Nat} {sL : NL} {sA : NA} (h : INV n K sL sA) {i : Nat} (hi : i < n) : ∃ lm, lm ≤ K ∧ sA 4 1 = nI lm ∧ BI lm sA i := by
  obtain ⟨-, -, -, ⟨lm, h1, h2, h3⟩, -⟩ := h
  exact ⟨lm, h1, h2, (h3 i hi).2⟩
theorem INV.hcnt {n K : Nat} {sL : NL} {sA : NA} (h : INV n K sL sA) : ∀ i, i < n → ∃ cn : Nat, cn ≤ 10 ∧ sA (4 * i + 12) 2 = nI cn := by
  intro i hi
  obtain ⟨lm, -, -, c, bs, la, h1, h2, -⟩ := h.bi hi
  exact ⟨c, h1, h2⟩
theorem buyer_n {q : Nat} (hq : q < 10) : fX_checkBuyer (nI q) = 0 := by
  unfold fX_checkBuyer
  rw [if_neg (nI_pos (by omega)), if_pos (show nI q < (10 : Int32) from nI_lt (b := 10) hq (by omega))]
theorem INV.hgap {n K : Nat} {sL : NL} {sA : NA} (h : INV n K sL sA) : ∀ i, i < n → sA (4 * i + 11) 8 = (-1) ∨ fX_checkBuyer (sA (4 * i + 11) 8) = 0 := by
  intro i hi
  obtain ⟨-, -, -, -, -, -, g, -⟩ := h.si hi
  rcases g with ⟨-, g⟩ | ⟨q, hq, -, g⟩
  · exact Or.inl g
  · rw [g]; exact Or.inr (buyer_n hq)
theorem find_n {n i : Nat} (hn : n ≤ 30) (hi : i < n) : fX_findLot n (nI i) = some i := by
  have c : (30 : Int32) ≤ nI i ↔ 30 ≤ i := nI_leI (a := 30) (by omega) (by omega)
  unfold fX_findLot
  rw [nI_clamp (by omega), if_neg (nI_pos (by omega)), if_neg (fun q => absurd (c.1 q) (by omega)), if_pos hi]
theorem INV.find {n K : Nat} {sL : NL} {sA : NA} (h : INV n K sL sA) {i : Nat} (hi : i < n) : fX_findLot n (nI i) = some i := find_n (by have := h.n6; omega) hi
