/-- 0 to a million -/
def P6 (x : Int32) : Prop := ∃ k : Nat, k ≤ 1000000 ∧ x = nI k
/-- lot i of the class and of the reference, bids apart -/
def SI (sA : NA) (i : Nat) : Prop :=
  (sA (4 * i + 22) 0 = sA 6 i ∧ vp_in (sA 6 i) 6) ∧ (sA (4 * i + 22) 1 = sA 8 i ∧ (sA 8 i = -1 ∨ ∃ k : Nat, k ≤ 2000 ∧ sA 8 i = nI k)) ∧ (sA (4 * i + 22) 3 = sA 7 i ∧ P6 (sA 7 i)) ∧
  (sA (4 * i + 22) 4 = sA 9 i ∧ (sA 9 i = 0 ∨ sA 9 i = 1 ∨ sA 9 i = 2 ∨ sA 9 i = 3 ∨ sA 9 i = 4)) ∧
  ((2 ≤ sA 9 i ∧ sA (4 * i + 22) 5 = sA 10 i ∧ vp_in (sA 10 i) 10 ∧ sA (4 * i + 22) 6 = sA 11 i ∧ P6 (sA 11 i) ∧ sA (4 * i + 22) 7 = 2000 + sA 12 i / 365) ∨ (¬ 2 ≤ sA 9 i ∧ sA (4 * i + 22) 5 = -1 ∧ sA (4 * i + 22) 6 = -1)) ∧
  (sA (4 * i + 22) 8 = sA 15 i ∧ (sA 15 i = -1 ∨ vp_in (sA 15 i) 10)) ∧ (sA (4 * i + 22) 9 = sA 16 i ∧ P6 (sA 16 i)) ∧ (sA (4 * i + 22) 10 = sA 17 i ∧ P6 (sA 17 i)) ∧ sA (4 * i + 22) 11 = sA 18 i ∧ sA (4 * i + 22) 12 = sA 19 i
/-- its bids: the class's in the order in which they were left, the reference's by buyers -/
def BX (lm : Nat) (cnt : Int32) (rb ra : Nat → Int32) (bid left : Nat → Int32) (c : Nat) (bs la : Nat → Nat) : Prop :=
  c ≤ 10 ∧ cnt = nI c ∧ (∀ j, j < c → bs j < 10 ∧ rb j = nI (bs j) ∧ P6 (ra j) ∧ bid (bs j) = ra j ∧ la j < lm ∧ left (bs j) = nI (la j)) ∧
  (∀ j k, j < k → k < c → bs j ≠ bs k ∧ la j < la k) ∧ ∀ b, b < 10 → (∀ j, j < c → bs j ≠ b) → bid b = -1
def BI (lm : Nat) (sA : NA) (i : Nat) : Prop := ∃ (c : Nat) (bs la : Nat → Nat), BX lm (sA (4 * i + 23) 2) (sA (4 * i + 24)) (sA (4 * i + 25)) (fun b => sA 13 (10 * i + b)) (fun b => sA 14 (10 * i + b)) c bs la
/-- what the reference keeps of lots that are not there yet -/
def ZN (n : Nat) (sA : NA) : Prop := ∀ i, n ≤ i → ∀ x, 16 ≤ x → x < 20 → sA x i = 0
def INV (n K : Nat) (sL : NL) (sA : NA) : Prop :=
  (n ≤ 30 ∧ sA 0 3 = nI n ∧ sA 5 0 = nI n) ∧ (sA 0 4 = sA 5 19 ∧ sA 0 5 = sA 5 18) ∧ (sL 0 6 = sL 5 20 ∧ sL 0 7 = sL 5 21 ∧ sL 0 8 = sL 5 22) ∧
  (∀ k, k < 6 → sA 2 k = sA 21 k) ∧ (∀ k, k < 10 → sA 3 k = sA 20 k) ∧ ∃ lm, lm ≤ K ∧ sA 5 10 = nI lm ∧ (∀ i, i < n → SI sA i ∧ BI lm sA i) ∧ ZN n sA
/-- what the reference's calls want of the world -/
def MP (n : Nat) (sA : NA) : Prop := n ≤ 30 ∧ sA 5 0 = nI n ∧ (∀ a : Nat, a < n → sA 15 a = (-1) ∨ vp_in (sA 15 a) 10) ∧ ∀ a : Nat, a < n → vp_in (sA 6 a) 6
/-- class, then reference: alike, and the invariant behind them -/
def EQ (n K : Nat) (Wr Mf : Int32 × NL × NA) : Prop := MP n Wr.2.2 ∧ fM_thrown Mf.2.1 Mf.2.2 = Wr.1 ∧ (Wr.1 = 0 → Mf.2.1 4 0 = Mf.1.toInt64) ∧ INV n (K + 1) Mf.2.1 Mf.2.2
