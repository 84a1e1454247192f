/-! the world as rows by codes: 0 the object, 1 house, 2 commissions, 3 owed; 4 to 10 the law's arrays n l v b w c d; 4*i+11 .. lot i, its offers, their buyers, their amounts -/
def up2 (f : Nat → Nat → Int32) (a k : Nat) (v : Int32) : Nat → Nat → Int32 := fun x => if x = a then upd (f x) k v else f x
def up2L (f : Nat → Nat → Int64) (a k : Nat) (v : Int64) : Nat → Nat → Int64 := fun x => if x = a then vp_updL (f x) k v else f x
theorem up2_row {f : Nat → Nat → Int32} {a k : Nat} {v : Int32} : up2 f a k v a = upd (f a) k v := if_pos rfl
theorem up2_same {f : Nat → Nat → Int32} {a k : Nat} {v : Int32} : up2 f a k v a k = v := by simp [up2, upd]
theorem up2_ne {f : Nat → Nat → Int32} {a k : Nat} {v : Int32} {b : Nat} (h : b ≠ a) : up2 f a k v b = f b := if_neg h
theorem up2L_row {f : Nat → Nat → Int64} {a k : Nat} {v : Int64} : up2L f a k v a = vp_updL (f a) k v := if_pos rfl
theorem up2L_ne {f : Nat → Nat → Int64} {a k : Nat} {v : Int64} {b : Nat} (h : b ≠ a) : up2L f a k v b = f b := if_neg h
def xfs (ad : Nat → Nat) (lr : Nat → Int64) (r : Nat → Int32) : List Value := [.ref (ad 1), .ref (ad 2), .ref (ad 3), .int (r 3), .int (r 4), .int (r 5), .long (lr 6), .long (lr 7), .long (lr 8)]
def lfs (ad : Nat → Nat) (k : Nat) (r : Nat → Int32) : List Value := [.int (r 0), .int (r 1), .ref (ad (k + 1)), .int (r 3), .int (r 4), .int (r 5), .int (r 6), .int (r 7), .int (r 8), .int (r 9), .int (r 10), .int (r 11), .int (r 12)]
def ofs (ad : Nat → Nat) (k : Nat) (r : Nat → Int32) : List Value := [.ref (ad (k + 1)), .ref (ad (k + 2)), .int (r 2)]
def hof (ad : Nat → Nat) (n : Nat) : Nat → Option Nat := fun j => if j < n then some (ad (4 * j + 11)) else none
def mlen : Nat → Nat := fun k => if k = 4 then 5 else if k = 6 then 18 else if k = 9 then 6 else if k = 10 then 10 else 60
/-- what lies at the code k -/
def gr (ad : Nat → Nat) (tI tJ tL : ClassId) (n : Nat) (lr : Nat → Int64) (r : Nat → Int32) (k : Nat) : va_E :=
  if k = 0 then .inr (0, xfs ad lr r) else if k = 1 then .inl (tL, 30, .inr (.inr (.inr (.inr (hof ad n))))) else if k = 2 then .inl (tI, 6, .inl r) else if k = 3 then .inl (tI, 10, .inl r)
  else if k < 11 then .inl (tI, mlen k, .inl r)
  else if (k - 11) % 4 = 0 then .inr (1, lfs ad k r) else if (k - 11) % 4 = 1 then .inr (2, ofs ad k r) else .inl (tI, 10, .inl r)
def wv (ad : Nat → Nat) (tI tJ tL : ClassId) (n : Nat) (sL : Nat → Nat → Int64) (sA : Nat → Nat → Int32) : va_W := (List.range (4 * n + 11)).map (fun k => (ad k, gr ad tI tJ tL n (sL k) (sA k) k))
theorem wv_get {ad : Nat → Nat} {tI tJ tL : ClassId} {n : Nat} {sL : Nat → Nat → Int64} {sA : Nat → Nat → Int32} {k : Nat} (h : k < 4 * n + 11) : (wv ad tI tJ tL n sL sA)[k]? = some (ad k, gr ad tI tJ tL n (sL k) (sA k) k) := by
  simp [wv, List.getElem?_map, List.getElem?_range h]
theorem wv_set {ad : Nat → Nat} {tI tJ tL : ClassId} {n : Nat} {sL sL' : Nat → Nat → Int64} {sA sA' : Nat → Nat → Int32} {k : Nat} {e : va_E} (he : e = gr ad tI tJ tL n (sL' k) (sA' k) k) (hL : ∀ j, j ≠ k → sL' j = sL j) (hA : ∀ j, j ≠ k → sA' j = sA j) :
    (wv ad tI tJ tL n sL sA).set k (ad k, e) = wv ad tI tJ tL n sL' sA' := by
  apply List.ext_getElem?
  intro j
  by_cases hj : j = k
  · subst hj
    by_cases hl : j < 4 * n + 11
    · rw [List.getElem?_set_self (by simp [wv]; exact hl), wv_get hl, he]
    · rw [List.getElem?_eq_none (by simp [wv]; omega), List.getElem?_eq_none (by simp [wv]; omega)]
  · rw [List.getElem?_set_ne (Ne.symm hj)]
    by_cases hl : j < 4 * n + 11
    · rw [wv_get hl, wv_get hl, hL j hj, hA j hj]
    · rw [List.getElem?_eq_none (by simp [wv]; omega), List.getElem?_eq_none (by simp [wv]; omega)]
theorem gr_L {ad : Nat → Nat} {tI tJ tL : ClassId} {n : Nat} {lr : Nat → Int64} {r : Nat → Int32} (i : Nat) : gr ad tI tJ tL n lr r (4 * i + 11) = .inr (1, lfs ad (4 * i + 11) r) := by
  unfold gr
  rw [if_neg (by omega), if_neg (by omega), if_neg (by omega), if_neg (by omega), if_neg (by omega), if_pos (by omega)]
theorem gr_O {ad : Nat → Nat} {tI tJ tL : ClassId} {n : Nat} {lr : Nat → Int64} {r : Nat → Int32} (i : Nat) : gr ad tI tJ tL n lr r (4 * i + 12) = .inr (2, ofs ad (4 * i + 12) r) := by
  unfold gr
  rw [if_neg (by omega), if_neg (by omega), if_neg (by omega), if_neg (by omega), if_neg (by omega), if_neg (by omega), if_pos (by omega)]
theorem gr_B {ad : Nat → Nat} {tI tJ tL : ClassId} {n : Nat} {lr : Nat → Int64} {r : Nat → Int32} (i : Nat) : gr ad tI tJ tL n lr r (4 * i + 13) = .inl (tI, 10, .inl r) := by
  unfold gr
  rw [if_neg (by omega), if_neg (by omega), if_neg (by omega), if_neg (by omega), if_neg (by omega), if_neg (by omega), if_neg (by omega)]
theorem gr_Am {ad : Nat → Nat} {tI tJ tL : ClassId} {n : Nat} {lr : Nat → Int64} {r : Nat → Int32} (i : Nat) : gr ad tI tJ tL n lr r (4 * i + 14) = .inl (tI, 10, .inl r) := by
  unfold gr
  rw [if_neg (by omega), if_neg (by omega), if_neg (by omega), if_neg (by omega), if_neg (by omega), if_neg (by omega), if_neg (by omega)]
theorem gr_M {ad : Nat → Nat} {tI tJ tL : ClassId} {n : Nat} {lr : Nat → Int64} {r : Nat → Int32} {k : Nat} (h1 : 4 ≤ k) (h2 : k < 11) : gr ad tI tJ tL n lr r k = .inl (tI, mlen k, .inl r) := by
  unfold gr
  rw [if_neg (by omega), if_neg (by omega), if_neg (by omega), if_neg (by omega), if_pos h2]
abbrev tys3 (tI tJ tL : ClassId) : List (ClassId × FieldType) := [(tI, .int), (tL, .object "DroitLine$Lot")]
def GW (D : va_G) (tI tJ tL : ClassId) (A : Nat → Prop) (ad : Nat → Nat) (n : Nat) (sL : Nat → Nat → Int64) (sA : Nat → Nat → Int32) (H : Heap) : Prop := va_P D classes (wv ad tI tJ tL n sL sA) H ∧ va_D A (wv ad tI tJ tL n sL sA)
theorem GW.kept {D : va_G} {tI tJ tL : ClassId} {A : Nat → Prop} {ad : Nat → Nat} {n : Nat} {sL : Nat → Nat → Int64} {sA : Nat → Nat → Int32} {H H1 : Heap} (h : GW D tI tJ tL A ad n sL sA H) (hq : ∀ q : Nat, q < H.size → H1[q]? = H[q]?) : GW D tI tJ tL A ad n sL sA H1 := ⟨h.1.kept (fun k q hk => hq q.1 (h.1 k q hk).lt), h.2⟩
def badKind : Cond → Bool
  | .declares _ | .castable .. | .fieldLinkNest .. | .methodLinkNest .. => true
  | _ => false
def wBad : List Cond := lw_tbl.filter badKind
theorem bad_warm {w : Cond} (h : badKind w = true) {s U : State} (hW : s.WarmedH U.vm) (hZ : va_Nw w s) : va_Nw w U := by
  cases w <;> first | (simp [badKind] at h; done) | exact va_Nw.warmD hW hZ | exact va_Nw.warmC hW hZ | exact va_Nw.warmF hW hZ | exact va_Nw.warmM hW hZ
theorem bad_same {w : Cond} (h : badKind w = true) {u U : State} (hv : u.vm = U.vm) (hZ : va_Nw w u) : va_Nw w U := by
  cases w <;> first | (simp [badKind] at h; done) | exact va_Nw.same rfl hv hZ
abbrev XI : String := "java/lang/IndexOutOfBoundsException"
abbrev XG : String := "java/lang/IllegalArgumentException"
abbrev XS : String := "java/lang/IllegalStateException"
def strs : List (Nat × String) := [(181, "no such seller"), (187, "out of its range"), (43, "no room for another lot"), (178, "no such lot"), (183, "no such buyer"), (190, "the lot is in another state"), (139, "nothing is owed"), (147, "no advance for this lot any more"), (171, "the last day would be behind")]
def ncs : List (String × String) := [(XI, XG), (XI, XS), (XG, XI), (XG, XS), (XS, XI), (XS, XG)]
/-- what throwing wants of the start, kept by all -/
def GE (sg : Nat → Nat) (A : Nat → Prop) (U : State) (H : Heap) : Prop := vx_Zq Bundle.tN "UNASSIGNED_STACK" Bundle.steD A U H ∧ vx_Zq Bundle.tN "SUPPRESSED_SENTINEL" Bundle.listD A U H ∧ (∀ q ∈ strs, vk_R "DroitLine" q.1 q.2 (sg q.1) U) ∧ (∀ w ∈ wBad, va_Nw w U) ∧ (∀ q ∈ ncs, va_Nc q.1 q.2 U)
theorem GE.warm {sg : Nat → Nat} {A : Nat → Prop} {s U : State} {H H1 : Heap} (h : GE sg A s H) (hW : s.WarmedH U.vm) (hq : ∀ a : Nat, a < H.size → ¬ A a → H1[a]? = H[a]?) : GE sg A U H1 :=
  ⟨(h.1.moved hW.alike).kept hq, (h.2.1.moved hW.alike).kept hq, fun q hq => (h.2.2.1 q hq).warm hW, fun w hw => bad_warm (List.mem_filter.mp hw).2 hW (h.2.2.2.1 w hw), fun q hq => (h.2.2.2.2 q hq).moved hW.alike⟩
theorem GE.same {sg : Nat → Nat} {A : Nat → Prop} {s U : State} {H : Heap} (h : GE sg A s H) (hv : s.vm = U.vm) : GE sg A U H := by
  have ha : s.vm.Alike U.vm := by rw [hv]; exact Vm.Alike.refl _
  exact ⟨h.1.moved ha, h.2.1.moved ha, fun q hq => (h.2.2.1 q hq).same hv.symm, fun w hw => bad_same (List.mem_filter.mp hw).2 hv (h.2.2.2.1 w hw), fun q hq => (h.2.2.2.2 q hq).moved ha⟩
/-- what holds of a method's start and stays: fresh cells are free, the tables, what throwing wants -/
def GC (D : va_G) (tI tJ tL : ClassId) (A : Nat → Prop) (sg : Nat → Nat) (s : State) : Prop := (∀ q, s.heap.size ≤ q → A q) ∧ va_K D classes (tys3 tI tJ tL) s ∧ GE sg A s s.heap
def GP (D : va_G) (tI tJ tL : ClassId) (A : Nat → Prop) (sg : Nat → Nat) (ad : Nat → Nat) (n : Nat) (sL : Nat → Nat → Int64) (sA : Nat → Nat → Int32) (U : State) : Prop := GW D tI tJ tL A ad n sL sA U.heap ∧ GC D tI tJ tL A sg U
section G1
variable {D : va_G} {tI tJ tL : ClassId} {A : Nat → Prop} {sg ad : Nat → Nat} {n : Nat} {sL : Nat → Nat → Int64} {sA : Nat → Nat → Int32}
theorem GC.same {u U : State} (h : GC D tI tJ tL A sg u) (hv : u.vm = U.vm) (hh : U.heap = u.heap) : GC D tI tJ tL A sg U := by
  have ha : u.vm.Alike U.vm := by rw [hv]; exact Vm.Alike.refl _
  exact ⟨fun q hq => h.1 q (by rw [← hh]; exact hq), h.2.1.moved ha, by rw [hh]; exact h.2.2.same hv⟩
theorem GP.blind {av : List Value} : FrameBlind (va_Pc av (GP D tI tJ tL A sg ad n sL sA)) := fun a U g mk q => ⟨q.1, by exact q.2.1, by exact q.2.2.same rfl rfl⟩
theorem GC.call {s U : State} {H : Heap} {locs : List Loc} (h : GC D tI tJ tL A sg s) (hS : va_S A s.heap H locs) (hU : U.heap = H) (hW : s.WarmedH U.vm) : GC D tI tJ tL A sg U :=
  ⟨fun q hq => h.1 q (Nat.le_trans hS.1 (by rw [← hU]; exact hq)), h.2.1.moved hW.alike, by rw [hU]; exact h.2.2.warm hW (fun a h1 h2 => hS.2.1 a h1 h2)⟩
theorem GP.call {s U : State} {H : Heap} {locs : List Loc} (h : GC D tI tJ tL A sg s) (hG : GW D tI tJ tL A ad n sL sA H) (hS : va_S A s.heap H locs) (hU : U.heap = H) (hW : s.WarmedH U.vm) : GP D tI tJ tL A sg ad n sL sA U := ⟨by rw [hU]; exact hG, h.call hS hU hW⟩
end G1
