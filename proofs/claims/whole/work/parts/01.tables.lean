-- ===== PART A: goes FIRST, ahead of the names: the tables' words, and 'selects' of the private methods out of them =====
/-- a private method of a class that the tables say can be made, by its rows of tables_1 -/
def lw_okq (q : MethodName × Nat) : Prop := (q.1.cls ≠ "java/lang/invoke/MethodHandle" ∧ q.1.cls ≠ "java/lang/invoke/VarHandle") ∧ Cond.instantiable q.1.cls q.2 ∈ tables_1 ∧ Cond.privateMethod q.1 ∈ tables_1 ∧ Cond.instanceMethod q.1 ∈ tables_1
theorem lw_p0 : lw_okq (⟨"java/lang/Throwable", "fillInStackTrace", "(I)Ljava/lang/Throwable;"⟩, 6) := ⟨⟨by decide +kernel, by decide +kernel⟩, List.mem_of_getElem? (i := 131) (by decide +kernel), List.mem_of_getElem? (i := 129) (by decide +kernel), List.mem_of_getElem? (i := 130) (by decide +kernel)⟩
theorem lw_p1 : lw_okq (⟨"DroitLine", "findLot", "(I)LDroitLine$Lot;"⟩, 9) := ⟨⟨by decide +kernel, by decide +kernel⟩, List.mem_of_getElem? (i := 13) (by decide +kernel), List.mem_of_getElem? (i := 285) (by decide +kernel), List.mem_of_getElem? (i := 286) (by decide +kernel)⟩
theorem lw_p2 : lw_okq (⟨"DroitLine", "closeGap", "(LDroitLine$Lot;)V"⟩, 9) := ⟨⟨by decide +kernel, by decide +kernel⟩, List.mem_of_getElem? (i := 13) (by decide +kernel), List.mem_of_getElem? (i := 369) (by decide +kernel), List.mem_of_getElem? (i := 370) (by decide +kernel)⟩
theorem lw_p3 : lw_okq (⟨"DroitLine", "addToDebt", "(II)V"⟩, 9) := ⟨⟨by decide +kernel, by decide +kernel⟩, List.mem_of_getElem? (i := 13) (by decide +kernel), List.mem_of_getElem? (i := 373) (by decide +kernel), List.mem_of_getElem? (i := 374) (by decide +kernel)⟩
theorem lw_p4 : lw_okq (⟨"DroitLine", "owedBy", "(I)I"⟩, 9) := ⟨⟨by decide +kernel, by decide +kernel⟩, List.mem_of_getElem? (i := 13) (by decide +kernel), List.mem_of_getElem? (i := 391) (by decide +kernel), List.mem_of_getElem? (i := 392) (by decide +kernel)⟩
theorem lw_p5 : lw_okq (⟨"DroitLine", "hundredthsOf", "(I)I"⟩, 9) := ⟨⟨by decide +kernel, by decide +kernel⟩, List.mem_of_getElem? (i := 13) (by decide +kernel), List.mem_of_getElem? (i := 411) (by decide +kernel), List.mem_of_getElem? (i := 412) (by decide +kernel)⟩
theorem lw_p6 : lw_okq (⟨"DroitLine", "interestOf", "(LDroitLine$Lot;)I"⟩, 9) := ⟨⟨by decide +kernel, by decide +kernel⟩, List.mem_of_getElem? (i := 13) (by decide +kernel), List.mem_of_getElem? (i := 422) (by decide +kernel), List.mem_of_getElem? (i := 423) (by decide +kernel)⟩
theorem lw_p7 : lw_okq (⟨"DroitLineModel", "clearBids", "(I)V"⟩, 24) := ⟨⟨by decide +kernel, by decide +kernel⟩, List.mem_of_getElem? (i := 505) (by decide +kernel), List.mem_of_getElem? (i := 602) (by decide +kernel), List.mem_of_getElem? (i := 603) (by decide +kernel)⟩
theorem lw_p8 : lw_okq (⟨"DroitLineModel", "isLot", "(I)Z"⟩, 24) := ⟨⟨by decide +kernel, by decide +kernel⟩, List.mem_of_getElem? (i := 505) (by decide +kernel), List.mem_of_getElem? (i := 610) (by decide +kernel), List.mem_of_getElem? (i := 611) (by decide +kernel)⟩
theorem lw_p9 : lw_okq (⟨"DroitLineModel", "highest", "(I)I"⟩, 24) := ⟨⟨by decide +kernel, by decide +kernel⟩, List.mem_of_getElem? (i := 505) (by decide +kernel), List.mem_of_getElem? (i := 621) (by decide +kernel), List.mem_of_getElem? (i := 622) (by decide +kernel)⟩
theorem lw_p10 : lw_okq (⟨"DroitLineModel", "highestBut", "(II)I"⟩, 24) := ⟨⟨by decide +kernel, by decide +kernel⟩, List.mem_of_getElem? (i := 505) (by decide +kernel), List.mem_of_getElem? (i := 625) (by decide +kernel), List.mem_of_getElem? (i := 626) (by decide +kernel)⟩
theorem lw_p11 : lw_okq (⟨"DroitLineModel", "bidMany", "(I)I"⟩, 24) := ⟨⟨by decide +kernel, by decide +kernel⟩, List.mem_of_getElem? (i := 505) (by decide +kernel), List.mem_of_getElem? (i := 633) (by decide +kernel), List.mem_of_getElem? (i := 634) (by decide +kernel)⟩
theorem lw_p12 : lw_okq (⟨"DroitLineModel", "interestFor", "(I)I"⟩, 24) := ⟨⟨by decide +kernel, by decide +kernel⟩, List.mem_of_getElem? (i := 505) (by decide +kernel), List.mem_of_getElem? (i := 670) (by decide +kernel), List.mem_of_getElem? (i := 671) (by decide +kernel)⟩
theorem lw_p13 : lw_okq (⟨"DroitLineModel", "shareFor", "(I)I"⟩, 24) := ⟨⟨by decide +kernel, by decide +kernel⟩, List.mem_of_getElem? (i := 505) (by decide +kernel), List.mem_of_getElem? (i := 675) (by decide +kernel), List.mem_of_getElem? (i := 676) (by decide +kernel)⟩
theorem lw_p14 : lw_okq (⟨"DroitLineModel", "asksFor", "(I)Z"⟩, 24) := ⟨⟨by decide +kernel, by decide +kernel⟩, List.mem_of_getElem? (i := 505) (by decide +kernel), List.mem_of_getElem? (i := 697) (by decide +kernel), List.mem_of_getElem? (i := 698) (by decide +kernel)⟩
def lw_privs_1 : List (MethodName × Nat) := [(⟨"java/lang/Throwable", "fillInStackTrace", "(I)Ljava/lang/Throwable;"⟩, 6), (⟨"DroitLine", "findLot", "(I)LDroitLine$Lot;"⟩, 9), (⟨"DroitLine", "closeGap", "(LDroitLine$Lot;)V"⟩, 9), (⟨"DroitLine", "addToDebt", "(II)V"⟩, 9), (⟨"DroitLine", "owedBy", "(I)I"⟩, 9), (⟨"DroitLine", "hundredthsOf", "(I)I"⟩, 9), (⟨"DroitLine", "interestOf", "(LDroitLine$Lot;)I"⟩, 9), (⟨"DroitLineModel", "clearBids", "(I)V"⟩, 24), (⟨"DroitLineModel", "isLot", "(I)Z"⟩, 24), (⟨"DroitLineModel", "highest", "(I)I"⟩, 24), (⟨"DroitLineModel", "highestBut", "(II)I"⟩, 24), (⟨"DroitLineModel", "bidMany", "(I)I"⟩, 24), (⟨"DroitLineModel", "interestFor", "(I)I"⟩, 24), (⟨"DroitLineModel", "shareFor", "(I)I"⟩, 24), (⟨"DroitLineModel", "asksFor", "(I)Z"⟩, 24)]
theorem lw_r1 : ∀ q ∈ lw_privs_1, lw_okq q := List.forall_mem_cons.mpr ⟨lw_p0, List.forall_mem_cons.mpr ⟨lw_p1, List.forall_mem_cons.mpr ⟨lw_p2, List.forall_mem_cons.mpr ⟨lw_p3, List.forall_mem_cons.mpr ⟨lw_p4, List.forall_mem_cons.mpr ⟨lw_p5, List.forall_mem_cons.mpr ⟨lw_p6, List.forall_mem_cons.mpr ⟨lw_p7, List.forall_mem_cons.mpr ⟨lw_p8, List.forall_mem_cons.mpr ⟨lw_p9, List.forall_mem_cons.mpr ⟨lw_p10, List.forall_mem_cons.mpr ⟨lw_p11, List.forall_mem_cons.mpr ⟨lw_p12, List.forall_mem_cons.mpr ⟨lw_p13, List.forall_mem_cons.mpr ⟨lw_p14, fun _ h => absurd h List.not_mem_nil⟩⟩⟩⟩⟩⟩⟩⟩⟩⟩⟩⟩⟩⟩⟩
def lw_privs : List (MethodName × Nat) := lw_privs_1
def lw_tbl : List Cond := k2_sels lw_privs ++ tables_1
theorem lw_privs_ok : ∀ q ∈ lw_privs, lw_okq q := lw_r1

/-! THE CLAIM OUT OF ONE WALK OF THE LAW'S BODY. Your part is whole_start (and what it stands on); all else here is the same for every law, but numbers. -/
def R_law : String := "DroitLineLaw"
def lw_P (b : Addr) (xs : List Int32) (args : Array Value) (s : State) : Prop := args = #[.ref b] ∧ s.IntsAt b xs ∧ xs.length ≤ 2048 ∧ (Jvm.Cond.and given_1 narrow_1).before args s = true
def lw_Q (_ : Array Value) (s : State) (o : Outcome) (t : State) : Prop := o = .returned (some (.int 1)) ∧ Framed s o t [] 601024 7293034
def lw_Z (below : List Frame) (a : Array Value) (s : State) : State → Prop := fun t => ∃ o, t.status = .running ∧ Ended t below o ∧ lw_Q a s o t
/-- the law's own end, with 1 on the stack, nothing written that was there before, its room as the claim has it -/
theorem lw_ret {p : Program} {l : Launch} {e : Env} {s : State} {m : MethodId} {below : List Frame} {meth : Method} {c : Code} {b : Nat} (hx : p.tables.exec = Jvm.exec) (hb : c.code = code) (hr : meth.sig.returnType = ret) (hlocks : meth.locks = false) {pc : Nat} {H : Heap} {ls : Array Slot} (hdg : decode code pc = .ok (.ireturn, 1)) : W p l e room_1 s m #[Value.ref b] below meth c H [] 601024 7293034 (lw_Z below #[Value.ref b] s) (F0 m pc ls [.int 1]) := by
  intro T hT X
  obtain ⟨fs, hret, hrun, hended, hW, hframe⟩ := X.leave (v := some (.int 1)) (hlocks := hlocks) (fun h => by rw [hr] at h; cases h)
  have hmeth' : T.vm.method? m = some meth := X.method'
  refine ⟨T.setFrames fs, ?_, .returned (some (.int 1)), hrun, hended, rfl, ⟨_, rfl⟩, hW, hframe⟩
  jvm_step X.here [X.here.top, hx, hb, hdg, hmeth', hr, ret, narrow_b1]
  (try refine ⟨rfl, ?_⟩); (try refine ⟨rfl, ?_⟩)
  first | (intro acts; rw [hret _ acts rfl rfl rfl]) | rw [hret _ _ rfl rfl rfl]
  exact Steps.refl _
/-- what holds at the law's entry: the machine, the code, the tables' words (any of lw_tbl by 'hts w (by decide +kernel)'), the script of L ints xs at the cell b, what the Statement gives of the start (any of its parts by flat_of_before) -/
def lw_At (p : Program) (s : State) (m : MethodId) (meth : Method) (c : Code) (b L : Nat) (xs : Nat → Int32) : Prop :=
  p.tables.exec = Jvm.exec ∧ c.code = code ∧ meth.sig.returnType = ret ∧ c.maxLocals = 7 ∧ s.vm.findClass R_law = some m.cls ∧ (∀ w ∈ lw_tbl, w.before #[Value.ref b] s = true) ∧ va_X b L xs s s.heap ∧ b < s.heap.size ∧ meth.locks = false ∧ (Jvm.Cond.and given_1 narrow_1).before #[Value.ref b] s = true

def wNeed : List Cond := lw_tbl.filter goodWord
theorem wNeed_sub : ∀ w ∈ wNeed, w ∈ lw_tbl := fun _ h => (List.mem_filter.mp h).1
theorem gi {ws : List Cond} (h : ∀ w ∈ ws, w ∈ wNeed) : GoodIn wNeed ws := fun w hw => ⟨h w hw, good_of_word (List.mem_filter.mp (h w hw)).2⟩
theorem gi_c {w : Cond} {ws : List Cond} (h : w ∈ wNeed) (hs : ∀ w ∈ ws, w ∈ wNeed) : ∀ w' ∈ w :: ws, w' ∈ wNeed := fun _ h' => (List.mem_cons.mp h').elim (fun e => e ▸ h) (hs _)
theorem gV {own C : String} {idx n : Nat} {y : MethodName} {b : ByteArray} {r : Option FieldType} (h1 : Cond.methodLink own idx y ∈ wNeed) (h2 : Cond.instanceMethod y ∈ wNeed) (h3 : Cond.selects C y y ∈ wNeed) (h4 : Cond.initialized C ∈ wNeed) (h5 : Cond.code y b n r ∈ wNeed) : GoodIn wNeed (wsV own idx C y (Cond.code y b n r :: wNeed)) := gi (gi_c h1 (gi_c h2 (gi_c h3 (gi_c h4 (gi_c h5 (fun _ h => h))))))
theorem gS {own : String} {idx n : Nat} {y : MethodName} {b : ByteArray} {r : Option FieldType} (h1 : Cond.methodLink own idx y ∈ wNeed) (h2 : Cond.static y ∈ wNeed) (h4 : Cond.initialized own ∈ wNeed) (h5 : Cond.code y b n r ∈ wNeed) : GoodIn wNeed (wsS own idx y (Cond.code y b n r :: wNeed)) := gi (gi_c h1 (gi_c h2 (gi_c h4 (gi_c h5 (fun _ h => h)))))
theorem gI {n : Nat} {y : MethodName} {b : ByteArray} {r : Option FieldType} (h5 : Cond.code y b n r ∈ wNeed) : GoodIn wNeed (Cond.code y b n r :: wNeed) := gi (gi_c h5 (fun _ h => h))
theorem gW {own : String} {idx n : Nat} {y : MethodName} {b : ByteArray} {r : Option FieldType} {hh : List (Nat × Nat × Nat × Nat)} (h1 : Cond.methodLink own idx y ∈ wNeed) (h2 : Cond.static y ∈ wNeed) (h4 : Cond.initialized y.cls ∈ wNeed) (h5 : Cond.codeWith y b n r hh ∈ wNeed) : GoodIn wNeed (va_wsS own idx y (Cond.codeWith y b n r hh :: wNeed)) := gi (gi_c h1 (gi_c h2 (gi_c h4 (gi_c h5 (fun _ h => h)))))
def F_X : u_T := fun k => match k with
  | 0 => ("DroitLine", "house", "[LDroitLine$Lot;", true)
  | 1 => ("DroitLine", "commissions", "[I", true)
  | 2 => ("DroitLine", "owedForGaps", "[I", true)
  | 3 => ("DroitLine", "lotCount", "I", false)
  | 4 => ("DroitLine", "today", "I", false)
  | 5 => ("DroitLine", "dailyRate", "I", false)
  | 6 => ("DroitLine", "received", "J", false)
  | 7 => ("DroitLine", "paidOut", "J", false)
  | _ => ("DroitLine", "earned", "J", false)
def t_X : Nat → FieldType := fun k => match k with
  | 0 => .array (.object "DroitLine$Lot")
  | 1 => .array (.int)
  | 2 => .array (.int)
  | 3 => .int
  | 4 => .int
  | 5 => .int
  | 6 => .long
  | 7 => .long
  | _ => .long
theorem n_X : ∀ a, a < 9 → ∀ b, b < 9 → a ≠ b → (F_X a).2.1 ≠ (F_X b).2.1 := by decide +kernel
theorem t_X_ok : ∀ k, k < 9 → parseFieldDescriptor (F_X k).2.2.1 = some (t_X k) := by decide +kernel
def F_L : u_T := fun k => match k with
  | 0 => ("DroitLine$Lot", "seller", "I", true)
  | 1 => ("DroitLine$Lot", "artist", "I", true)
  | 2 => ("DroitLine$Lot", "offers", "LDroitLine$Offers;", true)
  | 3 => ("DroitLine$Lot", "reserve", "I", false)
  | 4 => ("DroitLine$Lot", "state", "I", false)
  | 5 => ("DroitLine$Lot", "winner", "I", false)
  | 6 => ("DroitLine$Lot", "hammerPrice", "I", false)
  | 7 => ("DroitLine$Lot", "saleYear", "I", false)
  | 8 => ("DroitLine$Lot", "gapBuyer", "I", false)
  | 9 => ("DroitLine$Lot", "gapPrice", "I", false)
  | 10 => ("DroitLine$Lot", "advanced", "I", false)
  | 11 => ("DroitLine$Lot", "advanceDay", "I", false)
  | _ => ("DroitLine$Lot", "interestAtSettling", "I", false)
def t_L : Nat → FieldType := fun k => match k with
  | 0 => .int
  | 1 => .int
  | 2 => .object "DroitLine$Offers"
  | 3 => .int
  | 4 => .int
  | 5 => .int
  | 6 => .int
  | 7 => .int
  | 8 => .int
  | 9 => .int
  | 10 => .int
  | 11 => .int
  | _ => .int
theorem n_L : ∀ a, a < 13 → ∀ b, b < 13 → a ≠ b → (F_L a).2.1 ≠ (F_L b).2.1 := by decide +kernel
theorem t_L_ok : ∀ k, k < 13 → parseFieldDescriptor (F_L k).2.2.1 = some (t_L k) := by decide +kernel
def F_O : u_T := fun k => match k with
  | 0 => ("DroitLine$Offers", "buyers", "[I", true)
  | 1 => ("DroitLine$Offers", "amounts", "[I", true)
  | _ => ("DroitLine$Offers", "count", "I", false)
def t_O : Nat → FieldType := fun k => match k with
  | 0 => .array (.int)
  | 1 => .array (.int)
  | _ => .int
theorem n_O : ∀ a, a < 3 → ∀ b, b < 3 → a ≠ b → (F_O a).2.1 ≠ (F_O b).2.1 := by decide +kernel
theorem t_O_ok : ∀ k, k < 3 → parseFieldDescriptor (F_O k).2.2.1 = some (t_O k) := by decide +kernel
def F_M : u_T := fun k => match k with
  | 0 => ("DroitLineModel", "lotMany", "I", false)
  | 1 => ("DroitLineModel", "sellers", "[I", true)
  | 2 => ("DroitLineModel", "reserves", "[I", true)
  | 3 => ("DroitLineModel", "artists", "[I", true)
  | 4 => ("DroitLineModel", "states", "[I", true)
  | 5 => ("DroitLineModel", "buyers", "[I", true)
  | 6 => ("DroitLineModel", "prices", "[I", true)
  | 7 => ("DroitLineModel", "hammerDays", "[I", true)
  | 8 => ("DroitLineModel", "bidOf", "[I", true)
  | 9 => ("DroitLineModel", "leftAt", "[I", true)
  | 10 => ("DroitLineModel", "leftMany", "I", false)
  | 11 => ("DroitLineModel", "gapBuyers", "[I", true)
  | 12 => ("DroitLineModel", "gapPrices", "[I", true)
  | 13 => ("DroitLineModel", "advances", "[I", true)
  | 14 => ("DroitLineModel", "advanceDays", "[I", true)
  | 15 => ("DroitLineModel", "interests", "[I", true)
  | 16 => ("DroitLineModel", "debts", "[I", true)
  | 17 => ("DroitLineModel", "commissions", "[I", true)
  | 18 => ("DroitLineModel", "interestRate", "I", false)
  | 19 => ("DroitLineModel", "now", "I", false)
  | 20 => ("DroitLineModel", "moneyIn", "J", false)
  | 21 => ("DroitLineModel", "moneyOut", "J", false)
  | 22 => ("DroitLineModel", "moneyKept", "J", false)
  | _ => ("DroitLineModel", "thrown", "I", false)
def t_M : Nat → FieldType := fun k => match k with
  | 0 => .int
  | 1 => .array (.int)
  | 2 => .array (.int)
  | 3 => .array (.int)
  | 4 => .array (.int)
  | 5 => .array (.int)
  | 6 => .array (.int)
  | 7 => .array (.int)
  | 8 => .array (.int)
  | 9 => .array (.int)
  | 10 => .int
  | 11 => .array (.int)
  | 12 => .array (.int)
  | 13 => .array (.int)
  | 14 => .array (.int)
  | 15 => .array (.int)
  | 16 => .array (.int)
  | 17 => .array (.int)
  | 18 => .int
  | 19 => .int
  | 20 => .long
  | 21 => .long
  | 22 => .long
  | _ => .int
theorem n_M : ∀ a, a < 24 → ∀ b, b < 24 → a ≠ b → (F_M a).2.1 ≠ (F_M b).2.1 := by decide +kernel
theorem t_M_ok : ∀ k, k < 24 → parseFieldDescriptor (F_M k).2.2.1 = some (t_M k) := by decide +kernel
abbrev classes : List vw_C := [("DroitLine", F_X, 9), ("DroitLine$Lot", F_L, 13), ("DroitLine$Offers", F_O, 3), ("DroitLineModel", F_M, 24)]
abbrev bX_init : ByteArray := prog_1_method_1_code
abbrev yX_init : MethodName := { cls := "DroitLine", name := "<init>", desc := "()V" }
abbrev bX_lot : ByteArray := prog_1_method_2_code
abbrev yX_lot : MethodName := { cls := "DroitLine", name := "lot", desc := "(III)I" }
abbrev bX_bid : ByteArray := prog_1_method_3_code
abbrev yX_bid : MethodName := { cls := "DroitLine", name := "bid", desc := "(III)I" }
abbrev bX_hammer : ByteArray := prog_1_method_4_code
abbrev yX_hammer : MethodName := { cls := "DroitLine", name := "hammer", desc := "(I)I" }
abbrev bX_again : ByteArray := prog_1_method_5_code
abbrev yX_again : MethodName := { cls := "DroitLine", name := "again", desc := "(II)I" }
abbrev bX_lots : ByteArray := prog_1_method_6_code
abbrev yX_lots : MethodName := { cls := "DroitLine", name := "lots", desc := "()I" }
abbrev bX_callOf : ByteArray := prog_1_method_7_code
abbrev yX_callOf : MethodName := { cls := "DroitLine", name := "callOf", desc := "(I)I" }
abbrev bX_pay : ByteArray := prog_1_method_8_code
abbrev yX_pay : MethodName := { cls := "DroitLine", name := "pay", desc := "(I)I" }
abbrev bX_defaults : ByteArray := prog_1_method_9_code
abbrev yX_defaults : MethodName := { cls := "DroitLine", name := "defaults", desc := "(I)I" }
abbrev bX_payGaps : ByteArray := prog_1_method_10_code
abbrev yX_payGaps : MethodName := { cls := "DroitLine", name := "payGaps", desc := "(I)I" }
abbrev bX_advance : ByteArray := prog_1_method_11_code
abbrev yX_advance : MethodName := { cls := "DroitLine", name := "advance", desc := "(II)I" }
abbrev bX_settle : ByteArray := prog_1_method_12_code
abbrev yX_settle : MethodName := { cls := "DroitLine", name := "settle", desc := "(I)I" }
abbrev bX_commission : ByteArray := prog_1_method_13_code
abbrev yX_commission : MethodName := { cls := "DroitLine", name := "commission", desc := "(II)I" }
abbrev bX_rate : ByteArray := prog_1_method_14_code
abbrev yX_rate : MethodName := { cls := "DroitLine", name := "rate", desc := "(I)I" }
abbrev bX_days : ByteArray := prog_1_method_15_code
abbrev yX_days : MethodName := { cls := "DroitLine", name := "days", desc := "(I)I" }
abbrev bX_state : ByteArray := prog_1_method_16_code
abbrev yX_state : MethodName := { cls := "DroitLine", name := "state", desc := "(I)I" }
abbrev bX_buyerOf : ByteArray := prog_1_method_17_code
abbrev yX_buyerOf : MethodName := { cls := "DroitLine", name := "buyerOf", desc := "(I)I" }
abbrev bX_price : ByteArray := prog_1_method_18_code
abbrev yX_price : MethodName := { cls := "DroitLine", name := "price", desc := "(I)I" }
abbrev bX_bids : ByteArray := prog_1_method_19_code
abbrev yX_bids : MethodName := { cls := "DroitLine", name := "bids", desc := "(I)I" }
abbrev bX_fee : ByteArray := prog_1_method_20_code
abbrev yX_fee : MethodName := { cls := "DroitLine", name := "fee", desc := "(I)I" }
abbrev bX_share : ByteArray := prog_1_method_21_code
abbrev yX_share : MethodName := { cls := "DroitLine", name := "share", desc := "(I)I" }
abbrev bX_interest : ByteArray := prog_1_method_22_code
abbrev yX_interest : MethodName := { cls := "DroitLine", name := "interest", desc := "(I)I" }
abbrev bX_owes : ByteArray := prog_1_method_23_code
abbrev yX_owes : MethodName := { cls := "DroitLine", name := "owes", desc := "(I)I" }
abbrev bX_in : ByteArray := prog_1_method_24_code
abbrev yX_in : MethodName := { cls := "DroitLine", name := "in", desc := "()J" }
abbrev bX_out : ByteArray := prog_1_method_25_code
abbrev yX_out : MethodName := { cls := "DroitLine", name := "out", desc := "()J" }
abbrev bX_kept : ByteArray := prog_1_method_26_code
abbrev yX_kept : MethodName := { cls := "DroitLine", name := "kept", desc := "()J" }
abbrev bX_held : ByteArray := prog_1_method_27_code
abbrev yX_held : MethodName := { cls := "DroitLine", name := "held", desc := "()J" }
abbrev bX_heldByLots : ByteArray := prog_1_method_28_code
abbrev yX_heldByLots : MethodName := { cls := "DroitLine", name := "heldByLots", desc := "()J" }
abbrev bX_findLot : ByteArray := prog_1_method_29_code
abbrev yX_findLot : MethodName := { cls := "DroitLine", name := "findLot", desc := "(I)LDroitLine$Lot;" }
abbrev bX_checkSeller : ByteArray := prog_1_method_30_code
abbrev yX_checkSeller : MethodName := { cls := "DroitLine", name := "checkSeller", desc := "(I)V" }
abbrev bX_checkBuyer : ByteArray := prog_1_method_31_code
abbrev yX_checkBuyer : MethodName := { cls := "DroitLine", name := "checkBuyer", desc := "(I)V" }
abbrev bX_checkRange : ByteArray := prog_1_method_32_code
abbrev yX_checkRange : MethodName := { cls := "DroitLine", name := "checkRange", desc := "(III)V" }
abbrev bX_checkArtist : ByteArray := prog_1_method_33_code
abbrev yX_checkArtist : MethodName := { cls := "DroitLine", name := "checkArtist", desc := "(I)V" }
abbrev bX_checkState : ByteArray := prog_1_method_34_code
abbrev yX_checkState : MethodName := { cls := "DroitLine", name := "checkState", desc := "(LDroitLine$Lot;I)V" }
abbrev bX_stepOf : ByteArray := prog_1_method_35_code
abbrev yX_stepOf : MethodName := { cls := "DroitLine", name := "stepOf", desc := "(I)I" }
abbrev bX_calledAmount : ByteArray := prog_1_method_36_code
abbrev yX_calledAmount : MethodName := { cls := "DroitLine", name := "calledAmount", desc := "(I)I" }
abbrev bX_priceFor : ByteArray := prog_1_method_37_code
abbrev yX_priceFor : MethodName := { cls := "DroitLine", name := "priceFor", desc := "(III)I" }
abbrev bX_ofBand : ByteArray := prog_1_method_38_code
abbrev yX_ofBand : MethodName := { cls := "DroitLine", name := "ofBand", desc := "(IIII)I" }
abbrev bX_feeFor : ByteArray := prog_1_method_39_code
abbrev yX_feeFor : MethodName := { cls := "DroitLine", name := "feeFor", desc := "(I)I" }
abbrev bX_shareOf : ByteArray := prog_1_method_40_code
abbrev yX_shareOf : MethodName := { cls := "DroitLine", name := "shareOf", desc := "(LDroitLine$Lot;)I" }
abbrev bX_isTooLongDead : ByteArray := prog_1_method_41_code
abbrev yX_isTooLongDead : MethodName := { cls := "DroitLine", name := "isTooLongDead", desc := "(LDroitLine$Lot;)Z" }
abbrev bX_interestOf : ByteArray := prog_1_method_42_code
abbrev yX_interestOf : MethodName := { cls := "DroitLine", name := "interestOf", desc := "(LDroitLine$Lot;)I" }
abbrev bX_hundredthsOf : ByteArray := prog_1_method_43_code
abbrev yX_hundredthsOf : MethodName := { cls := "DroitLine", name := "hundredthsOf", desc := "(I)I" }
abbrev bX_closeGap : ByteArray := prog_1_method_44_code
abbrev yX_closeGap : MethodName := { cls := "DroitLine", name := "closeGap", desc := "(LDroitLine$Lot;)V" }
abbrev bX_owedBy : ByteArray := prog_1_method_45_code
abbrev yX_owedBy : MethodName := { cls := "DroitLine", name := "owedBy", desc := "(I)I" }
abbrev bX_addToDebt : ByteArray := prog_1_method_46_code
abbrev yX_addToDebt : MethodName := { cls := "DroitLine", name := "addToDebt", desc := "(II)V" }
abbrev bM_init : ByteArray := prog_5_method_1_code
abbrev yM_init : MethodName := { cls := "DroitLineModel", name := "<init>", desc := "()V" }
abbrev bM_thrown : ByteArray := prog_5_method_2_code
abbrev yM_thrown : MethodName := { cls := "DroitLineModel", name := "thrown", desc := "()I" }
abbrev bM_isWithin : ByteArray := prog_5_method_3_code
abbrev yM_isWithin : MethodName := { cls := "DroitLineModel", name := "isWithin", desc := "(III)Z" }
abbrev bM_isLot : ByteArray := prog_5_method_4_code
abbrev yM_isLot : MethodName := { cls := "DroitLineModel", name := "isLot", desc := "(I)Z" }
abbrev bM_isBuyer : ByteArray := prog_5_method_5_code
abbrev yM_isBuyer : MethodName := { cls := "DroitLineModel", name := "isBuyer", desc := "(I)Z" }
abbrev bM_step : ByteArray := prog_5_method_6_code
abbrev yM_step : MethodName := { cls := "DroitLineModel", name := "step", desc := "(I)I" }
abbrev bM_call : ByteArray := prog_5_method_7_code
abbrev yM_call : MethodName := { cls := "DroitLineModel", name := "call", desc := "(I)I" }
abbrev bM_clearBids : ByteArray := prog_5_method_8_code
abbrev yM_clearBids : MethodName := { cls := "DroitLineModel", name := "clearBids", desc := "(I)V" }
abbrev bM_lot : ByteArray := prog_5_method_9_code
abbrev yM_lot : MethodName := { cls := "DroitLineModel", name := "lot", desc := "(III)I" }
abbrev bM_bid : ByteArray := prog_5_method_10_code
abbrev yM_bid : MethodName := { cls := "DroitLineModel", name := "bid", desc := "(III)I" }
abbrev bM_highest : ByteArray := prog_5_method_11_code
abbrev yM_highest : MethodName := { cls := "DroitLineModel", name := "highest", desc := "(I)I" }
abbrev bM_highestBut : ByteArray := prog_5_method_12_code
abbrev yM_highestBut : MethodName := { cls := "DroitLineModel", name := "highestBut", desc := "(II)I" }
abbrev bM_hammer : ByteArray := prog_5_method_13_code
abbrev yM_hammer : MethodName := { cls := "DroitLineModel", name := "hammer", desc := "(I)I" }
abbrev bM_bidMany : ByteArray := prog_5_method_14_code
abbrev yM_bidMany : MethodName := { cls := "DroitLineModel", name := "bidMany", desc := "(I)I" }
abbrev bM_again : ByteArray := prog_5_method_15_code
abbrev yM_again : MethodName := { cls := "DroitLineModel", name := "again", desc := "(II)I" }
abbrev bM_lots : ByteArray := prog_5_method_16_code
abbrev yM_lots : MethodName := { cls := "DroitLineModel", name := "lots", desc := "()I" }
abbrev bM_callOf : ByteArray := prog_5_method_17_code
abbrev yM_callOf : MethodName := { cls := "DroitLineModel", name := "callOf", desc := "(I)I" }
abbrev bM_feeFor : ByteArray := prog_5_method_18_code
abbrev yM_feeFor : MethodName := { cls := "DroitLineModel", name := "feeFor", desc := "(I)I" }
abbrev bM_shareFor : ByteArray := prog_5_method_19_code
abbrev yM_shareFor : MethodName := { cls := "DroitLineModel", name := "shareFor", desc := "(I)I" }
abbrev bM_pay : ByteArray := prog_5_method_20_code
abbrev yM_pay : MethodName := { cls := "DroitLineModel", name := "pay", desc := "(I)I" }
abbrev bM_defaults : ByteArray := prog_5_method_21_code
abbrev yM_defaults : MethodName := { cls := "DroitLineModel", name := "defaults", desc := "(I)I" }
abbrev bM_payGaps : ByteArray := prog_5_method_22_code
abbrev yM_payGaps : MethodName := { cls := "DroitLineModel", name := "payGaps", desc := "(I)I" }
abbrev bM_advance : ByteArray := prog_5_method_23_code
abbrev yM_advance : MethodName := { cls := "DroitLineModel", name := "advance", desc := "(II)I" }
abbrev bM_interestFor : ByteArray := prog_5_method_24_code
abbrev yM_interestFor : MethodName := { cls := "DroitLineModel", name := "interestFor", desc := "(I)I" }
abbrev bM_settle : ByteArray := prog_5_method_25_code
abbrev yM_settle : MethodName := { cls := "DroitLineModel", name := "settle", desc := "(I)I" }
abbrev bM_commission : ByteArray := prog_5_method_26_code
abbrev yM_commission : MethodName := { cls := "DroitLineModel", name := "commission", desc := "(II)I" }
abbrev bM_rate : ByteArray := prog_5_method_27_code
abbrev yM_rate : MethodName := { cls := "DroitLineModel", name := "rate", desc := "(I)I" }
abbrev bM_days : ByteArray := prog_5_method_28_code
abbrev yM_days : MethodName := { cls := "DroitLineModel", name := "days", desc := "(I)I" }
abbrev bM_asksFor : ByteArray := prog_5_method_29_code
abbrev yM_asksFor : MethodName := { cls := "DroitLineModel", name := "asksFor", desc := "(I)Z" }
abbrev bM_state : ByteArray := prog_5_method_30_code
abbrev yM_state : MethodName := { cls := "DroitLineModel", name := "state", desc := "(I)I" }
abbrev bM_buyerOf : ByteArray := prog_5_method_31_code
abbrev yM_buyerOf : MethodName := { cls := "DroitLineModel", name := "buyerOf", desc := "(I)I" }
abbrev bM_price : ByteArray := prog_5_method_32_code
abbrev yM_price : MethodName := { cls := "DroitLineModel", name := "price", desc := "(I)I" }
abbrev bM_bids : ByteArray := prog_5_method_33_code
abbrev yM_bids : MethodName := { cls := "DroitLineModel", name := "bids", desc := "(I)I" }
abbrev bM_fee : ByteArray := prog_5_method_34_code
abbrev yM_fee : MethodName := { cls := "DroitLineModel", name := "fee", desc := "(I)I" }
abbrev bM_share : ByteArray := prog_5_method_35_code
abbrev yM_share : MethodName := { cls := "DroitLineModel", name := "share", desc := "(I)I" }
abbrev bM_interest : ByteArray := prog_5_method_36_code
abbrev yM_interest : MethodName := { cls := "DroitLineModel", name := "interest", desc := "(I)I" }
abbrev bM_owes : ByteArray := prog_5_method_37_code
abbrev yM_owes : MethodName := { cls := "DroitLineModel", name := "owes", desc := "(I)I" }
abbrev bM_in : ByteArray := prog_5_method_38_code
abbrev yM_in : MethodName := { cls := "DroitLineModel", name := "in", desc := "()J" }
abbrev bM_out : ByteArray := prog_5_method_39_code
abbrev yM_out : MethodName := { cls := "DroitLineModel", name := "out", desc := "()J" }
abbrev bM_kept : ByteArray := prog_5_method_40_code
abbrev yM_kept : MethodName := { cls := "DroitLineModel", name := "kept", desc := "()J" }
abbrev bM_held : ByteArray := prog_5_method_41_code
abbrev yM_held : MethodName := { cls := "DroitLineModel", name := "held", desc := "()J" }
abbrev bM_heldByLots : ByteArray := prog_5_method_42_code
abbrev yM_heldByLots : MethodName := { cls := "DroitLineModel", name := "heldByLots", desc := "()J" }
abbrev bL_init : ByteArray := prog_2_method_1_code
abbrev yL_init : MethodName := { cls := "DroitLine$Lot", name := "<init>", desc := "(III)V" }
abbrev bL_open : ByteArray := prog_2_method_2_code
abbrev yL_open : MethodName := { cls := "DroitLine$Lot", name := "open", desc := "(I)V" }
abbrev bL_heldForIt : ByteArray := prog_2_method_3_code
abbrev yL_heldForIt : MethodName := { cls := "DroitLine$Lot", name := "heldForIt", desc := "()I" }
abbrev bO_init : ByteArray := prog_3_method_1_code
abbrev yO_init : MethodName := { cls := "DroitLine$Offers", name := "<init>", desc := "()V" }
abbrev bO_leave : ByteArray := prog_3_method_2_code
abbrev yO_leave : MethodName := { cls := "DroitLine$Offers", name := "leave", desc := "(II)V" }
abbrev bO_buyerAt : ByteArray := prog_3_method_3_code
abbrev yO_buyerAt : MethodName := { cls := "DroitLine$Offers", name := "buyerAt", desc := "(I)I" }
abbrev bO_amountAt : ByteArray := prog_3_method_4_code
abbrev yO_amountAt : MethodName := { cls := "DroitLine$Offers", name := "amountAt", desc := "(I)I" }
abbrev bO_placeOfBest : ByteArray := prog_3_method_5_code
abbrev yO_placeOfBest : MethodName := { cls := "DroitLine$Offers", name := "placeOfBest", desc := "()I" }
abbrev bO_highestBeside : ByteArray := prog_3_method_6_code
abbrev yO_highestBeside : MethodName := { cls := "DroitLine$Offers", name := "highestBeside", desc := "(I)I" }
abbrev bW_lot : ByteArray := method_3_code
abbrev yW_lot : MethodName := { cls := "DroitLineLaw", name := "lot", desc := "(LDroitLine;III[J)I" }
abbrev bW_bid : ByteArray := method_4_code
abbrev yW_bid : MethodName := { cls := "DroitLineLaw", name := "bid", desc := "(LDroitLine;III[J)I" }
abbrev bW_hammer : ByteArray := method_5_code
abbrev yW_hammer : MethodName := { cls := "DroitLineLaw", name := "hammer", desc := "(LDroitLine;I[J)I" }
abbrev bW_again : ByteArray := method_6_code
abbrev yW_again : MethodName := { cls := "DroitLineLaw", name := "again", desc := "(LDroitLine;II[J)I" }
abbrev bW_callOf : ByteArray := method_7_code
abbrev yW_callOf : MethodName := { cls := "DroitLineLaw", name := "callOf", desc := "(LDroitLine;I[J)I" }
abbrev bW_pay : ByteArray := method_8_code
abbrev yW_pay : MethodName := { cls := "DroitLineLaw", name := "pay", desc := "(LDroitLine;I[J)I" }
abbrev bW_defaults : ByteArray := method_9_code
abbrev yW_defaults : MethodName := { cls := "DroitLineLaw", name := "defaults", desc := "(LDroitLine;I[J)I" }
abbrev bW_payGaps : ByteArray := method_10_code
abbrev yW_payGaps : MethodName := { cls := "DroitLineLaw", name := "payGaps", desc := "(LDroitLine;I[J)I" }
abbrev bW_advance : ByteArray := method_11_code
abbrev yW_advance : MethodName := { cls := "DroitLineLaw", name := "advance", desc := "(LDroitLine;II[J)I" }
abbrev bW_settle : ByteArray := method_12_code
abbrev yW_settle : MethodName := { cls := "DroitLineLaw", name := "settle", desc := "(LDroitLine;I[J)I" }
abbrev bW_commission : ByteArray := method_13_code
abbrev yW_commission : MethodName := { cls := "DroitLineLaw", name := "commission", desc := "(LDroitLine;II[J)I" }
abbrev bW_rate : ByteArray := method_14_code
abbrev yW_rate : MethodName := { cls := "DroitLineLaw", name := "rate", desc := "(LDroitLine;I[J)I" }
abbrev bW_days : ByteArray := method_15_code
abbrev yW_days : MethodName := { cls := "DroitLineLaw", name := "days", desc := "(LDroitLine;I[J)I" }
abbrev bW_state : ByteArray := method_16_code
abbrev yW_state : MethodName := { cls := "DroitLineLaw", name := "state", desc := "(LDroitLine;I[J)I" }
abbrev bW_buyerOf : ByteArray := method_17_code
abbrev yW_buyerOf : MethodName := { cls := "DroitLineLaw", name := "buyerOf", desc := "(LDroitLine;I[J)I" }
abbrev bW_price : ByteArray := method_18_code
abbrev yW_price : MethodName := { cls := "DroitLineLaw", name := "price", desc := "(LDroitLine;I[J)I" }
abbrev bW_bids : ByteArray := method_19_code
abbrev yW_bids : MethodName := { cls := "DroitLineLaw", name := "bids", desc := "(LDroitLine;I[J)I" }
abbrev bW_fee : ByteArray := method_20_code
abbrev yW_fee : MethodName := { cls := "DroitLineLaw", name := "fee", desc := "(LDroitLine;I[J)I" }
abbrev bW_share : ByteArray := method_21_code
abbrev yW_share : MethodName := { cls := "DroitLineLaw", name := "share", desc := "(LDroitLine;I[J)I" }
abbrev bW_interest : ByteArray := method_22_code
abbrev yW_interest : MethodName := { cls := "DroitLineLaw", name := "interest", desc := "(LDroitLine;I[J)I" }
abbrev bW_owes : ByteArray := method_23_code
abbrev yW_owes : MethodName := { cls := "DroitLineLaw", name := "owes", desc := "(LDroitLine;I[J)I" }
abbrev bW_law : ByteArray := code
theorem q_p1 : Cond.selects "DroitLine" ({ cls := "DroitLine", name := "findLot", desc := "(I)LDroitLine$Lot;" } : MethodName) ({ cls := "DroitLine", name := "findLot", desc := "(I)LDroitLine$Lot;" } : MethodName) ∈ wNeed := List.mem_filter.mpr ⟨List.mem_of_getElem? (i := 1) (by decide +kernel), by decide +kernel⟩
theorem q_p2 : Cond.selects "DroitLine" ({ cls := "DroitLine", name := "closeGap", desc := "(LDroitLine$Lot;)V" } : MethodName) ({ cls := "DroitLine", name := "closeGap", desc := "(LDroitLine$Lot;)V" } : MethodName) ∈ wNeed := List.mem_filter.mpr ⟨List.mem_of_getElem? (i := 2) (by decide +kernel), by decide +kernel⟩
theorem q_p3 : Cond.selects "DroitLine" ({ cls := "DroitLine", name := "addToDebt", desc := "(II)V" } : MethodName) ({ cls := "DroitLine", name := "addToDebt", desc := "(II)V" } : MethodName) ∈ wNeed := List.mem_filter.mpr ⟨List.mem_of_getElem? (i := 3) (by decide +kernel), by decide +kernel⟩
theorem q_p4 : Cond.selects "DroitLine" ({ cls := "DroitLine", name := "owedBy", desc := "(I)I" } : MethodName) ({ cls := "DroitLine", name := "owedBy", desc := "(I)I" } : MethodName) ∈ wNeed := List.mem_filter.mpr ⟨List.mem_of_getElem? (i := 4) (by decide +kernel), by decide +kernel⟩
theorem q_p5 : Cond.selects "DroitLine" ({ cls := "DroitLine", name := "hundredthsOf", desc := "(I)I" } : MethodName) ({ cls := "DroitLine", name := "hundredthsOf", desc := "(I)I" } : MethodName) ∈ wNeed := List.mem_filter.mpr ⟨List.mem_of_getElem? (i := 5) (by decide +kernel), by decide +kernel⟩
theorem q_p6 : Cond.selects "DroitLine" ({ cls := "DroitLine", name := "interestOf", desc := "(LDroitLine$Lot;)I" } : MethodName) ({ cls := "DroitLine", name := "interestOf", desc := "(LDroitLine$Lot;)I" } : MethodName) ∈ wNeed := List.mem_filter.mpr ⟨List.mem_of_getElem? (i := 6) (by decide +kernel), by decide +kernel⟩
theorem q_p7 : Cond.selects "DroitLineModel" ({ cls := "DroitLineModel", name := "clearBids", desc := "(I)V" } : MethodName) ({ cls := "DroitLineModel", name := "clearBids", desc := "(I)V" } : MethodName) ∈ wNeed := List.mem_filter.mpr ⟨List.mem_of_getElem? (i := 7) (by decide +kernel), by decide +kernel⟩
theorem q_p8 : Cond.selects "DroitLineModel" ({ cls := "DroitLineModel", name := "isLot", desc := "(I)Z" } : MethodName) ({ cls := "DroitLineModel", name := "isLot", desc := "(I)Z" } : MethodName) ∈ wNeed := List.mem_filter.mpr ⟨List.mem_of_getElem? (i := 8) (by decide +kernel), by decide +kernel⟩
theorem q_p9 : Cond.selects "DroitLineModel" ({ cls := "DroitLineModel", name := "highest", desc := "(I)I" } : MethodName) ({ cls := "DroitLineModel", name := "highest", desc := "(I)I" } : MethodName) ∈ wNeed := List.mem_filter.mpr ⟨List.mem_of_getElem? (i := 9) (by decide +kernel), by decide +kernel⟩
theorem q_p10 : Cond.selects "DroitLineModel" ({ cls := "DroitLineModel", name := "highestBut", desc := "(II)I" } : MethodName) ({ cls := "DroitLineModel", name := "highestBut", desc := "(II)I" } : MethodName) ∈ wNeed := List.mem_filter.mpr ⟨List.mem_of_getElem? (i := 10) (by decide +kernel), by decide +kernel⟩
theorem q_p11 : Cond.selects "DroitLineModel" ({ cls := "DroitLineModel", name := "bidMany", desc := "(I)I" } : MethodName) ({ cls := "DroitLineModel", name := "bidMany", desc := "(I)I" } : MethodName) ∈ wNeed := List.mem_filter.mpr ⟨List.mem_of_getElem? (i := 11) (by decide +kernel), by decide +kernel⟩
theorem q_p12 : Cond.selects "DroitLineModel" ({ cls := "DroitLineModel", name := "interestFor", desc := "(I)I" } : MethodName) ({ cls := "DroitLineModel", name := "interestFor", desc := "(I)I" } : MethodName) ∈ wNeed := List.mem_filter.mpr ⟨List.mem_of_getElem? (i := 12) (by decide +kernel), by decide +kernel⟩
theorem q_p13 : Cond.selects "DroitLineModel" ({ cls := "DroitLineModel", name := "shareFor", desc := "(I)I" } : MethodName) ({ cls := "DroitLineModel", name := "shareFor", desc := "(I)I" } : MethodName) ∈ wNeed := List.mem_filter.mpr ⟨List.mem_of_getElem? (i := 13) (by decide +kernel), by decide +kernel⟩
theorem q_p14 : Cond.selects "DroitLineModel" ({ cls := "DroitLineModel", name := "asksFor", desc := "(I)Z" } : MethodName) ({ cls := "DroitLineModel", name := "asksFor", desc := "(I)Z" } : MethodName) ∈ wNeed := List.mem_filter.mpr ⟨List.mem_of_getElem? (i := 14) (by decide +kernel), by decide +kernel⟩
theorem q_0 : (Jvm.Cond.initialized "DroitLineLaw") ∈ wNeed := List.mem_filter.mpr ⟨List.mem_of_getElem? (i := 15) (by decide +kernel), by decide +kernel⟩
theorem q_1 : (Jvm.Cond.initialized "DroitLine") ∈ wNeed := List.mem_filter.mpr ⟨List.mem_of_getElem? (i := 16) (by decide +kernel), by decide +kernel⟩
theorem q_2 : (Jvm.Cond.initialized "DroitLineModel") ∈ wNeed := List.mem_filter.mpr ⟨List.mem_of_getElem? (i := 17) (by decide +kernel), by decide +kernel⟩
theorem q_3 : (Jvm.Cond.initialized "java/lang/Throwable") ∈ wNeed := List.mem_filter.mpr ⟨List.mem_of_getElem? (i := 18) (by decide +kernel), by decide +kernel⟩
theorem q_4 : (Jvm.Cond.initialized "java/lang/Exception") ∈ wNeed := List.mem_filter.mpr ⟨List.mem_of_getElem? (i := 19) (by decide +kernel), by decide +kernel⟩
theorem q_5 : (Jvm.Cond.initialized "java/lang/RuntimeException") ∈ wNeed := List.mem_filter.mpr ⟨List.mem_of_getElem? (i := 20) (by decide +kernel), by decide +kernel⟩
theorem q_6 : (Jvm.Cond.initialized "java/lang/IndexOutOfBoundsException") ∈ wNeed := List.mem_filter.mpr ⟨List.mem_of_getElem? (i := 21) (by decide +kernel), by decide +kernel⟩
theorem q_7 : (Jvm.Cond.initialized "java/lang/IllegalArgumentException") ∈ wNeed := List.mem_filter.mpr ⟨List.mem_of_getElem? (i := 22) (by decide +kernel), by decide +kernel⟩
theorem q_8 : (Jvm.Cond.initialized "java/lang/IllegalStateException") ∈ wNeed := List.mem_filter.mpr ⟨List.mem_of_getElem? (i := 23) (by decide +kernel), by decide +kernel⟩
theorem q_9 : (Jvm.Cond.initialized "DroitLine$Lot") ∈ wNeed := List.mem_filter.mpr ⟨List.mem_of_getElem? (i := 24) (by decide +kernel), by decide +kernel⟩
theorem q_10 : (Jvm.Cond.initialized "DroitLine$Offers") ∈ wNeed := List.mem_filter.mpr ⟨List.mem_of_getElem? (i := 25) (by decide +kernel), by decide +kernel⟩
theorem q_11 : (Jvm.Cond.initialized "java/lang/Math") ∈ wNeed := List.mem_filter.mpr ⟨List.mem_of_getElem? (i := 26) (by decide +kernel), by decide +kernel⟩
theorem q_12 : (Jvm.Cond.classLink "DroitLineLaw" (8 : Nat) "DroitLine") ∈ wNeed := List.mem_filter.mpr ⟨List.mem_of_getElem? (i := 27) (by decide +kernel), by decide +kernel⟩
theorem q_13 : (Jvm.Cond.instantiable "DroitLine" (9 : Nat)) ∈ wNeed := List.mem_filter.mpr ⟨List.mem_of_getElem? (i := 28) (by decide +kernel), by decide +kernel⟩
theorem q_14 : (Jvm.Cond.methodLink "DroitLineLaw" (81 : Nat) ({ cls := "DroitLine", name := "<init>", desc := "()V" } : Jvm.MethodName)) ∈ wNeed := List.mem_filter.mpr ⟨List.mem_of_getElem? (i := 29) (by decide +kernel), by decide +kernel⟩
theorem q_15 : (Jvm.Cond.instanceMethod ({ cls := "DroitLine", name := "<init>", desc := "()V" } : Jvm.MethodName)) ∈ wNeed := List.mem_filter.mpr ⟨List.mem_of_getElem? (i := 30) (by decide +kernel), by decide +kernel⟩
theorem q_16 : (Jvm.Cond.code ({ cls := "DroitLine", name := "<init>", desc := "()V" } : Jvm.MethodName) prog_1_method_1_code (2 : Nat) (Option.none : Option Jvm.ClassFile.FieldType)) ∈ wNeed := List.mem_filter.mpr ⟨List.mem_of_getElem? (i := 31) (by decide +kernel), by decide +kernel⟩
theorem q_17 : (Jvm.Cond.methodLink "DroitLine" (1 : Nat) ({ cls := "java/lang/Object", name := "<init>", desc := "()V" } : Jvm.MethodName)) ∈ wNeed := List.mem_filter.mpr ⟨List.mem_of_getElem? (i := 32) (by decide +kernel), by decide +kernel⟩
theorem q_18 : (Jvm.Cond.instanceMethod ({ cls := "java/lang/Object", name := "<init>", desc := "()V" } : Jvm.MethodName)) ∈ wNeed := List.mem_filter.mpr ⟨List.mem_of_getElem? (i := 33) (by decide +kernel), by decide +kernel⟩
theorem q_19 : (Jvm.Cond.code ({ cls := "java/lang/Object", name := "<init>", desc := "()V" } : Jvm.MethodName) object_method_1_code (1 : Nat) (Option.none : Option Jvm.ClassFile.FieldType)) ∈ wNeed := List.mem_filter.mpr ⟨List.mem_of_getElem? (i := 34) (by decide +kernel), by decide +kernel⟩
theorem q_20 : (Jvm.Cond.classLink "DroitLine" (9 : Nat) "DroitLine$Lot") ∈ wNeed := List.mem_filter.mpr ⟨List.mem_of_getElem? (i := 35) (by decide +kernel), by decide +kernel⟩
theorem q_22 : (Jvm.Cond.fieldLink "DroitLine" (11 : Nat) "DroitLine" "house" "[LDroitLine$Lot;") ∈ wNeed := List.mem_filter.mpr ⟨List.mem_of_getElem? (i := 37) (by decide +kernel), by decide +kernel⟩
theorem q_23 : (Jvm.Cond.fieldLink "DroitLine" (15 : Nat) "DroitLine" "commissions" "[I") ∈ wNeed := List.mem_filter.mpr ⟨List.mem_of_getElem? (i := 38) (by decide +kernel), by decide +kernel⟩
theorem q_24 : (Jvm.Cond.fieldLink "DroitLine" (19 : Nat) "DroitLine" "owedForGaps" "[I") ∈ wNeed := List.mem_filter.mpr ⟨List.mem_of_getElem? (i := 39) (by decide +kernel), by decide +kernel⟩
theorem q_25 : (Jvm.Cond.fieldLink "DroitLine" (38 : Nat) "DroitLine" "lotCount" "I") ∈ wNeed := List.mem_filter.mpr ⟨List.mem_of_getElem? (i := 40) (by decide +kernel), by decide +kernel⟩
theorem q_26 : (Jvm.Cond.fieldLink "DroitLine" (104 : Nat) "DroitLine" "today" "I") ∈ wNeed := List.mem_filter.mpr ⟨List.mem_of_getElem? (i := 41) (by decide +kernel), by decide +kernel⟩
theorem q_27 : (Jvm.Cond.fieldLink "DroitLine" (22 : Nat) "DroitLine" "dailyRate" "I") ∈ wNeed := List.mem_filter.mpr ⟨List.mem_of_getElem? (i := 42) (by decide +kernel), by decide +kernel⟩
theorem q_28 : (Jvm.Cond.fieldLink "DroitLine" (119 : Nat) "DroitLine" "received" "J") ∈ wNeed := List.mem_filter.mpr ⟨List.mem_of_getElem? (i := 43) (by decide +kernel), by decide +kernel⟩
theorem q_29 : (Jvm.Cond.fieldLink "DroitLine" (152 : Nat) "DroitLine" "paidOut" "J") ∈ wNeed := List.mem_filter.mpr ⟨List.mem_of_getElem? (i := 44) (by decide +kernel), by decide +kernel⟩
theorem q_30 : (Jvm.Cond.fieldLink "DroitLine" (123 : Nat) "DroitLine" "earned" "J") ∈ wNeed := List.mem_filter.mpr ⟨List.mem_of_getElem? (i := 45) (by decide +kernel), by decide +kernel⟩
theorem q_31 : (Jvm.Cond.laysFinal "DroitLine" "DroitLine" "house" "[LDroitLine$Lot;") ∈ wNeed := List.mem_filter.mpr ⟨List.mem_of_getElem? (i := 46) (by decide +kernel), by decide +kernel⟩
theorem q_33 : (Jvm.Cond.laysFinal "DroitLine" "DroitLine" "commissions" "[I") ∈ wNeed := List.mem_filter.mpr ⟨List.mem_of_getElem? (i := 48) (by decide +kernel), by decide +kernel⟩
theorem q_35 : (Jvm.Cond.laysFinal "DroitLine" "DroitLine" "owedForGaps" "[I") ∈ wNeed := List.mem_filter.mpr ⟨List.mem_of_getElem? (i := 50) (by decide +kernel), by decide +kernel⟩
theorem q_37 : (Jvm.Cond.lays "DroitLine" "DroitLine" "lotCount" "I") ∈ wNeed := List.mem_filter.mpr ⟨List.mem_of_getElem? (i := 52) (by decide +kernel), by decide +kernel⟩
theorem q_39 : (Jvm.Cond.lays "DroitLine" "DroitLine" "today" "I") ∈ wNeed := List.mem_filter.mpr ⟨List.mem_of_getElem? (i := 54) (by decide +kernel), by decide +kernel⟩
theorem q_41 : (Jvm.Cond.lays "DroitLine" "DroitLine" "dailyRate" "I") ∈ wNeed := List.mem_filter.mpr ⟨List.mem_of_getElem? (i := 56) (by decide +kernel), by decide +kernel⟩
theorem q_43 : (Jvm.Cond.lays "DroitLine" "DroitLine" "received" "J") ∈ wNeed := List.mem_filter.mpr ⟨List.mem_of_getElem? (i := 58) (by decide +kernel), by decide +kernel⟩
theorem q_45 : (Jvm.Cond.lays "DroitLine" "DroitLine" "paidOut" "J") ∈ wNeed := List.mem_filter.mpr ⟨List.mem_of_getElem? (i := 60) (by decide +kernel), by decide +kernel⟩
theorem q_47 : (Jvm.Cond.lays "DroitLine" "DroitLine" "earned" "J") ∈ wNeed := List.mem_filter.mpr ⟨List.mem_of_getElem? (i := 62) (by decide +kernel), by decide +kernel⟩
theorem q_49 : (Jvm.Cond.superclass "DroitLine" "java/lang/Object") ∈ wNeed := List.mem_filter.mpr ⟨List.mem_of_getElem? (i := 64) (by decide +kernel), by decide +kernel⟩
theorem q_50 : (Jvm.Cond.arrayClass Jvm.ClassFile.FieldType.int) ∈ wNeed := List.mem_filter.mpr ⟨List.mem_of_getElem? (i := 65) (by decide +kernel), by decide +kernel⟩
theorem q_51 : (Jvm.Cond.methodLink "DroitLineLaw" (106 : Nat) ({ cls := "DroitLine", name := "lots", desc := "()I" } : Jvm.MethodName)) ∈ wNeed := List.mem_filter.mpr ⟨List.mem_of_getElem? (i := 66) (by decide +kernel), by decide +kernel⟩
theorem q_52 : (Jvm.Cond.instanceMethod ({ cls := "DroitLine", name := "lots", desc := "()I" } : Jvm.MethodName)) ∈ wNeed := List.mem_filter.mpr ⟨List.mem_of_getElem? (i := 67) (by decide +kernel), by decide +kernel⟩
theorem q_53 : (Jvm.Cond.selects "DroitLine" ({ cls := "DroitLine", name := "lots", desc := "()I" } : Jvm.MethodName) ({ cls := "DroitLine", name := "lots", desc := "()I" } : Jvm.MethodName)) ∈ wNeed := List.mem_filter.mpr ⟨List.mem_of_getElem? (i := 68) (by decide +kernel), by decide +kernel⟩
theorem q_54 : (Jvm.Cond.code ({ cls := "DroitLine", name := "lots", desc := "()I" } : Jvm.MethodName) prog_1_method_6_code (1 : Nat) (Option.some Jvm.ClassFile.FieldType.int)) ∈ wNeed := List.mem_filter.mpr ⟨List.mem_of_getElem? (i := 69) (by decide +kernel), by decide +kernel⟩
theorem q_55 : (Jvm.Cond.methodLink "DroitLineLaw" (161 : Nat) ({ cls := "DroitLine", name := "in", desc := "()J" } : Jvm.MethodName)) ∈ wNeed := List.mem_filter.mpr ⟨List.mem_of_getElem? (i := 70) (by decide +kernel), by decide +kernel⟩
theorem q_56 : (Jvm.Cond.instanceMethod ({ cls := "DroitLine", name := "in", desc := "()J" } : Jvm.MethodName)) ∈ wNeed := List.mem_filter.mpr ⟨List.mem_of_getElem? (i := 71) (by decide +kernel), by decide +kernel⟩
theorem q_57 : (Jvm.Cond.selects "DroitLine" ({ cls := "DroitLine", name := "in", desc := "()J" } : Jvm.MethodName) ({ cls := "DroitLine", name := "in", desc := "()J" } : Jvm.MethodName)) ∈ wNeed := List.mem_filter.mpr ⟨List.mem_of_getElem? (i := 72) (by decide +kernel), by decide +kernel⟩
theorem q_58 : (Jvm.Cond.code ({ cls := "DroitLine", name := "in", desc := "()J" } : Jvm.MethodName) prog_1_method_24_code (1 : Nat) (Option.some Jvm.ClassFile.FieldType.long)) ∈ wNeed := List.mem_filter.mpr ⟨List.mem_of_getElem? (i := 73) (by decide +kernel), by decide +kernel⟩
theorem q_59 : (Jvm.Cond.methodLink "DroitLineLaw" (166 : Nat) ({ cls := "DroitLine", name := "out", desc := "()J" } : Jvm.MethodName)) ∈ wNeed := List.mem_filter.mpr ⟨List.mem_of_getElem? (i := 74) (by decide +kernel), by decide +kernel⟩
theorem q_60 : (Jvm.Cond.instanceMethod ({ cls := "DroitLine", name := "out", desc := "()J" } : Jvm.MethodName)) ∈ wNeed := List.mem_filter.mpr ⟨List.mem_of_getElem? (i := 75) (by decide +kernel), by decide +kernel⟩
theorem q_61 : (Jvm.Cond.selects "DroitLine" ({ cls := "DroitLine", name := "out", desc := "()J" } : Jvm.MethodName) ({ cls := "DroitLine", name := "out", desc := "()J" } : Jvm.MethodName)) ∈ wNeed := List.mem_filter.mpr ⟨List.mem_of_getElem? (i := 76) (by decide +kernel), by decide +kernel⟩
theorem q_62 : (Jvm.Cond.code ({ cls := "DroitLine", name := "out", desc := "()J" } : Jvm.MethodName) prog_1_method_25_code (1 : Nat) (Option.some Jvm.ClassFile.FieldType.long)) ∈ wNeed := List.mem_filter.mpr ⟨List.mem_of_getElem? (i := 77) (by decide +kernel), by decide +kernel⟩
theorem q_63 : (Jvm.Cond.methodLink "DroitLineLaw" (170 : Nat) ({ cls := "DroitLine", name := "kept", desc := "()J" } : Jvm.MethodName)) ∈ wNeed := List.mem_filter.mpr ⟨List.mem_of_getElem? (i := 78) (by decide +kernel), by decide +kernel⟩
theorem q_64 : (Jvm.Cond.instanceMethod ({ cls := "DroitLine", name := "kept", desc := "()J" } : Jvm.MethodName)) ∈ wNeed := List.mem_filter.mpr ⟨List.mem_of_getElem? (i := 79) (by decide +kernel), by decide +kernel⟩
theorem q_65 : (Jvm.Cond.selects "DroitLine" ({ cls := "DroitLine", name := "kept", desc := "()J" } : Jvm.MethodName) ({ cls := "DroitLine", name := "kept", desc := "()J" } : Jvm.MethodName)) ∈ wNeed := List.mem_filter.mpr ⟨List.mem_of_getElem? (i := 80) (by decide +kernel), by decide +kernel⟩
theorem q_66 : (Jvm.Cond.code ({ cls := "DroitLine", name := "kept", desc := "()J" } : Jvm.MethodName) prog_1_method_26_code (1 : Nat) (Option.some Jvm.ClassFile.FieldType.long)) ∈ wNeed := List.mem_filter.mpr ⟨List.mem_of_getElem? (i := 81) (by decide +kernel), by decide +kernel⟩
theorem q_67 : (Jvm.Cond.methodLink "DroitLineLaw" (174 : Nat) ({ cls := "DroitLine", name := "held", desc := "()J" } : Jvm.MethodName)) ∈ wNeed := List.mem_filter.mpr ⟨List.mem_of_getElem? (i := 82) (by decide +kernel), by decide +kernel⟩
theorem q_68 : (Jvm.Cond.instanceMethod ({ cls := "DroitLine", name := "held", desc := "()J" } : Jvm.MethodName)) ∈ wNeed := List.mem_filter.mpr ⟨List.mem_of_getElem? (i := 83) (by decide +kernel), by decide +kernel⟩
theorem q_69 : (Jvm.Cond.selects "DroitLine" ({ cls := "DroitLine", name := "held", desc := "()J" } : Jvm.MethodName) ({ cls := "DroitLine", name := "held", desc := "()J" } : Jvm.MethodName)) ∈ wNeed := List.mem_filter.mpr ⟨List.mem_of_getElem? (i := 84) (by decide +kernel), by decide +kernel⟩
theorem q_70 : (Jvm.Cond.code ({ cls := "DroitLine", name := "held", desc := "()J" } : Jvm.MethodName) prog_1_method_27_code (1 : Nat) (Option.some Jvm.ClassFile.FieldType.long)) ∈ wNeed := List.mem_filter.mpr ⟨List.mem_of_getElem? (i := 85) (by decide +kernel), by decide +kernel⟩
theorem q_71 : (Jvm.Cond.methodLink "DroitLineLaw" (178 : Nat) ({ cls := "DroitLine", name := "heldByLots", desc := "()J" } : Jvm.MethodName)) ∈ wNeed := List.mem_filter.mpr ⟨List.mem_of_getElem? (i := 86) (by decide +kernel), by decide +kernel⟩
theorem q_72 : (Jvm.Cond.instanceMethod ({ cls := "DroitLine", name := "heldByLots", desc := "()J" } : Jvm.MethodName)) ∈ wNeed := List.mem_filter.mpr ⟨List.mem_of_getElem? (i := 87) (by decide +kernel), by decide +kernel⟩
theorem q_73 : (Jvm.Cond.selects "DroitLine" ({ cls := "DroitLine", name := "heldByLots", desc := "()J" } : Jvm.MethodName) ({ cls := "DroitLine", name := "heldByLots", desc := "()J" } : Jvm.MethodName)) ∈ wNeed := List.mem_filter.mpr ⟨List.mem_of_getElem? (i := 88) (by decide +kernel), by decide +kernel⟩
theorem q_74 : (Jvm.Cond.code ({ cls := "DroitLine", name := "heldByLots", desc := "()J" } : Jvm.MethodName) prog_1_method_28_code (7 : Nat) (Option.some Jvm.ClassFile.FieldType.long)) ∈ wNeed := List.mem_filter.mpr ⟨List.mem_of_getElem? (i := 89) (by decide +kernel), by decide +kernel⟩
theorem q_75 : (Jvm.Cond.methodLink "DroitLine" (173 : Nat) ({ cls := "DroitLine$Lot", name := "heldForIt", desc := "()I" } : Jvm.MethodName)) ∈ wNeed := List.mem_filter.mpr ⟨List.mem_of_getElem? (i := 90) (by decide +kernel), by decide +kernel⟩
theorem q_76 : (Jvm.Cond.instanceMethod ({ cls := "DroitLine$Lot", name := "heldForIt", desc := "()I" } : Jvm.MethodName)) ∈ wNeed := List.mem_filter.mpr ⟨List.mem_of_getElem? (i := 91) (by decide +kernel), by decide +kernel⟩
theorem q_77 : (Jvm.Cond.selects "DroitLine$Lot" ({ cls := "DroitLine$Lot", name := "heldForIt", desc := "()I" } : Jvm.MethodName) ({ cls := "DroitLine$Lot", name := "heldForIt", desc := "()I" } : Jvm.MethodName)) ∈ wNeed := List.mem_filter.mpr ⟨List.mem_of_getElem? (i := 92) (by decide +kernel), by decide +kernel⟩
theorem q_78 : (Jvm.Cond.code ({ cls := "DroitLine$Lot", name := "heldForIt", desc := "()I" } : Jvm.MethodName) prog_2_method_3_code (1 : Nat) (Option.some Jvm.ClassFile.FieldType.int)) ∈ wNeed := List.mem_filter.mpr ⟨List.mem_of_getElem? (i := 93) (by decide +kernel), by decide +kernel⟩
theorem q_79 : (Jvm.Cond.methodLink "DroitLineLaw" (85 : Nat) ({ cls := "DroitLineLaw", name := "lot", desc := "(LDroitLine;III[J)I" } : Jvm.MethodName)) ∈ wNeed := List.mem_filter.mpr ⟨List.mem_of_getElem? (i := 94) (by decide +kernel), by decide +kernel⟩
theorem q_80 : (Jvm.Cond.static ({ cls := "DroitLineLaw", name := "lot", desc := "(LDroitLine;III[J)I" } : Jvm.MethodName)) ∈ wNeed := List.mem_filter.mpr ⟨List.mem_of_getElem? (i := 95) (by decide +kernel), by decide +kernel⟩
theorem q_81 : (Jvm.Cond.codeWith ({ cls := "DroitLineLaw", name := "lot", desc := "(LDroitLine;III[J)I" } : Jvm.MethodName) method_3_code (6 : Nat) (Option.some Jvm.ClassFile.FieldType.int) [((0 : Nat), (12 : Nat), (15 : Nat), (13 : Nat)), ((0 : Nat), (12 : Nat), (19 : Nat), (15 : Nat)), ((0 : Nat), (12 : Nat), (23 : Nat), (17 : Nat))]) ∈ wNeed := List.mem_filter.mpr ⟨List.mem_of_getElem? (i := 96) (by decide +kernel), by decide +kernel⟩
theorem q_82 : (Jvm.Cond.classLink "DroitLineLaw" (13 : Nat) "java/lang/IndexOutOfBoundsException") ∈ wNeed := List.mem_filter.mpr ⟨List.mem_of_getElem? (i := 97) (by decide +kernel), by decide +kernel⟩
theorem q_83 : (Jvm.Cond.classLink "DroitLineLaw" (15 : Nat) "java/lang/IllegalArgumentException") ∈ wNeed := List.mem_filter.mpr ⟨List.mem_of_getElem? (i := 98) (by decide +kernel), by decide +kernel⟩
theorem q_84 : (Jvm.Cond.classLink "DroitLineLaw" (17 : Nat) "java/lang/IllegalStateException") ∈ wNeed := List.mem_filter.mpr ⟨List.mem_of_getElem? (i := 99) (by decide +kernel), by decide +kernel⟩
theorem q_85 : (Jvm.Cond.methodLink "DroitLineLaw" (7 : Nat) ({ cls := "DroitLine", name := "lot", desc := "(III)I" } : Jvm.MethodName)) ∈ wNeed := List.mem_filter.mpr ⟨List.mem_of_getElem? (i := 100) (by decide +kernel), by decide +kernel⟩
theorem q_86 : (Jvm.Cond.instanceMethod ({ cls := "DroitLine", name := "lot", desc := "(III)I" } : Jvm.MethodName)) ∈ wNeed := List.mem_filter.mpr ⟨List.mem_of_getElem? (i := 101) (by decide +kernel), by decide +kernel⟩
theorem q_87 : (Jvm.Cond.selects "DroitLine" ({ cls := "DroitLine", name := "lot", desc := "(III)I" } : Jvm.MethodName) ({ cls := "DroitLine", name := "lot", desc := "(III)I" } : Jvm.MethodName)) ∈ wNeed := List.mem_filter.mpr ⟨List.mem_of_getElem? (i := 102) (by decide +kernel), by decide +kernel⟩
theorem q_88 : (Jvm.Cond.code ({ cls := "DroitLine", name := "lot", desc := "(III)I" } : Jvm.MethodName) prog_1_method_2_code (5 : Nat) (Option.some Jvm.ClassFile.FieldType.int)) ∈ wNeed := List.mem_filter.mpr ⟨List.mem_of_getElem? (i := 103) (by decide +kernel), by decide +kernel⟩
theorem q_89 : (Jvm.Cond.methodLink "DroitLine" (26 : Nat) ({ cls := "DroitLine", name := "checkSeller", desc := "(I)V" } : Jvm.MethodName)) ∈ wNeed := List.mem_filter.mpr ⟨List.mem_of_getElem? (i := 104) (by decide +kernel), by decide +kernel⟩
theorem q_90 : (Jvm.Cond.static ({ cls := "DroitLine", name := "checkSeller", desc := "(I)V" } : Jvm.MethodName)) ∈ wNeed := List.mem_filter.mpr ⟨List.mem_of_getElem? (i := 105) (by decide +kernel), by decide +kernel⟩
theorem q_91 : (Jvm.Cond.code ({ cls := "DroitLine", name := "checkSeller", desc := "(I)V" } : Jvm.MethodName) prog_1_method_30_code (1 : Nat) (Option.none : Option Jvm.ClassFile.FieldType)) ∈ wNeed := List.mem_filter.mpr ⟨List.mem_of_getElem? (i := 106) (by decide +kernel), by decide +kernel⟩
theorem q_92 : (Jvm.Cond.classLink "DroitLine" (176 : Nat) "java/lang/IndexOutOfBoundsException") ∈ wNeed := List.mem_filter.mpr ⟨List.mem_of_getElem? (i := 107) (by decide +kernel), by decide +kernel⟩
theorem q_93 : (Jvm.Cond.instantiable "java/lang/IndexOutOfBoundsException" (6 : Nat)) ∈ wNeed := List.mem_filter.mpr ⟨List.mem_of_getElem? (i := 108) (by decide +kernel), by decide +kernel⟩
theorem q_101 : (Jvm.Cond.selects "java/lang/IndexOutOfBoundsException" ({ cls := "java/lang/Throwable", name := "fillInStackTrace", desc := "(I)Ljava/lang/Throwable;" } : Jvm.MethodName) ({ cls := "java/lang/Throwable", name := "fillInStackTrace", desc := "(I)Ljava/lang/Throwable;" } : Jvm.MethodName)) ∈ wNeed := List.mem_filter.mpr ⟨List.mem_of_getElem? (i := 116) (by decide +kernel), by decide +kernel⟩
theorem q_102 : (Jvm.Cond.selects "java/lang/IndexOutOfBoundsException" ({ cls := "java/lang/Throwable", name := "fillInStackTrace", desc := "()Ljava/lang/Throwable;" } : Jvm.MethodName) ({ cls := "java/lang/Throwable", name := "fillInStackTrace", desc := "()Ljava/lang/Throwable;" } : Jvm.MethodName)) ∈ wNeed := List.mem_filter.mpr ⟨List.mem_of_getElem? (i := 117) (by decide +kernel), by decide +kernel⟩
theorem q_103 : (Jvm.Cond.lays "java/lang/IndexOutOfBoundsException" "java/lang/Throwable" "cause" "Ljava/lang/Throwable;") ∈ wNeed := List.mem_filter.mpr ⟨List.mem_of_getElem? (i := 118) (by decide +kernel), by decide +kernel⟩
theorem q_104 : (Jvm.Cond.lays "java/lang/Throwable" "java/lang/Throwable" "cause" "Ljava/lang/Throwable;") ∈ wNeed := List.mem_filter.mpr ⟨List.mem_of_getElem? (i := 119) (by decide +kernel), by decide +kernel⟩
theorem q_105 : (Jvm.Cond.lays "java/lang/IndexOutOfBoundsException" "java/lang/Throwable" "stackTrace" "[Ljava/lang/StackTraceElement;") ∈ wNeed := List.mem_filter.mpr ⟨List.mem_of_getElem? (i := 120) (by decide +kernel), by decide +kernel⟩
theorem q_106 : (Jvm.Cond.lays "java/lang/Throwable" "java/lang/Throwable" "stackTrace" "[Ljava/lang/StackTraceElement;") ∈ wNeed := List.mem_filter.mpr ⟨List.mem_of_getElem? (i := 121) (by decide +kernel), by decide +kernel⟩
theorem q_107 : (Jvm.Cond.lays "java/lang/IndexOutOfBoundsException" "java/lang/Throwable" "suppressedExceptions" "Ljava/util/List;") ∈ wNeed := List.mem_filter.mpr ⟨List.mem_of_getElem? (i := 122) (by decide +kernel), by decide +kernel⟩
theorem q_108 : (Jvm.Cond.lays "java/lang/Throwable" "java/lang/Throwable" "suppressedExceptions" "Ljava/util/List;") ∈ wNeed := List.mem_filter.mpr ⟨List.mem_of_getElem? (i := 123) (by decide +kernel), by decide +kernel⟩
theorem q_109 : (Jvm.Cond.lays "java/lang/IndexOutOfBoundsException" "java/lang/Throwable" "detailMessage" "Ljava/lang/String;") ∈ wNeed := List.mem_filter.mpr ⟨List.mem_of_getElem? (i := 124) (by decide +kernel), by decide +kernel⟩
theorem q_110 : (Jvm.Cond.lays "java/lang/Throwable" "java/lang/Throwable" "detailMessage" "Ljava/lang/String;") ∈ wNeed := List.mem_filter.mpr ⟨List.mem_of_getElem? (i := 125) (by decide +kernel), by decide +kernel⟩
theorem q_111 : (Jvm.Cond.lays "java/lang/IndexOutOfBoundsException" "java/lang/Throwable" "backtrace" "Ljava/lang/Object;") ∈ wNeed := List.mem_filter.mpr ⟨List.mem_of_getElem? (i := 126) (by decide +kernel), by decide +kernel⟩
theorem q_112 : (Jvm.Cond.lays "java/lang/Throwable" "java/lang/Throwable" "backtrace" "Ljava/lang/Object;") ∈ wNeed := List.mem_filter.mpr ⟨List.mem_of_getElem? (i := 127) (by decide +kernel), by decide +kernel⟩
theorem q_113 : (Jvm.Cond.fieldLink "java/lang/Throwable" (198 : Nat) "java/lang/Throwable" "backtrace" "Ljava/lang/Object;") ∈ wNeed := List.mem_filter.mpr ⟨List.mem_of_getElem? (i := 128) (by decide +kernel), by decide +kernel⟩
theorem q_114 : (Jvm.Cond.superclass "java/lang/Throwable" "java/lang/Object") ∈ wNeed := List.mem_filter.mpr ⟨List.mem_of_getElem? (i := 129) (by decide +kernel), by decide +kernel⟩
theorem q_115 : (Jvm.Cond.instanceMethod ({ cls := "java/lang/Throwable", name := "<init>", desc := "()V" } : Jvm.MethodName)) ∈ wNeed := List.mem_filter.mpr ⟨List.mem_of_getElem? (i := 130) (by decide +kernel), by decide +kernel⟩
theorem q_116 : (Jvm.Cond.code ({ cls := "java/lang/Throwable", name := "<init>", desc := "()V" } : Jvm.MethodName) prog_13_method_1_code (1 : Nat) (Option.none : Option Jvm.ClassFile.FieldType)) ∈ wNeed := List.mem_filter.mpr ⟨List.mem_of_getElem? (i := 131) (by decide +kernel), by decide +kernel⟩
theorem q_117 : (Jvm.Cond.methodLink "java/lang/Throwable" (1 : Nat) ({ cls := "java/lang/Object", name := "<init>", desc := "()V" } : Jvm.MethodName)) ∈ wNeed := List.mem_filter.mpr ⟨List.mem_of_getElem? (i := 132) (by decide +kernel), by decide +kernel⟩
theorem q_118 : (Jvm.Cond.fieldLink "java/lang/Throwable" (13 : Nat) "java/lang/Throwable" "UNASSIGNED_STACK" "[Ljava/lang/StackTraceElement;") ∈ wNeed := List.mem_filter.mpr ⟨List.mem_of_getElem? (i := 133) (by decide +kernel), by decide +kernel⟩
theorem q_120 : (Jvm.Cond.fieldLink "java/lang/Throwable" (20 : Nat) "java/lang/Throwable" "SUPPRESSED_SENTINEL" "Ljava/util/List;") ∈ wNeed := List.mem_filter.mpr ⟨List.mem_of_getElem? (i := 135) (by decide +kernel), by decide +kernel⟩
theorem q_122 : (Jvm.Cond.methodLink "java/lang/Throwable" (27 : Nat) ({ cls := "java/lang/Throwable", name := "fillInStackTrace", desc := "()Ljava/lang/Throwable;" } : Jvm.MethodName)) ∈ wNeed := List.mem_filter.mpr ⟨List.mem_of_getElem? (i := 137) (by decide +kernel), by decide +kernel⟩
theorem q_123 : (Jvm.Cond.instanceMethod ({ cls := "java/lang/Throwable", name := "fillInStackTrace", desc := "()Ljava/lang/Throwable;" } : Jvm.MethodName)) ∈ wNeed := List.mem_filter.mpr ⟨List.mem_of_getElem? (i := 138) (by decide +kernel), by decide +kernel⟩
theorem q_124 : (Jvm.Cond.sameMethod "java/lang/Throwable" "java/lang/Throwable" "fillInStackTrace" "()Ljava/lang/Throwable;") ∈ wNeed := List.mem_filter.mpr ⟨List.mem_of_getElem? (i := 139) (by decide +kernel), by decide +kernel⟩
theorem q_125 : (Jvm.Cond.selects "java/lang/IllegalArgumentException" ({ cls := "java/lang/Throwable", name := "fillInStackTrace", desc := "()Ljava/lang/Throwable;" } : Jvm.MethodName) ({ cls := "java/lang/Throwable", name := "fillInStackTrace", desc := "()Ljava/lang/Throwable;" } : Jvm.MethodName)) ∈ wNeed := List.mem_filter.mpr ⟨List.mem_of_getElem? (i := 140) (by decide +kernel), by decide +kernel⟩
theorem q_126 : (Jvm.Cond.selects "java/lang/IllegalStateException" ({ cls := "java/lang/Throwable", name := "fillInStackTrace", desc := "()Ljava/lang/Throwable;" } : Jvm.MethodName) ({ cls := "java/lang/Throwable", name := "fillInStackTrace", desc := "()Ljava/lang/Throwable;" } : Jvm.MethodName)) ∈ wNeed := List.mem_filter.mpr ⟨List.mem_of_getElem? (i := 141) (by decide +kernel), by decide +kernel⟩
theorem q_127 : (Jvm.Cond.codeSync ({ cls := "java/lang/Throwable", name := "fillInStackTrace", desc := "()Ljava/lang/Throwable;" } : Jvm.MethodName) prog_13_method_18_code (1 : Nat) (Option.some (Jvm.ClassFile.FieldType.object "java/lang/Throwable"))) ∈ wNeed := List.mem_filter.mpr ⟨List.mem_of_getElem? (i := 142) (by decide +kernel), by decide +kernel⟩
theorem q_128 : (Jvm.Cond.methodLink "java/lang/Throwable" (202 : Nat) ({ cls := "java/lang/Throwable", name := "fillInStackTrace", desc := "(I)Ljava/lang/Throwable;" } : Jvm.MethodName)) ∈ wNeed := List.mem_filter.mpr ⟨List.mem_of_getElem? (i := 143) (by decide +kernel), by decide +kernel⟩
theorem q_130 : (Jvm.Cond.instanceMethod ({ cls := "java/lang/Throwable", name := "fillInStackTrace", desc := "(I)Ljava/lang/Throwable;" } : Jvm.MethodName)) ∈ wNeed := List.mem_filter.mpr ⟨List.mem_of_getElem? (i := 145) (by decide +kernel), by decide +kernel⟩
theorem q_131 : (Jvm.Cond.instantiable "java/lang/Throwable" (6 : Nat)) ∈ wNeed := List.mem_filter.mpr ⟨List.mem_of_getElem? (i := 146) (by decide +kernel), by decide +kernel⟩
theorem q_132 : (Jvm.Cond.native ({ cls := "java/lang/Throwable", name := "fillInStackTrace", desc := "(I)Ljava/lang/Throwable;" } : Jvm.MethodName)) ∈ wNeed := List.mem_filter.mpr ⟨List.mem_of_getElem? (i := 147) (by decide +kernel), by decide +kernel⟩
theorem q_134 : (Jvm.Cond.methodLink "DroitLine" (180 : Nat) ({ cls := "java/lang/IndexOutOfBoundsException", name := "<init>", desc := "(Ljava/lang/String;)V" } : Jvm.MethodName)) ∈ wNeed := List.mem_filter.mpr ⟨List.mem_of_getElem? (i := 149) (by decide +kernel), by decide +kernel⟩
theorem q_135 : (Jvm.Cond.instanceMethod ({ cls := "java/lang/IndexOutOfBoundsException", name := "<init>", desc := "(Ljava/lang/String;)V" } : Jvm.MethodName)) ∈ wNeed := List.mem_filter.mpr ⟨List.mem_of_getElem? (i := 150) (by decide +kernel), by decide +kernel⟩
theorem q_136 : (Jvm.Cond.code ({ cls := "java/lang/IndexOutOfBoundsException", name := "<init>", desc := "(Ljava/lang/String;)V" } : Jvm.MethodName) prog_9_method_2_code (2 : Nat) (Option.none : Option Jvm.ClassFile.FieldType)) ∈ wNeed := List.mem_filter.mpr ⟨List.mem_of_getElem? (i := 151) (by decide +kernel), by decide +kernel⟩
theorem q_137 : (Jvm.Cond.methodLink "java/lang/IndexOutOfBoundsException" (7 : Nat) ({ cls := "java/lang/RuntimeException", name := "<init>", desc := "(Ljava/lang/String;)V" } : Jvm.MethodName)) ∈ wNeed := List.mem_filter.mpr ⟨List.mem_of_getElem? (i := 152) (by decide +kernel), by decide +kernel⟩
theorem q_138 : (Jvm.Cond.instanceMethod ({ cls := "java/lang/RuntimeException", name := "<init>", desc := "(Ljava/lang/String;)V" } : Jvm.MethodName)) ∈ wNeed := List.mem_filter.mpr ⟨List.mem_of_getElem? (i := 153) (by decide +kernel), by decide +kernel⟩
theorem q_139 : (Jvm.Cond.code ({ cls := "java/lang/RuntimeException", name := "<init>", desc := "(Ljava/lang/String;)V" } : Jvm.MethodName) prog_11_method_2_code (2 : Nat) (Option.none : Option Jvm.ClassFile.FieldType)) ∈ wNeed := List.mem_filter.mpr ⟨List.mem_of_getElem? (i := 154) (by decide +kernel), by decide +kernel⟩
theorem q_140 : (Jvm.Cond.methodLink "java/lang/RuntimeException" (7 : Nat) ({ cls := "java/lang/Exception", name := "<init>", desc := "(Ljava/lang/String;)V" } : Jvm.MethodName)) ∈ wNeed := List.mem_filter.mpr ⟨List.mem_of_getElem? (i := 155) (by decide +kernel), by decide +kernel⟩
theorem q_141 : (Jvm.Cond.instanceMethod ({ cls := "java/lang/Exception", name := "<init>", desc := "(Ljava/lang/String;)V" } : Jvm.MethodName)) ∈ wNeed := List.mem_filter.mpr ⟨List.mem_of_getElem? (i := 156) (by decide +kernel), by decide +kernel⟩
theorem q_142 : (Jvm.Cond.code ({ cls := "java/lang/Exception", name := "<init>", desc := "(Ljava/lang/String;)V" } : Jvm.MethodName) prog_6_method_2_code (2 : Nat) (Option.none : Option Jvm.ClassFile.FieldType)) ∈ wNeed := List.mem_filter.mpr ⟨List.mem_of_getElem? (i := 157) (by decide +kernel), by decide +kernel⟩
theorem q_143 : (Jvm.Cond.methodLink "java/lang/Exception" (7 : Nat) ({ cls := "java/lang/Throwable", name := "<init>", desc := "(Ljava/lang/String;)V" } : Jvm.MethodName)) ∈ wNeed := List.mem_filter.mpr ⟨List.mem_of_getElem? (i := 158) (by decide +kernel), by decide +kernel⟩
theorem q_144 : (Jvm.Cond.instanceMethod ({ cls := "java/lang/Throwable", name := "<init>", desc := "(Ljava/lang/String;)V" } : Jvm.MethodName)) ∈ wNeed := List.mem_filter.mpr ⟨List.mem_of_getElem? (i := 159) (by decide +kernel), by decide +kernel⟩
theorem q_145 : (Jvm.Cond.code ({ cls := "java/lang/Throwable", name := "<init>", desc := "(Ljava/lang/String;)V" } : Jvm.MethodName) prog_13_method_2_code (2 : Nat) (Option.none : Option Jvm.ClassFile.FieldType)) ∈ wNeed := List.mem_filter.mpr ⟨List.mem_of_getElem? (i := 160) (by decide +kernel), by decide +kernel⟩
theorem q_146 : (Jvm.Cond.fieldLink "java/lang/Throwable" (198 : Nat) "java/lang/Throwable" "backtrace" "Ljava/lang/Object;") ∈ wNeed := List.mem_filter.mpr ⟨List.mem_of_getElem? (i := 161) (by decide +kernel), by decide +kernel⟩
theorem q_147 : (Jvm.Cond.fieldLink "java/lang/Throwable" (31 : Nat) "java/lang/Throwable" "detailMessage" "Ljava/lang/String;") ∈ wNeed := List.mem_filter.mpr ⟨List.mem_of_getElem? (i := 162) (by decide +kernel), by decide +kernel⟩
theorem q_148 : (Jvm.Cond.fieldLink "java/lang/Throwable" (7 : Nat) "java/lang/Throwable" "cause" "Ljava/lang/Throwable;") ∈ wNeed := List.mem_filter.mpr ⟨List.mem_of_getElem? (i := 163) (by decide +kernel), by decide +kernel⟩
theorem q_149 : (Jvm.Cond.fieldLink "java/lang/Throwable" (17 : Nat) "java/lang/Throwable" "stackTrace" "[Ljava/lang/StackTraceElement;") ∈ wNeed := List.mem_filter.mpr ⟨List.mem_of_getElem? (i := 164) (by decide +kernel), by decide +kernel⟩
theorem q_150 : (Jvm.Cond.fieldLink "java/lang/Throwable" (24 : Nat) "java/lang/Throwable" "suppressedExceptions" "Ljava/util/List;") ∈ wNeed := List.mem_filter.mpr ⟨List.mem_of_getElem? (i := 165) (by decide +kernel), by decide +kernel⟩
theorem q_155 : (Jvm.Cond.lays "java/lang/IndexOutOfBoundsException" "java/lang/Throwable" "depth" "I") ∈ wNeed := List.mem_filter.mpr ⟨List.mem_of_getElem? (i := 170) (by decide +kernel), by decide +kernel⟩
theorem q_158 : (Jvm.Cond.superclass "java/lang/IndexOutOfBoundsException" "java/lang/RuntimeException") ∈ wNeed := List.mem_filter.mpr ⟨List.mem_of_getElem? (i := 173) (by decide +kernel), by decide +kernel⟩
theorem q_159 : (Jvm.Cond.arrayClass Jvm.ClassFile.FieldType.byte) ∈ wNeed := List.mem_filter.mpr ⟨List.mem_of_getElem? (i := 174) (by decide +kernel), by decide +kernel⟩
theorem q_160 : (Jvm.Cond.constant "DroitLine" (30 : Nat) (1000000 : Int32)) ∈ wNeed := List.mem_filter.mpr ⟨List.mem_of_getElem? (i := 175) (by decide +kernel), by decide +kernel⟩
theorem q_161 : (Jvm.Cond.methodLink "DroitLine" (31 : Nat) ({ cls := "DroitLine", name := "checkRange", desc := "(III)V" } : Jvm.MethodName)) ∈ wNeed := List.mem_filter.mpr ⟨List.mem_of_getElem? (i := 176) (by decide +kernel), by decide +kernel⟩
theorem q_162 : (Jvm.Cond.static ({ cls := "DroitLine", name := "checkRange", desc := "(III)V" } : Jvm.MethodName)) ∈ wNeed := List.mem_filter.mpr ⟨List.mem_of_getElem? (i := 177) (by decide +kernel), by decide +kernel⟩
theorem q_163 : (Jvm.Cond.code ({ cls := "DroitLine", name := "checkRange", desc := "(III)V" } : Jvm.MethodName) prog_1_method_32_code (3 : Nat) (Option.none : Option Jvm.ClassFile.FieldType)) ∈ wNeed := List.mem_filter.mpr ⟨List.mem_of_getElem? (i := 178) (by decide +kernel), by decide +kernel⟩
theorem q_164 : (Jvm.Cond.classLink "DroitLine" (185 : Nat) "java/lang/IllegalArgumentException") ∈ wNeed := List.mem_filter.mpr ⟨List.mem_of_getElem? (i := 179) (by decide +kernel), by decide +kernel⟩
theorem q_165 : (Jvm.Cond.instantiable "java/lang/IllegalArgumentException" (6 : Nat)) ∈ wNeed := List.mem_filter.mpr ⟨List.mem_of_getElem? (i := 180) (by decide +kernel), by decide +kernel⟩
theorem q_167 : (Jvm.Cond.selects "java/lang/IllegalArgumentException" ({ cls := "java/lang/Throwable", name := "fillInStackTrace", desc := "(I)Ljava/lang/Throwable;" } : Jvm.MethodName) ({ cls := "java/lang/Throwable", name := "fillInStackTrace", desc := "(I)Ljava/lang/Throwable;" } : Jvm.MethodName)) ∈ wNeed := List.mem_filter.mpr ⟨List.mem_of_getElem? (i := 182) (by decide +kernel), by decide +kernel⟩
theorem q_168 : (Jvm.Cond.lays "java/lang/IllegalArgumentException" "java/lang/Throwable" "cause" "Ljava/lang/Throwable;") ∈ wNeed := List.mem_filter.mpr ⟨List.mem_of_getElem? (i := 183) (by decide +kernel), by decide +kernel⟩
theorem q_169 : (Jvm.Cond.lays "java/lang/IllegalArgumentException" "java/lang/Throwable" "stackTrace" "[Ljava/lang/StackTraceElement;") ∈ wNeed := List.mem_filter.mpr ⟨List.mem_of_getElem? (i := 184) (by decide +kernel), by decide +kernel⟩
theorem q_170 : (Jvm.Cond.lays "java/lang/IllegalArgumentException" "java/lang/Throwable" "suppressedExceptions" "Ljava/util/List;") ∈ wNeed := List.mem_filter.mpr ⟨List.mem_of_getElem? (i := 185) (by decide +kernel), by decide +kernel⟩
theorem q_171 : (Jvm.Cond.lays "java/lang/IllegalArgumentException" "java/lang/Throwable" "detailMessage" "Ljava/lang/String;") ∈ wNeed := List.mem_filter.mpr ⟨List.mem_of_getElem? (i := 186) (by decide +kernel), by decide +kernel⟩
theorem q_172 : (Jvm.Cond.lays "java/lang/IllegalArgumentException" "java/lang/Throwable" "backtrace" "Ljava/lang/Object;") ∈ wNeed := List.mem_filter.mpr ⟨List.mem_of_getElem? (i := 187) (by decide +kernel), by decide +kernel⟩
theorem q_174 : (Jvm.Cond.methodLink "DroitLine" (189 : Nat) ({ cls := "java/lang/IllegalArgumentException", name := "<init>", desc := "(Ljava/lang/String;)V" } : Jvm.MethodName)) ∈ wNeed := List.mem_filter.mpr ⟨List.mem_of_getElem? (i := 189) (by decide +kernel), by decide +kernel⟩
theorem q_175 : (Jvm.Cond.instanceMethod ({ cls := "java/lang/IllegalArgumentException", name := "<init>", desc := "(Ljava/lang/String;)V" } : Jvm.MethodName)) ∈ wNeed := List.mem_filter.mpr ⟨List.mem_of_getElem? (i := 190) (by decide +kernel), by decide +kernel⟩
theorem q_176 : (Jvm.Cond.code ({ cls := "java/lang/IllegalArgumentException", name := "<init>", desc := "(Ljava/lang/String;)V" } : Jvm.MethodName) prog_7_method_2_code (2 : Nat) (Option.none : Option Jvm.ClassFile.FieldType)) ∈ wNeed := List.mem_filter.mpr ⟨List.mem_of_getElem? (i := 191) (by decide +kernel), by decide +kernel⟩
theorem q_177 : (Jvm.Cond.methodLink "java/lang/IllegalArgumentException" (7 : Nat) ({ cls := "java/lang/RuntimeException", name := "<init>", desc := "(Ljava/lang/String;)V" } : Jvm.MethodName)) ∈ wNeed := List.mem_filter.mpr ⟨List.mem_of_getElem? (i := 192) (by decide +kernel), by decide +kernel⟩
theorem q_178 : (Jvm.Cond.lays "java/lang/IllegalArgumentException" "java/lang/Throwable" "depth" "I") ∈ wNeed := List.mem_filter.mpr ⟨List.mem_of_getElem? (i := 193) (by decide +kernel), by decide +kernel⟩
theorem q_179 : (Jvm.Cond.superclass "java/lang/IllegalArgumentException" "java/lang/RuntimeException") ∈ wNeed := List.mem_filter.mpr ⟨List.mem_of_getElem? (i := 194) (by decide +kernel), by decide +kernel⟩
theorem q_180 : (Jvm.Cond.methodLink "DroitLine" (35 : Nat) ({ cls := "DroitLine", name := "checkArtist", desc := "(I)V" } : Jvm.MethodName)) ∈ wNeed := List.mem_filter.mpr ⟨List.mem_of_getElem? (i := 195) (by decide +kernel), by decide +kernel⟩
theorem q_181 : (Jvm.Cond.static ({ cls := "DroitLine", name := "checkArtist", desc := "(I)V" } : Jvm.MethodName)) ∈ wNeed := List.mem_filter.mpr ⟨List.mem_of_getElem? (i := 196) (by decide +kernel), by decide +kernel⟩
theorem q_182 : (Jvm.Cond.code ({ cls := "DroitLine", name := "checkArtist", desc := "(I)V" } : Jvm.MethodName) prog_1_method_33_code (1 : Nat) (Option.none : Option Jvm.ClassFile.FieldType)) ∈ wNeed := List.mem_filter.mpr ⟨List.mem_of_getElem? (i := 197) (by decide +kernel), by decide +kernel⟩
theorem q_183 : (Jvm.Cond.classLink "DroitLine" (41 : Nat) "java/lang/IllegalStateException") ∈ wNeed := List.mem_filter.mpr ⟨List.mem_of_getElem? (i := 198) (by decide +kernel), by decide +kernel⟩
theorem q_184 : (Jvm.Cond.instantiable "java/lang/IllegalStateException" (6 : Nat)) ∈ wNeed := List.mem_filter.mpr ⟨List.mem_of_getElem? (i := 199) (by decide +kernel), by decide +kernel⟩
theorem q_186 : (Jvm.Cond.selects "java/lang/IllegalStateException" ({ cls := "java/lang/Throwable", name := "fillInStackTrace", desc := "(I)Ljava/lang/Throwable;" } : Jvm.MethodName) ({ cls := "java/lang/Throwable", name := "fillInStackTrace", desc := "(I)Ljava/lang/Throwable;" } : Jvm.MethodName)) ∈ wNeed := List.mem_filter.mpr ⟨List.mem_of_getElem? (i := 201) (by decide +kernel), by decide +kernel⟩
theorem q_187 : (Jvm.Cond.lays "java/lang/IllegalStateException" "java/lang/Throwable" "cause" "Ljava/lang/Throwable;") ∈ wNeed := List.mem_filter.mpr ⟨List.mem_of_getElem? (i := 202) (by decide +kernel), by decide +kernel⟩
theorem q_188 : (Jvm.Cond.lays "java/lang/IllegalStateException" "java/lang/Throwable" "stackTrace" "[Ljava/lang/StackTraceElement;") ∈ wNeed := List.mem_filter.mpr ⟨List.mem_of_getElem? (i := 203) (by decide +kernel), by decide +kernel⟩
theorem q_189 : (Jvm.Cond.lays "java/lang/IllegalStateException" "java/lang/Throwable" "suppressedExceptions" "Ljava/util/List;") ∈ wNeed := List.mem_filter.mpr ⟨List.mem_of_getElem? (i := 204) (by decide +kernel), by decide +kernel⟩
theorem q_190 : (Jvm.Cond.lays "java/lang/IllegalStateException" "java/lang/Throwable" "detailMessage" "Ljava/lang/String;") ∈ wNeed := List.mem_filter.mpr ⟨List.mem_of_getElem? (i := 205) (by decide +kernel), by decide +kernel⟩
theorem q_191 : (Jvm.Cond.lays "java/lang/IllegalStateException" "java/lang/Throwable" "backtrace" "Ljava/lang/Object;") ∈ wNeed := List.mem_filter.mpr ⟨List.mem_of_getElem? (i := 206) (by decide +kernel), by decide +kernel⟩
theorem q_193 : (Jvm.Cond.methodLink "DroitLine" (45 : Nat) ({ cls := "java/lang/IllegalStateException", name := "<init>", desc := "(Ljava/lang/String;)V" } : Jvm.MethodName)) ∈ wNeed := List.mem_filter.mpr ⟨List.mem_of_getElem? (i := 208) (by decide +kernel), by decide +kernel⟩
theorem q_194 : (Jvm.Cond.instanceMethod ({ cls := "java/lang/IllegalStateException", name := "<init>", desc := "(Ljava/lang/String;)V" } : Jvm.MethodName)) ∈ wNeed := List.mem_filter.mpr ⟨List.mem_of_getElem? (i := 209) (by decide +kernel), by decide +kernel⟩
theorem q_195 : (Jvm.Cond.code ({ cls := "java/lang/IllegalStateException", name := "<init>", desc := "(Ljava/lang/String;)V" } : Jvm.MethodName) prog_8_method_2_code (2 : Nat) (Option.none : Option Jvm.ClassFile.FieldType)) ∈ wNeed := List.mem_filter.mpr ⟨List.mem_of_getElem? (i := 210) (by decide +kernel), by decide +kernel⟩
theorem q_196 : (Jvm.Cond.methodLink "java/lang/IllegalStateException" (7 : Nat) ({ cls := "java/lang/RuntimeException", name := "<init>", desc := "(Ljava/lang/String;)V" } : Jvm.MethodName)) ∈ wNeed := List.mem_filter.mpr ⟨List.mem_of_getElem? (i := 211) (by decide +kernel), by decide +kernel⟩
theorem q_197 : (Jvm.Cond.lays "java/lang/IllegalStateException" "java/lang/Throwable" "depth" "I") ∈ wNeed := List.mem_filter.mpr ⟨List.mem_of_getElem? (i := 212) (by decide +kernel), by decide +kernel⟩
theorem q_198 : (Jvm.Cond.superclass "java/lang/IllegalStateException" "java/lang/RuntimeException") ∈ wNeed := List.mem_filter.mpr ⟨List.mem_of_getElem? (i := 213) (by decide +kernel), by decide +kernel⟩
theorem q_199 : (Jvm.Cond.instantiable "DroitLine$Lot" (13 : Nat)) ∈ wNeed := List.mem_filter.mpr ⟨List.mem_of_getElem? (i := 214) (by decide +kernel), by decide +kernel⟩
theorem q_200 : (Jvm.Cond.methodLink "DroitLine" (48 : Nat) ({ cls := "DroitLine", name := "calledAmount", desc := "(I)I" } : Jvm.MethodName)) ∈ wNeed := List.mem_filter.mpr ⟨List.mem_of_getElem? (i := 215) (by decide +kernel), by decide +kernel⟩
theorem q_201 : (Jvm.Cond.static ({ cls := "DroitLine", name := "calledAmount", desc := "(I)I" } : Jvm.MethodName)) ∈ wNeed := List.mem_filter.mpr ⟨List.mem_of_getElem? (i := 216) (by decide +kernel), by decide +kernel⟩
theorem q_202 : (Jvm.Cond.code ({ cls := "DroitLine", name := "calledAmount", desc := "(I)I" } : Jvm.MethodName) prog_1_method_36_code (2 : Nat) (Option.some Jvm.ClassFile.FieldType.int)) ∈ wNeed := List.mem_filter.mpr ⟨List.mem_of_getElem? (i := 217) (by decide +kernel), by decide +kernel⟩
theorem q_203 : (Jvm.Cond.methodLink "DroitLine" (192 : Nat) ({ cls := "DroitLine", name := "stepOf", desc := "(I)I" } : Jvm.MethodName)) ∈ wNeed := List.mem_filter.mpr ⟨List.mem_of_getElem? (i := 218) (by decide +kernel), by decide +kernel⟩
theorem q_204 : (Jvm.Cond.static ({ cls := "DroitLine", name := "stepOf", desc := "(I)I" } : Jvm.MethodName)) ∈ wNeed := List.mem_filter.mpr ⟨List.mem_of_getElem? (i := 219) (by decide +kernel), by decide +kernel⟩
theorem q_205 : (Jvm.Cond.code ({ cls := "DroitLine", name := "stepOf", desc := "(I)I" } : Jvm.MethodName) prog_1_method_35_code (1 : Nat) (Option.some Jvm.ClassFile.FieldType.int)) ∈ wNeed := List.mem_filter.mpr ⟨List.mem_of_getElem? (i := 220) (by decide +kernel), by decide +kernel⟩
theorem q_206 : (Jvm.Cond.methodLink "DroitLine" (52 : Nat) ({ cls := "DroitLine$Lot", name := "<init>", desc := "(III)V" } : Jvm.MethodName)) ∈ wNeed := List.mem_filter.mpr ⟨List.mem_of_getElem? (i := 221) (by decide +kernel), by decide +kernel⟩
theorem q_207 : (Jvm.Cond.instanceMethod ({ cls := "DroitLine$Lot", name := "<init>", desc := "(III)V" } : Jvm.MethodName)) ∈ wNeed := List.mem_filter.mpr ⟨List.mem_of_getElem? (i := 222) (by decide +kernel), by decide +kernel⟩
theorem q_208 : (Jvm.Cond.code ({ cls := "DroitLine$Lot", name := "<init>", desc := "(III)V" } : Jvm.MethodName) prog_2_method_1_code (4 : Nat) (Option.none : Option Jvm.ClassFile.FieldType)) ∈ wNeed := List.mem_filter.mpr ⟨List.mem_of_getElem? (i := 223) (by decide +kernel), by decide +kernel⟩
theorem q_209 : (Jvm.Cond.methodLink "DroitLine$Lot" (3 : Nat) ({ cls := "java/lang/Object", name := "<init>", desc := "()V" } : Jvm.MethodName)) ∈ wNeed := List.mem_filter.mpr ⟨List.mem_of_getElem? (i := 224) (by decide +kernel), by decide +kernel⟩
theorem q_210 : (Jvm.Cond.classLink "DroitLine$Lot" (21 : Nat) "DroitLine$Offers") ∈ wNeed := List.mem_filter.mpr ⟨List.mem_of_getElem? (i := 225) (by decide +kernel), by decide +kernel⟩
theorem q_211 : (Jvm.Cond.instantiable "DroitLine$Offers" (3 : Nat)) ∈ wNeed := List.mem_filter.mpr ⟨List.mem_of_getElem? (i := 226) (by decide +kernel), by decide +kernel⟩
theorem q_213 : (Jvm.Cond.instanceMethod ({ cls := "DroitLine$Offers", name := "<init>", desc := "()V" } : Jvm.MethodName)) ∈ wNeed := List.mem_filter.mpr ⟨List.mem_of_getElem? (i := 228) (by decide +kernel), by decide +kernel⟩
theorem q_214 : (Jvm.Cond.code ({ cls := "DroitLine$Offers", name := "<init>", desc := "()V" } : Jvm.MethodName) prog_3_method_1_code (1 : Nat) (Option.none : Option Jvm.ClassFile.FieldType)) ∈ wNeed := List.mem_filter.mpr ⟨List.mem_of_getElem? (i := 229) (by decide +kernel), by decide +kernel⟩
theorem q_215 : (Jvm.Cond.methodLink "DroitLine$Offers" (3 : Nat) ({ cls := "java/lang/Object", name := "<init>", desc := "()V" } : Jvm.MethodName)) ∈ wNeed := List.mem_filter.mpr ⟨List.mem_of_getElem? (i := 230) (by decide +kernel), by decide +kernel⟩
theorem q_216 : (Jvm.Cond.fieldLink "DroitLine$Offers" (9 : Nat) "DroitLine$Offers" "buyers" "[I") ∈ wNeed := List.mem_filter.mpr ⟨List.mem_of_getElem? (i := 231) (by decide +kernel), by decide +kernel⟩
theorem q_217 : (Jvm.Cond.fieldLink "DroitLine$Offers" (15 : Nat) "DroitLine$Offers" "amounts" "[I") ∈ wNeed := List.mem_filter.mpr ⟨List.mem_of_getElem? (i := 232) (by decide +kernel), by decide +kernel⟩
theorem q_218 : (Jvm.Cond.fieldLink "DroitLine$Offers" (18 : Nat) "DroitLine$Offers" "count" "I") ∈ wNeed := List.mem_filter.mpr ⟨List.mem_of_getElem? (i := 233) (by decide +kernel), by decide +kernel⟩
theorem q_221 : (Jvm.Cond.laysFinal "DroitLine$Offers" "DroitLine$Offers" "buyers" "[I") ∈ wNeed := List.mem_filter.mpr ⟨List.mem_of_getElem? (i := 236) (by decide +kernel), by decide +kernel⟩
theorem q_223 : (Jvm.Cond.laysFinal "DroitLine$Offers" "DroitLine$Offers" "amounts" "[I") ∈ wNeed := List.mem_filter.mpr ⟨List.mem_of_getElem? (i := 238) (by decide +kernel), by decide +kernel⟩
theorem q_225 : (Jvm.Cond.lays "DroitLine$Offers" "DroitLine$Offers" "count" "I") ∈ wNeed := List.mem_filter.mpr ⟨List.mem_of_getElem? (i := 240) (by decide +kernel), by decide +kernel⟩
theorem q_227 : (Jvm.Cond.superclass "DroitLine$Offers" "java/lang/Object") ∈ wNeed := List.mem_filter.mpr ⟨List.mem_of_getElem? (i := 242) (by decide +kernel), by decide +kernel⟩
theorem q_228 : (Jvm.Cond.fieldLink "DroitLine$Lot" (9 : Nat) "DroitLine$Lot" "seller" "I") ∈ wNeed := List.mem_filter.mpr ⟨List.mem_of_getElem? (i := 243) (by decide +kernel), by decide +kernel⟩
theorem q_230 : (Jvm.Cond.fieldLink "DroitLine$Lot" (15 : Nat) "DroitLine$Lot" "artist" "I") ∈ wNeed := List.mem_filter.mpr ⟨List.mem_of_getElem? (i := 245) (by decide +kernel), by decide +kernel⟩
theorem q_232 : (Jvm.Cond.fieldLink "DroitLine$Lot" (24 : Nat) "DroitLine$Lot" "offers" "LDroitLine$Offers;") ∈ wNeed := List.mem_filter.mpr ⟨List.mem_of_getElem? (i := 247) (by decide +kernel), by decide +kernel⟩
theorem q_234 : (Jvm.Cond.fieldLink "DroitLine$Lot" (18 : Nat) "DroitLine$Lot" "reserve" "I") ∈ wNeed := List.mem_filter.mpr ⟨List.mem_of_getElem? (i := 249) (by decide +kernel), by decide +kernel⟩
theorem q_236 : (Jvm.Cond.fieldLink "DroitLine$Lot" (28 : Nat) "DroitLine$Lot" "state" "I") ∈ wNeed := List.mem_filter.mpr ⟨List.mem_of_getElem? (i := 251) (by decide +kernel), by decide +kernel⟩
theorem q_238 : (Jvm.Cond.fieldLink "DroitLine$Lot" (31 : Nat) "DroitLine$Lot" "winner" "I") ∈ wNeed := List.mem_filter.mpr ⟨List.mem_of_getElem? (i := 253) (by decide +kernel), by decide +kernel⟩
theorem q_240 : (Jvm.Cond.fieldLink "DroitLine$Lot" (34 : Nat) "DroitLine$Lot" "hammerPrice" "I") ∈ wNeed := List.mem_filter.mpr ⟨List.mem_of_getElem? (i := 255) (by decide +kernel), by decide +kernel⟩
theorem q_243 : (Jvm.Cond.fieldLink "DroitLine$Lot" (37 : Nat) "DroitLine$Lot" "gapBuyer" "I") ∈ wNeed := List.mem_filter.mpr ⟨List.mem_of_getElem? (i := 258) (by decide +kernel), by decide +kernel⟩
theorem q_246 : (Jvm.Cond.fieldLink "DroitLine$Lot" (43 : Nat) "DroitLine$Lot" "advanced" "I") ∈ wNeed := List.mem_filter.mpr ⟨List.mem_of_getElem? (i := 261) (by decide +kernel), by decide +kernel⟩
theorem q_250 : (Jvm.Cond.laysFinal "DroitLine$Lot" "DroitLine$Lot" "seller" "I") ∈ wNeed := List.mem_filter.mpr ⟨List.mem_of_getElem? (i := 265) (by decide +kernel), by decide +kernel⟩
theorem q_252 : (Jvm.Cond.laysFinal "DroitLine$Lot" "DroitLine$Lot" "artist" "I") ∈ wNeed := List.mem_filter.mpr ⟨List.mem_of_getElem? (i := 267) (by decide +kernel), by decide +kernel⟩
theorem q_254 : (Jvm.Cond.laysFinal "DroitLine$Lot" "DroitLine$Lot" "offers" "LDroitLine$Offers;") ∈ wNeed := List.mem_filter.mpr ⟨List.mem_of_getElem? (i := 269) (by decide +kernel), by decide +kernel⟩
theorem q_256 : (Jvm.Cond.lays "DroitLine$Lot" "DroitLine$Lot" "reserve" "I") ∈ wNeed := List.mem_filter.mpr ⟨List.mem_of_getElem? (i := 271) (by decide +kernel), by decide +kernel⟩
theorem q_258 : (Jvm.Cond.lays "DroitLine$Lot" "DroitLine$Lot" "state" "I") ∈ wNeed := List.mem_filter.mpr ⟨List.mem_of_getElem? (i := 273) (by decide +kernel), by decide +kernel⟩
theorem q_260 : (Jvm.Cond.lays "DroitLine$Lot" "DroitLine$Lot" "winner" "I") ∈ wNeed := List.mem_filter.mpr ⟨List.mem_of_getElem? (i := 275) (by decide +kernel), by decide +kernel⟩
theorem q_262 : (Jvm.Cond.lays "DroitLine$Lot" "DroitLine$Lot" "hammerPrice" "I") ∈ wNeed := List.mem_filter.mpr ⟨List.mem_of_getElem? (i := 277) (by decide +kernel), by decide +kernel⟩
theorem q_264 : (Jvm.Cond.lays "DroitLine$Lot" "DroitLine$Lot" "saleYear" "I") ∈ wNeed := List.mem_filter.mpr ⟨List.mem_of_getElem? (i := 279) (by decide +kernel), by decide +kernel⟩
theorem q_266 : (Jvm.Cond.lays "DroitLine$Lot" "DroitLine$Lot" "gapBuyer" "I") ∈ wNeed := List.mem_filter.mpr ⟨List.mem_of_getElem? (i := 281) (by decide +kernel), by decide +kernel⟩
theorem q_268 : (Jvm.Cond.lays "DroitLine$Lot" "DroitLine$Lot" "gapPrice" "I") ∈ wNeed := List.mem_filter.mpr ⟨List.mem_of_getElem? (i := 283) (by decide +kernel), by decide +kernel⟩
theorem q_270 : (Jvm.Cond.lays "DroitLine$Lot" "DroitLine$Lot" "advanced" "I") ∈ wNeed := List.mem_filter.mpr ⟨List.mem_of_getElem? (i := 285) (by decide +kernel), by decide +kernel⟩
theorem q_272 : (Jvm.Cond.lays "DroitLine$Lot" "DroitLine$Lot" "advanceDay" "I") ∈ wNeed := List.mem_filter.mpr ⟨List.mem_of_getElem? (i := 287) (by decide +kernel), by decide +kernel⟩
theorem q_274 : (Jvm.Cond.lays "DroitLine$Lot" "DroitLine$Lot" "interestAtSettling" "I") ∈ wNeed := List.mem_filter.mpr ⟨List.mem_of_getElem? (i := 289) (by decide +kernel), by decide +kernel⟩
theorem q_276 : (Jvm.Cond.superclass "DroitLine$Lot" "java/lang/Object") ∈ wNeed := List.mem_filter.mpr ⟨List.mem_of_getElem? (i := 291) (by decide +kernel), by decide +kernel⟩
theorem q_277 : (Jvm.Cond.methodLink "DroitLineLaw" (95 : Nat) ({ cls := "DroitLineLaw", name := "bid", desc := "(LDroitLine;III[J)I" } : Jvm.MethodName)) ∈ wNeed := List.mem_filter.mpr ⟨List.mem_of_getElem? (i := 292) (by decide +kernel), by decide +kernel⟩
theorem q_278 : (Jvm.Cond.static ({ cls := "DroitLineLaw", name := "bid", desc := "(LDroitLine;III[J)I" } : Jvm.MethodName)) ∈ wNeed := List.mem_filter.mpr ⟨List.mem_of_getElem? (i := 293) (by decide +kernel), by decide +kernel⟩
theorem q_279 : (Jvm.Cond.codeWith ({ cls := "DroitLineLaw", name := "bid", desc := "(LDroitLine;III[J)I" } : Jvm.MethodName) method_4_code (6 : Nat) (Option.some Jvm.ClassFile.FieldType.int) [((0 : Nat), (12 : Nat), (15 : Nat), (13 : Nat)), ((0 : Nat), (12 : Nat), (19 : Nat), (15 : Nat)), ((0 : Nat), (12 : Nat), (23 : Nat), (17 : Nat))]) ∈ wNeed := List.mem_filter.mpr ⟨List.mem_of_getElem? (i := 294) (by decide +kernel), by decide +kernel⟩
theorem q_280 : (Jvm.Cond.methodLink "DroitLineLaw" (19 : Nat) ({ cls := "DroitLine", name := "bid", desc := "(III)I" } : Jvm.MethodName)) ∈ wNeed := List.mem_filter.mpr ⟨List.mem_of_getElem? (i := 295) (by decide +kernel), by decide +kernel⟩
theorem q_281 : (Jvm.Cond.instanceMethod ({ cls := "DroitLine", name := "bid", desc := "(III)I" } : Jvm.MethodName)) ∈ wNeed := List.mem_filter.mpr ⟨List.mem_of_getElem? (i := 296) (by decide +kernel), by decide +kernel⟩
theorem q_282 : (Jvm.Cond.selects "DroitLine" ({ cls := "DroitLine", name := "bid", desc := "(III)I" } : Jvm.MethodName) ({ cls := "DroitLine", name := "bid", desc := "(III)I" } : Jvm.MethodName)) ∈ wNeed := List.mem_filter.mpr ⟨List.mem_of_getElem? (i := 297) (by decide +kernel), by decide +kernel⟩
theorem q_283 : (Jvm.Cond.code ({ cls := "DroitLine", name := "bid", desc := "(III)I" } : Jvm.MethodName) prog_1_method_3_code (6 : Nat) (Option.some Jvm.ClassFile.FieldType.int)) ∈ wNeed := List.mem_filter.mpr ⟨List.mem_of_getElem? (i := 298) (by decide +kernel), by decide +kernel⟩
theorem q_284 : (Jvm.Cond.methodLink "DroitLine" (54 : Nat) ({ cls := "DroitLine", name := "findLot", desc := "(I)LDroitLine$Lot;" } : Jvm.MethodName)) ∈ wNeed := List.mem_filter.mpr ⟨List.mem_of_getElem? (i := 299) (by decide +kernel), by decide +kernel⟩
theorem q_286 : (Jvm.Cond.instanceMethod ({ cls := "DroitLine", name := "findLot", desc := "(I)LDroitLine$Lot;" } : Jvm.MethodName)) ∈ wNeed := List.mem_filter.mpr ⟨List.mem_of_getElem? (i := 301) (by decide +kernel), by decide +kernel⟩
theorem q_287 : (Jvm.Cond.code ({ cls := "DroitLine", name := "findLot", desc := "(I)LDroitLine$Lot;" } : Jvm.MethodName) prog_1_method_29_code (3 : Nat) (Option.some (Jvm.ClassFile.FieldType.object "DroitLine$Lot"))) ∈ wNeed := List.mem_filter.mpr ⟨List.mem_of_getElem? (i := 302) (by decide +kernel), by decide +kernel⟩
theorem q_289 : (Jvm.Cond.methodLink "DroitLine" (58 : Nat) ({ cls := "DroitLine", name := "checkBuyer", desc := "(I)V" } : Jvm.MethodName)) ∈ wNeed := List.mem_filter.mpr ⟨List.mem_of_getElem? (i := 304) (by decide +kernel), by decide +kernel⟩
theorem q_290 : (Jvm.Cond.static ({ cls := "DroitLine", name := "checkBuyer", desc := "(I)V" } : Jvm.MethodName)) ∈ wNeed := List.mem_filter.mpr ⟨List.mem_of_getElem? (i := 305) (by decide +kernel), by decide +kernel⟩
theorem q_291 : (Jvm.Cond.code ({ cls := "DroitLine", name := "checkBuyer", desc := "(I)V" } : Jvm.MethodName) prog_1_method_31_code (1 : Nat) (Option.none : Option Jvm.ClassFile.FieldType)) ∈ wNeed := List.mem_filter.mpr ⟨List.mem_of_getElem? (i := 306) (by decide +kernel), by decide +kernel⟩
theorem q_293 : (Jvm.Cond.methodLink "DroitLine" (61 : Nat) ({ cls := "DroitLine", name := "checkState", desc := "(LDroitLine$Lot;I)V" } : Jvm.MethodName)) ∈ wNeed := List.mem_filter.mpr ⟨List.mem_of_getElem? (i := 308) (by decide +kernel), by decide +kernel⟩
theorem q_294 : (Jvm.Cond.static ({ cls := "DroitLine", name := "checkState", desc := "(LDroitLine$Lot;I)V" } : Jvm.MethodName)) ∈ wNeed := List.mem_filter.mpr ⟨List.mem_of_getElem? (i := 309) (by decide +kernel), by decide +kernel⟩
theorem q_295 : (Jvm.Cond.code ({ cls := "DroitLine", name := "checkState", desc := "(LDroitLine$Lot;I)V" } : Jvm.MethodName) prog_1_method_34_code (2 : Nat) (Option.none : Option Jvm.ClassFile.FieldType)) ∈ wNeed := List.mem_filter.mpr ⟨List.mem_of_getElem? (i := 310) (by decide +kernel), by decide +kernel⟩
theorem q_297 : (Jvm.Cond.methodLink "DroitLine" (69 : Nat) ({ cls := "DroitLine$Offers", name := "leave", desc := "(II)V" } : Jvm.MethodName)) ∈ wNeed := List.mem_filter.mpr ⟨List.mem_of_getElem? (i := 312) (by decide +kernel), by decide +kernel⟩
theorem q_298 : (Jvm.Cond.instanceMethod ({ cls := "DroitLine$Offers", name := "leave", desc := "(II)V" } : Jvm.MethodName)) ∈ wNeed := List.mem_filter.mpr ⟨List.mem_of_getElem? (i := 313) (by decide +kernel), by decide +kernel⟩
theorem q_299 : (Jvm.Cond.selects "DroitLine$Offers" ({ cls := "DroitLine$Offers", name := "leave", desc := "(II)V" } : Jvm.MethodName) ({ cls := "DroitLine$Offers", name := "leave", desc := "(II)V" } : Jvm.MethodName)) ∈ wNeed := List.mem_filter.mpr ⟨List.mem_of_getElem? (i := 314) (by decide +kernel), by decide +kernel⟩
theorem q_300 : (Jvm.Cond.code ({ cls := "DroitLine$Offers", name := "leave", desc := "(II)V" } : Jvm.MethodName) prog_3_method_2_code (4 : Nat) (Option.none : Option Jvm.ClassFile.FieldType)) ∈ wNeed := List.mem_filter.mpr ⟨List.mem_of_getElem? (i := 315) (by decide +kernel), by decide +kernel⟩
theorem q_301 : (Jvm.Cond.methodLink "DroitLine$Offers" (22 : Nat) ({ cls := "DroitLine$Offers", name := "buyerAt", desc := "(I)I" } : Jvm.MethodName)) ∈ wNeed := List.mem_filter.mpr ⟨List.mem_of_getElem? (i := 316) (by decide +kernel), by decide +kernel⟩
theorem q_302 : (Jvm.Cond.instanceMethod ({ cls := "DroitLine$Offers", name := "buyerAt", desc := "(I)I" } : Jvm.MethodName)) ∈ wNeed := List.mem_filter.mpr ⟨List.mem_of_getElem? (i := 317) (by decide +kernel), by decide +kernel⟩
theorem q_303 : (Jvm.Cond.selects "DroitLine$Offers" ({ cls := "DroitLine$Offers", name := "buyerAt", desc := "(I)I" } : Jvm.MethodName) ({ cls := "DroitLine$Offers", name := "buyerAt", desc := "(I)I" } : Jvm.MethodName)) ∈ wNeed := List.mem_filter.mpr ⟨List.mem_of_getElem? (i := 318) (by decide +kernel), by decide +kernel⟩
theorem q_304 : (Jvm.Cond.code ({ cls := "DroitLine$Offers", name := "buyerAt", desc := "(I)I" } : Jvm.MethodName) prog_3_method_3_code (2 : Nat) (Option.some Jvm.ClassFile.FieldType.int)) ∈ wNeed := List.mem_filter.mpr ⟨List.mem_of_getElem? (i := 319) (by decide +kernel), by decide +kernel⟩
theorem q_305 : (Jvm.Cond.methodLink "DroitLine$Offers" (26 : Nat) ({ cls := "java/lang/Math", name := "max", desc := "(II)I" } : Jvm.MethodName)) ∈ wNeed := List.mem_filter.mpr ⟨List.mem_of_getElem? (i := 320) (by decide +kernel), by decide +kernel⟩
theorem q_306 : (Jvm.Cond.static ({ cls := "java/lang/Math", name := "max", desc := "(II)I" } : Jvm.MethodName)) ∈ wNeed := List.mem_filter.mpr ⟨List.mem_of_getElem? (i := 321) (by decide +kernel), by decide +kernel⟩
theorem q_307 : (Jvm.Cond.code ({ cls := "java/lang/Math", name := "max", desc := "(II)I" } : Jvm.MethodName) prog_10_method_65_code (2 : Nat) (Option.some Jvm.ClassFile.FieldType.int)) ∈ wNeed := List.mem_filter.mpr ⟨List.mem_of_getElem? (i := 322) (by decide +kernel), by decide +kernel⟩
theorem q_308 : (Jvm.Cond.methodLink "DroitLineLaw" (98 : Nat) ({ cls := "DroitLineLaw", name := "hammer", desc := "(LDroitLine;I[J)I" } : Jvm.MethodName)) ∈ wNeed := List.mem_filter.mpr ⟨List.mem_of_getElem? (i := 323) (by decide +kernel), by decide +kernel⟩
theorem q_309 : (Jvm.Cond.static ({ cls := "DroitLineLaw", name := "hammer", desc := "(LDroitLine;I[J)I" } : Jvm.MethodName)) ∈ wNeed := List.mem_filter.mpr ⟨List.mem_of_getElem? (i := 324) (by decide +kernel), by decide +kernel⟩
theorem q_310 : (Jvm.Cond.codeWith ({ cls := "DroitLineLaw", name := "hammer", desc := "(LDroitLine;I[J)I" } : Jvm.MethodName) method_5_code (4 : Nat) (Option.some Jvm.ClassFile.FieldType.int) [((0 : Nat), (9 : Nat), (12 : Nat), (13 : Nat)), ((0 : Nat), (9 : Nat), (15 : Nat), (17 : Nat))]) ∈ wNeed := List.mem_filter.mpr ⟨List.mem_of_getElem? (i := 325) (by decide +kernel), by decide +kernel⟩
theorem q_311 : (Jvm.Cond.methodLink "DroitLineLaw" (22 : Nat) ({ cls := "DroitLine", name := "hammer", desc := "(I)I" } : Jvm.MethodName)) ∈ wNeed := List.mem_filter.mpr ⟨List.mem_of_getElem? (i := 326) (by decide +kernel), by decide +kernel⟩
theorem q_312 : (Jvm.Cond.instanceMethod ({ cls := "DroitLine", name := "hammer", desc := "(I)I" } : Jvm.MethodName)) ∈ wNeed := List.mem_filter.mpr ⟨List.mem_of_getElem? (i := 327) (by decide +kernel), by decide +kernel⟩
theorem q_313 : (Jvm.Cond.selects "DroitLine" ({ cls := "DroitLine", name := "hammer", desc := "(I)I" } : Jvm.MethodName) ({ cls := "DroitLine", name := "hammer", desc := "(I)I" } : Jvm.MethodName)) ∈ wNeed := List.mem_filter.mpr ⟨List.mem_of_getElem? (i := 328) (by decide +kernel), by decide +kernel⟩
theorem q_314 : (Jvm.Cond.code ({ cls := "DroitLine", name := "hammer", desc := "(I)I" } : Jvm.MethodName) prog_1_method_4_code (6 : Nat) (Option.some Jvm.ClassFile.FieldType.int)) ∈ wNeed := List.mem_filter.mpr ⟨List.mem_of_getElem? (i := 329) (by decide +kernel), by decide +kernel⟩
theorem q_315 : (Jvm.Cond.methodLink "DroitLine" (75 : Nat) ({ cls := "DroitLine$Offers", name := "placeOfBest", desc := "()I" } : Jvm.MethodName)) ∈ wNeed := List.mem_filter.mpr ⟨List.mem_of_getElem? (i := 330) (by decide +kernel), by decide +kernel⟩
theorem q_316 : (Jvm.Cond.instanceMethod ({ cls := "DroitLine$Offers", name := "placeOfBest", desc := "()I" } : Jvm.MethodName)) ∈ wNeed := List.mem_filter.mpr ⟨List.mem_of_getElem? (i := 331) (by decide +kernel), by decide +kernel⟩
theorem q_317 : (Jvm.Cond.selects "DroitLine$Offers" ({ cls := "DroitLine$Offers", name := "placeOfBest", desc := "()I" } : Jvm.MethodName) ({ cls := "DroitLine$Offers", name := "placeOfBest", desc := "()I" } : Jvm.MethodName)) ∈ wNeed := List.mem_filter.mpr ⟨List.mem_of_getElem? (i := 332) (by decide +kernel), by decide +kernel⟩
theorem q_318 : (Jvm.Cond.code ({ cls := "DroitLine$Offers", name := "placeOfBest", desc := "()I" } : Jvm.MethodName) prog_3_method_5_code (3 : Nat) (Option.some Jvm.ClassFile.FieldType.int)) ∈ wNeed := List.mem_filter.mpr ⟨List.mem_of_getElem? (i := 333) (by decide +kernel), by decide +kernel⟩
theorem q_319 : (Jvm.Cond.methodLink "DroitLine$Offers" (32 : Nat) ({ cls := "DroitLine$Offers", name := "amountAt", desc := "(I)I" } : Jvm.MethodName)) ∈ wNeed := List.mem_filter.mpr ⟨List.mem_of_getElem? (i := 334) (by decide +kernel), by decide +kernel⟩
theorem q_320 : (Jvm.Cond.instanceMethod ({ cls := "DroitLine$Offers", name := "amountAt", desc := "(I)I" } : Jvm.MethodName)) ∈ wNeed := List.mem_filter.mpr ⟨List.mem_of_getElem? (i := 335) (by decide +kernel), by decide +kernel⟩
theorem q_321 : (Jvm.Cond.selects "DroitLine$Offers" ({ cls := "DroitLine$Offers", name := "amountAt", desc := "(I)I" } : Jvm.MethodName) ({ cls := "DroitLine$Offers", name := "amountAt", desc := "(I)I" } : Jvm.MethodName)) ∈ wNeed := List.mem_filter.mpr ⟨List.mem_of_getElem? (i := 336) (by decide +kernel), by decide +kernel⟩
theorem q_322 : (Jvm.Cond.code ({ cls := "DroitLine$Offers", name := "amountAt", desc := "(I)I" } : Jvm.MethodName) prog_3_method_4_code (2 : Nat) (Option.some Jvm.ClassFile.FieldType.int)) ∈ wNeed := List.mem_filter.mpr ⟨List.mem_of_getElem? (i := 337) (by decide +kernel), by decide +kernel⟩
theorem q_323 : (Jvm.Cond.methodLink "DroitLine" (79 : Nat) ({ cls := "DroitLine$Offers", name := "amountAt", desc := "(I)I" } : Jvm.MethodName)) ∈ wNeed := List.mem_filter.mpr ⟨List.mem_of_getElem? (i := 338) (by decide +kernel), by decide +kernel⟩
theorem q_324 : (Jvm.Cond.methodLink "DroitLine" (88 : Nat) ({ cls := "DroitLine$Offers", name := "buyerAt", desc := "(I)I" } : Jvm.MethodName)) ∈ wNeed := List.mem_filter.mpr ⟨List.mem_of_getElem? (i := 339) (by decide +kernel), by decide +kernel⟩
theorem q_325 : (Jvm.Cond.methodLink "DroitLine" (94 : Nat) ({ cls := "DroitLine$Offers", name := "highestBeside", desc := "(I)I" } : Jvm.MethodName)) ∈ wNeed := List.mem_filter.mpr ⟨List.mem_of_getElem? (i := 340) (by decide +kernel), by decide +kernel⟩
theorem q_326 : (Jvm.Cond.instanceMethod ({ cls := "DroitLine$Offers", name := "highestBeside", desc := "(I)I" } : Jvm.MethodName)) ∈ wNeed := List.mem_filter.mpr ⟨List.mem_of_getElem? (i := 341) (by decide +kernel), by decide +kernel⟩
theorem q_327 : (Jvm.Cond.selects "DroitLine$Offers" ({ cls := "DroitLine$Offers", name := "highestBeside", desc := "(I)I" } : Jvm.MethodName) ({ cls := "DroitLine$Offers", name := "highestBeside", desc := "(I)I" } : Jvm.MethodName)) ∈ wNeed := List.mem_filter.mpr ⟨List.mem_of_getElem? (i := 342) (by decide +kernel), by decide +kernel⟩
theorem q_328 : (Jvm.Cond.code ({ cls := "DroitLine$Offers", name := "highestBeside", desc := "(I)I" } : Jvm.MethodName) prog_3_method_6_code (4 : Nat) (Option.some Jvm.ClassFile.FieldType.int)) ∈ wNeed := List.mem_filter.mpr ⟨List.mem_of_getElem? (i := 343) (by decide +kernel), by decide +kernel⟩
theorem q_329 : (Jvm.Cond.methodLink "DroitLine" (97 : Nat) ({ cls := "DroitLine", name := "priceFor", desc := "(III)I" } : Jvm.MethodName)) ∈ wNeed := List.mem_filter.mpr ⟨List.mem_of_getElem? (i := 344) (by decide +kernel), by decide +kernel⟩
theorem q_330 : (Jvm.Cond.static ({ cls := "DroitLine", name := "priceFor", desc := "(III)I" } : Jvm.MethodName)) ∈ wNeed := List.mem_filter.mpr ⟨List.mem_of_getElem? (i := 345) (by decide +kernel), by decide +kernel⟩
theorem q_331 : (Jvm.Cond.code ({ cls := "DroitLine", name := "priceFor", desc := "(III)I" } : Jvm.MethodName) prog_1_method_37_code (4 : Nat) (Option.some Jvm.ClassFile.FieldType.int)) ∈ wNeed := List.mem_filter.mpr ⟨List.mem_of_getElem? (i := 346) (by decide +kernel), by decide +kernel⟩
theorem q_332 : (Jvm.Cond.methodLink "DroitLine" (195 : Nat) ({ cls := "java/lang/Math", name := "min", desc := "(II)I" } : Jvm.MethodName)) ∈ wNeed := List.mem_filter.mpr ⟨List.mem_of_getElem? (i := 347) (by decide +kernel), by decide +kernel⟩
theorem q_333 : (Jvm.Cond.static ({ cls := "java/lang/Math", name := "min", desc := "(II)I" } : Jvm.MethodName)) ∈ wNeed := List.mem_filter.mpr ⟨List.mem_of_getElem? (i := 348) (by decide +kernel), by decide +kernel⟩
theorem q_334 : (Jvm.Cond.code ({ cls := "java/lang/Math", name := "min", desc := "(II)I" } : Jvm.MethodName) prog_10_method_69_code (2 : Nat) (Option.some Jvm.ClassFile.FieldType.int)) ∈ wNeed := List.mem_filter.mpr ⟨List.mem_of_getElem? (i := 349) (by decide +kernel), by decide +kernel⟩
theorem q_335 : (Jvm.Cond.methodLink "DroitLine" (201 : Nat) ({ cls := "java/lang/Math", name := "max", desc := "(II)I" } : Jvm.MethodName)) ∈ wNeed := List.mem_filter.mpr ⟨List.mem_of_getElem? (i := 350) (by decide +kernel), by decide +kernel⟩
theorem q_336 : (Jvm.Cond.methodLink "DroitLineLaw" (102 : Nat) ({ cls := "DroitLineLaw", name := "again", desc := "(LDroitLine;II[J)I" } : Jvm.MethodName)) ∈ wNeed := List.mem_filter.mpr ⟨List.mem_of_getElem? (i := 351) (by decide +kernel), by decide +kernel⟩
theorem q_337 : (Jvm.Cond.static ({ cls := "DroitLineLaw", name := "again", desc := "(LDroitLine;II[J)I" } : Jvm.MethodName)) ∈ wNeed := List.mem_filter.mpr ⟨List.mem_of_getElem? (i := 352) (by decide +kernel), by decide +kernel⟩
theorem q_338 : (Jvm.Cond.codeWith ({ cls := "DroitLineLaw", name := "again", desc := "(LDroitLine;II[J)I" } : Jvm.MethodName) method_6_code (5 : Nat) (Option.some Jvm.ClassFile.FieldType.int) [((0 : Nat), (10 : Nat), (13 : Nat), (13 : Nat)), ((0 : Nat), (10 : Nat), (17 : Nat), (15 : Nat)), ((0 : Nat), (10 : Nat), (21 : Nat), (17 : Nat))]) ∈ wNeed := List.mem_filter.mpr ⟨List.mem_of_getElem? (i := 353) (by decide +kernel), by decide +kernel⟩
theorem q_339 : (Jvm.Cond.methodLink "DroitLineLaw" (26 : Nat) ({ cls := "DroitLine", name := "again", desc := "(II)I" } : Jvm.MethodName)) ∈ wNeed := List.mem_filter.mpr ⟨List.mem_of_getElem? (i := 354) (by decide +kernel), by decide +kernel⟩
theorem q_340 : (Jvm.Cond.instanceMethod ({ cls := "DroitLine", name := "again", desc := "(II)I" } : Jvm.MethodName)) ∈ wNeed := List.mem_filter.mpr ⟨List.mem_of_getElem? (i := 355) (by decide +kernel), by decide +kernel⟩
theorem q_341 : (Jvm.Cond.selects "DroitLine" ({ cls := "DroitLine", name := "again", desc := "(II)I" } : Jvm.MethodName) ({ cls := "DroitLine", name := "again", desc := "(II)I" } : Jvm.MethodName)) ∈ wNeed := List.mem_filter.mpr ⟨List.mem_of_getElem? (i := 356) (by decide +kernel), by decide +kernel⟩
theorem q_342 : (Jvm.Cond.code ({ cls := "DroitLine", name := "again", desc := "(II)I" } : Jvm.MethodName) prog_1_method_5_code (5 : Nat) (Option.some Jvm.ClassFile.FieldType.int)) ∈ wNeed := List.mem_filter.mpr ⟨List.mem_of_getElem? (i := 357) (by decide +kernel), by decide +kernel⟩
theorem q_343 : (Jvm.Cond.methodLink "DroitLine" (113 : Nat) ({ cls := "DroitLine$Lot", name := "open", desc := "(I)V" } : Jvm.MethodName)) ∈ wNeed := List.mem_filter.mpr ⟨List.mem_of_getElem? (i := 358) (by decide +kernel), by decide +kernel⟩
theorem q_344 : (Jvm.Cond.instanceMethod ({ cls := "DroitLine$Lot", name := "open", desc := "(I)V" } : Jvm.MethodName)) ∈ wNeed := List.mem_filter.mpr ⟨List.mem_of_getElem? (i := 359) (by decide +kernel), by decide +kernel⟩
theorem q_345 : (Jvm.Cond.selects "DroitLine$Lot" ({ cls := "DroitLine$Lot", name := "open", desc := "(I)V" } : Jvm.MethodName) ({ cls := "DroitLine$Lot", name := "open", desc := "(I)V" } : Jvm.MethodName)) ∈ wNeed := List.mem_filter.mpr ⟨List.mem_of_getElem? (i := 360) (by decide +kernel), by decide +kernel⟩
theorem q_346 : (Jvm.Cond.code ({ cls := "DroitLine$Lot", name := "open", desc := "(I)V" } : Jvm.MethodName) prog_2_method_2_code (2 : Nat) (Option.none : Option Jvm.ClassFile.FieldType)) ∈ wNeed := List.mem_filter.mpr ⟨List.mem_of_getElem? (i := 361) (by decide +kernel), by decide +kernel⟩
theorem q_347 : (Jvm.Cond.methodLink "DroitLineLaw" (110 : Nat) ({ cls := "DroitLineLaw", name := "callOf", desc := "(LDroitLine;I[J)I" } : Jvm.MethodName)) ∈ wNeed := List.mem_filter.mpr ⟨List.mem_of_getElem? (i := 362) (by decide +kernel), by decide +kernel⟩
theorem q_348 : (Jvm.Cond.static ({ cls := "DroitLineLaw", name := "callOf", desc := "(LDroitLine;I[J)I" } : Jvm.MethodName)) ∈ wNeed := List.mem_filter.mpr ⟨List.mem_of_getElem? (i := 363) (by decide +kernel), by decide +kernel⟩
theorem q_349 : (Jvm.Cond.codeWith ({ cls := "DroitLineLaw", name := "callOf", desc := "(LDroitLine;I[J)I" } : Jvm.MethodName) method_7_code (4 : Nat) (Option.some Jvm.ClassFile.FieldType.int) [((0 : Nat), (9 : Nat), (12 : Nat), (15 : Nat))]) ∈ wNeed := List.mem_filter.mpr ⟨List.mem_of_getElem? (i := 364) (by decide +kernel), by decide +kernel⟩
theorem q_350 : (Jvm.Cond.methodLink "DroitLineLaw" (30 : Nat) ({ cls := "DroitLine", name := "callOf", desc := "(I)I" } : Jvm.MethodName)) ∈ wNeed := List.mem_filter.mpr ⟨List.mem_of_getElem? (i := 365) (by decide +kernel), by decide +kernel⟩
theorem q_351 : (Jvm.Cond.instanceMethod ({ cls := "DroitLine", name := "callOf", desc := "(I)I" } : Jvm.MethodName)) ∈ wNeed := List.mem_filter.mpr ⟨List.mem_of_getElem? (i := 366) (by decide +kernel), by decide +kernel⟩
theorem q_352 : (Jvm.Cond.selects "DroitLine" ({ cls := "DroitLine", name := "callOf", desc := "(I)I" } : Jvm.MethodName) ({ cls := "DroitLine", name := "callOf", desc := "(I)I" } : Jvm.MethodName)) ∈ wNeed := List.mem_filter.mpr ⟨List.mem_of_getElem? (i := 367) (by decide +kernel), by decide +kernel⟩
theorem q_353 : (Jvm.Cond.code ({ cls := "DroitLine", name := "callOf", desc := "(I)I" } : Jvm.MethodName) prog_1_method_7_code (2 : Nat) (Option.some Jvm.ClassFile.FieldType.int)) ∈ wNeed := List.mem_filter.mpr ⟨List.mem_of_getElem? (i := 368) (by decide +kernel), by decide +kernel⟩
theorem q_354 : (Jvm.Cond.methodLink "DroitLineLaw" (113 : Nat) ({ cls := "DroitLineLaw", name := "pay", desc := "(LDroitLine;I[J)I" } : Jvm.MethodName)) ∈ wNeed := List.mem_filter.mpr ⟨List.mem_of_getElem? (i := 369) (by decide +kernel), by decide +kernel⟩
theorem q_355 : (Jvm.Cond.static ({ cls := "DroitLineLaw", name := "pay", desc := "(LDroitLine;I[J)I" } : Jvm.MethodName)) ∈ wNeed := List.mem_filter.mpr ⟨List.mem_of_getElem? (i := 370) (by decide +kernel), by decide +kernel⟩
theorem q_356 : (Jvm.Cond.codeWith ({ cls := "DroitLineLaw", name := "pay", desc := "(LDroitLine;I[J)I" } : Jvm.MethodName) method_8_code (4 : Nat) (Option.some Jvm.ClassFile.FieldType.int) [((0 : Nat), (9 : Nat), (12 : Nat), (13 : Nat)), ((0 : Nat), (9 : Nat), (15 : Nat), (17 : Nat))]) ∈ wNeed := List.mem_filter.mpr ⟨List.mem_of_getElem? (i := 371) (by decide +kernel), by decide +kernel⟩
theorem q_357 : (Jvm.Cond.methodLink "DroitLineLaw" (33 : Nat) ({ cls := "DroitLine", name := "pay", desc := "(I)I" } : Jvm.MethodName)) ∈ wNeed := List.mem_filter.mpr ⟨List.mem_of_getElem? (i := 372) (by decide +kernel), by decide +kernel⟩
theorem q_358 : (Jvm.Cond.instanceMethod ({ cls := "DroitLine", name := "pay", desc := "(I)I" } : Jvm.MethodName)) ∈ wNeed := List.mem_filter.mpr ⟨List.mem_of_getElem? (i := 373) (by decide +kernel), by decide +kernel⟩
theorem q_359 : (Jvm.Cond.selects "DroitLine" ({ cls := "DroitLine", name := "pay", desc := "(I)I" } : Jvm.MethodName) ({ cls := "DroitLine", name := "pay", desc := "(I)I" } : Jvm.MethodName)) ∈ wNeed := List.mem_filter.mpr ⟨List.mem_of_getElem? (i := 374) (by decide +kernel), by decide +kernel⟩
theorem q_360 : (Jvm.Cond.code ({ cls := "DroitLine", name := "pay", desc := "(I)I" } : Jvm.MethodName) prog_1_method_8_code (4 : Nat) (Option.some Jvm.ClassFile.FieldType.int)) ∈ wNeed := List.mem_filter.mpr ⟨List.mem_of_getElem? (i := 375) (by decide +kernel), by decide +kernel⟩
theorem q_361 : (Jvm.Cond.methodLink "DroitLine" (116 : Nat) ({ cls := "DroitLine", name := "feeFor", desc := "(I)I" } : Jvm.MethodName)) ∈ wNeed := List.mem_filter.mpr ⟨List.mem_of_getElem? (i := 376) (by decide +kernel), by decide +kernel⟩
theorem q_362 : (Jvm.Cond.static ({ cls := "DroitLine", name := "feeFor", desc := "(I)I" } : Jvm.MethodName)) ∈ wNeed := List.mem_filter.mpr ⟨List.mem_of_getElem? (i := 377) (by decide +kernel), by decide +kernel⟩
theorem q_363 : (Jvm.Cond.code ({ cls := "DroitLine", name := "feeFor", desc := "(I)I" } : Jvm.MethodName) prog_1_method_39_code (1 : Nat) (Option.some Jvm.ClassFile.FieldType.int)) ∈ wNeed := List.mem_filter.mpr ⟨List.mem_of_getElem? (i := 378) (by decide +kernel), by decide +kernel⟩
theorem q_364 : (Jvm.Cond.methodLink "DroitLine" (204 : Nat) ({ cls := "DroitLine", name := "ofBand", desc := "(IIII)I" } : Jvm.MethodName)) ∈ wNeed := List.mem_filter.mpr ⟨List.mem_of_getElem? (i := 379) (by decide +kernel), by decide +kernel⟩
theorem q_365 : (Jvm.Cond.static ({ cls := "DroitLine", name := "ofBand", desc := "(IIII)I" } : Jvm.MethodName)) ∈ wNeed := List.mem_filter.mpr ⟨List.mem_of_getElem? (i := 380) (by decide +kernel), by decide +kernel⟩
theorem q_366 : (Jvm.Cond.code ({ cls := "DroitLine", name := "ofBand", desc := "(IIII)I" } : Jvm.MethodName) prog_1_method_38_code (4 : Nat) (Option.some Jvm.ClassFile.FieldType.int)) ∈ wNeed := List.mem_filter.mpr ⟨List.mem_of_getElem? (i := 381) (by decide +kernel), by decide +kernel⟩
theorem q_367 : (Jvm.Cond.constant "DroitLine" (208 : Nat) (50000 : Int32)) ∈ wNeed := List.mem_filter.mpr ⟨List.mem_of_getElem? (i := 382) (by decide +kernel), by decide +kernel⟩
theorem q_368 : (Jvm.Cond.methodLink "DroitLine" (126 : Nat) ({ cls := "DroitLine", name := "closeGap", desc := "(LDroitLine$Lot;)V" } : Jvm.MethodName)) ∈ wNeed := List.mem_filter.mpr ⟨List.mem_of_getElem? (i := 383) (by decide +kernel), by decide +kernel⟩
theorem q_370 : (Jvm.Cond.instanceMethod ({ cls := "DroitLine", name := "closeGap", desc := "(LDroitLine$Lot;)V" } : Jvm.MethodName)) ∈ wNeed := List.mem_filter.mpr ⟨List.mem_of_getElem? (i := 385) (by decide +kernel), by decide +kernel⟩
theorem q_371 : (Jvm.Cond.code ({ cls := "DroitLine", name := "closeGap", desc := "(LDroitLine$Lot;)V" } : Jvm.MethodName) prog_1_method_44_code (2 : Nat) (Option.none : Option Jvm.ClassFile.FieldType)) ∈ wNeed := List.mem_filter.mpr ⟨List.mem_of_getElem? (i := 386) (by decide +kernel), by decide +kernel⟩
theorem q_372 : (Jvm.Cond.methodLink "DroitLine" (141 : Nat) ({ cls := "DroitLine", name := "addToDebt", desc := "(II)V" } : Jvm.MethodName)) ∈ wNeed := List.mem_filter.mpr ⟨List.mem_of_getElem? (i := 387) (by decide +kernel), by decide +kernel⟩
theorem q_374 : (Jvm.Cond.instanceMethod ({ cls := "DroitLine", name := "addToDebt", desc := "(II)V" } : Jvm.MethodName)) ∈ wNeed := List.mem_filter.mpr ⟨List.mem_of_getElem? (i := 389) (by decide +kernel), by decide +kernel⟩
theorem q_375 : (Jvm.Cond.code ({ cls := "DroitLine", name := "addToDebt", desc := "(II)V" } : Jvm.MethodName) prog_1_method_46_code (3 : Nat) (Option.none : Option Jvm.ClassFile.FieldType)) ∈ wNeed := List.mem_filter.mpr ⟨List.mem_of_getElem? (i := 390) (by decide +kernel), by decide +kernel⟩
theorem q_376 : (Jvm.Cond.methodLink "DroitLineLaw" (116 : Nat) ({ cls := "DroitLineLaw", name := "defaults", desc := "(LDroitLine;I[J)I" } : Jvm.MethodName)) ∈ wNeed := List.mem_filter.mpr ⟨List.mem_of_getElem? (i := 391) (by decide +kernel), by decide +kernel⟩
theorem q_377 : (Jvm.Cond.static ({ cls := "DroitLineLaw", name := "defaults", desc := "(LDroitLine;I[J)I" } : Jvm.MethodName)) ∈ wNeed := List.mem_filter.mpr ⟨List.mem_of_getElem? (i := 392) (by decide +kernel), by decide +kernel⟩
theorem q_378 : (Jvm.Cond.codeWith ({ cls := "DroitLineLaw", name := "defaults", desc := "(LDroitLine;I[J)I" } : Jvm.MethodName) method_9_code (4 : Nat) (Option.some Jvm.ClassFile.FieldType.int) [((0 : Nat), (9 : Nat), (12 : Nat), (13 : Nat)), ((0 : Nat), (9 : Nat), (15 : Nat), (17 : Nat))]) ∈ wNeed := List.mem_filter.mpr ⟨List.mem_of_getElem? (i := 393) (by decide +kernel), by decide +kernel⟩
theorem q_379 : (Jvm.Cond.methodLink "DroitLineLaw" (36 : Nat) ({ cls := "DroitLine", name := "defaults", desc := "(I)I" } : Jvm.MethodName)) ∈ wNeed := List.mem_filter.mpr ⟨List.mem_of_getElem? (i := 394) (by decide +kernel), by decide +kernel⟩
theorem q_380 : (Jvm.Cond.instanceMethod ({ cls := "DroitLine", name := "defaults", desc := "(I)I" } : Jvm.MethodName)) ∈ wNeed := List.mem_filter.mpr ⟨List.mem_of_getElem? (i := 395) (by decide +kernel), by decide +kernel⟩
theorem q_381 : (Jvm.Cond.selects "DroitLine" ({ cls := "DroitLine", name := "defaults", desc := "(I)I" } : Jvm.MethodName) ({ cls := "DroitLine", name := "defaults", desc := "(I)I" } : Jvm.MethodName)) ∈ wNeed := List.mem_filter.mpr ⟨List.mem_of_getElem? (i := 396) (by decide +kernel), by decide +kernel⟩
theorem q_382 : (Jvm.Cond.code ({ cls := "DroitLine", name := "defaults", desc := "(I)I" } : Jvm.MethodName) prog_1_method_9_code (4 : Nat) (Option.some Jvm.ClassFile.FieldType.int)) ∈ wNeed := List.mem_filter.mpr ⟨List.mem_of_getElem? (i := 397) (by decide +kernel), by decide +kernel⟩
theorem q_383 : (Jvm.Cond.methodLink "DroitLineLaw" (119 : Nat) ({ cls := "DroitLineLaw", name := "payGaps", desc := "(LDroitLine;I[J)I" } : Jvm.MethodName)) ∈ wNeed := List.mem_filter.mpr ⟨List.mem_of_getElem? (i := 398) (by decide +kernel), by decide +kernel⟩
theorem q_384 : (Jvm.Cond.static ({ cls := "DroitLineLaw", name := "payGaps", desc := "(LDroitLine;I[J)I" } : Jvm.MethodName)) ∈ wNeed := List.mem_filter.mpr ⟨List.mem_of_getElem? (i := 399) (by decide +kernel), by decide +kernel⟩
theorem q_385 : (Jvm.Cond.codeWith ({ cls := "DroitLineLaw", name := "payGaps", desc := "(LDroitLine;I[J)I" } : Jvm.MethodName) method_10_code (4 : Nat) (Option.some Jvm.ClassFile.FieldType.int) [((0 : Nat), (9 : Nat), (12 : Nat), (13 : Nat)), ((0 : Nat), (9 : Nat), (15 : Nat), (17 : Nat))]) ∈ wNeed := List.mem_filter.mpr ⟨List.mem_of_getElem? (i := 400) (by decide +kernel), by decide +kernel⟩
theorem q_386 : (Jvm.Cond.methodLink "DroitLineLaw" (39 : Nat) ({ cls := "DroitLine", name := "payGaps", desc := "(I)I" } : Jvm.MethodName)) ∈ wNeed := List.mem_filter.mpr ⟨List.mem_of_getElem? (i := 401) (by decide +kernel), by decide +kernel⟩
theorem q_387 : (Jvm.Cond.instanceMethod ({ cls := "DroitLine", name := "payGaps", desc := "(I)I" } : Jvm.MethodName)) ∈ wNeed := List.mem_filter.mpr ⟨List.mem_of_getElem? (i := 402) (by decide +kernel), by decide +kernel⟩
theorem q_388 : (Jvm.Cond.selects "DroitLine" ({ cls := "DroitLine", name := "payGaps", desc := "(I)I" } : Jvm.MethodName) ({ cls := "DroitLine", name := "payGaps", desc := "(I)I" } : Jvm.MethodName)) ∈ wNeed := List.mem_filter.mpr ⟨List.mem_of_getElem? (i := 403) (by decide +kernel), by decide +kernel⟩
theorem q_389 : (Jvm.Cond.code ({ cls := "DroitLine", name := "payGaps", desc := "(I)I" } : Jvm.MethodName) prog_1_method_10_code (3 : Nat) (Option.some Jvm.ClassFile.FieldType.int)) ∈ wNeed := List.mem_filter.mpr ⟨List.mem_of_getElem? (i := 404) (by decide +kernel), by decide +kernel⟩
theorem q_390 : (Jvm.Cond.methodLink "DroitLine" (136 : Nat) ({ cls := "DroitLine", name := "owedBy", desc := "(I)I" } : Jvm.MethodName)) ∈ wNeed := List.mem_filter.mpr ⟨List.mem_of_getElem? (i := 405) (by decide +kernel), by decide +kernel⟩
theorem q_392 : (Jvm.Cond.instanceMethod ({ cls := "DroitLine", name := "owedBy", desc := "(I)I" } : Jvm.MethodName)) ∈ wNeed := List.mem_filter.mpr ⟨List.mem_of_getElem? (i := 407) (by decide +kernel), by decide +kernel⟩
theorem q_393 : (Jvm.Cond.code ({ cls := "DroitLine", name := "owedBy", desc := "(I)I" } : Jvm.MethodName) prog_1_method_45_code (2 : Nat) (Option.some Jvm.ClassFile.FieldType.int)) ∈ wNeed := List.mem_filter.mpr ⟨List.mem_of_getElem? (i := 408) (by decide +kernel), by decide +kernel⟩
theorem q_395 : (Jvm.Cond.methodLink "DroitLineLaw" (122 : Nat) ({ cls := "DroitLineLaw", name := "advance", desc := "(LDroitLine;II[J)I" } : Jvm.MethodName)) ∈ wNeed := List.mem_filter.mpr ⟨List.mem_of_getElem? (i := 410) (by decide +kernel), by decide +kernel⟩
theorem q_396 : (Jvm.Cond.static ({ cls := "DroitLineLaw", name := "advance", desc := "(LDroitLine;II[J)I" } : Jvm.MethodName)) ∈ wNeed := List.mem_filter.mpr ⟨List.mem_of_getElem? (i := 411) (by decide +kernel), by decide +kernel⟩
theorem q_397 : (Jvm.Cond.codeWith ({ cls := "DroitLineLaw", name := "advance", desc := "(LDroitLine;II[J)I" } : Jvm.MethodName) method_11_code (5 : Nat) (Option.some Jvm.ClassFile.FieldType.int) [((0 : Nat), (10 : Nat), (13 : Nat), (13 : Nat)), ((0 : Nat), (10 : Nat), (17 : Nat), (15 : Nat)), ((0 : Nat), (10 : Nat), (21 : Nat), (17 : Nat))]) ∈ wNeed := List.mem_filter.mpr ⟨List.mem_of_getElem? (i := 412) (by decide +kernel), by decide +kernel⟩
theorem q_398 : (Jvm.Cond.methodLink "DroitLineLaw" (42 : Nat) ({ cls := "DroitLine", name := "advance", desc := "(II)I" } : Jvm.MethodName)) ∈ wNeed := List.mem_filter.mpr ⟨List.mem_of_getElem? (i := 413) (by decide +kernel), by decide +kernel⟩
theorem q_399 : (Jvm.Cond.instanceMethod ({ cls := "DroitLine", name := "advance", desc := "(II)I" } : Jvm.MethodName)) ∈ wNeed := List.mem_filter.mpr ⟨List.mem_of_getElem? (i := 414) (by decide +kernel), by decide +kernel⟩
theorem q_400 : (Jvm.Cond.selects "DroitLine" ({ cls := "DroitLine", name := "advance", desc := "(II)I" } : Jvm.MethodName) ({ cls := "DroitLine", name := "advance", desc := "(II)I" } : Jvm.MethodName)) ∈ wNeed := List.mem_filter.mpr ⟨List.mem_of_getElem? (i := 415) (by decide +kernel), by decide +kernel⟩
theorem q_401 : (Jvm.Cond.code ({ cls := "DroitLine", name := "advance", desc := "(II)I" } : Jvm.MethodName) prog_1_method_11_code (5 : Nat) (Option.some Jvm.ClassFile.FieldType.int)) ∈ wNeed := List.mem_filter.mpr ⟨List.mem_of_getElem? (i := 416) (by decide +kernel), by decide +kernel⟩
theorem q_403 : (Jvm.Cond.methodLink "DroitLineLaw" (125 : Nat) ({ cls := "DroitLineLaw", name := "settle", desc := "(LDroitLine;I[J)I" } : Jvm.MethodName)) ∈ wNeed := List.mem_filter.mpr ⟨List.mem_of_getElem? (i := 418) (by decide +kernel), by decide +kernel⟩
theorem q_404 : (Jvm.Cond.static ({ cls := "DroitLineLaw", name := "settle", desc := "(LDroitLine;I[J)I" } : Jvm.MethodName)) ∈ wNeed := List.mem_filter.mpr ⟨List.mem_of_getElem? (i := 419) (by decide +kernel), by decide +kernel⟩
theorem q_405 : (Jvm.Cond.codeWith ({ cls := "DroitLineLaw", name := "settle", desc := "(LDroitLine;I[J)I" } : Jvm.MethodName) method_12_code (4 : Nat) (Option.some Jvm.ClassFile.FieldType.int) [((0 : Nat), (9 : Nat), (12 : Nat), (13 : Nat)), ((0 : Nat), (9 : Nat), (15 : Nat), (17 : Nat))]) ∈ wNeed := List.mem_filter.mpr ⟨List.mem_of_getElem? (i := 420) (by decide +kernel), by decide +kernel⟩
theorem q_406 : (Jvm.Cond.methodLink "DroitLineLaw" (45 : Nat) ({ cls := "DroitLine", name := "settle", desc := "(I)I" } : Jvm.MethodName)) ∈ wNeed := List.mem_filter.mpr ⟨List.mem_of_getElem? (i := 421) (by decide +kernel), by decide +kernel⟩
theorem q_407 : (Jvm.Cond.instanceMethod ({ cls := "DroitLine", name := "settle", desc := "(I)I" } : Jvm.MethodName)) ∈ wNeed := List.mem_filter.mpr ⟨List.mem_of_getElem? (i := 422) (by decide +kernel), by decide +kernel⟩
theorem q_408 : (Jvm.Cond.selects "DroitLine" ({ cls := "DroitLine", name := "settle", desc := "(I)I" } : Jvm.MethodName) ({ cls := "DroitLine", name := "settle", desc := "(I)I" } : Jvm.MethodName)) ∈ wNeed := List.mem_filter.mpr ⟨List.mem_of_getElem? (i := 423) (by decide +kernel), by decide +kernel⟩
theorem q_409 : (Jvm.Cond.code ({ cls := "DroitLine", name := "settle", desc := "(I)I" } : Jvm.MethodName) prog_1_method_12_code (8 : Nat) (Option.some Jvm.ClassFile.FieldType.int)) ∈ wNeed := List.mem_filter.mpr ⟨List.mem_of_getElem? (i := 424) (by decide +kernel), by decide +kernel⟩
theorem q_410 : (Jvm.Cond.methodLink "DroitLine" (158 : Nat) ({ cls := "DroitLine", name := "hundredthsOf", desc := "(I)I" } : Jvm.MethodName)) ∈ wNeed := List.mem_filter.mpr ⟨List.mem_of_getElem? (i := 425) (by decide +kernel), by decide +kernel⟩
theorem q_412 : (Jvm.Cond.instanceMethod ({ cls := "DroitLine", name := "hundredthsOf", desc := "(I)I" } : Jvm.MethodName)) ∈ wNeed := List.mem_filter.mpr ⟨List.mem_of_getElem? (i := 427) (by decide +kernel), by decide +kernel⟩
theorem q_413 : (Jvm.Cond.code ({ cls := "DroitLine", name := "hundredthsOf", desc := "(I)I" } : Jvm.MethodName) prog_1_method_43_code (2 : Nat) (Option.some Jvm.ClassFile.FieldType.int)) ∈ wNeed := List.mem_filter.mpr ⟨List.mem_of_getElem? (i := 428) (by decide +kernel), by decide +kernel⟩
theorem q_414 : (Jvm.Cond.methodLink "DroitLine" (161 : Nat) ({ cls := "DroitLine", name := "shareOf", desc := "(LDroitLine$Lot;)I" } : Jvm.MethodName)) ∈ wNeed := List.mem_filter.mpr ⟨List.mem_of_getElem? (i := 429) (by decide +kernel), by decide +kernel⟩
theorem q_415 : (Jvm.Cond.static ({ cls := "DroitLine", name := "shareOf", desc := "(LDroitLine$Lot;)I" } : Jvm.MethodName)) ∈ wNeed := List.mem_filter.mpr ⟨List.mem_of_getElem? (i := 430) (by decide +kernel), by decide +kernel⟩
theorem q_416 : (Jvm.Cond.code ({ cls := "DroitLine", name := "shareOf", desc := "(LDroitLine$Lot;)I" } : Jvm.MethodName) prog_1_method_40_code (3 : Nat) (Option.some Jvm.ClassFile.FieldType.int)) ∈ wNeed := List.mem_filter.mpr ⟨List.mem_of_getElem? (i := 431) (by decide +kernel), by decide +kernel⟩
theorem q_417 : (Jvm.Cond.methodLink "DroitLine" (212 : Nat) ({ cls := "DroitLine", name := "isTooLongDead", desc := "(LDroitLine$Lot;)Z" } : Jvm.MethodName)) ∈ wNeed := List.mem_filter.mpr ⟨List.mem_of_getElem? (i := 432) (by decide +kernel), by decide +kernel⟩
theorem q_418 : (Jvm.Cond.static ({ cls := "DroitLine", name := "isTooLongDead", desc := "(LDroitLine$Lot;)Z" } : Jvm.MethodName)) ∈ wNeed := List.mem_filter.mpr ⟨List.mem_of_getElem? (i := 433) (by decide +kernel), by decide +kernel⟩
theorem q_419 : (Jvm.Cond.code ({ cls := "DroitLine", name := "isTooLongDead", desc := "(LDroitLine$Lot;)Z" } : Jvm.MethodName) prog_1_method_41_code (1 : Nat) (Option.some Jvm.ClassFile.FieldType.boolean)) ∈ wNeed := List.mem_filter.mpr ⟨List.mem_of_getElem? (i := 434) (by decide +kernel), by decide +kernel⟩
theorem q_420 : (Jvm.Cond.constant "DroitLine" (216 : Nat) (200000 : Int32)) ∈ wNeed := List.mem_filter.mpr ⟨List.mem_of_getElem? (i := 435) (by decide +kernel), by decide +kernel⟩
theorem q_421 : (Jvm.Cond.methodLink "DroitLine" (165 : Nat) ({ cls := "DroitLine", name := "interestOf", desc := "(LDroitLine$Lot;)I" } : Jvm.MethodName)) ∈ wNeed := List.mem_filter.mpr ⟨List.mem_of_getElem? (i := 436) (by decide +kernel), by decide +kernel⟩
theorem q_423 : (Jvm.Cond.instanceMethod ({ cls := "DroitLine", name := "interestOf", desc := "(LDroitLine$Lot;)I" } : Jvm.MethodName)) ∈ wNeed := List.mem_filter.mpr ⟨List.mem_of_getElem? (i := 438) (by decide +kernel), by decide +kernel⟩
theorem q_424 : (Jvm.Cond.code ({ cls := "DroitLine", name := "interestOf", desc := "(LDroitLine$Lot;)I" } : Jvm.MethodName) prog_1_method_42_code (4 : Nat) (Option.some Jvm.ClassFile.FieldType.int)) ∈ wNeed := List.mem_filter.mpr ⟨List.mem_of_getElem? (i := 439) (by decide +kernel), by decide +kernel⟩
theorem q_425 : (Jvm.Cond.constantLong "DroitLine" (217 : Nat) (100000 : Int64)) ∈ wNeed := List.mem_filter.mpr ⟨List.mem_of_getElem? (i := 440) (by decide +kernel), by decide +kernel⟩
theorem q_426 : (Jvm.Cond.methodLink "DroitLineLaw" (128 : Nat) ({ cls := "DroitLineLaw", name := "commission", desc := "(LDroitLine;II[J)I" } : Jvm.MethodName)) ∈ wNeed := List.mem_filter.mpr ⟨List.mem_of_getElem? (i := 441) (by decide +kernel), by decide +kernel⟩
theorem q_427 : (Jvm.Cond.static ({ cls := "DroitLineLaw", name := "commission", desc := "(LDroitLine;II[J)I" } : Jvm.MethodName)) ∈ wNeed := List.mem_filter.mpr ⟨List.mem_of_getElem? (i := 442) (by decide +kernel), by decide +kernel⟩
theorem q_428 : (Jvm.Cond.codeWith ({ cls := "DroitLineLaw", name := "commission", desc := "(LDroitLine;II[J)I" } : Jvm.MethodName) method_13_code (5 : Nat) (Option.some Jvm.ClassFile.FieldType.int) [((0 : Nat), (10 : Nat), (13 : Nat), (13 : Nat)), ((0 : Nat), (10 : Nat), (17 : Nat), (15 : Nat))]) ∈ wNeed := List.mem_filter.mpr ⟨List.mem_of_getElem? (i := 443) (by decide +kernel), by decide +kernel⟩
theorem q_429 : (Jvm.Cond.methodLink "DroitLineLaw" (48 : Nat) ({ cls := "DroitLine", name := "commission", desc := "(II)I" } : Jvm.MethodName)) ∈ wNeed := List.mem_filter.mpr ⟨List.mem_of_getElem? (i := 444) (by decide +kernel), by decide +kernel⟩
theorem q_430 : (Jvm.Cond.instanceMethod ({ cls := "DroitLine", name := "commission", desc := "(II)I" } : Jvm.MethodName)) ∈ wNeed := List.mem_filter.mpr ⟨List.mem_of_getElem? (i := 445) (by decide +kernel), by decide +kernel⟩
theorem q_431 : (Jvm.Cond.selects "DroitLine" ({ cls := "DroitLine", name := "commission", desc := "(II)I" } : Jvm.MethodName) ({ cls := "DroitLine", name := "commission", desc := "(II)I" } : Jvm.MethodName)) ∈ wNeed := List.mem_filter.mpr ⟨List.mem_of_getElem? (i := 446) (by decide +kernel), by decide +kernel⟩
theorem q_432 : (Jvm.Cond.code ({ cls := "DroitLine", name := "commission", desc := "(II)I" } : Jvm.MethodName) prog_1_method_13_code (4 : Nat) (Option.some Jvm.ClassFile.FieldType.int)) ∈ wNeed := List.mem_filter.mpr ⟨List.mem_of_getElem? (i := 447) (by decide +kernel), by decide +kernel⟩
theorem q_433 : (Jvm.Cond.methodLink "DroitLineLaw" (131 : Nat) ({ cls := "DroitLineLaw", name := "rate", desc := "(LDroitLine;I[J)I" } : Jvm.MethodName)) ∈ wNeed := List.mem_filter.mpr ⟨List.mem_of_getElem? (i := 448) (by decide +kernel), by decide +kernel⟩
theorem q_434 : (Jvm.Cond.static ({ cls := "DroitLineLaw", name := "rate", desc := "(LDroitLine;I[J)I" } : Jvm.MethodName)) ∈ wNeed := List.mem_filter.mpr ⟨List.mem_of_getElem? (i := 449) (by decide +kernel), by decide +kernel⟩
theorem q_435 : (Jvm.Cond.codeWith ({ cls := "DroitLineLaw", name := "rate", desc := "(LDroitLine;I[J)I" } : Jvm.MethodName) method_14_code (4 : Nat) (Option.some Jvm.ClassFile.FieldType.int) [((0 : Nat), (9 : Nat), (12 : Nat), (15 : Nat))]) ∈ wNeed := List.mem_filter.mpr ⟨List.mem_of_getElem? (i := 450) (by decide +kernel), by decide +kernel⟩
theorem q_436 : (Jvm.Cond.methodLink "DroitLineLaw" (51 : Nat) ({ cls := "DroitLine", name := "rate", desc := "(I)I" } : Jvm.MethodName)) ∈ wNeed := List.mem_filter.mpr ⟨List.mem_of_getElem? (i := 451) (by decide +kernel), by decide +kernel⟩
theorem q_437 : (Jvm.Cond.instanceMethod ({ cls := "DroitLine", name := "rate", desc := "(I)I" } : Jvm.MethodName)) ∈ wNeed := List.mem_filter.mpr ⟨List.mem_of_getElem? (i := 452) (by decide +kernel), by decide +kernel⟩
theorem q_438 : (Jvm.Cond.selects "DroitLine" ({ cls := "DroitLine", name := "rate", desc := "(I)I" } : Jvm.MethodName) ({ cls := "DroitLine", name := "rate", desc := "(I)I" } : Jvm.MethodName)) ∈ wNeed := List.mem_filter.mpr ⟨List.mem_of_getElem? (i := 453) (by decide +kernel), by decide +kernel⟩
theorem q_439 : (Jvm.Cond.code ({ cls := "DroitLine", name := "rate", desc := "(I)I" } : Jvm.MethodName) prog_1_method_14_code (3 : Nat) (Option.some Jvm.ClassFile.FieldType.int)) ∈ wNeed := List.mem_filter.mpr ⟨List.mem_of_getElem? (i := 454) (by decide +kernel), by decide +kernel⟩
theorem q_440 : (Jvm.Cond.methodLink "DroitLineLaw" (134 : Nat) ({ cls := "DroitLineLaw", name := "days", desc := "(LDroitLine;I[J)I" } : Jvm.MethodName)) ∈ wNeed := List.mem_filter.mpr ⟨List.mem_of_getElem? (i := 455) (by decide +kernel), by decide +kernel⟩
theorem q_441 : (Jvm.Cond.static ({ cls := "DroitLineLaw", name := "days", desc := "(LDroitLine;I[J)I" } : Jvm.MethodName)) ∈ wNeed := List.mem_filter.mpr ⟨List.mem_of_getElem? (i := 456) (by decide +kernel), by decide +kernel⟩
theorem q_442 : (Jvm.Cond.codeWith ({ cls := "DroitLineLaw", name := "days", desc := "(LDroitLine;I[J)I" } : Jvm.MethodName) method_15_code (4 : Nat) (Option.some Jvm.ClassFile.FieldType.int) [((0 : Nat), (9 : Nat), (12 : Nat), (15 : Nat)), ((0 : Nat), (9 : Nat), (15 : Nat), (17 : Nat))]) ∈ wNeed := List.mem_filter.mpr ⟨List.mem_of_getElem? (i := 457) (by decide +kernel), by decide +kernel⟩
theorem q_443 : (Jvm.Cond.methodLink "DroitLineLaw" (54 : Nat) ({ cls := "DroitLine", name := "days", desc := "(I)I" } : Jvm.MethodName)) ∈ wNeed := List.mem_filter.mpr ⟨List.mem_of_getElem? (i := 458) (by decide +kernel), by decide +kernel⟩
theorem q_444 : (Jvm.Cond.instanceMethod ({ cls := "DroitLine", name := "days", desc := "(I)I" } : Jvm.MethodName)) ∈ wNeed := List.mem_filter.mpr ⟨List.mem_of_getElem? (i := 459) (by decide +kernel), by decide +kernel⟩
theorem q_445 : (Jvm.Cond.selects "DroitLine" ({ cls := "DroitLine", name := "days", desc := "(I)I" } : Jvm.MethodName) ({ cls := "DroitLine", name := "days", desc := "(I)I" } : Jvm.MethodName)) ∈ wNeed := List.mem_filter.mpr ⟨List.mem_of_getElem? (i := 460) (by decide +kernel), by decide +kernel⟩
theorem q_446 : (Jvm.Cond.code ({ cls := "DroitLine", name := "days", desc := "(I)I" } : Jvm.MethodName) prog_1_method_15_code (2 : Nat) (Option.some Jvm.ClassFile.FieldType.int)) ∈ wNeed := List.mem_filter.mpr ⟨List.mem_of_getElem? (i := 461) (by decide +kernel), by decide +kernel⟩
theorem q_448 : (Jvm.Cond.methodLink "DroitLineLaw" (137 : Nat) ({ cls := "DroitLineLaw", name := "state", desc := "(LDroitLine;I[J)I" } : Jvm.MethodName)) ∈ wNeed := List.mem_filter.mpr ⟨List.mem_of_getElem? (i := 463) (by decide +kernel), by decide +kernel⟩
theorem q_449 : (Jvm.Cond.static ({ cls := "DroitLineLaw", name := "state", desc := "(LDroitLine;I[J)I" } : Jvm.MethodName)) ∈ wNeed := List.mem_filter.mpr ⟨List.mem_of_getElem? (i := 464) (by decide +kernel), by decide +kernel⟩
theorem q_450 : (Jvm.Cond.codeWith ({ cls := "DroitLineLaw", name := "state", desc := "(LDroitLine;I[J)I" } : Jvm.MethodName) method_16_code (4 : Nat) (Option.some Jvm.ClassFile.FieldType.int) [((0 : Nat), (9 : Nat), (12 : Nat), (13 : Nat))]) ∈ wNeed := List.mem_filter.mpr ⟨List.mem_of_getElem? (i := 465) (by decide +kernel), by decide +kernel⟩
theorem q_451 : (Jvm.Cond.methodLink "DroitLineLaw" (57 : Nat) ({ cls := "DroitLine", name := "state", desc := "(I)I" } : Jvm.MethodName)) ∈ wNeed := List.mem_filter.mpr ⟨List.mem_of_getElem? (i := 466) (by decide +kernel), by decide +kernel⟩
theorem q_452 : (Jvm.Cond.instanceMethod ({ cls := "DroitLine", name := "state", desc := "(I)I" } : Jvm.MethodName)) ∈ wNeed := List.mem_filter.mpr ⟨List.mem_of_getElem? (i := 467) (by decide +kernel), by decide +kernel⟩
theorem q_453 : (Jvm.Cond.selects "DroitLine" ({ cls := "DroitLine", name := "state", desc := "(I)I" } : Jvm.MethodName) ({ cls := "DroitLine", name := "state", desc := "(I)I" } : Jvm.MethodName)) ∈ wNeed := List.mem_filter.mpr ⟨List.mem_of_getElem? (i := 468) (by decide +kernel), by decide +kernel⟩
theorem q_454 : (Jvm.Cond.code ({ cls := "DroitLine", name := "state", desc := "(I)I" } : Jvm.MethodName) prog_1_method_16_code (2 : Nat) (Option.some Jvm.ClassFile.FieldType.int)) ∈ wNeed := List.mem_filter.mpr ⟨List.mem_of_getElem? (i := 469) (by decide +kernel), by decide +kernel⟩
theorem q_455 : (Jvm.Cond.methodLink "DroitLineLaw" (140 : Nat) ({ cls := "DroitLineLaw", name := "buyerOf", desc := "(LDroitLine;I[J)I" } : Jvm.MethodName)) ∈ wNeed := List.mem_filter.mpr ⟨List.mem_of_getElem? (i := 470) (by decide +kernel), by decide +kernel⟩
theorem q_456 : (Jvm.Cond.static ({ cls := "DroitLineLaw", name := "buyerOf", desc := "(LDroitLine;I[J)I" } : Jvm.MethodName)) ∈ wNeed := List.mem_filter.mpr ⟨List.mem_of_getElem? (i := 471) (by decide +kernel), by decide +kernel⟩
theorem q_457 : (Jvm.Cond.codeWith ({ cls := "DroitLineLaw", name := "buyerOf", desc := "(LDroitLine;I[J)I" } : Jvm.MethodName) method_17_code (4 : Nat) (Option.some Jvm.ClassFile.FieldType.int) [((0 : Nat), (9 : Nat), (12 : Nat), (13 : Nat))]) ∈ wNeed := List.mem_filter.mpr ⟨List.mem_of_getElem? (i := 472) (by decide +kernel), by decide +kernel⟩
theorem q_458 : (Jvm.Cond.methodLink "DroitLineLaw" (60 : Nat) ({ cls := "DroitLine", name := "buyerOf", desc := "(I)I" } : Jvm.MethodName)) ∈ wNeed := List.mem_filter.mpr ⟨List.mem_of_getElem? (i := 473) (by decide +kernel), by decide +kernel⟩
theorem q_459 : (Jvm.Cond.instanceMethod ({ cls := "DroitLine", name := "buyerOf", desc := "(I)I" } : Jvm.MethodName)) ∈ wNeed := List.mem_filter.mpr ⟨List.mem_of_getElem? (i := 474) (by decide +kernel), by decide +kernel⟩
theorem q_460 : (Jvm.Cond.selects "DroitLine" ({ cls := "DroitLine", name := "buyerOf", desc := "(I)I" } : Jvm.MethodName) ({ cls := "DroitLine", name := "buyerOf", desc := "(I)I" } : Jvm.MethodName)) ∈ wNeed := List.mem_filter.mpr ⟨List.mem_of_getElem? (i := 475) (by decide +kernel), by decide +kernel⟩
theorem q_461 : (Jvm.Cond.code ({ cls := "DroitLine", name := "buyerOf", desc := "(I)I" } : Jvm.MethodName) prog_1_method_17_code (2 : Nat) (Option.some Jvm.ClassFile.FieldType.int)) ∈ wNeed := List.mem_filter.mpr ⟨List.mem_of_getElem? (i := 476) (by decide +kernel), by decide +kernel⟩
theorem q_462 : (Jvm.Cond.methodLink "DroitLineLaw" (143 : Nat) ({ cls := "DroitLineLaw", name := "price", desc := "(LDroitLine;I[J)I" } : Jvm.MethodName)) ∈ wNeed := List.mem_filter.mpr ⟨List.mem_of_getElem? (i := 477) (by decide +kernel), by decide +kernel⟩
theorem q_463 : (Jvm.Cond.static ({ cls := "DroitLineLaw", name := "price", desc := "(LDroitLine;I[J)I" } : Jvm.MethodName)) ∈ wNeed := List.mem_filter.mpr ⟨List.mem_of_getElem? (i := 478) (by decide +kernel), by decide +kernel⟩
theorem q_464 : (Jvm.Cond.codeWith ({ cls := "DroitLineLaw", name := "price", desc := "(LDroitLine;I[J)I" } : Jvm.MethodName) method_18_code (4 : Nat) (Option.some Jvm.ClassFile.FieldType.int) [((0 : Nat), (9 : Nat), (12 : Nat), (13 : Nat))]) ∈ wNeed := List.mem_filter.mpr ⟨List.mem_of_getElem? (i := 479) (by decide +kernel), by decide +kernel⟩
theorem q_465 : (Jvm.Cond.methodLink "DroitLineLaw" (63 : Nat) ({ cls := "DroitLine", name := "price", desc := "(I)I" } : Jvm.MethodName)) ∈ wNeed := List.mem_filter.mpr ⟨List.mem_of_getElem? (i := 480) (by decide +kernel), by decide +kernel⟩
theorem q_466 : (Jvm.Cond.instanceMethod ({ cls := "DroitLine", name := "price", desc := "(I)I" } : Jvm.MethodName)) ∈ wNeed := List.mem_filter.mpr ⟨List.mem_of_getElem? (i := 481) (by decide +kernel), by decide +kernel⟩
theorem q_467 : (Jvm.Cond.selects "DroitLine" ({ cls := "DroitLine", name := "price", desc := "(I)I" } : Jvm.MethodName) ({ cls := "DroitLine", name := "price", desc := "(I)I" } : Jvm.MethodName)) ∈ wNeed := List.mem_filter.mpr ⟨List.mem_of_getElem? (i := 482) (by decide +kernel), by decide +kernel⟩
theorem q_468 : (Jvm.Cond.code ({ cls := "DroitLine", name := "price", desc := "(I)I" } : Jvm.MethodName) prog_1_method_18_code (2 : Nat) (Option.some Jvm.ClassFile.FieldType.int)) ∈ wNeed := List.mem_filter.mpr ⟨List.mem_of_getElem? (i := 483) (by decide +kernel), by decide +kernel⟩
theorem q_469 : (Jvm.Cond.methodLink "DroitLineLaw" (146 : Nat) ({ cls := "DroitLineLaw", name := "bids", desc := "(LDroitLine;I[J)I" } : Jvm.MethodName)) ∈ wNeed := List.mem_filter.mpr ⟨List.mem_of_getElem? (i := 484) (by decide +kernel), by decide +kernel⟩
theorem q_470 : (Jvm.Cond.static ({ cls := "DroitLineLaw", name := "bids", desc := "(LDroitLine;I[J)I" } : Jvm.MethodName)) ∈ wNeed := List.mem_filter.mpr ⟨List.mem_of_getElem? (i := 485) (by decide +kernel), by decide +kernel⟩
theorem q_471 : (Jvm.Cond.codeWith ({ cls := "DroitLineLaw", name := "bids", desc := "(LDroitLine;I[J)I" } : Jvm.MethodName) method_19_code (4 : Nat) (Option.some Jvm.ClassFile.FieldType.int) [((0 : Nat), (9 : Nat), (12 : Nat), (13 : Nat))]) ∈ wNeed := List.mem_filter.mpr ⟨List.mem_of_getElem? (i := 486) (by decide +kernel), by decide +kernel⟩
theorem q_472 : (Jvm.Cond.methodLink "DroitLineLaw" (66 : Nat) ({ cls := "DroitLine", name := "bids", desc := "(I)I" } : Jvm.MethodName)) ∈ wNeed := List.mem_filter.mpr ⟨List.mem_of_getElem? (i := 487) (by decide +kernel), by decide +kernel⟩
theorem q_473 : (Jvm.Cond.instanceMethod ({ cls := "DroitLine", name := "bids", desc := "(I)I" } : Jvm.MethodName)) ∈ wNeed := List.mem_filter.mpr ⟨List.mem_of_getElem? (i := 488) (by decide +kernel), by decide +kernel⟩
theorem q_474 : (Jvm.Cond.selects "DroitLine" ({ cls := "DroitLine", name := "bids", desc := "(I)I" } : Jvm.MethodName) ({ cls := "DroitLine", name := "bids", desc := "(I)I" } : Jvm.MethodName)) ∈ wNeed := List.mem_filter.mpr ⟨List.mem_of_getElem? (i := 489) (by decide +kernel), by decide +kernel⟩
theorem q_475 : (Jvm.Cond.code ({ cls := "DroitLine", name := "bids", desc := "(I)I" } : Jvm.MethodName) prog_1_method_19_code (2 : Nat) (Option.some Jvm.ClassFile.FieldType.int)) ∈ wNeed := List.mem_filter.mpr ⟨List.mem_of_getElem? (i := 490) (by decide +kernel), by decide +kernel⟩
theorem q_476 : (Jvm.Cond.methodLink "DroitLineLaw" (149 : Nat) ({ cls := "DroitLineLaw", name := "fee", desc := "(LDroitLine;I[J)I" } : Jvm.MethodName)) ∈ wNeed := List.mem_filter.mpr ⟨List.mem_of_getElem? (i := 491) (by decide +kernel), by decide +kernel⟩
theorem q_477 : (Jvm.Cond.static ({ cls := "DroitLineLaw", name := "fee", desc := "(LDroitLine;I[J)I" } : Jvm.MethodName)) ∈ wNeed := List.mem_filter.mpr ⟨List.mem_of_getElem? (i := 492) (by decide +kernel), by decide +kernel⟩
theorem q_478 : (Jvm.Cond.codeWith ({ cls := "DroitLineLaw", name := "fee", desc := "(LDroitLine;I[J)I" } : Jvm.MethodName) method_20_code (4 : Nat) (Option.some Jvm.ClassFile.FieldType.int) [((0 : Nat), (9 : Nat), (12 : Nat), (15 : Nat))]) ∈ wNeed := List.mem_filter.mpr ⟨List.mem_of_getElem? (i := 493) (by decide +kernel), by decide +kernel⟩
theorem q_479 : (Jvm.Cond.methodLink "DroitLineLaw" (69 : Nat) ({ cls := "DroitLine", name := "fee", desc := "(I)I" } : Jvm.MethodName)) ∈ wNeed := List.mem_filter.mpr ⟨List.mem_of_getElem? (i := 494) (by decide +kernel), by decide +kernel⟩
theorem q_480 : (Jvm.Cond.instanceMethod ({ cls := "DroitLine", name := "fee", desc := "(I)I" } : Jvm.MethodName)) ∈ wNeed := List.mem_filter.mpr ⟨List.mem_of_getElem? (i := 495) (by decide +kernel), by decide +kernel⟩
theorem q_481 : (Jvm.Cond.selects "DroitLine" ({ cls := "DroitLine", name := "fee", desc := "(I)I" } : Jvm.MethodName) ({ cls := "DroitLine", name := "fee", desc := "(I)I" } : Jvm.MethodName)) ∈ wNeed := List.mem_filter.mpr ⟨List.mem_of_getElem? (i := 496) (by decide +kernel), by decide +kernel⟩
theorem q_482 : (Jvm.Cond.code ({ cls := "DroitLine", name := "fee", desc := "(I)I" } : Jvm.MethodName) prog_1_method_20_code (2 : Nat) (Option.some Jvm.ClassFile.FieldType.int)) ∈ wNeed := List.mem_filter.mpr ⟨List.mem_of_getElem? (i := 497) (by decide +kernel), by decide +kernel⟩
theorem q_483 : (Jvm.Cond.methodLink "DroitLineLaw" (152 : Nat) ({ cls := "DroitLineLaw", name := "share", desc := "(LDroitLine;I[J)I" } : Jvm.MethodName)) ∈ wNeed := List.mem_filter.mpr ⟨List.mem_of_getElem? (i := 498) (by decide +kernel), by decide +kernel⟩
theorem q_484 : (Jvm.Cond.static ({ cls := "DroitLineLaw", name := "share", desc := "(LDroitLine;I[J)I" } : Jvm.MethodName)) ∈ wNeed := List.mem_filter.mpr ⟨List.mem_of_getElem? (i := 499) (by decide +kernel), by decide +kernel⟩
theorem q_485 : (Jvm.Cond.codeWith ({ cls := "DroitLineLaw", name := "share", desc := "(LDroitLine;I[J)I" } : Jvm.MethodName) method_21_code (4 : Nat) (Option.some Jvm.ClassFile.FieldType.int) [((0 : Nat), (9 : Nat), (12 : Nat), (13 : Nat))]) ∈ wNeed := List.mem_filter.mpr ⟨List.mem_of_getElem? (i := 500) (by decide +kernel), by decide +kernel⟩
theorem q_486 : (Jvm.Cond.methodLink "DroitLineLaw" (72 : Nat) ({ cls := "DroitLine", name := "share", desc := "(I)I" } : Jvm.MethodName)) ∈ wNeed := List.mem_filter.mpr ⟨List.mem_of_getElem? (i := 501) (by decide +kernel), by decide +kernel⟩
theorem q_487 : (Jvm.Cond.instanceMethod ({ cls := "DroitLine", name := "share", desc := "(I)I" } : Jvm.MethodName)) ∈ wNeed := List.mem_filter.mpr ⟨List.mem_of_getElem? (i := 502) (by decide +kernel), by decide +kernel⟩
theorem q_488 : (Jvm.Cond.selects "DroitLine" ({ cls := "DroitLine", name := "share", desc := "(I)I" } : Jvm.MethodName) ({ cls := "DroitLine", name := "share", desc := "(I)I" } : Jvm.MethodName)) ∈ wNeed := List.mem_filter.mpr ⟨List.mem_of_getElem? (i := 503) (by decide +kernel), by decide +kernel⟩
theorem q_489 : (Jvm.Cond.code ({ cls := "DroitLine", name := "share", desc := "(I)I" } : Jvm.MethodName) prog_1_method_21_code (2 : Nat) (Option.some Jvm.ClassFile.FieldType.int)) ∈ wNeed := List.mem_filter.mpr ⟨List.mem_of_getElem? (i := 504) (by decide +kernel), by decide +kernel⟩
theorem q_490 : (Jvm.Cond.methodLink "DroitLineLaw" (155 : Nat) ({ cls := "DroitLineLaw", name := "interest", desc := "(LDroitLine;I[J)I" } : Jvm.MethodName)) ∈ wNeed := List.mem_filter.mpr ⟨List.mem_of_getElem? (i := 505) (by decide +kernel), by decide +kernel⟩
theorem q_491 : (Jvm.Cond.static ({ cls := "DroitLineLaw", name := "interest", desc := "(LDroitLine;I[J)I" } : Jvm.MethodName)) ∈ wNeed := List.mem_filter.mpr ⟨List.mem_of_getElem? (i := 506) (by decide +kernel), by decide +kernel⟩
theorem q_492 : (Jvm.Cond.codeWith ({ cls := "DroitLineLaw", name := "interest", desc := "(LDroitLine;I[J)I" } : Jvm.MethodName) method_22_code (4 : Nat) (Option.some Jvm.ClassFile.FieldType.int) [((0 : Nat), (9 : Nat), (12 : Nat), (13 : Nat))]) ∈ wNeed := List.mem_filter.mpr ⟨List.mem_of_getElem? (i := 507) (by decide +kernel), by decide +kernel⟩
theorem q_493 : (Jvm.Cond.methodLink "DroitLineLaw" (75 : Nat) ({ cls := "DroitLine", name := "interest", desc := "(I)I" } : Jvm.MethodName)) ∈ wNeed := List.mem_filter.mpr ⟨List.mem_of_getElem? (i := 508) (by decide +kernel), by decide +kernel⟩
theorem q_494 : (Jvm.Cond.instanceMethod ({ cls := "DroitLine", name := "interest", desc := "(I)I" } : Jvm.MethodName)) ∈ wNeed := List.mem_filter.mpr ⟨List.mem_of_getElem? (i := 509) (by decide +kernel), by decide +kernel⟩
theorem q_495 : (Jvm.Cond.selects "DroitLine" ({ cls := "DroitLine", name := "interest", desc := "(I)I" } : Jvm.MethodName) ({ cls := "DroitLine", name := "interest", desc := "(I)I" } : Jvm.MethodName)) ∈ wNeed := List.mem_filter.mpr ⟨List.mem_of_getElem? (i := 510) (by decide +kernel), by decide +kernel⟩
theorem q_496 : (Jvm.Cond.code ({ cls := "DroitLine", name := "interest", desc := "(I)I" } : Jvm.MethodName) prog_1_method_22_code (2 : Nat) (Option.some Jvm.ClassFile.FieldType.int)) ∈ wNeed := List.mem_filter.mpr ⟨List.mem_of_getElem? (i := 511) (by decide +kernel), by decide +kernel⟩
theorem q_497 : (Jvm.Cond.methodLink "DroitLineLaw" (158 : Nat) ({ cls := "DroitLineLaw", name := "owes", desc := "(LDroitLine;I[J)I" } : Jvm.MethodName)) ∈ wNeed := List.mem_filter.mpr ⟨List.mem_of_getElem? (i := 512) (by decide +kernel), by decide +kernel⟩
theorem q_498 : (Jvm.Cond.static ({ cls := "DroitLineLaw", name := "owes", desc := "(LDroitLine;I[J)I" } : Jvm.MethodName)) ∈ wNeed := List.mem_filter.mpr ⟨List.mem_of_getElem? (i := 513) (by decide +kernel), by decide +kernel⟩
theorem q_499 : (Jvm.Cond.codeWith ({ cls := "DroitLineLaw", name := "owes", desc := "(LDroitLine;I[J)I" } : Jvm.MethodName) method_23_code (4 : Nat) (Option.some Jvm.ClassFile.FieldType.int) [((0 : Nat), (9 : Nat), (12 : Nat), (13 : Nat))]) ∈ wNeed := List.mem_filter.mpr ⟨List.mem_of_getElem? (i := 514) (by decide +kernel), by decide +kernel⟩
theorem q_500 : (Jvm.Cond.methodLink "DroitLineLaw" (78 : Nat) ({ cls := "DroitLine", name := "owes", desc := "(I)I" } : Jvm.MethodName)) ∈ wNeed := List.mem_filter.mpr ⟨List.mem_of_getElem? (i := 515) (by decide +kernel), by decide +kernel⟩
theorem q_501 : (Jvm.Cond.instanceMethod ({ cls := "DroitLine", name := "owes", desc := "(I)I" } : Jvm.MethodName)) ∈ wNeed := List.mem_filter.mpr ⟨List.mem_of_getElem? (i := 516) (by decide +kernel), by decide +kernel⟩
theorem q_502 : (Jvm.Cond.selects "DroitLine" ({ cls := "DroitLine", name := "owes", desc := "(I)I" } : Jvm.MethodName) ({ cls := "DroitLine", name := "owes", desc := "(I)I" } : Jvm.MethodName)) ∈ wNeed := List.mem_filter.mpr ⟨List.mem_of_getElem? (i := 517) (by decide +kernel), by decide +kernel⟩
theorem q_503 : (Jvm.Cond.code ({ cls := "DroitLine", name := "owes", desc := "(I)I" } : Jvm.MethodName) prog_1_method_23_code (2 : Nat) (Option.some Jvm.ClassFile.FieldType.int)) ∈ wNeed := List.mem_filter.mpr ⟨List.mem_of_getElem? (i := 518) (by decide +kernel), by decide +kernel⟩
theorem q_504 : (Jvm.Cond.classLink "DroitLineLaw" (82 : Nat) "DroitLineModel") ∈ wNeed := List.mem_filter.mpr ⟨List.mem_of_getElem? (i := 519) (by decide +kernel), by decide +kernel⟩
theorem q_505 : (Jvm.Cond.instantiable "DroitLineModel" (24 : Nat)) ∈ wNeed := List.mem_filter.mpr ⟨List.mem_of_getElem? (i := 520) (by decide +kernel), by decide +kernel⟩
theorem q_506 : (Jvm.Cond.methodLink "DroitLineLaw" (84 : Nat) ({ cls := "DroitLineModel", name := "<init>", desc := "()V" } : Jvm.MethodName)) ∈ wNeed := List.mem_filter.mpr ⟨List.mem_of_getElem? (i := 521) (by decide +kernel), by decide +kernel⟩
theorem q_507 : (Jvm.Cond.instanceMethod ({ cls := "DroitLineModel", name := "<init>", desc := "()V" } : Jvm.MethodName)) ∈ wNeed := List.mem_filter.mpr ⟨List.mem_of_getElem? (i := 522) (by decide +kernel), by decide +kernel⟩
theorem q_508 : (Jvm.Cond.code ({ cls := "DroitLineModel", name := "<init>", desc := "()V" } : Jvm.MethodName) prog_5_method_1_code (2 : Nat) (Option.none : Option Jvm.ClassFile.FieldType)) ∈ wNeed := List.mem_filter.mpr ⟨List.mem_of_getElem? (i := 523) (by decide +kernel), by decide +kernel⟩
theorem q_509 : (Jvm.Cond.methodLink "DroitLineModel" (1 : Nat) ({ cls := "java/lang/Object", name := "<init>", desc := "()V" } : Jvm.MethodName)) ∈ wNeed := List.mem_filter.mpr ⟨List.mem_of_getElem? (i := 524) (by decide +kernel), by decide +kernel⟩
theorem q_510 : (Jvm.Cond.fieldLink "DroitLineModel" (65 : Nat) "DroitLineModel" "lotMany" "I") ∈ wNeed := List.mem_filter.mpr ⟨List.mem_of_getElem? (i := 525) (by decide +kernel), by decide +kernel⟩
theorem q_511 : (Jvm.Cond.fieldLink "DroitLineModel" (7 : Nat) "DroitLineModel" "sellers" "[I") ∈ wNeed := List.mem_filter.mpr ⟨List.mem_of_getElem? (i := 526) (by decide +kernel), by decide +kernel⟩
theorem q_512 : (Jvm.Cond.fieldLink "DroitLineModel" (13 : Nat) "DroitLineModel" "reserves" "[I") ∈ wNeed := List.mem_filter.mpr ⟨List.mem_of_getElem? (i := 527) (by decide +kernel), by decide +kernel⟩
theorem q_513 : (Jvm.Cond.fieldLink "DroitLineModel" (16 : Nat) "DroitLineModel" "artists" "[I") ∈ wNeed := List.mem_filter.mpr ⟨List.mem_of_getElem? (i := 528) (by decide +kernel), by decide +kernel⟩
theorem q_514 : (Jvm.Cond.fieldLink "DroitLineModel" (19 : Nat) "DroitLineModel" "states" "[I") ∈ wNeed := List.mem_filter.mpr ⟨List.mem_of_getElem? (i := 529) (by decide +kernel), by decide +kernel⟩
theorem q_515 : (Jvm.Cond.fieldLink "DroitLineModel" (22 : Nat) "DroitLineModel" "buyers" "[I") ∈ wNeed := List.mem_filter.mpr ⟨List.mem_of_getElem? (i := 530) (by decide +kernel), by decide +kernel⟩
theorem q_516 : (Jvm.Cond.fieldLink "DroitLineModel" (25 : Nat) "DroitLineModel" "prices" "[I") ∈ wNeed := List.mem_filter.mpr ⟨List.mem_of_getElem? (i := 531) (by decide +kernel), by decide +kernel⟩
theorem q_517 : (Jvm.Cond.fieldLink "DroitLineModel" (28 : Nat) "DroitLineModel" "hammerDays" "[I") ∈ wNeed := List.mem_filter.mpr ⟨List.mem_of_getElem? (i := 532) (by decide +kernel), by decide +kernel⟩
theorem q_518 : (Jvm.Cond.fieldLink "DroitLineModel" (31 : Nat) "DroitLineModel" "bidOf" "[I") ∈ wNeed := List.mem_filter.mpr ⟨List.mem_of_getElem? (i := 533) (by decide +kernel), by decide +kernel⟩
theorem q_519 : (Jvm.Cond.fieldLink "DroitLineModel" (34 : Nat) "DroitLineModel" "leftAt" "[I") ∈ wNeed := List.mem_filter.mpr ⟨List.mem_of_getElem? (i := 534) (by decide +kernel), by decide +kernel⟩
theorem q_520 : (Jvm.Cond.fieldLink "DroitLineModel" (91 : Nat) "DroitLineModel" "leftMany" "I") ∈ wNeed := List.mem_filter.mpr ⟨List.mem_of_getElem? (i := 535) (by decide +kernel), by decide +kernel⟩
theorem q_521 : (Jvm.Cond.fieldLink "DroitLineModel" (37 : Nat) "DroitLineModel" "gapBuyers" "[I") ∈ wNeed := List.mem_filter.mpr ⟨List.mem_of_getElem? (i := 536) (by decide +kernel), by decide +kernel⟩
theorem q_522 : (Jvm.Cond.fieldLink "DroitLineModel" (40 : Nat) "DroitLineModel" "gapPrices" "[I") ∈ wNeed := List.mem_filter.mpr ⟨List.mem_of_getElem? (i := 537) (by decide +kernel), by decide +kernel⟩
theorem q_523 : (Jvm.Cond.fieldLink "DroitLineModel" (43 : Nat) "DroitLineModel" "advances" "[I") ∈ wNeed := List.mem_filter.mpr ⟨List.mem_of_getElem? (i := 538) (by decide +kernel), by decide +kernel⟩
theorem q_524 : (Jvm.Cond.fieldLink "DroitLineModel" (46 : Nat) "DroitLineModel" "advanceDays" "[I") ∈ wNeed := List.mem_filter.mpr ⟨List.mem_of_getElem? (i := 539) (by decide +kernel), by decide +kernel⟩
theorem q_525 : (Jvm.Cond.fieldLink "DroitLineModel" (49 : Nat) "DroitLineModel" "interests" "[I") ∈ wNeed := List.mem_filter.mpr ⟨List.mem_of_getElem? (i := 540) (by decide +kernel), by decide +kernel⟩
theorem q_526 : (Jvm.Cond.fieldLink "DroitLineModel" (52 : Nat) "DroitLineModel" "debts" "[I") ∈ wNeed := List.mem_filter.mpr ⟨List.mem_of_getElem? (i := 541) (by decide +kernel), by decide +kernel⟩
theorem q_527 : (Jvm.Cond.fieldLink "DroitLineModel" (55 : Nat) "DroitLineModel" "commissions" "[I") ∈ wNeed := List.mem_filter.mpr ⟨List.mem_of_getElem? (i := 542) (by decide +kernel), by decide +kernel⟩
theorem q_528 : (Jvm.Cond.fieldLink "DroitLineModel" (58 : Nat) "DroitLineModel" "interestRate" "I") ∈ wNeed := List.mem_filter.mpr ⟨List.mem_of_getElem? (i := 543) (by decide +kernel), by decide +kernel⟩
theorem q_529 : (Jvm.Cond.fieldLink "DroitLineModel" (101 : Nat) "DroitLineModel" "now" "I") ∈ wNeed := List.mem_filter.mpr ⟨List.mem_of_getElem? (i := 544) (by decide +kernel), by decide +kernel⟩
theorem q_530 : (Jvm.Cond.fieldLink "DroitLineModel" (114 : Nat) "DroitLineModel" "moneyIn" "J") ∈ wNeed := List.mem_filter.mpr ⟨List.mem_of_getElem? (i := 545) (by decide +kernel), by decide +kernel⟩
theorem q_531 : (Jvm.Cond.fieldLink "DroitLineModel" (121 : Nat) "DroitLineModel" "moneyOut" "J") ∈ wNeed := List.mem_filter.mpr ⟨List.mem_of_getElem? (i := 546) (by decide +kernel), by decide +kernel⟩
theorem q_532 : (Jvm.Cond.fieldLink "DroitLineModel" (118 : Nat) "DroitLineModel" "moneyKept" "J") ∈ wNeed := List.mem_filter.mpr ⟨List.mem_of_getElem? (i := 547) (by decide +kernel), by decide +kernel⟩
theorem q_533 : (Jvm.Cond.fieldLink "DroitLineModel" (62 : Nat) "DroitLineModel" "thrown" "I") ∈ wNeed := List.mem_filter.mpr ⟨List.mem_of_getElem? (i := 548) (by decide +kernel), by decide +kernel⟩
theorem q_534 : (Jvm.Cond.lays "DroitLineModel" "DroitLineModel" "lotMany" "I") ∈ wNeed := List.mem_filter.mpr ⟨List.mem_of_getElem? (i := 549) (by decide +kernel), by decide +kernel⟩
theorem q_536 : (Jvm.Cond.laysFinal "DroitLineModel" "DroitLineModel" "sellers" "[I") ∈ wNeed := List.mem_filter.mpr ⟨List.mem_of_getElem? (i := 551) (by decide +kernel), by decide +kernel⟩
theorem q_538 : (Jvm.Cond.laysFinal "DroitLineModel" "DroitLineModel" "reserves" "[I") ∈ wNeed := List.mem_filter.mpr ⟨List.mem_of_getElem? (i := 553) (by decide +kernel), by decide +kernel⟩
theorem q_540 : (Jvm.Cond.laysFinal "DroitLineModel" "DroitLineModel" "artists" "[I") ∈ wNeed := List.mem_filter.mpr ⟨List.mem_of_getElem? (i := 555) (by decide +kernel), by decide +kernel⟩
theorem q_542 : (Jvm.Cond.laysFinal "DroitLineModel" "DroitLineModel" "states" "[I") ∈ wNeed := List.mem_filter.mpr ⟨List.mem_of_getElem? (i := 557) (by decide +kernel), by decide +kernel⟩
theorem q_544 : (Jvm.Cond.laysFinal "DroitLineModel" "DroitLineModel" "buyers" "[I") ∈ wNeed := List.mem_filter.mpr ⟨List.mem_of_getElem? (i := 559) (by decide +kernel), by decide +kernel⟩
theorem q_546 : (Jvm.Cond.laysFinal "DroitLineModel" "DroitLineModel" "prices" "[I") ∈ wNeed := List.mem_filter.mpr ⟨List.mem_of_getElem? (i := 561) (by decide +kernel), by decide +kernel⟩
theorem q_548 : (Jvm.Cond.laysFinal "DroitLineModel" "DroitLineModel" "hammerDays" "[I") ∈ wNeed := List.mem_filter.mpr ⟨List.mem_of_getElem? (i := 563) (by decide +kernel), by decide +kernel⟩
theorem q_550 : (Jvm.Cond.laysFinal "DroitLineModel" "DroitLineModel" "bidOf" "[I") ∈ wNeed := List.mem_filter.mpr ⟨List.mem_of_getElem? (i := 565) (by decide +kernel), by decide +kernel⟩
theorem q_552 : (Jvm.Cond.laysFinal "DroitLineModel" "DroitLineModel" "leftAt" "[I") ∈ wNeed := List.mem_filter.mpr ⟨List.mem_of_getElem? (i := 567) (by decide +kernel), by decide +kernel⟩
theorem q_554 : (Jvm.Cond.lays "DroitLineModel" "DroitLineModel" "leftMany" "I") ∈ wNeed := List.mem_filter.mpr ⟨List.mem_of_getElem? (i := 569) (by decide +kernel), by decide +kernel⟩
theorem q_556 : (Jvm.Cond.laysFinal "DroitLineModel" "DroitLineModel" "gapBuyers" "[I") ∈ wNeed := List.mem_filter.mpr ⟨List.mem_of_getElem? (i := 571) (by decide +kernel), by decide +kernel⟩
theorem q_558 : (Jvm.Cond.laysFinal "DroitLineModel" "DroitLineModel" "gapPrices" "[I") ∈ wNeed := List.mem_filter.mpr ⟨List.mem_of_getElem? (i := 573) (by decide +kernel), by decide +kernel⟩
theorem q_560 : (Jvm.Cond.laysFinal "DroitLineModel" "DroitLineModel" "advances" "[I") ∈ wNeed := List.mem_filter.mpr ⟨List.mem_of_getElem? (i := 575) (by decide +kernel), by decide +kernel⟩
theorem q_562 : (Jvm.Cond.laysFinal "DroitLineModel" "DroitLineModel" "advanceDays" "[I") ∈ wNeed := List.mem_filter.mpr ⟨List.mem_of_getElem? (i := 577) (by decide +kernel), by decide +kernel⟩
theorem q_564 : (Jvm.Cond.laysFinal "DroitLineModel" "DroitLineModel" "interests" "[I") ∈ wNeed := List.mem_filter.mpr ⟨List.mem_of_getElem? (i := 579) (by decide +kernel), by decide +kernel⟩
theorem q_566 : (Jvm.Cond.laysFinal "DroitLineModel" "DroitLineModel" "debts" "[I") ∈ wNeed := List.mem_filter.mpr ⟨List.mem_of_getElem? (i := 581) (by decide +kernel), by decide +kernel⟩
theorem q_568 : (Jvm.Cond.laysFinal "DroitLineModel" "DroitLineModel" "commissions" "[I") ∈ wNeed := List.mem_filter.mpr ⟨List.mem_of_getElem? (i := 583) (by decide +kernel), by decide +kernel⟩
theorem q_570 : (Jvm.Cond.lays "DroitLineModel" "DroitLineModel" "interestRate" "I") ∈ wNeed := List.mem_filter.mpr ⟨List.mem_of_getElem? (i := 585) (by decide +kernel), by decide +kernel⟩
theorem q_572 : (Jvm.Cond.lays "DroitLineModel" "DroitLineModel" "now" "I") ∈ wNeed := List.mem_filter.mpr ⟨List.mem_of_getElem? (i := 587) (by decide +kernel), by decide +kernel⟩
theorem q_574 : (Jvm.Cond.lays "DroitLineModel" "DroitLineModel" "moneyIn" "J") ∈ wNeed := List.mem_filter.mpr ⟨List.mem_of_getElem? (i := 589) (by decide +kernel), by decide +kernel⟩
theorem q_576 : (Jvm.Cond.lays "DroitLineModel" "DroitLineModel" "moneyOut" "J") ∈ wNeed := List.mem_filter.mpr ⟨List.mem_of_getElem? (i := 591) (by decide +kernel), by decide +kernel⟩
theorem q_578 : (Jvm.Cond.lays "DroitLineModel" "DroitLineModel" "moneyKept" "J") ∈ wNeed := List.mem_filter.mpr ⟨List.mem_of_getElem? (i := 593) (by decide +kernel), by decide +kernel⟩
theorem q_580 : (Jvm.Cond.lays "DroitLineModel" "DroitLineModel" "thrown" "I") ∈ wNeed := List.mem_filter.mpr ⟨List.mem_of_getElem? (i := 595) (by decide +kernel), by decide +kernel⟩
theorem q_582 : (Jvm.Cond.superclass "DroitLineModel" "java/lang/Object") ∈ wNeed := List.mem_filter.mpr ⟨List.mem_of_getElem? (i := 597) (by decide +kernel), by decide +kernel⟩
theorem q_583 : (Jvm.Cond.methodLink "DroitLineLaw" (91 : Nat) ({ cls := "DroitLineModel", name := "thrown", desc := "()I" } : Jvm.MethodName)) ∈ wNeed := List.mem_filter.mpr ⟨List.mem_of_getElem? (i := 598) (by decide +kernel), by decide +kernel⟩
theorem q_584 : (Jvm.Cond.instanceMethod ({ cls := "DroitLineModel", name := "thrown", desc := "()I" } : Jvm.MethodName)) ∈ wNeed := List.mem_filter.mpr ⟨List.mem_of_getElem? (i := 599) (by decide +kernel), by decide +kernel⟩
theorem q_585 : (Jvm.Cond.selects "DroitLineModel" ({ cls := "DroitLineModel", name := "thrown", desc := "()I" } : Jvm.MethodName) ({ cls := "DroitLineModel", name := "thrown", desc := "()I" } : Jvm.MethodName)) ∈ wNeed := List.mem_filter.mpr ⟨List.mem_of_getElem? (i := 600) (by decide +kernel), by decide +kernel⟩
theorem q_586 : (Jvm.Cond.code ({ cls := "DroitLineModel", name := "thrown", desc := "()I" } : Jvm.MethodName) prog_5_method_2_code (1 : Nat) (Option.some Jvm.ClassFile.FieldType.int)) ∈ wNeed := List.mem_filter.mpr ⟨List.mem_of_getElem? (i := 601) (by decide +kernel), by decide +kernel⟩
theorem q_587 : (Jvm.Cond.methodLink "DroitLineLaw" (90 : Nat) ({ cls := "DroitLineModel", name := "lot", desc := "(III)I" } : Jvm.MethodName)) ∈ wNeed := List.mem_filter.mpr ⟨List.mem_of_getElem? (i := 602) (by decide +kernel), by decide +kernel⟩
theorem q_588 : (Jvm.Cond.instanceMethod ({ cls := "DroitLineModel", name := "lot", desc := "(III)I" } : Jvm.MethodName)) ∈ wNeed := List.mem_filter.mpr ⟨List.mem_of_getElem? (i := 603) (by decide +kernel), by decide +kernel⟩
theorem q_589 : (Jvm.Cond.selects "DroitLineModel" ({ cls := "DroitLineModel", name := "lot", desc := "(III)I" } : Jvm.MethodName) ({ cls := "DroitLineModel", name := "lot", desc := "(III)I" } : Jvm.MethodName)) ∈ wNeed := List.mem_filter.mpr ⟨List.mem_of_getElem? (i := 604) (by decide +kernel), by decide +kernel⟩
theorem q_590 : (Jvm.Cond.code ({ cls := "DroitLineModel", name := "lot", desc := "(III)I" } : Jvm.MethodName) prog_5_method_9_code (5 : Nat) (Option.some Jvm.ClassFile.FieldType.int)) ∈ wNeed := List.mem_filter.mpr ⟨List.mem_of_getElem? (i := 605) (by decide +kernel), by decide +kernel⟩
theorem q_591 : (Jvm.Cond.constant "DroitLineModel" (76 : Nat) (1000000 : Int32)) ∈ wNeed := List.mem_filter.mpr ⟨List.mem_of_getElem? (i := 606) (by decide +kernel), by decide +kernel⟩
theorem q_592 : (Jvm.Cond.methodLink "DroitLineModel" (68 : Nat) ({ cls := "DroitLineModel", name := "isWithin", desc := "(III)Z" } : Jvm.MethodName)) ∈ wNeed := List.mem_filter.mpr ⟨List.mem_of_getElem? (i := 607) (by decide +kernel), by decide +kernel⟩
theorem q_593 : (Jvm.Cond.static ({ cls := "DroitLineModel", name := "isWithin", desc := "(III)Z" } : Jvm.MethodName)) ∈ wNeed := List.mem_filter.mpr ⟨List.mem_of_getElem? (i := 608) (by decide +kernel), by decide +kernel⟩
theorem q_594 : (Jvm.Cond.code ({ cls := "DroitLineModel", name := "isWithin", desc := "(III)Z" } : Jvm.MethodName) prog_5_method_3_code (3 : Nat) (Option.some Jvm.ClassFile.FieldType.boolean)) ∈ wNeed := List.mem_filter.mpr ⟨List.mem_of_getElem? (i := 609) (by decide +kernel), by decide +kernel⟩
theorem q_595 : (Jvm.Cond.methodLink "DroitLineModel" (77 : Nat) ({ cls := "DroitLineModel", name := "call", desc := "(I)I" } : Jvm.MethodName)) ∈ wNeed := List.mem_filter.mpr ⟨List.mem_of_getElem? (i := 610) (by decide +kernel), by decide +kernel⟩
theorem q_596 : (Jvm.Cond.static ({ cls := "DroitLineModel", name := "call", desc := "(I)I" } : Jvm.MethodName)) ∈ wNeed := List.mem_filter.mpr ⟨List.mem_of_getElem? (i := 611) (by decide +kernel), by decide +kernel⟩
theorem q_597 : (Jvm.Cond.code ({ cls := "DroitLineModel", name := "call", desc := "(I)I" } : Jvm.MethodName) prog_5_method_7_code (1 : Nat) (Option.some Jvm.ClassFile.FieldType.int)) ∈ wNeed := List.mem_filter.mpr ⟨List.mem_of_getElem? (i := 612) (by decide +kernel), by decide +kernel⟩
theorem q_598 : (Jvm.Cond.methodLink "DroitLineModel" (72 : Nat) ({ cls := "DroitLineModel", name := "step", desc := "(I)I" } : Jvm.MethodName)) ∈ wNeed := List.mem_filter.mpr ⟨List.mem_of_getElem? (i := 613) (by decide +kernel), by decide +kernel⟩
theorem q_599 : (Jvm.Cond.static ({ cls := "DroitLineModel", name := "step", desc := "(I)I" } : Jvm.MethodName)) ∈ wNeed := List.mem_filter.mpr ⟨List.mem_of_getElem? (i := 614) (by decide +kernel), by decide +kernel⟩
theorem q_600 : (Jvm.Cond.code ({ cls := "DroitLineModel", name := "step", desc := "(I)I" } : Jvm.MethodName) prog_5_method_6_code (1 : Nat) (Option.some Jvm.ClassFile.FieldType.int)) ∈ wNeed := List.mem_filter.mpr ⟨List.mem_of_getElem? (i := 615) (by decide +kernel), by decide +kernel⟩
theorem q_601 : (Jvm.Cond.methodLink "DroitLineModel" (80 : Nat) ({ cls := "DroitLineModel", name := "clearBids", desc := "(I)V" } : Jvm.MethodName)) ∈ wNeed := List.mem_filter.mpr ⟨List.mem_of_getElem? (i := 616) (by decide +kernel), by decide +kernel⟩
theorem q_603 : (Jvm.Cond.instanceMethod ({ cls := "DroitLineModel", name := "clearBids", desc := "(I)V" } : Jvm.MethodName)) ∈ wNeed := List.mem_filter.mpr ⟨List.mem_of_getElem? (i := 618) (by decide +kernel), by decide +kernel⟩
theorem q_604 : (Jvm.Cond.code ({ cls := "DroitLineModel", name := "clearBids", desc := "(I)V" } : Jvm.MethodName) prog_5_method_8_code (3 : Nat) (Option.none : Option Jvm.ClassFile.FieldType)) ∈ wNeed := List.mem_filter.mpr ⟨List.mem_of_getElem? (i := 619) (by decide +kernel), by decide +kernel⟩
theorem q_605 : (Jvm.Cond.methodLink "DroitLineLaw" (97 : Nat) ({ cls := "DroitLineModel", name := "bid", desc := "(III)I" } : Jvm.MethodName)) ∈ wNeed := List.mem_filter.mpr ⟨List.mem_of_getElem? (i := 620) (by decide +kernel), by decide +kernel⟩
theorem q_606 : (Jvm.Cond.instanceMethod ({ cls := "DroitLineModel", name := "bid", desc := "(III)I" } : Jvm.MethodName)) ∈ wNeed := List.mem_filter.mpr ⟨List.mem_of_getElem? (i := 621) (by decide +kernel), by decide +kernel⟩
theorem q_607 : (Jvm.Cond.selects "DroitLineModel" ({ cls := "DroitLineModel", name := "bid", desc := "(III)I" } : Jvm.MethodName) ({ cls := "DroitLineModel", name := "bid", desc := "(III)I" } : Jvm.MethodName)) ∈ wNeed := List.mem_filter.mpr ⟨List.mem_of_getElem? (i := 622) (by decide +kernel), by decide +kernel⟩
theorem q_608 : (Jvm.Cond.code ({ cls := "DroitLineModel", name := "bid", desc := "(III)I" } : Jvm.MethodName) prog_5_method_10_code (4 : Nat) (Option.some Jvm.ClassFile.FieldType.int)) ∈ wNeed := List.mem_filter.mpr ⟨List.mem_of_getElem? (i := 623) (by decide +kernel), by decide +kernel⟩
theorem q_609 : (Jvm.Cond.methodLink "DroitLineModel" (84 : Nat) ({ cls := "DroitLineModel", name := "isLot", desc := "(I)Z" } : Jvm.MethodName)) ∈ wNeed := List.mem_filter.mpr ⟨List.mem_of_getElem? (i := 624) (by decide +kernel), by decide +kernel⟩
theorem q_611 : (Jvm.Cond.instanceMethod ({ cls := "DroitLineModel", name := "isLot", desc := "(I)Z" } : Jvm.MethodName)) ∈ wNeed := List.mem_filter.mpr ⟨List.mem_of_getElem? (i := 626) (by decide +kernel), by decide +kernel⟩
theorem q_612 : (Jvm.Cond.code ({ cls := "DroitLineModel", name := "isLot", desc := "(I)Z" } : Jvm.MethodName) prog_5_method_4_code (2 : Nat) (Option.some Jvm.ClassFile.FieldType.boolean)) ∈ wNeed := List.mem_filter.mpr ⟨List.mem_of_getElem? (i := 627) (by decide +kernel), by decide +kernel⟩
theorem q_613 : (Jvm.Cond.methodLink "DroitLineModel" (88 : Nat) ({ cls := "DroitLineModel", name := "isBuyer", desc := "(I)Z" } : Jvm.MethodName)) ∈ wNeed := List.mem_filter.mpr ⟨List.mem_of_getElem? (i := 628) (by decide +kernel), by decide +kernel⟩
theorem q_614 : (Jvm.Cond.static ({ cls := "DroitLineModel", name := "isBuyer", desc := "(I)Z" } : Jvm.MethodName)) ∈ wNeed := List.mem_filter.mpr ⟨List.mem_of_getElem? (i := 629) (by decide +kernel), by decide +kernel⟩
theorem q_615 : (Jvm.Cond.code ({ cls := "DroitLineModel", name := "isBuyer", desc := "(I)Z" } : Jvm.MethodName) prog_5_method_5_code (1 : Nat) (Option.some Jvm.ClassFile.FieldType.boolean)) ∈ wNeed := List.mem_filter.mpr ⟨List.mem_of_getElem? (i := 630) (by decide +kernel), by decide +kernel⟩
theorem q_616 : (Jvm.Cond.methodLink "DroitLineLaw" (101 : Nat) ({ cls := "DroitLineModel", name := "hammer", desc := "(I)I" } : Jvm.MethodName)) ∈ wNeed := List.mem_filter.mpr ⟨List.mem_of_getElem? (i := 631) (by decide +kernel), by decide +kernel⟩
theorem q_617 : (Jvm.Cond.instanceMethod ({ cls := "DroitLineModel", name := "hammer", desc := "(I)I" } : Jvm.MethodName)) ∈ wNeed := List.mem_filter.mpr ⟨List.mem_of_getElem? (i := 632) (by decide +kernel), by decide +kernel⟩
theorem q_618 : (Jvm.Cond.selects "DroitLineModel" ({ cls := "DroitLineModel", name := "hammer", desc := "(I)I" } : Jvm.MethodName) ({ cls := "DroitLineModel", name := "hammer", desc := "(I)I" } : Jvm.MethodName)) ∈ wNeed := List.mem_filter.mpr ⟨List.mem_of_getElem? (i := 633) (by decide +kernel), by decide +kernel⟩
theorem q_619 : (Jvm.Cond.code ({ cls := "DroitLineModel", name := "hammer", desc := "(I)I" } : Jvm.MethodName) prog_5_method_13_code (5 : Nat) (Option.some Jvm.ClassFile.FieldType.int)) ∈ wNeed := List.mem_filter.mpr ⟨List.mem_of_getElem? (i := 634) (by decide +kernel), by decide +kernel⟩
theorem q_620 : (Jvm.Cond.methodLink "DroitLineModel" (94 : Nat) ({ cls := "DroitLineModel", name := "highest", desc := "(I)I" } : Jvm.MethodName)) ∈ wNeed := List.mem_filter.mpr ⟨List.mem_of_getElem? (i := 635) (by decide +kernel), by decide +kernel⟩
theorem q_622 : (Jvm.Cond.instanceMethod ({ cls := "DroitLineModel", name := "highest", desc := "(I)I" } : Jvm.MethodName)) ∈ wNeed := List.mem_filter.mpr ⟨List.mem_of_getElem? (i := 637) (by decide +kernel), by decide +kernel⟩
theorem q_623 : (Jvm.Cond.code ({ cls := "DroitLineModel", name := "highest", desc := "(I)I" } : Jvm.MethodName) prog_5_method_11_code (5 : Nat) (Option.some Jvm.ClassFile.FieldType.int)) ∈ wNeed := List.mem_filter.mpr ⟨List.mem_of_getElem? (i := 638) (by decide +kernel), by decide +kernel⟩
theorem q_624 : (Jvm.Cond.methodLink "DroitLineModel" (97 : Nat) ({ cls := "DroitLineModel", name := "highestBut", desc := "(II)I" } : Jvm.MethodName)) ∈ wNeed := List.mem_filter.mpr ⟨List.mem_of_getElem? (i := 639) (by decide +kernel), by decide +kernel⟩
theorem q_626 : (Jvm.Cond.instanceMethod ({ cls := "DroitLineModel", name := "highestBut", desc := "(II)I" } : Jvm.MethodName)) ∈ wNeed := List.mem_filter.mpr ⟨List.mem_of_getElem? (i := 641) (by decide +kernel), by decide +kernel⟩
theorem q_627 : (Jvm.Cond.code ({ cls := "DroitLineModel", name := "highestBut", desc := "(II)I" } : Jvm.MethodName) prog_5_method_12_code (5 : Nat) (Option.some Jvm.ClassFile.FieldType.int)) ∈ wNeed := List.mem_filter.mpr ⟨List.mem_of_getElem? (i := 642) (by decide +kernel), by decide +kernel⟩
theorem q_628 : (Jvm.Cond.methodLink "DroitLineLaw" (105 : Nat) ({ cls := "DroitLineModel", name := "again", desc := "(II)I" } : Jvm.MethodName)) ∈ wNeed := List.mem_filter.mpr ⟨List.mem_of_getElem? (i := 643) (by decide +kernel), by decide +kernel⟩
theorem q_629 : (Jvm.Cond.instanceMethod ({ cls := "DroitLineModel", name := "again", desc := "(II)I" } : Jvm.MethodName)) ∈ wNeed := List.mem_filter.mpr ⟨List.mem_of_getElem? (i := 644) (by decide +kernel), by decide +kernel⟩
theorem q_630 : (Jvm.Cond.selects "DroitLineModel" ({ cls := "DroitLineModel", name := "again", desc := "(II)I" } : Jvm.MethodName) ({ cls := "DroitLineModel", name := "again", desc := "(II)I" } : Jvm.MethodName)) ∈ wNeed := List.mem_filter.mpr ⟨List.mem_of_getElem? (i := 645) (by decide +kernel), by decide +kernel⟩
theorem q_631 : (Jvm.Cond.code ({ cls := "DroitLineModel", name := "again", desc := "(II)I" } : Jvm.MethodName) prog_5_method_15_code (4 : Nat) (Option.some Jvm.ClassFile.FieldType.int)) ∈ wNeed := List.mem_filter.mpr ⟨List.mem_of_getElem? (i := 646) (by decide +kernel), by decide +kernel⟩
theorem q_632 : (Jvm.Cond.methodLink "DroitLineModel" (104 : Nat) ({ cls := "DroitLineModel", name := "bidMany", desc := "(I)I" } : Jvm.MethodName)) ∈ wNeed := List.mem_filter.mpr ⟨List.mem_of_getElem? (i := 647) (by decide +kernel), by decide +kernel⟩
theorem q_634 : (Jvm.Cond.instanceMethod ({ cls := "DroitLineModel", name := "bidMany", desc := "(I)I" } : Jvm.MethodName)) ∈ wNeed := List.mem_filter.mpr ⟨List.mem_of_getElem? (i := 649) (by decide +kernel), by decide +kernel⟩
theorem q_635 : (Jvm.Cond.code ({ cls := "DroitLineModel", name := "bidMany", desc := "(I)I" } : Jvm.MethodName) prog_5_method_14_code (4 : Nat) (Option.some Jvm.ClassFile.FieldType.int)) ∈ wNeed := List.mem_filter.mpr ⟨List.mem_of_getElem? (i := 650) (by decide +kernel), by decide +kernel⟩
theorem q_636 : (Jvm.Cond.methodLink "DroitLineLaw" (109 : Nat) ({ cls := "DroitLineModel", name := "lots", desc := "()I" } : Jvm.MethodName)) ∈ wNeed := List.mem_filter.mpr ⟨List.mem_of_getElem? (i := 651) (by decide +kernel), by decide +kernel⟩
theorem q_637 : (Jvm.Cond.instanceMethod ({ cls := "DroitLineModel", name := "lots", desc := "()I" } : Jvm.MethodName)) ∈ wNeed := List.mem_filter.mpr ⟨List.mem_of_getElem? (i := 652) (by decide +kernel), by decide +kernel⟩
theorem q_638 : (Jvm.Cond.selects "DroitLineModel" ({ cls := "DroitLineModel", name := "lots", desc := "()I" } : Jvm.MethodName) ({ cls := "DroitLineModel", name := "lots", desc := "()I" } : Jvm.MethodName)) ∈ wNeed := List.mem_filter.mpr ⟨List.mem_of_getElem? (i := 653) (by decide +kernel), by decide +kernel⟩
theorem q_639 : (Jvm.Cond.code ({ cls := "DroitLineModel", name := "lots", desc := "()I" } : Jvm.MethodName) prog_5_method_16_code (1 : Nat) (Option.some Jvm.ClassFile.FieldType.int)) ∈ wNeed := List.mem_filter.mpr ⟨List.mem_of_getElem? (i := 654) (by decide +kernel), by decide +kernel⟩
theorem q_640 : (Jvm.Cond.methodLink "DroitLineLaw" (112 : Nat) ({ cls := "DroitLineModel", name := "callOf", desc := "(I)I" } : Jvm.MethodName)) ∈ wNeed := List.mem_filter.mpr ⟨List.mem_of_getElem? (i := 655) (by decide +kernel), by decide +kernel⟩
theorem q_641 : (Jvm.Cond.instanceMethod ({ cls := "DroitLineModel", name := "callOf", desc := "(I)I" } : Jvm.MethodName)) ∈ wNeed := List.mem_filter.mpr ⟨List.mem_of_getElem? (i := 656) (by decide +kernel), by decide +kernel⟩
theorem q_642 : (Jvm.Cond.selects "DroitLineModel" ({ cls := "DroitLineModel", name := "callOf", desc := "(I)I" } : Jvm.MethodName) ({ cls := "DroitLineModel", name := "callOf", desc := "(I)I" } : Jvm.MethodName)) ∈ wNeed := List.mem_filter.mpr ⟨List.mem_of_getElem? (i := 657) (by decide +kernel), by decide +kernel⟩
theorem q_643 : (Jvm.Cond.code ({ cls := "DroitLineModel", name := "callOf", desc := "(I)I" } : Jvm.MethodName) prog_5_method_17_code (2 : Nat) (Option.some Jvm.ClassFile.FieldType.int)) ∈ wNeed := List.mem_filter.mpr ⟨List.mem_of_getElem? (i := 658) (by decide +kernel), by decide +kernel⟩
theorem q_644 : (Jvm.Cond.methodLink "DroitLineLaw" (115 : Nat) ({ cls := "DroitLineModel", name := "pay", desc := "(I)I" } : Jvm.MethodName)) ∈ wNeed := List.mem_filter.mpr ⟨List.mem_of_getElem? (i := 659) (by decide +kernel), by decide +kernel⟩
theorem q_645 : (Jvm.Cond.instanceMethod ({ cls := "DroitLineModel", name := "pay", desc := "(I)I" } : Jvm.MethodName)) ∈ wNeed := List.mem_filter.mpr ⟨List.mem_of_getElem? (i := 660) (by decide +kernel), by decide +kernel⟩
theorem q_646 : (Jvm.Cond.selects "DroitLineModel" ({ cls := "DroitLineModel", name := "pay", desc := "(I)I" } : Jvm.MethodName) ({ cls := "DroitLineModel", name := "pay", desc := "(I)I" } : Jvm.MethodName)) ∈ wNeed := List.mem_filter.mpr ⟨List.mem_of_getElem? (i := 661) (by decide +kernel), by decide +kernel⟩
theorem q_647 : (Jvm.Cond.code ({ cls := "DroitLineModel", name := "pay", desc := "(I)I" } : Jvm.MethodName) prog_5_method_20_code (3 : Nat) (Option.some Jvm.ClassFile.FieldType.int)) ∈ wNeed := List.mem_filter.mpr ⟨List.mem_of_getElem? (i := 662) (by decide +kernel), by decide +kernel⟩
theorem q_648 : (Jvm.Cond.methodLink "DroitLineModel" (111 : Nat) ({ cls := "DroitLineModel", name := "feeFor", desc := "(I)I" } : Jvm.MethodName)) ∈ wNeed := List.mem_filter.mpr ⟨List.mem_of_getElem? (i := 663) (by decide +kernel), by decide +kernel⟩
theorem q_649 : (Jvm.Cond.static ({ cls := "DroitLineModel", name := "feeFor", desc := "(I)I" } : Jvm.MethodName)) ∈ wNeed := List.mem_filter.mpr ⟨List.mem_of_getElem? (i := 664) (by decide +kernel), by decide +kernel⟩
theorem q_650 : (Jvm.Cond.code ({ cls := "DroitLineModel", name := "feeFor", desc := "(I)I" } : Jvm.MethodName) prog_5_method_18_code (4 : Nat) (Option.some Jvm.ClassFile.FieldType.int)) ∈ wNeed := List.mem_filter.mpr ⟨List.mem_of_getElem? (i := 665) (by decide +kernel), by decide +kernel⟩
theorem q_651 : (Jvm.Cond.constant "DroitLineModel" (107 : Nat) (50000 : Int32)) ∈ wNeed := List.mem_filter.mpr ⟨List.mem_of_getElem? (i := 666) (by decide +kernel), by decide +kernel⟩
theorem q_652 : (Jvm.Cond.constant "DroitLineModel" (108 : Nat) (40000 : Int32)) ∈ wNeed := List.mem_filter.mpr ⟨List.mem_of_getElem? (i := 667) (by decide +kernel), by decide +kernel⟩
theorem q_653 : (Jvm.Cond.methodLink "DroitLineLaw" (118 : Nat) ({ cls := "DroitLineModel", name := "defaults", desc := "(I)I" } : Jvm.MethodName)) ∈ wNeed := List.mem_filter.mpr ⟨List.mem_of_getElem? (i := 668) (by decide +kernel), by decide +kernel⟩
theorem q_654 : (Jvm.Cond.instanceMethod ({ cls := "DroitLineModel", name := "defaults", desc := "(I)I" } : Jvm.MethodName)) ∈ wNeed := List.mem_filter.mpr ⟨List.mem_of_getElem? (i := 669) (by decide +kernel), by decide +kernel⟩
theorem q_655 : (Jvm.Cond.selects "DroitLineModel" ({ cls := "DroitLineModel", name := "defaults", desc := "(I)I" } : Jvm.MethodName) ({ cls := "DroitLineModel", name := "defaults", desc := "(I)I" } : Jvm.MethodName)) ∈ wNeed := List.mem_filter.mpr ⟨List.mem_of_getElem? (i := 670) (by decide +kernel), by decide +kernel⟩
theorem q_656 : (Jvm.Cond.code ({ cls := "DroitLineModel", name := "defaults", desc := "(I)I" } : Jvm.MethodName) prog_5_method_21_code (2 : Nat) (Option.some Jvm.ClassFile.FieldType.int)) ∈ wNeed := List.mem_filter.mpr ⟨List.mem_of_getElem? (i := 671) (by decide +kernel), by decide +kernel⟩
theorem q_657 : (Jvm.Cond.methodLink "DroitLineLaw" (121 : Nat) ({ cls := "DroitLineModel", name := "payGaps", desc := "(I)I" } : Jvm.MethodName)) ∈ wNeed := List.mem_filter.mpr ⟨List.mem_of_getElem? (i := 672) (by decide +kernel), by decide +kernel⟩
theorem q_658 : (Jvm.Cond.instanceMethod ({ cls := "DroitLineModel", name := "payGaps", desc := "(I)I" } : Jvm.MethodName)) ∈ wNeed := List.mem_filter.mpr ⟨List.mem_of_getElem? (i := 673) (by decide +kernel), by decide +kernel⟩
theorem q_659 : (Jvm.Cond.selects "DroitLineModel" ({ cls := "DroitLineModel", name := "payGaps", desc := "(I)I" } : Jvm.MethodName) ({ cls := "DroitLineModel", name := "payGaps", desc := "(I)I" } : Jvm.MethodName)) ∈ wNeed := List.mem_filter.mpr ⟨List.mem_of_getElem? (i := 674) (by decide +kernel), by decide +kernel⟩
theorem q_660 : (Jvm.Cond.code ({ cls := "DroitLineModel", name := "payGaps", desc := "(I)I" } : Jvm.MethodName) prog_5_method_22_code (3 : Nat) (Option.some Jvm.ClassFile.FieldType.int)) ∈ wNeed := List.mem_filter.mpr ⟨List.mem_of_getElem? (i := 675) (by decide +kernel), by decide +kernel⟩
theorem q_661 : (Jvm.Cond.methodLink "DroitLineLaw" (124 : Nat) ({ cls := "DroitLineModel", name := "advance", desc := "(II)I" } : Jvm.MethodName)) ∈ wNeed := List.mem_filter.mpr ⟨List.mem_of_getElem? (i := 676) (by decide +kernel), by decide +kernel⟩
theorem q_662 : (Jvm.Cond.instanceMethod ({ cls := "DroitLineModel", name := "advance", desc := "(II)I" } : Jvm.MethodName)) ∈ wNeed := List.mem_filter.mpr ⟨List.mem_of_getElem? (i := 677) (by decide +kernel), by decide +kernel⟩
theorem q_663 : (Jvm.Cond.selects "DroitLineModel" ({ cls := "DroitLineModel", name := "advance", desc := "(II)I" } : Jvm.MethodName) ({ cls := "DroitLineModel", name := "advance", desc := "(II)I" } : Jvm.MethodName)) ∈ wNeed := List.mem_filter.mpr ⟨List.mem_of_getElem? (i := 678) (by decide +kernel), by decide +kernel⟩
theorem q_664 : (Jvm.Cond.code ({ cls := "DroitLineModel", name := "advance", desc := "(II)I" } : Jvm.MethodName) prog_5_method_23_code (3 : Nat) (Option.some Jvm.ClassFile.FieldType.int)) ∈ wNeed := List.mem_filter.mpr ⟨List.mem_of_getElem? (i := 679) (by decide +kernel), by decide +kernel⟩
theorem q_665 : (Jvm.Cond.methodLink "DroitLineLaw" (127 : Nat) ({ cls := "DroitLineModel", name := "settle", desc := "(I)I" } : Jvm.MethodName)) ∈ wNeed := List.mem_filter.mpr ⟨List.mem_of_getElem? (i := 680) (by decide +kernel), by decide +kernel⟩
theorem q_666 : (Jvm.Cond.instanceMethod ({ cls := "DroitLineModel", name := "settle", desc := "(I)I" } : Jvm.MethodName)) ∈ wNeed := List.mem_filter.mpr ⟨List.mem_of_getElem? (i := 681) (by decide +kernel), by decide +kernel⟩
theorem q_667 : (Jvm.Cond.selects "DroitLineModel" ({ cls := "DroitLineModel", name := "settle", desc := "(I)I" } : Jvm.MethodName) ({ cls := "DroitLineModel", name := "settle", desc := "(I)I" } : Jvm.MethodName)) ∈ wNeed := List.mem_filter.mpr ⟨List.mem_of_getElem? (i := 682) (by decide +kernel), by decide +kernel⟩
theorem q_668 : (Jvm.Cond.code ({ cls := "DroitLineModel", name := "settle", desc := "(I)I" } : Jvm.MethodName) prog_5_method_25_code (5 : Nat) (Option.some Jvm.ClassFile.FieldType.int)) ∈ wNeed := List.mem_filter.mpr ⟨List.mem_of_getElem? (i := 683) (by decide +kernel), by decide +kernel⟩
theorem q_669 : (Jvm.Cond.methodLink "DroitLineModel" (126 : Nat) ({ cls := "DroitLineModel", name := "interestFor", desc := "(I)I" } : Jvm.MethodName)) ∈ wNeed := List.mem_filter.mpr ⟨List.mem_of_getElem? (i := 684) (by decide +kernel), by decide +kernel⟩
theorem q_671 : (Jvm.Cond.instanceMethod ({ cls := "DroitLineModel", name := "interestFor", desc := "(I)I" } : Jvm.MethodName)) ∈ wNeed := List.mem_filter.mpr ⟨List.mem_of_getElem? (i := 686) (by decide +kernel), by decide +kernel⟩
theorem q_672 : (Jvm.Cond.code ({ cls := "DroitLineModel", name := "interestFor", desc := "(I)I" } : Jvm.MethodName) prog_5_method_24_code (2 : Nat) (Option.some Jvm.ClassFile.FieldType.int)) ∈ wNeed := List.mem_filter.mpr ⟨List.mem_of_getElem? (i := 687) (by decide +kernel), by decide +kernel⟩
theorem q_673 : (Jvm.Cond.constantLong "DroitLineModel" (124 : Nat) (100000 : Int64)) ∈ wNeed := List.mem_filter.mpr ⟨List.mem_of_getElem? (i := 688) (by decide +kernel), by decide +kernel⟩
theorem q_674 : (Jvm.Cond.methodLink "DroitLineModel" (129 : Nat) ({ cls := "DroitLineModel", name := "shareFor", desc := "(I)I" } : Jvm.MethodName)) ∈ wNeed := List.mem_filter.mpr ⟨List.mem_of_getElem? (i := 689) (by decide +kernel), by decide +kernel⟩
theorem q_676 : (Jvm.Cond.instanceMethod ({ cls := "DroitLineModel", name := "shareFor", desc := "(I)I" } : Jvm.MethodName)) ∈ wNeed := List.mem_filter.mpr ⟨List.mem_of_getElem? (i := 691) (by decide +kernel), by decide +kernel⟩
theorem q_677 : (Jvm.Cond.code ({ cls := "DroitLineModel", name := "shareFor", desc := "(I)I" } : Jvm.MethodName) prog_5_method_19_code (8 : Nat) (Option.some Jvm.ClassFile.FieldType.int)) ∈ wNeed := List.mem_filter.mpr ⟨List.mem_of_getElem? (i := 692) (by decide +kernel), by decide +kernel⟩
theorem q_678 : (Jvm.Cond.constant "DroitLineModel" (109 : Nat) (200000 : Int32)) ∈ wNeed := List.mem_filter.mpr ⟨List.mem_of_getElem? (i := 693) (by decide +kernel), by decide +kernel⟩
theorem q_679 : (Jvm.Cond.constant "DroitLineModel" (110 : Nat) (150000 : Int32)) ∈ wNeed := List.mem_filter.mpr ⟨List.mem_of_getElem? (i := 694) (by decide +kernel), by decide +kernel⟩
theorem q_680 : (Jvm.Cond.methodLink "DroitLineLaw" (130 : Nat) ({ cls := "DroitLineModel", name := "commission", desc := "(II)I" } : Jvm.MethodName)) ∈ wNeed := List.mem_filter.mpr ⟨List.mem_of_getElem? (i := 695) (by decide +kernel), by decide +kernel⟩
theorem q_681 : (Jvm.Cond.instanceMethod ({ cls := "DroitLineModel", name := "commission", desc := "(II)I" } : Jvm.MethodName)) ∈ wNeed := List.mem_filter.mpr ⟨List.mem_of_getElem? (i := 696) (by decide +kernel), by decide +kernel⟩
theorem q_682 : (Jvm.Cond.selects "DroitLineModel" ({ cls := "DroitLineModel", name := "commission", desc := "(II)I" } : Jvm.MethodName) ({ cls := "DroitLineModel", name := "commission", desc := "(II)I" } : Jvm.MethodName)) ∈ wNeed := List.mem_filter.mpr ⟨List.mem_of_getElem? (i := 697) (by decide +kernel), by decide +kernel⟩
theorem q_683 : (Jvm.Cond.code ({ cls := "DroitLineModel", name := "commission", desc := "(II)I" } : Jvm.MethodName) prog_5_method_26_code (4 : Nat) (Option.some Jvm.ClassFile.FieldType.int)) ∈ wNeed := List.mem_filter.mpr ⟨List.mem_of_getElem? (i := 698) (by decide +kernel), by decide +kernel⟩
theorem q_684 : (Jvm.Cond.methodLink "DroitLineLaw" (133 : Nat) ({ cls := "DroitLineModel", name := "rate", desc := "(I)I" } : Jvm.MethodName)) ∈ wNeed := List.mem_filter.mpr ⟨List.mem_of_getElem? (i := 699) (by decide +kernel), by decide +kernel⟩
theorem q_685 : (Jvm.Cond.instanceMethod ({ cls := "DroitLineModel", name := "rate", desc := "(I)I" } : Jvm.MethodName)) ∈ wNeed := List.mem_filter.mpr ⟨List.mem_of_getElem? (i := 700) (by decide +kernel), by decide +kernel⟩
theorem q_686 : (Jvm.Cond.selects "DroitLineModel" ({ cls := "DroitLineModel", name := "rate", desc := "(I)I" } : Jvm.MethodName) ({ cls := "DroitLineModel", name := "rate", desc := "(I)I" } : Jvm.MethodName)) ∈ wNeed := List.mem_filter.mpr ⟨List.mem_of_getElem? (i := 701) (by decide +kernel), by decide +kernel⟩
theorem q_687 : (Jvm.Cond.code ({ cls := "DroitLineModel", name := "rate", desc := "(I)I" } : Jvm.MethodName) prog_5_method_27_code (3 : Nat) (Option.some Jvm.ClassFile.FieldType.int)) ∈ wNeed := List.mem_filter.mpr ⟨List.mem_of_getElem? (i := 702) (by decide +kernel), by decide +kernel⟩
theorem q_688 : (Jvm.Cond.methodLink "DroitLineLaw" (136 : Nat) ({ cls := "DroitLineModel", name := "days", desc := "(I)I" } : Jvm.MethodName)) ∈ wNeed := List.mem_filter.mpr ⟨List.mem_of_getElem? (i := 703) (by decide +kernel), by decide +kernel⟩
theorem q_689 : (Jvm.Cond.instanceMethod ({ cls := "DroitLineModel", name := "days", desc := "(I)I" } : Jvm.MethodName)) ∈ wNeed := List.mem_filter.mpr ⟨List.mem_of_getElem? (i := 704) (by decide +kernel), by decide +kernel⟩
theorem q_690 : (Jvm.Cond.selects "DroitLineModel" ({ cls := "DroitLineModel", name := "days", desc := "(I)I" } : Jvm.MethodName) ({ cls := "DroitLineModel", name := "days", desc := "(I)I" } : Jvm.MethodName)) ∈ wNeed := List.mem_filter.mpr ⟨List.mem_of_getElem? (i := 705) (by decide +kernel), by decide +kernel⟩
theorem q_691 : (Jvm.Cond.code ({ cls := "DroitLineModel", name := "days", desc := "(I)I" } : Jvm.MethodName) prog_5_method_28_code (2 : Nat) (Option.some Jvm.ClassFile.FieldType.int)) ∈ wNeed := List.mem_filter.mpr ⟨List.mem_of_getElem? (i := 706) (by decide +kernel), by decide +kernel⟩
theorem q_692 : (Jvm.Cond.methodLink "DroitLineLaw" (139 : Nat) ({ cls := "DroitLineModel", name := "state", desc := "(I)I" } : Jvm.MethodName)) ∈ wNeed := List.mem_filter.mpr ⟨List.mem_of_getElem? (i := 707) (by decide +kernel), by decide +kernel⟩
theorem q_693 : (Jvm.Cond.instanceMethod ({ cls := "DroitLineModel", name := "state", desc := "(I)I" } : Jvm.MethodName)) ∈ wNeed := List.mem_filter.mpr ⟨List.mem_of_getElem? (i := 708) (by decide +kernel), by decide +kernel⟩
theorem q_694 : (Jvm.Cond.selects "DroitLineModel" ({ cls := "DroitLineModel", name := "state", desc := "(I)I" } : Jvm.MethodName) ({ cls := "DroitLineModel", name := "state", desc := "(I)I" } : Jvm.MethodName)) ∈ wNeed := List.mem_filter.mpr ⟨List.mem_of_getElem? (i := 709) (by decide +kernel), by decide +kernel⟩
theorem q_695 : (Jvm.Cond.code ({ cls := "DroitLineModel", name := "state", desc := "(I)I" } : Jvm.MethodName) prog_5_method_30_code (2 : Nat) (Option.some Jvm.ClassFile.FieldType.int)) ∈ wNeed := List.mem_filter.mpr ⟨List.mem_of_getElem? (i := 710) (by decide +kernel), by decide +kernel⟩
theorem q_696 : (Jvm.Cond.methodLink "DroitLineModel" (132 : Nat) ({ cls := "DroitLineModel", name := "asksFor", desc := "(I)Z" } : Jvm.MethodName)) ∈ wNeed := List.mem_filter.mpr ⟨List.mem_of_getElem? (i := 711) (by decide +kernel), by decide +kernel⟩
theorem q_698 : (Jvm.Cond.instanceMethod ({ cls := "DroitLineModel", name := "asksFor", desc := "(I)Z" } : Jvm.MethodName)) ∈ wNeed := List.mem_filter.mpr ⟨List.mem_of_getElem? (i := 713) (by decide +kernel), by decide +kernel⟩
theorem q_699 : (Jvm.Cond.code ({ cls := "DroitLineModel", name := "asksFor", desc := "(I)Z" } : Jvm.MethodName) prog_5_method_29_code (2 : Nat) (Option.some Jvm.ClassFile.FieldType.boolean)) ∈ wNeed := List.mem_filter.mpr ⟨List.mem_of_getElem? (i := 714) (by decide +kernel), by decide +kernel⟩
theorem q_700 : (Jvm.Cond.methodLink "DroitLineLaw" (142 : Nat) ({ cls := "DroitLineModel", name := "buyerOf", desc := "(I)I" } : Jvm.MethodName)) ∈ wNeed := List.mem_filter.mpr ⟨List.mem_of_getElem? (i := 715) (by decide +kernel), by decide +kernel⟩
theorem q_701 : (Jvm.Cond.instanceMethod ({ cls := "DroitLineModel", name := "buyerOf", desc := "(I)I" } : Jvm.MethodName)) ∈ wNeed := List.mem_filter.mpr ⟨List.mem_of_getElem? (i := 716) (by decide +kernel), by decide +kernel⟩
theorem q_702 : (Jvm.Cond.selects "DroitLineModel" ({ cls := "DroitLineModel", name := "buyerOf", desc := "(I)I" } : Jvm.MethodName) ({ cls := "DroitLineModel", name := "buyerOf", desc := "(I)I" } : Jvm.MethodName)) ∈ wNeed := List.mem_filter.mpr ⟨List.mem_of_getElem? (i := 717) (by decide +kernel), by decide +kernel⟩
theorem q_703 : (Jvm.Cond.code ({ cls := "DroitLineModel", name := "buyerOf", desc := "(I)I" } : Jvm.MethodName) prog_5_method_31_code (2 : Nat) (Option.some Jvm.ClassFile.FieldType.int)) ∈ wNeed := List.mem_filter.mpr ⟨List.mem_of_getElem? (i := 718) (by decide +kernel), by decide +kernel⟩
theorem q_704 : (Jvm.Cond.methodLink "DroitLineLaw" (145 : Nat) ({ cls := "DroitLineModel", name := "price", desc := "(I)I" } : Jvm.MethodName)) ∈ wNeed := List.mem_filter.mpr ⟨List.mem_of_getElem? (i := 719) (by decide +kernel), by decide +kernel⟩
theorem q_705 : (Jvm.Cond.instanceMethod ({ cls := "DroitLineModel", name := "price", desc := "(I)I" } : Jvm.MethodName)) ∈ wNeed := List.mem_filter.mpr ⟨List.mem_of_getElem? (i := 720) (by decide +kernel), by decide +kernel⟩
theorem q_706 : (Jvm.Cond.selects "DroitLineModel" ({ cls := "DroitLineModel", name := "price", desc := "(I)I" } : Jvm.MethodName) ({ cls := "DroitLineModel", name := "price", desc := "(I)I" } : Jvm.MethodName)) ∈ wNeed := List.mem_filter.mpr ⟨List.mem_of_getElem? (i := 721) (by decide +kernel), by decide +kernel⟩
theorem q_707 : (Jvm.Cond.code ({ cls := "DroitLineModel", name := "price", desc := "(I)I" } : Jvm.MethodName) prog_5_method_32_code (2 : Nat) (Option.some Jvm.ClassFile.FieldType.int)) ∈ wNeed := List.mem_filter.mpr ⟨List.mem_of_getElem? (i := 722) (by decide +kernel), by decide +kernel⟩
theorem q_708 : (Jvm.Cond.methodLink "DroitLineLaw" (148 : Nat) ({ cls := "DroitLineModel", name := "bids", desc := "(I)I" } : Jvm.MethodName)) ∈ wNeed := List.mem_filter.mpr ⟨List.mem_of_getElem? (i := 723) (by decide +kernel), by decide +kernel⟩
theorem q_709 : (Jvm.Cond.instanceMethod ({ cls := "DroitLineModel", name := "bids", desc := "(I)I" } : Jvm.MethodName)) ∈ wNeed := List.mem_filter.mpr ⟨List.mem_of_getElem? (i := 724) (by decide +kernel), by decide +kernel⟩
theorem q_710 : (Jvm.Cond.selects "DroitLineModel" ({ cls := "DroitLineModel", name := "bids", desc := "(I)I" } : Jvm.MethodName) ({ cls := "DroitLineModel", name := "bids", desc := "(I)I" } : Jvm.MethodName)) ∈ wNeed := List.mem_filter.mpr ⟨List.mem_of_getElem? (i := 725) (by decide +kernel), by decide +kernel⟩
theorem q_711 : (Jvm.Cond.code ({ cls := "DroitLineModel", name := "bids", desc := "(I)I" } : Jvm.MethodName) prog_5_method_33_code (2 : Nat) (Option.some Jvm.ClassFile.FieldType.int)) ∈ wNeed := List.mem_filter.mpr ⟨List.mem_of_getElem? (i := 726) (by decide +kernel), by decide +kernel⟩
theorem q_712 : (Jvm.Cond.methodLink "DroitLineLaw" (151 : Nat) ({ cls := "DroitLineModel", name := "fee", desc := "(I)I" } : Jvm.MethodName)) ∈ wNeed := List.mem_filter.mpr ⟨List.mem_of_getElem? (i := 727) (by decide +kernel), by decide +kernel⟩
theorem q_713 : (Jvm.Cond.instanceMethod ({ cls := "DroitLineModel", name := "fee", desc := "(I)I" } : Jvm.MethodName)) ∈ wNeed := List.mem_filter.mpr ⟨List.mem_of_getElem? (i := 728) (by decide +kernel), by decide +kernel⟩
theorem q_714 : (Jvm.Cond.selects "DroitLineModel" ({ cls := "DroitLineModel", name := "fee", desc := "(I)I" } : Jvm.MethodName) ({ cls := "DroitLineModel", name := "fee", desc := "(I)I" } : Jvm.MethodName)) ∈ wNeed := List.mem_filter.mpr ⟨List.mem_of_getElem? (i := 729) (by decide +kernel), by decide +kernel⟩
theorem q_715 : (Jvm.Cond.code ({ cls := "DroitLineModel", name := "fee", desc := "(I)I" } : Jvm.MethodName) prog_5_method_34_code (2 : Nat) (Option.some Jvm.ClassFile.FieldType.int)) ∈ wNeed := List.mem_filter.mpr ⟨List.mem_of_getElem? (i := 730) (by decide +kernel), by decide +kernel⟩
theorem q_716 : (Jvm.Cond.methodLink "DroitLineLaw" (154 : Nat) ({ cls := "DroitLineModel", name := "share", desc := "(I)I" } : Jvm.MethodName)) ∈ wNeed := List.mem_filter.mpr ⟨List.mem_of_getElem? (i := 731) (by decide +kernel), by decide +kernel⟩
theorem q_717 : (Jvm.Cond.instanceMethod ({ cls := "DroitLineModel", name := "share", desc := "(I)I" } : Jvm.MethodName)) ∈ wNeed := List.mem_filter.mpr ⟨List.mem_of_getElem? (i := 732) (by decide +kernel), by decide +kernel⟩
theorem q_718 : (Jvm.Cond.selects "DroitLineModel" ({ cls := "DroitLineModel", name := "share", desc := "(I)I" } : Jvm.MethodName) ({ cls := "DroitLineModel", name := "share", desc := "(I)I" } : Jvm.MethodName)) ∈ wNeed := List.mem_filter.mpr ⟨List.mem_of_getElem? (i := 733) (by decide +kernel), by decide +kernel⟩
theorem q_719 : (Jvm.Cond.code ({ cls := "DroitLineModel", name := "share", desc := "(I)I" } : Jvm.MethodName) prog_5_method_35_code (2 : Nat) (Option.some Jvm.ClassFile.FieldType.int)) ∈ wNeed := List.mem_filter.mpr ⟨List.mem_of_getElem? (i := 734) (by decide +kernel), by decide +kernel⟩
theorem q_720 : (Jvm.Cond.methodLink "DroitLineLaw" (157 : Nat) ({ cls := "DroitLineModel", name := "interest", desc := "(I)I" } : Jvm.MethodName)) ∈ wNeed := List.mem_filter.mpr ⟨List.mem_of_getElem? (i := 735) (by decide +kernel), by decide +kernel⟩
theorem q_721 : (Jvm.Cond.instanceMethod ({ cls := "DroitLineModel", name := "interest", desc := "(I)I" } : Jvm.MethodName)) ∈ wNeed := List.mem_filter.mpr ⟨List.mem_of_getElem? (i := 736) (by decide +kernel), by decide +kernel⟩
theorem q_722 : (Jvm.Cond.selects "DroitLineModel" ({ cls := "DroitLineModel", name := "interest", desc := "(I)I" } : Jvm.MethodName) ({ cls := "DroitLineModel", name := "interest", desc := "(I)I" } : Jvm.MethodName)) ∈ wNeed := List.mem_filter.mpr ⟨List.mem_of_getElem? (i := 737) (by decide +kernel), by decide +kernel⟩
theorem q_723 : (Jvm.Cond.code ({ cls := "DroitLineModel", name := "interest", desc := "(I)I" } : Jvm.MethodName) prog_5_method_36_code (2 : Nat) (Option.some Jvm.ClassFile.FieldType.int)) ∈ wNeed := List.mem_filter.mpr ⟨List.mem_of_getElem? (i := 738) (by decide +kernel), by decide +kernel⟩
theorem q_724 : (Jvm.Cond.methodLink "DroitLineLaw" (160 : Nat) ({ cls := "DroitLineModel", name := "owes", desc := "(I)I" } : Jvm.MethodName)) ∈ wNeed := List.mem_filter.mpr ⟨List.mem_of_getElem? (i := 739) (by decide +kernel), by decide +kernel⟩
theorem q_725 : (Jvm.Cond.instanceMethod ({ cls := "DroitLineModel", name := "owes", desc := "(I)I" } : Jvm.MethodName)) ∈ wNeed := List.mem_filter.mpr ⟨List.mem_of_getElem? (i := 740) (by decide +kernel), by decide +kernel⟩
theorem q_726 : (Jvm.Cond.selects "DroitLineModel" ({ cls := "DroitLineModel", name := "owes", desc := "(I)I" } : Jvm.MethodName) ({ cls := "DroitLineModel", name := "owes", desc := "(I)I" } : Jvm.MethodName)) ∈ wNeed := List.mem_filter.mpr ⟨List.mem_of_getElem? (i := 741) (by decide +kernel), by decide +kernel⟩
theorem q_727 : (Jvm.Cond.code ({ cls := "DroitLineModel", name := "owes", desc := "(I)I" } : Jvm.MethodName) prog_5_method_37_code (2 : Nat) (Option.some Jvm.ClassFile.FieldType.int)) ∈ wNeed := List.mem_filter.mpr ⟨List.mem_of_getElem? (i := 742) (by decide +kernel), by decide +kernel⟩
theorem q_728 : (Jvm.Cond.methodLink "DroitLineLaw" (165 : Nat) ({ cls := "DroitLineModel", name := "in", desc := "()J" } : Jvm.MethodName)) ∈ wNeed := List.mem_filter.mpr ⟨List.mem_of_getElem? (i := 743) (by decide +kernel), by decide +kernel⟩
theorem q_729 : (Jvm.Cond.instanceMethod ({ cls := "DroitLineModel", name := "in", desc := "()J" } : Jvm.MethodName)) ∈ wNeed := List.mem_filter.mpr ⟨List.mem_of_getElem? (i := 744) (by decide +kernel), by decide +kernel⟩
theorem q_730 : (Jvm.Cond.selects "DroitLineModel" ({ cls := "DroitLineModel", name := "in", desc := "()J" } : Jvm.MethodName) ({ cls := "DroitLineModel", name := "in", desc := "()J" } : Jvm.MethodName)) ∈ wNeed := List.mem_filter.mpr ⟨List.mem_of_getElem? (i := 745) (by decide +kernel), by decide +kernel⟩
theorem q_731 : (Jvm.Cond.code ({ cls := "DroitLineModel", name := "in", desc := "()J" } : Jvm.MethodName) prog_5_method_38_code (1 : Nat) (Option.some Jvm.ClassFile.FieldType.long)) ∈ wNeed := List.mem_filter.mpr ⟨List.mem_of_getElem? (i := 746) (by decide +kernel), by decide +kernel⟩
theorem q_732 : (Jvm.Cond.methodLink "DroitLineLaw" (169 : Nat) ({ cls := "DroitLineModel", name := "out", desc := "()J" } : Jvm.MethodName)) ∈ wNeed := List.mem_filter.mpr ⟨List.mem_of_getElem? (i := 747) (by decide +kernel), by decide +kernel⟩
theorem q_733 : (Jvm.Cond.instanceMethod ({ cls := "DroitLineModel", name := "out", desc := "()J" } : Jvm.MethodName)) ∈ wNeed := List.mem_filter.mpr ⟨List.mem_of_getElem? (i := 748) (by decide +kernel), by decide +kernel⟩
theorem q_734 : (Jvm.Cond.selects "DroitLineModel" ({ cls := "DroitLineModel", name := "out", desc := "()J" } : Jvm.MethodName) ({ cls := "DroitLineModel", name := "out", desc := "()J" } : Jvm.MethodName)) ∈ wNeed := List.mem_filter.mpr ⟨List.mem_of_getElem? (i := 749) (by decide +kernel), by decide +kernel⟩
theorem q_735 : (Jvm.Cond.code ({ cls := "DroitLineModel", name := "out", desc := "()J" } : Jvm.MethodName) prog_5_method_39_code (1 : Nat) (Option.some Jvm.ClassFile.FieldType.long)) ∈ wNeed := List.mem_filter.mpr ⟨List.mem_of_getElem? (i := 750) (by decide +kernel), by decide +kernel⟩
theorem q_736 : (Jvm.Cond.methodLink "DroitLineLaw" (173 : Nat) ({ cls := "DroitLineModel", name := "kept", desc := "()J" } : Jvm.MethodName)) ∈ wNeed := List.mem_filter.mpr ⟨List.mem_of_getElem? (i := 751) (by decide +kernel), by decide +kernel⟩
theorem q_737 : (Jvm.Cond.instanceMethod ({ cls := "DroitLineModel", name := "kept", desc := "()J" } : Jvm.MethodName)) ∈ wNeed := List.mem_filter.mpr ⟨List.mem_of_getElem? (i := 752) (by decide +kernel), by decide +kernel⟩
theorem q_738 : (Jvm.Cond.selects "DroitLineModel" ({ cls := "DroitLineModel", name := "kept", desc := "()J" } : Jvm.MethodName) ({ cls := "DroitLineModel", name := "kept", desc := "()J" } : Jvm.MethodName)) ∈ wNeed := List.mem_filter.mpr ⟨List.mem_of_getElem? (i := 753) (by decide +kernel), by decide +kernel⟩
theorem q_739 : (Jvm.Cond.code ({ cls := "DroitLineModel", name := "kept", desc := "()J" } : Jvm.MethodName) prog_5_method_40_code (1 : Nat) (Option.some Jvm.ClassFile.FieldType.long)) ∈ wNeed := List.mem_filter.mpr ⟨List.mem_of_getElem? (i := 754) (by decide +kernel), by decide +kernel⟩
theorem q_740 : (Jvm.Cond.methodLink "DroitLineLaw" (177 : Nat) ({ cls := "DroitLineModel", name := "held", desc := "()J" } : Jvm.MethodName)) ∈ wNeed := List.mem_filter.mpr ⟨List.mem_of_getElem? (i := 755) (by decide +kernel), by decide +kernel⟩
theorem q_741 : (Jvm.Cond.instanceMethod ({ cls := "DroitLineModel", name := "held", desc := "()J" } : Jvm.MethodName)) ∈ wNeed := List.mem_filter.mpr ⟨List.mem_of_getElem? (i := 756) (by decide +kernel), by decide +kernel⟩
theorem q_742 : (Jvm.Cond.selects "DroitLineModel" ({ cls := "DroitLineModel", name := "held", desc := "()J" } : Jvm.MethodName) ({ cls := "DroitLineModel", name := "held", desc := "()J" } : Jvm.MethodName)) ∈ wNeed := List.mem_filter.mpr ⟨List.mem_of_getElem? (i := 757) (by decide +kernel), by decide +kernel⟩
theorem q_743 : (Jvm.Cond.code ({ cls := "DroitLineModel", name := "held", desc := "()J" } : Jvm.MethodName) prog_5_method_41_code (1 : Nat) (Option.some Jvm.ClassFile.FieldType.long)) ∈ wNeed := List.mem_filter.mpr ⟨List.mem_of_getElem? (i := 758) (by decide +kernel), by decide +kernel⟩
theorem q_744 : (Jvm.Cond.methodLink "DroitLineLaw" (181 : Nat) ({ cls := "DroitLineModel", name := "heldByLots", desc := "()J" } : Jvm.MethodName)) ∈ wNeed := List.mem_filter.mpr ⟨List.mem_of_getElem? (i := 759) (by decide +kernel), by decide +kernel⟩
theorem q_745 : (Jvm.Cond.instanceMethod ({ cls := "DroitLineModel", name := "heldByLots", desc := "()J" } : Jvm.MethodName)) ∈ wNeed := List.mem_filter.mpr ⟨List.mem_of_getElem? (i := 760) (by decide +kernel), by decide +kernel⟩
theorem q_746 : (Jvm.Cond.selects "DroitLineModel" ({ cls := "DroitLineModel", name := "heldByLots", desc := "()J" } : Jvm.MethodName) ({ cls := "DroitLineModel", name := "heldByLots", desc := "()J" } : Jvm.MethodName)) ∈ wNeed := List.mem_filter.mpr ⟨List.mem_of_getElem? (i := 761) (by decide +kernel), by decide +kernel⟩
theorem q_747 : (Jvm.Cond.code ({ cls := "DroitLineModel", name := "heldByLots", desc := "()J" } : Jvm.MethodName) prog_5_method_42_code (4 : Nat) (Option.some Jvm.ClassFile.FieldType.long)) ∈ wNeed := List.mem_filter.mpr ⟨List.mem_of_getElem? (i := 762) (by decide +kernel), by decide +kernel⟩
theorem q_748 : (Jvm.Cond.arrayClass Jvm.ClassFile.FieldType.long) ∈ wNeed := List.mem_filter.mpr ⟨List.mem_of_getElem? (i := 763) (by decide +kernel), by decide +kernel⟩
theorem q_749 : (Jvm.Cond.sameMethod "java/lang/Throwable" "java/lang/Throwable" "fillInStackTrace" "(I)Ljava/lang/Throwable;") ∈ wNeed := List.mem_filter.mpr ⟨List.mem_of_getElem? (i := 764) (by decide +kernel), by decide +kernel⟩
theorem i_X : ∀ w ∈ u_ws "DroitLine" F_X 9, w ∈ wNeed := gi_c q_31 (gi_c q_33 (gi_c q_35 (gi_c q_37 (gi_c q_39 (gi_c q_41 (gi_c q_43 (gi_c q_45 (gi_c q_47 (fun _ h => absurd h List.not_mem_nil)))))))))
theorem i_L : ∀ w ∈ u_ws "DroitLine$Lot" F_L 13, w ∈ wNeed := gi_c q_250 (gi_c q_252 (gi_c q_254 (gi_c q_256 (gi_c q_258 (gi_c q_260 (gi_c q_262 (gi_c q_264 (gi_c q_266 (gi_c q_268 (gi_c q_270 (gi_c q_272 (gi_c q_274 (fun _ h => absurd h List.not_mem_nil)))))))))))))
theorem i_O : ∀ w ∈ u_ws "DroitLine$Offers" F_O 3, w ∈ wNeed := gi_c q_221 (gi_c q_223 (gi_c q_225 (fun _ h => absurd h List.not_mem_nil)))
theorem i_M : ∀ w ∈ u_ws "DroitLineModel" F_M 24, w ∈ wNeed := gi_c q_534 (gi_c q_536 (gi_c q_538 (gi_c q_540 (gi_c q_542 (gi_c q_544 (gi_c q_546 (gi_c q_548 (gi_c q_550 (gi_c q_552 (gi_c q_554 (gi_c q_556 (gi_c q_558 (gi_c q_560 (gi_c q_562 (gi_c q_564 (gi_c q_566 (gi_c q_568 (gi_c q_570 (gi_c q_572 (gi_c q_574 (gi_c q_576 (gi_c q_578 (gi_c q_580 (fun _ h => absurd h List.not_mem_nil))))))))))))))))))))))))
