section
-- ===== PART A: goes FIRST, ahead of the names: the tables' words, and 'selects' of the private methods out of them =====
/-- a private method of a class that the tables say can be made, by its rows of tables_1 -/
def lw_okq (q : MethodName × Nat) : Prop := (q.1.cls ≠ "java/lang/invoke/MethodHandle" ∧ q.1.cls ≠ "java/lang/invoke/VarHandle") ∧ Cond.instantiable q.1.cls q.2 ∈ tables_1 ∧ Cond.privateMethod q.1 ∈ tables_1 ∧ Cond.instanceMethod q.1 ∈ tables_1
theorem lw_p0 : lw_okq (⟨"java/lang/Throwable", "fillInStackTrace", "(I)Ljava/lang/Throwable;"⟩, 6) := ⟨⟨by decide +kernel, by decide +kernel⟩, List.mem_of_getElem? (i := 96) (by decide +kernel), List.mem_of_getElem? (i := 94) (by decide +kernel), List.mem_of_getElem? (i := 95) (by decide +kernel)⟩
theorem lw_p1 : lw_okq (⟨"DroitLine", "findLot", "(I)LDroitLine$Lot;"⟩, 9) := ⟨⟨by decide +kernel, by decide +kernel⟩, List.mem_of_getElem? (i := 12) (by decide +kernel), List.mem_of_getElem? (i := 289) (by decide +kernel), List.mem_of_getElem? (i := 290) (by decide +kernel)⟩
theorem lw_p2 : lw_okq (⟨"DroitLine", "closeGap", "(LDroitLine$Lot;)V"⟩, 9) := ⟨⟨by decide +kernel, by decide +kernel⟩, List.mem_of_getElem? (i := 12) (by decide +kernel), List.mem_of_getElem? (i := 357) (by decide +kernel), List.mem_of_getElem? (i := 358) (by decide +kernel)⟩
theorem lw_p3 : lw_okq (⟨"DroitLine", "addToDebt", "(II)V"⟩, 9) := ⟨⟨by decide +kernel, by decide +kernel⟩, List.mem_of_getElem? (i := 12) (by decide +kernel), List.mem_of_getElem? (i := 361) (by decide +kernel), List.mem_of_getElem? (i := 362) (by decide +kernel)⟩
theorem lw_p4 : lw_okq (⟨"DroitLine", "owedBy", "(I)I"⟩, 9) := ⟨⟨by decide +kernel, by decide +kernel⟩, List.mem_of_getElem? (i := 12) (by decide +kernel), List.mem_of_getElem? (i := 373) (by decide +kernel), List.mem_of_getElem? (i := 374) (by decide +kernel)⟩
theorem lw_p5 : lw_okq (⟨"DroitLine", "hundredthsOf", "(I)I"⟩, 9) := ⟨⟨by decide +kernel, by decide +kernel⟩, List.mem_of_getElem? (i := 12) (by decide +kernel), List.mem_of_getElem? (i := 387) (by decide +kernel), List.mem_of_getElem? (i := 388) (by decide +kernel)⟩
theorem lw_p6 : lw_okq (⟨"DroitLine", "interestOf", "(LDroitLine$Lot;)I"⟩, 9) := ⟨⟨by decide +kernel, by decide +kernel⟩, List.mem_of_getElem? (i := 12) (by decide +kernel), List.mem_of_getElem? (i := 398) (by decide +kernel), List.mem_of_getElem? (i := 399) (by decide +kernel)⟩
def lw_privs_1 : List (MethodName × Nat) := [(⟨"java/lang/Throwable", "fillInStackTrace", "(I)Ljava/lang/Throwable;"⟩, 6), (⟨"DroitLine", "findLot", "(I)LDroitLine$Lot;"⟩, 9), (⟨"DroitLine", "closeGap", "(LDroitLine$Lot;)V"⟩, 9), (⟨"DroitLine", "addToDebt", "(II)V"⟩, 9), (⟨"DroitLine", "owedBy", "(I)I"⟩, 9), (⟨"DroitLine", "hundredthsOf", "(I)I"⟩, 9), (⟨"DroitLine", "interestOf", "(LDroitLine$Lot;)I"⟩, 9)]
theorem lw_r1 : ∀ q ∈ lw_privs_1, lw_okq q := List.forall_mem_cons.mpr ⟨lw_p0, List.forall_mem_cons.mpr ⟨lw_p1, List.forall_mem_cons.mpr ⟨lw_p2, List.forall_mem_cons.mpr ⟨lw_p3, List.forall_mem_cons.mpr ⟨lw_p4, List.forall_mem_cons.mpr ⟨lw_p5, List.forall_mem_cons.mpr ⟨lw_p6, fun _ h => absurd h List.not_mem_nil⟩⟩⟩⟩⟩⟩⟩
def lw_privs : List (MethodName × Nat) := lw_privs_1
def lw_tbl : List Cond := k2_sels lw_privs ++ tables_1
theorem lw_privs_ok : ∀ q ∈ lw_privs, lw_okq q := lw_r1

/-! THE CLAIM OUT OF ONE WALK OF THE LAW'S BODY. Your part is whole_start (and what it stands on); all else here is the same for every law, but numbers. -/
def R_law : String := "DroitLineLaw"
def lw_P (b : Addr) (xs : List Int32) (args : Array Value) (s : State) : Prop := args = #[.ref b] ∧ s.IntsAt b xs ∧ xs.length ≤ 260 ∧ (Jvm.Cond.and given_1 narrow_1).before args s = true
def lw_Q (_ : Array Value) (s : State) (o : Outcome) (t : State) : Prop := o = .returned (some (.int 1)) ∧ Framed s o t [] 796740 6711247
def lw_Z (below : List Frame) (a : Array Value) (s : State) : State → Prop := fun t => ∃ o, t.status = .running ∧ Ended t below o ∧ lw_Q a s o t
/-- the law's own end, with 1 on the stack, nothing written that was there before, its room as the claim has it -/
theorem lw_ret {p : Program} {l : Launch} {e : Env} {s : State} {m : MethodId} {below : List Frame} {meth : Method} {c : Code} {b : Nat} (hx : p.tables.exec = Jvm.exec) (hb : c.code = code) (hr : meth.sig.returnType = ret) (hlocks : meth.locks = false) {pc : Nat} {H : Heap} {ls : Array Slot} (hdg : decode code pc = .ok (.ireturn, 1)) : W p l e room_1 s m #[Value.ref b] below meth c H [] 796740 6711247 (lw_Z below #[Value.ref b] s) (F0 m pc ls [.int 1]) := by
  intro T hT X
  obtain ⟨fs, hret, hrun, hended, hW, hframe⟩ := X.leave (v := some (.int 1)) (hlocks := hlocks) (fun h => by rw [hr] at h; cases h)
  have hmeth' : T.vm.method? m = some meth := X.method'
  refine ⟨T.setFrames fs, ?_, .returned (some (.int 1)), hrun, hended, rfl, ⟨_, rfl⟩, hW, hframe⟩
  jvm_step X.here [X.here.top, hx, hb, hdg, hmeth', hr, ret, narrow_b1]
  (try refine ⟨rfl, ?_⟩); (try refine ⟨rfl, ?_⟩)
  first | (intro acts; rw [hret _ acts rfl rfl rfl]) | rw [hret _ _ rfl rfl rfl]
  exact Steps.refl _
/-- what holds at the law's entry: the machine, the code, the tables' words (any of lw_tbl by 'hts w (by decide +kernel)'), the script of L ints xs at the cell b, what the Statement gives of the start (any of its parts by flat_of_before) -/
def lw_At (p : Program) (s : State) (m : MethodId) (meth : Method) (c : Code) (b L : Nat) (xs : Nat → Int32) : Prop :=
  p.tables.exec = Jvm.exec ∧ c.code = code ∧ meth.sig.returnType = ret ∧ c.maxLocals = 22 ∧ s.vm.findClass R_law = some m.cls ∧ (∀ w ∈ lw_tbl, w.before #[Value.ref b] s = true) ∧ va_X b L xs s s.heap ∧ b < s.heap.size ∧ meth.locks = false ∧ (Jvm.Cond.and given_1 narrow_1).before #[Value.ref b] s = true

def wNeed : List Cond := lw_tbl.filter goodWord
theorem wNeed_sub : ∀ w ∈ wNeed, w ∈ lw_tbl := fun _ h => (List.mem_filter.mp h).1
theorem gi {ws : List Cond} (h : ∀ w ∈ ws, w ∈ wNeed) : GoodIn wNeed ws := fun w hw => ⟨h w hw, good_of_word (List.mem_filter.mp (h w hw)).2⟩
theorem gi_c {w : Cond} {ws : List Cond} (h : w ∈ wNeed) (hs : ∀ w ∈ ws, w ∈ wNeed) : ∀ w' ∈ w :: ws, w' ∈ wNeed := fun _ h' => (List.mem_cons.mp h').elim (fun e => e ▸ h) (hs _)
theorem gV {own C : String} {idx n : Nat} {y : MethodName} {b : ByteArray} {r : Option FieldType} (h1 : Cond.methodLink own idx y ∈ wNeed) (h2 : Cond.instanceMethod y ∈ wNeed) (h3 : Cond.selects C y y ∈ wNeed) (h4 : Cond.initialized C ∈ wNeed) (h5 : Cond.code y b n r ∈ wNeed) : GoodIn wNeed (wsV own idx C y (Cond.code y b n r :: wNeed)) := gi (gi_c h1 (gi_c h2 (gi_c h3 (gi_c h4 (gi_c h5 (fun _ h => h))))))
theorem gS {own : String} {idx n : Nat} {y : MethodName} {b : ByteArray} {r : Option FieldType} (h1 : Cond.methodLink own idx y ∈ wNeed) (h2 : Cond.static y ∈ wNeed) (h4 : Cond.initialized own ∈ wNeed) (h5 : Cond.code y b n r ∈ wNeed) : GoodIn wNeed (wsS own idx y (Cond.code y b n r :: wNeed)) := gi (gi_c h1 (gi_c h2 (gi_c h4 (gi_c h5 (fun _ h => h)))))
theorem gI {n : Nat} {y : MethodName} {b : ByteArray} {r : Option FieldType} (h5 : Cond.code y b n r ∈ wNeed) : GoodIn wNeed (Cond.code y b n r :: wNeed) := gi (gi_c h5 (fun _ h => h))
theorem gW {own : String} {idx n : Nat} {y : MethodName} {b : ByteArray} {r : Option FieldType} {hh : List (Nat × Nat × Nat × Nat)} (h1 : Cond.methodLink own idx y ∈ wNeed) (h2 : Cond.static y ∈ wNeed) (h4 : Cond.initialized y.cls ∈ wNeed) (h5 : Cond.codeWith y b n r hh ∈ wNeed) : GoodIn wNeed (va_wsS own idx y (Cond.codeWith y b n r hh :: wNeed)) := gi (gi_c h1 (gi_c h2 (gi_c h4 (gi_c h5 (fun _ h => h)))))
def F_X : u_T := fun k => match k with
  | 0 => ("DroitLine", "house", "[LDroitLine$Lot;", true)
  | 1 => ("DroitLine", "commissions", "[I", true)
  | 2 => ("DroitLine", "owedForGaps", "[I", true)
  | 3 => ("DroitLine", "lotCount", "I", false)
  | 4 => ("DroitLine", "today", "I", false)
  | 5 => ("DroitLine", "dailyRate", "I", false)
  | 6 => ("DroitLine", "received", "J", false)
  | 7 => ("DroitLine", "paidOut", "J", false)
  | _ => ("DroitLine", "earned", "J", false)
def t_X : Nat → FieldType := fun k => match k with
  | 0 => .array (.object "DroitLine$Lot")
  | 1 => .array (.int)
  | 2 => .array (.int)
  | 3 => .int
  | 4 => .int
  | 5 => .int
  | 6 => .long
  | 7 => .long
  | _ => .long
theorem n_X : ∀ a, a < 9 → ∀ b, b < 9 → a ≠ b → (F_X a).2.1 ≠ (F_X b).2.1 := by decide +kernel
theorem t_X_ok : ∀ k, k < 9 → parseFieldDescriptor (F_X k).2.2.1 = some (t_X k) := by decide +kernel
def F_L : u_T := fun k => match k with
  | 0 => ("DroitLine$Lot", "seller", "I", true)
  | 1 => ("DroitLine$Lot", "artist", "I", true)
  | 2 => ("DroitLine$Lot", "offers", "LDroitLine$Offers;", true)
  | 3 => ("DroitLine$Lot", "reserve", "I", false)
  | 4 => ("DroitLine$Lot", "state", "I", false)
  | 5 => ("DroitLine$Lot", "winner", "I", false)
  | 6 => ("DroitLine$Lot", "hammerPrice", "I", false)
  | 7 => ("DroitLine$Lot", "saleYear", "I", false)
  | 8 => ("DroitLine$Lot", "gapBuyer", "I", false)
  | 9 => ("DroitLine$Lot", "gapPrice", "I", false)
  | 10 => ("DroitLine$Lot", "advanced", "I", false)
  | 11 => ("DroitLine$Lot", "advanceDay", "I", false)
  | _ => ("DroitLine$Lot", "interestAtSettling", "I", false)
def t_L : Nat → FieldType := fun k => match k with
  | 0 => .int
  | 1 => .int
  | 2 => .object "DroitLine$Offers"
  | 3 => .int
  | 4 => .int
  | 5 => .int
  | 6 => .int
  | 7 => .int
  | 8 => .int
  | 9 => .int
  | 10 => .int
  | 11 => .int
  | _ => .int
theorem n_L : ∀ a, a < 13 → ∀ b, b < 13 → a ≠ b → (F_L a).2.1 ≠ (F_L b).2.1 := by decide +kernel
theorem t_L_ok : ∀ k, k < 13 → parseFieldDescriptor (F_L k).2.2.1 = some (t_L k) := by decide +kernel
def F_O : u_T := fun k => match k with
  | 0 => ("DroitLine$Offers", "buyers", "[I", true)
  | 1 => ("DroitLine$Offers", "amounts", "[I", true)
  | _ => ("DroitLine$Offers", "count", "I", false)
def t_O : Nat → FieldType := fun k => match k with
  | 0 => .array (.int)
  | 1 => .array (.int)
  | _ => .int
theorem n_O : ∀ a, a < 3 → ∀ b, b < 3 → a ≠ b → (F_O a).2.1 ≠ (F_O b).2.1 := by decide +kernel
theorem t_O_ok : ∀ k, k < 3 → parseFieldDescriptor (F_O k).2.2.1 = some (t_O k) := by decide +kernel
abbrev classes : List vw_C := [("DroitLine", F_X, 9), ("DroitLine$Lot", F_L, 13), ("DroitLine$Offers", F_O, 3)]
abbrev bX_init : ByteArray := prog_1_method_1_code
abbrev yX_init : MethodName := { cls := "DroitLine", name := "<init>", desc := "()V" }
abbrev bX_lot : ByteArray := prog_1_method_2_code
abbrev yX_lot : MethodName := { cls := "DroitLine", name := "lot", desc := "(III)I" }
abbrev bX_bid : ByteArray := prog_1_method_3_code
abbrev yX_bid : MethodName := { cls := "DroitLine", name := "bid", desc := "(III)I" }
abbrev bX_hammer : ByteArray := prog_1_method_4_code
abbrev yX_hammer : MethodName := { cls := "DroitLine", name := "hammer", desc := "(I)I" }
abbrev bX_again : ByteArray := prog_1_method_5_code
abbrev yX_again : MethodName := { cls := "DroitLine", name := "again", desc := "(II)I" }
abbrev bX_lots : ByteArray := prog_1_method_6_code
abbrev yX_lots : MethodName := { cls := "DroitLine", name := "lots", desc := "()I" }
abbrev bX_callOf : ByteArray := prog_1_method_7_code
abbrev yX_callOf : MethodName := { cls := "DroitLine", name := "callOf", desc := "(I)I" }
abbrev bX_pay : ByteArray := prog_1_method_8_code
abbrev yX_pay : MethodName := { cls := "DroitLine", name := "pay", desc := "(I)I" }
abbrev bX_defaults : ByteArray := prog_1_method_9_code
abbrev yX_defaults : MethodName := { cls := "DroitLine", name := "defaults", desc := "(I)I" }
abbrev bX_payGaps : ByteArray := prog_1_method_10_code
abbrev yX_payGaps : MethodName := { cls := "DroitLine", name := "payGaps", desc := "(I)I" }
abbrev bX_advance : ByteArray := prog_1_method_11_code
abbrev yX_advance : MethodName := { cls := "DroitLine", name := "advance", desc := "(II)I" }
abbrev bX_settle : ByteArray := prog_1_method_12_code
abbrev yX_settle : MethodName := { cls := "DroitLine", name := "settle", desc := "(I)I" }
abbrev bX_commission : ByteArray := prog_1_method_13_code
abbrev yX_commission : MethodName := { cls := "DroitLine", name := "commission", desc := "(II)I" }
abbrev bX_rate : ByteArray := prog_1_method_14_code
abbrev yX_rate : MethodName := { cls := "DroitLine", name := "rate", desc := "(I)I" }
abbrev bX_days : ByteArray := prog_1_method_15_code
abbrev yX_days : MethodName := { cls := "DroitLine", name := "days", desc := "(I)I" }
abbrev bX_state : ByteArray := prog_1_method_16_code
abbrev yX_state : MethodName := { cls := "DroitLine", name := "state", desc := "(I)I" }
abbrev bX_buyerOf : ByteArray := prog_1_method_17_code
abbrev yX_buyerOf : MethodName := { cls := "DroitLine", name := "buyerOf", desc := "(I)I" }
abbrev bX_price : ByteArray := prog_1_method_18_code
abbrev yX_price : MethodName := { cls := "DroitLine", name := "price", desc := "(I)I" }
abbrev bX_bids : ByteArray := prog_1_method_19_code
abbrev yX_bids : MethodName := { cls := "DroitLine", name := "bids", desc := "(I)I" }
abbrev bX_fee : ByteArray := prog_1_method_20_code
abbrev yX_fee : MethodName := { cls := "DroitLine", name := "fee", desc := "(I)I" }
abbrev bX_share : ByteArray := prog_1_method_21_code
abbrev yX_share : MethodName := { cls := "DroitLine", name := "share", desc := "(I)I" }
abbrev bX_interest : ByteArray := prog_1_method_22_code
abbrev yX_interest : MethodName := { cls := "DroitLine", name := "interest", desc := "(I)I" }
abbrev bX_owes : ByteArray := prog_1_method_23_code
abbrev yX_owes : MethodName := { cls := "DroitLine", name := "owes", desc := "(I)I" }
abbrev bX_in : ByteArray := prog_1_method_24_code
abbrev yX_in : MethodName := { cls := "DroitLine", name := "in", desc := "()J" }
abbrev bX_out : ByteArray := prog_1_method_25_code
abbrev yX_out : MethodName := { cls := "DroitLine", name := "out", desc := "()J" }
abbrev bX_kept : ByteArray := prog_1_method_26_code
abbrev yX_kept : MethodName := { cls := "DroitLine", name := "kept", desc := "()J" }
abbrev bX_held : ByteArray := prog_1_method_27_code
abbrev yX_held : MethodName := { cls := "DroitLine", name := "held", desc := "()J" }
abbrev bX_heldByLots : ByteArray := prog_1_method_28_code
abbrev yX_heldByLots : MethodName := { cls := "DroitLine", name := "heldByLots", desc := "()J" }
abbrev bX_findLot : ByteArray := prog_1_method_29_code
abbrev yX_findLot : MethodName := { cls := "DroitLine", name := "findLot", desc := "(I)LDroitLine$Lot;" }
abbrev bX_checkSeller : ByteArray := prog_1_method_30_code
abbrev yX_checkSeller : MethodName := { cls := "DroitLine", name := "checkSeller", desc := "(I)V" }
abbrev bX_checkBuyer : ByteArray := prog_1_method_31_code
abbrev yX_checkBuyer : MethodName := { cls := "DroitLine", name := "checkBuyer", desc := "(I)V" }
abbrev bX_checkRange : ByteArray := prog_1_method_32_code
abbrev yX_checkRange : MethodName := { cls := "DroitLine", name := "checkRange", desc := "(III)V" }
abbrev bX_checkArtist : ByteArray := prog_1_method_33_code
abbrev yX_checkArtist : MethodName := { cls := "DroitLine", name := "checkArtist", desc := "(I)V" }
abbrev bX_checkState : ByteArray := prog_1_method_34_code
abbrev yX_checkState : MethodName := { cls := "DroitLine", name := "checkState", desc := "(LDroitLine$Lot;I)V" }
abbrev bX_stepOf : ByteArray := prog_1_method_35_code
abbrev yX_stepOf : MethodName := { cls := "DroitLine", name := "stepOf", desc := "(I)I" }
abbrev bX_calledAmount : ByteArray := prog_1_method_36_code
abbrev yX_calledAmount : MethodName := { cls := "DroitLine", name := "calledAmount", desc := "(I)I" }
abbrev bX_priceFor : ByteArray := prog_1_method_37_code
abbrev yX_priceFor : MethodName := { cls := "DroitLine", name := "priceFor", desc := "(III)I" }
abbrev bX_ofBand : ByteArray := prog_1_method_38_code
abbrev yX_ofBand : MethodName := { cls := "DroitLine", name := "ofBand", desc := "(IIII)I" }
abbrev bX_feeFor : ByteArray := prog_1_method_39_code
abbrev yX_feeFor : MethodName := { cls := "DroitLine", name := "feeFor", desc := "(I)I" }
abbrev bX_shareOf : ByteArray := prog_1_method_40_code
abbrev yX_shareOf : MethodName := { cls := "DroitLine", name := "shareOf", desc := "(LDroitLine$Lot;)I" }
abbrev bX_isTooLongDead : ByteArray := prog_1_method_41_code
abbrev yX_isTooLongDead : MethodName := { cls := "DroitLine", name := "isTooLongDead", desc := "(LDroitLine$Lot;)Z" }
abbrev bX_interestOf : ByteArray := prog_1_method_42_code
abbrev yX_interestOf : MethodName := { cls := "DroitLine", name := "interestOf", desc := "(LDroitLine$Lot;)I" }
abbrev bX_hundredthsOf : ByteArray := prog_1_method_43_code
abbrev yX_hundredthsOf : MethodName := { cls := "DroitLine", name := "hundredthsOf", desc := "(I)I" }
abbrev bX_closeGap : ByteArray := prog_1_method_44_code
abbrev yX_closeGap : MethodName := { cls := "DroitLine", name := "closeGap", desc := "(LDroitLine$Lot;)V" }
abbrev bX_owedBy : ByteArray := prog_1_method_45_code
abbrev yX_owedBy : MethodName := { cls := "DroitLine", name := "owedBy", desc := "(I)I" }
abbrev bX_addToDebt : ByteArray := prog_1_method_46_code
abbrev yX_addToDebt : MethodName := { cls := "DroitLine", name := "addToDebt", desc := "(II)V" }
abbrev bL_init : ByteArray := prog_2_method_1_code
abbrev yL_init : MethodName := { cls := "DroitLine$Lot", name := "<init>", desc := "(III)V" }
abbrev bL_open : ByteArray := prog_2_method_2_code
abbrev yL_open : MethodName := { cls := "DroitLine$Lot", name := "open", desc := "(I)V" }
abbrev bL_heldForIt : ByteArray := prog_2_method_3_code
abbrev yL_heldForIt : MethodName := { cls := "DroitLine$Lot", name := "heldForIt", desc := "()I" }
abbrev bO_init : ByteArray := prog_3_method_1_code
abbrev yO_init : MethodName := { cls := "DroitLine$Offers", name := "<init>", desc := "()V" }
abbrev bO_leave : ByteArray := prog_3_method_2_code
abbrev yO_leave : MethodName := { cls := "DroitLine$Offers", name := "leave", desc := "(II)V" }
abbrev bO_buyerAt : ByteArray := prog_3_method_3_code
abbrev yO_buyerAt : MethodName := { cls := "DroitLine$Offers", name := "buyerAt", desc := "(I)I" }
abbrev bO_amountAt : ByteArray := prog_3_method_4_code
abbrev yO_amountAt : MethodName := { cls := "DroitLine$Offers", name := "amountAt", desc := "(I)I" }
abbrev bO_placeOfBest : ByteArray := prog_3_method_5_code
abbrev yO_placeOfBest : MethodName := { cls := "DroitLine$Offers", name := "placeOfBest", desc := "()I" }
abbrev bO_highestBeside : ByteArray := prog_3_method_6_code
abbrev yO_highestBeside : MethodName := { cls := "DroitLine$Offers", name := "highestBeside", desc := "(I)I" }
abbrev bW_call : ByteArray := method_2_code
abbrev yW_call : MethodName := { cls := "DroitLineLaw", name := "call", desc := "(I)I" }
abbrev bW_next : ByteArray := method_3_code
abbrev yW_next : MethodName := { cls := "DroitLineLaw", name := "next", desc := "(I)I" }
abbrev bW_hundredths : ByteArray := method_4_code
abbrev yW_hundredths : MethodName := { cls := "DroitLineLaw", name := "hundredths", desc := "(IIII)I" }
abbrev bW_fee : ByteArray := method_5_code
abbrev yW_fee : MethodName := { cls := "DroitLineLaw", name := "fee", desc := "(I)I" }
abbrev bW_share : ByteArray := method_6_code
abbrev yW_share : MethodName := { cls := "DroitLineLaw", name := "share", desc := "([II)I" }
abbrev bW_interest : ByteArray := method_7_code
abbrev yW_interest : MethodName := { cls := "DroitLineLaw", name := "interest", desc := "([I[I[II)I" }
abbrev bW_falls : ByteArray := method_8_code
abbrev yW_falls : MethodName := { cls := "DroitLineLaw", name := "falls", desc := "([I[I[I[II)I" }
abbrev bW_clears : ByteArray := method_9_code
abbrev yW_clears : MethodName := { cls := "DroitLineLaw", name := "clears", desc := "([II)I" }
abbrev bW_does : ByteArray := method_10_code
abbrev yW_does : MethodName := { cls := "DroitLineLaw", name := "does", desc := "(LDroitLine;IIII)I" }
abbrev bW_isHouse : ByteArray := method_11_code
abbrev yW_isHouse : MethodName := { cls := "DroitLineLaw", name := "isHouse", desc := "(LDroitLine;[I[I[I[I[II)Z" }
abbrev bW_law : ByteArray := code
theorem q_p1 : Cond.selects "DroitLine" ({ cls := "DroitLine", name := "findLot", desc := "(I)LDroitLine$Lot;" } : MethodName) ({ cls := "DroitLine", name := "findLot", desc := "(I)LDroitLine$Lot;" } : MethodName) ∈ wNeed := List.mem_filter.mpr ⟨List.mem_of_getElem? (i := 1) (by decide +kernel), by decide +kernel⟩
theorem q_p2 : Cond.selects "DroitLine" ({ cls := "DroitLine", name := "closeGap", desc := "(LDroitLine$Lot;)V" } : MethodName) ({ cls := "DroitLine", name := "closeGap", desc := "(LDroitLine$Lot;)V" } : MethodName) ∈ wNeed := List.mem_filter.mpr ⟨List.mem_of_getElem? (i := 2) (by decide +kernel), by decide +kernel⟩
theorem q_p3 : Cond.selects "DroitLine" ({ cls := "DroitLine", name := "addToDebt", desc := "(II)V" } : MethodName) ({ cls := "DroitLine", name := "addToDebt", desc := "(II)V" } : MethodName) ∈ wNeed := List.mem_filter.mpr ⟨List.mem_of_getElem? (i := 3) (by decide +kernel), by decide +kernel⟩
theorem q_p4 : Cond.selects "DroitLine" ({ cls := "DroitLine", name := "owedBy", desc := "(I)I" } : MethodName) ({ cls := "DroitLine", name := "owedBy", desc := "(I)I" } : MethodName) ∈ wNeed := List.mem_filter.mpr ⟨List.mem_of_getElem? (i := 4) (by decide +kernel), by decide +kernel⟩
theorem q_p5 : Cond.selects "DroitLine" ({ cls := "DroitLine", name := "hundredthsOf", desc := "(I)I" } : MethodName) ({ cls := "DroitLine", name := "hundredthsOf", desc := "(I)I" } : MethodName) ∈ wNeed := List.mem_filter.mpr ⟨List.mem_of_getElem? (i := 5) (by decide +kernel), by decide +kernel⟩
theorem q_p6 : Cond.selects "DroitLine" ({ cls := "DroitLine", name := "interestOf", desc := "(LDroitLine$Lot;)I" } : MethodName) ({ cls := "DroitLine", name := "interestOf", desc := "(LDroitLine$Lot;)I" } : MethodName) ∈ wNeed := List.mem_filter.mpr ⟨List.mem_of_getElem? (i := 6) (by decide +kernel), by decide +kernel⟩
theorem q_0 : (Jvm.Cond.initialized "DroitLineLaw") ∈ wNeed := List.mem_filter.mpr ⟨List.mem_of_getElem? (i := 7) (by decide +kernel), by decide +kernel⟩
theorem q_1 : (Jvm.Cond.initialized "DroitLine") ∈ wNeed := List.mem_filter.mpr ⟨List.mem_of_getElem? (i := 8) (by decide +kernel), by decide +kernel⟩
theorem q_2 : (Jvm.Cond.initialized "java/lang/Throwable") ∈ wNeed := List.mem_filter.mpr ⟨List.mem_of_getElem? (i := 9) (by decide +kernel), by decide +kernel⟩
theorem q_3 : (Jvm.Cond.initialized "java/lang/Exception") ∈ wNeed := List.mem_filter.mpr ⟨List.mem_of_getElem? (i := 10) (by decide +kernel), by decide +kernel⟩
theorem q_4 : (Jvm.Cond.initialized "java/lang/RuntimeException") ∈ wNeed := List.mem_filter.mpr ⟨List.mem_of_getElem? (i := 11) (by decide +kernel), by decide +kernel⟩
theorem q_5 : (Jvm.Cond.initialized "java/lang/IndexOutOfBoundsException") ∈ wNeed := List.mem_filter.mpr ⟨List.mem_of_getElem? (i := 12) (by decide +kernel), by decide +kernel⟩
theorem q_6 : (Jvm.Cond.initialized "java/lang/Math") ∈ wNeed := List.mem_filter.mpr ⟨List.mem_of_getElem? (i := 13) (by decide +kernel), by decide +kernel⟩
theorem q_7 : (Jvm.Cond.initialized "java/lang/IllegalArgumentException") ∈ wNeed := List.mem_filter.mpr ⟨List.mem_of_getElem? (i := 14) (by decide +kernel), by decide +kernel⟩
theorem q_8 : (Jvm.Cond.initialized "java/lang/IllegalStateException") ∈ wNeed := List.mem_filter.mpr ⟨List.mem_of_getElem? (i := 15) (by decide +kernel), by decide +kernel⟩
theorem q_9 : (Jvm.Cond.initialized "DroitLine$Lot") ∈ wNeed := List.mem_filter.mpr ⟨List.mem_of_getElem? (i := 16) (by decide +kernel), by decide +kernel⟩
theorem q_10 : (Jvm.Cond.initialized "DroitLine$Offers") ∈ wNeed := List.mem_filter.mpr ⟨List.mem_of_getElem? (i := 17) (by decide +kernel), by decide +kernel⟩
theorem q_11 : (Jvm.Cond.classLink "DroitLineLaw" (26 : Nat) "DroitLine") ∈ wNeed := List.mem_filter.mpr ⟨List.mem_of_getElem? (i := 18) (by decide +kernel), by decide +kernel⟩
theorem q_12 : (Jvm.Cond.instantiable "DroitLine" (9 : Nat)) ∈ wNeed := List.mem_filter.mpr ⟨List.mem_of_getElem? (i := 19) (by decide +kernel), by decide +kernel⟩
theorem q_13 : (Jvm.Cond.methodLink "DroitLineLaw" (123 : Nat) ({ cls := "DroitLine", name := "<init>", desc := "()V" } : Jvm.MethodName)) ∈ wNeed := List.mem_filter.mpr ⟨List.mem_of_getElem? (i := 20) (by decide +kernel), by decide +kernel⟩
theorem q_14 : (Jvm.Cond.instanceMethod ({ cls := "DroitLine", name := "<init>", desc := "()V" } : Jvm.MethodName)) ∈ wNeed := List.mem_filter.mpr ⟨List.mem_of_getElem? (i := 21) (by decide +kernel), by decide +kernel⟩
theorem q_15 : (Jvm.Cond.code ({ cls := "DroitLine", name := "<init>", desc := "()V" } : Jvm.MethodName) prog_1_method_1_code (2 : Nat) (Option.none : Option Jvm.ClassFile.FieldType)) ∈ wNeed := List.mem_filter.mpr ⟨List.mem_of_getElem? (i := 22) (by decide +kernel), by decide +kernel⟩
theorem q_16 : (Jvm.Cond.methodLink "DroitLine" (1 : Nat) ({ cls := "java/lang/Object", name := "<init>", desc := "()V" } : Jvm.MethodName)) ∈ wNeed := List.mem_filter.mpr ⟨List.mem_of_getElem? (i := 23) (by decide +kernel), by decide +kernel⟩
theorem q_17 : (Jvm.Cond.instanceMethod ({ cls := "java/lang/Object", name := "<init>", desc := "()V" } : Jvm.MethodName)) ∈ wNeed := List.mem_filter.mpr ⟨List.mem_of_getElem? (i := 24) (by decide +kernel), by decide +kernel⟩
theorem q_18 : (Jvm.Cond.code ({ cls := "java/lang/Object", name := "<init>", desc := "()V" } : Jvm.MethodName) object_method_1_code (1 : Nat) (Option.none : Option Jvm.ClassFile.FieldType)) ∈ wNeed := List.mem_filter.mpr ⟨List.mem_of_getElem? (i := 25) (by decide +kernel), by decide +kernel⟩
theorem q_19 : (Jvm.Cond.classLink "DroitLine" (9 : Nat) "DroitLine$Lot") ∈ wNeed := List.mem_filter.mpr ⟨List.mem_of_getElem? (i := 26) (by decide +kernel), by decide +kernel⟩
theorem q_21 : (Jvm.Cond.fieldLink "DroitLine" (11 : Nat) "DroitLine" "house" "[LDroitLine$Lot;") ∈ wNeed := List.mem_filter.mpr ⟨List.mem_of_getElem? (i := 28) (by decide +kernel), by decide +kernel⟩
theorem q_22 : (Jvm.Cond.fieldLink "DroitLine" (15 : Nat) "DroitLine" "commissions" "[I") ∈ wNeed := List.mem_filter.mpr ⟨List.mem_of_getElem? (i := 29) (by decide +kernel), by decide +kernel⟩
theorem q_23 : (Jvm.Cond.fieldLink "DroitLine" (19 : Nat) "DroitLine" "owedForGaps" "[I") ∈ wNeed := List.mem_filter.mpr ⟨List.mem_of_getElem? (i := 30) (by decide +kernel), by decide +kernel⟩
theorem q_24 : (Jvm.Cond.fieldLink "DroitLine" (38 : Nat) "DroitLine" "lotCount" "I") ∈ wNeed := List.mem_filter.mpr ⟨List.mem_of_getElem? (i := 31) (by decide +kernel), by decide +kernel⟩
theorem q_25 : (Jvm.Cond.fieldLink "DroitLine" (104 : Nat) "DroitLine" "today" "I") ∈ wNeed := List.mem_filter.mpr ⟨List.mem_of_getElem? (i := 32) (by decide +kernel), by decide +kernel⟩
theorem q_26 : (Jvm.Cond.fieldLink "DroitLine" (22 : Nat) "DroitLine" "dailyRate" "I") ∈ wNeed := List.mem_filter.mpr ⟨List.mem_of_getElem? (i := 33) (by decide +kernel), by decide +kernel⟩
theorem q_27 : (Jvm.Cond.fieldLink "DroitLine" (119 : Nat) "DroitLine" "received" "J") ∈ wNeed := List.mem_filter.mpr ⟨List.mem_of_getElem? (i := 34) (by decide +kernel), by decide +kernel⟩
theorem q_28 : (Jvm.Cond.fieldLink "DroitLine" (152 : Nat) "DroitLine" "paidOut" "J") ∈ wNeed := List.mem_filter.mpr ⟨List.mem_of_getElem? (i := 35) (by decide +kernel), by decide +kernel⟩
theorem q_29 : (Jvm.Cond.fieldLink "DroitLine" (123 : Nat) "DroitLine" "earned" "J") ∈ wNeed := List.mem_filter.mpr ⟨List.mem_of_getElem? (i := 36) (by decide +kernel), by decide +kernel⟩
theorem q_30 : (Jvm.Cond.laysFinal "DroitLine" "DroitLine" "house" "[LDroitLine$Lot;") ∈ wNeed := List.mem_filter.mpr ⟨List.mem_of_getElem? (i := 37) (by decide +kernel), by decide +kernel⟩
theorem q_32 : (Jvm.Cond.laysFinal "DroitLine" "DroitLine" "commissions" "[I") ∈ wNeed := List.mem_filter.mpr ⟨List.mem_of_getElem? (i := 39) (by decide +kernel), by decide +kernel⟩
theorem q_34 : (Jvm.Cond.laysFinal "DroitLine" "DroitLine" "owedForGaps" "[I") ∈ wNeed := List.mem_filter.mpr ⟨List.mem_of_getElem? (i := 41) (by decide +kernel), by decide +kernel⟩
theorem q_36 : (Jvm.Cond.lays "DroitLine" "DroitLine" "lotCount" "I") ∈ wNeed := List.mem_filter.mpr ⟨List.mem_of_getElem? (i := 43) (by decide +kernel), by decide +kernel⟩
theorem q_38 : (Jvm.Cond.lays "DroitLine" "DroitLine" "today" "I") ∈ wNeed := List.mem_filter.mpr ⟨List.mem_of_getElem? (i := 45) (by decide +kernel), by decide +kernel⟩
theorem q_40 : (Jvm.Cond.lays "DroitLine" "DroitLine" "dailyRate" "I") ∈ wNeed := List.mem_filter.mpr ⟨List.mem_of_getElem? (i := 47) (by decide +kernel), by decide +kernel⟩
theorem q_42 : (Jvm.Cond.lays "DroitLine" "DroitLine" "received" "J") ∈ wNeed := List.mem_filter.mpr ⟨List.mem_of_getElem? (i := 49) (by decide +kernel), by decide +kernel⟩
theorem q_44 : (Jvm.Cond.lays "DroitLine" "DroitLine" "paidOut" "J") ∈ wNeed := List.mem_filter.mpr ⟨List.mem_of_getElem? (i := 51) (by decide +kernel), by decide +kernel⟩
theorem q_46 : (Jvm.Cond.lays "DroitLine" "DroitLine" "earned" "J") ∈ wNeed := List.mem_filter.mpr ⟨List.mem_of_getElem? (i := 53) (by decide +kernel), by decide +kernel⟩
theorem q_48 : (Jvm.Cond.superclass "DroitLine" "java/lang/Object") ∈ wNeed := List.mem_filter.mpr ⟨List.mem_of_getElem? (i := 55) (by decide +kernel), by decide +kernel⟩
theorem q_49 : (Jvm.Cond.arrayClass Jvm.ClassFile.FieldType.int) ∈ wNeed := List.mem_filter.mpr ⟨List.mem_of_getElem? (i := 56) (by decide +kernel), by decide +kernel⟩
theorem q_50 : (Jvm.Cond.methodLink "DroitLineLaw" (142 : Nat) ({ cls := "DroitLine", name := "commission", desc := "(II)I" } : Jvm.MethodName)) ∈ wNeed := List.mem_filter.mpr ⟨List.mem_of_getElem? (i := 57) (by decide +kernel), by decide +kernel⟩
theorem q_51 : (Jvm.Cond.instanceMethod ({ cls := "DroitLine", name := "commission", desc := "(II)I" } : Jvm.MethodName)) ∈ wNeed := List.mem_filter.mpr ⟨List.mem_of_getElem? (i := 58) (by decide +kernel), by decide +kernel⟩
theorem q_52 : (Jvm.Cond.selects "DroitLine" ({ cls := "DroitLine", name := "commission", desc := "(II)I" } : Jvm.MethodName) ({ cls := "DroitLine", name := "commission", desc := "(II)I" } : Jvm.MethodName)) ∈ wNeed := List.mem_filter.mpr ⟨List.mem_of_getElem? (i := 59) (by decide +kernel), by decide +kernel⟩
theorem q_53 : (Jvm.Cond.code ({ cls := "DroitLine", name := "commission", desc := "(II)I" } : Jvm.MethodName) prog_1_method_13_code (4 : Nat) (Option.some Jvm.ClassFile.FieldType.int)) ∈ wNeed := List.mem_filter.mpr ⟨List.mem_of_getElem? (i := 60) (by decide +kernel), by decide +kernel⟩
theorem q_54 : (Jvm.Cond.methodLink "DroitLine" (26 : Nat) ({ cls := "DroitLine", name := "checkSeller", desc := "(I)V" } : Jvm.MethodName)) ∈ wNeed := List.mem_filter.mpr ⟨List.mem_of_getElem? (i := 61) (by decide +kernel), by decide +kernel⟩
theorem q_55 : (Jvm.Cond.static ({ cls := "DroitLine", name := "checkSeller", desc := "(I)V" } : Jvm.MethodName)) ∈ wNeed := List.mem_filter.mpr ⟨List.mem_of_getElem? (i := 62) (by decide +kernel), by decide +kernel⟩
theorem q_56 : (Jvm.Cond.code ({ cls := "DroitLine", name := "checkSeller", desc := "(I)V" } : Jvm.MethodName) prog_1_method_30_code (1 : Nat) (Option.none : Option Jvm.ClassFile.FieldType)) ∈ wNeed := List.mem_filter.mpr ⟨List.mem_of_getElem? (i := 63) (by decide +kernel), by decide +kernel⟩
theorem q_57 : (Jvm.Cond.classLink "DroitLine" (176 : Nat) "java/lang/IndexOutOfBoundsException") ∈ wNeed := List.mem_filter.mpr ⟨List.mem_of_getElem? (i := 64) (by decide +kernel), by decide +kernel⟩
theorem q_58 : (Jvm.Cond.instantiable "java/lang/IndexOutOfBoundsException" (6 : Nat)) ∈ wNeed := List.mem_filter.mpr ⟨List.mem_of_getElem? (i := 65) (by decide +kernel), by decide +kernel⟩
theorem q_66 : (Jvm.Cond.selects "java/lang/IndexOutOfBoundsException" ({ cls := "java/lang/Throwable", name := "fillInStackTrace", desc := "(I)Ljava/lang/Throwable;" } : Jvm.MethodName) ({ cls := "java/lang/Throwable", name := "fillInStackTrace", desc := "(I)Ljava/lang/Throwable;" } : Jvm.MethodName)) ∈ wNeed := List.mem_filter.mpr ⟨List.mem_of_getElem? (i := 73) (by decide +kernel), by decide +kernel⟩
theorem q_67 : (Jvm.Cond.selects "java/lang/IndexOutOfBoundsException" ({ cls := "java/lang/Throwable", name := "fillInStackTrace", desc := "()Ljava/lang/Throwable;" } : Jvm.MethodName) ({ cls := "java/lang/Throwable", name := "fillInStackTrace", desc := "()Ljava/lang/Throwable;" } : Jvm.MethodName)) ∈ wNeed := List.mem_filter.mpr ⟨List.mem_of_getElem? (i := 74) (by decide +kernel), by decide +kernel⟩
theorem q_68 : (Jvm.Cond.lays "java/lang/IndexOutOfBoundsException" "java/lang/Throwable" "cause" "Ljava/lang/Throwable;") ∈ wNeed := List.mem_filter.mpr ⟨List.mem_of_getElem? (i := 75) (by decide +kernel), by decide +kernel⟩
theorem q_69 : (Jvm.Cond.lays "java/lang/Throwable" "java/lang/Throwable" "cause" "Ljava/lang/Throwable;") ∈ wNeed := List.mem_filter.mpr ⟨List.mem_of_getElem? (i := 76) (by decide +kernel), by decide +kernel⟩
theorem q_70 : (Jvm.Cond.lays "java/lang/IndexOutOfBoundsException" "java/lang/Throwable" "stackTrace" "[Ljava/lang/StackTraceElement;") ∈ wNeed := List.mem_filter.mpr ⟨List.mem_of_getElem? (i := 77) (by decide +kernel), by decide +kernel⟩
theorem q_71 : (Jvm.Cond.lays "java/lang/Throwable" "java/lang/Throwable" "stackTrace" "[Ljava/lang/StackTraceElement;") ∈ wNeed := List.mem_filter.mpr ⟨List.mem_of_getElem? (i := 78) (by decide +kernel), by decide +kernel⟩
theorem q_72 : (Jvm.Cond.lays "java/lang/IndexOutOfBoundsException" "java/lang/Throwable" "suppressedExceptions" "Ljava/util/List;") ∈ wNeed := List.mem_filter.mpr ⟨List.mem_of_getElem? (i := 79) (by decide +kernel), by decide +kernel⟩
theorem q_73 : (Jvm.Cond.lays "java/lang/Throwable" "java/lang/Throwable" "suppressedExceptions" "Ljava/util/List;") ∈ wNeed := List.mem_filter.mpr ⟨List.mem_of_getElem? (i := 80) (by decide +kernel), by decide +kernel⟩
theorem q_74 : (Jvm.Cond.lays "java/lang/IndexOutOfBoundsException" "java/lang/Throwable" "detailMessage" "Ljava/lang/String;") ∈ wNeed := List.mem_filter.mpr ⟨List.mem_of_getElem? (i := 81) (by decide +kernel), by decide +kernel⟩
theorem q_75 : (Jvm.Cond.lays "java/lang/Throwable" "java/lang/Throwable" "detailMessage" "Ljava/lang/String;") ∈ wNeed := List.mem_filter.mpr ⟨List.mem_of_getElem? (i := 82) (by decide +kernel), by decide +kernel⟩
theorem q_76 : (Jvm.Cond.lays "java/lang/IndexOutOfBoundsException" "java/lang/Throwable" "backtrace" "Ljava/lang/Object;") ∈ wNeed := List.mem_filter.mpr ⟨List.mem_of_getElem? (i := 83) (by decide +kernel), by decide +kernel⟩
theorem q_77 : (Jvm.Cond.lays "java/lang/Throwable" "java/lang/Throwable" "backtrace" "Ljava/lang/Object;") ∈ wNeed := List.mem_filter.mpr ⟨List.mem_of_getElem? (i := 84) (by decide +kernel), by decide +kernel⟩
theorem q_78 : (Jvm.Cond.fieldLink "java/lang/Throwable" (198 : Nat) "java/lang/Throwable" "backtrace" "Ljava/lang/Object;") ∈ wNeed := List.mem_filter.mpr ⟨List.mem_of_getElem? (i := 85) (by decide +kernel), by decide +kernel⟩
theorem q_79 : (Jvm.Cond.superclass "java/lang/Throwable" "java/lang/Object") ∈ wNeed := List.mem_filter.mpr ⟨List.mem_of_getElem? (i := 86) (by decide +kernel), by decide +kernel⟩
theorem q_80 : (Jvm.Cond.instanceMethod ({ cls := "java/lang/Throwable", name := "<init>", desc := "()V" } : Jvm.MethodName)) ∈ wNeed := List.mem_filter.mpr ⟨List.mem_of_getElem? (i := 87) (by decide +kernel), by decide +kernel⟩
theorem q_81 : (Jvm.Cond.code ({ cls := "java/lang/Throwable", name := "<init>", desc := "()V" } : Jvm.MethodName) prog_13_method_1_code (1 : Nat) (Option.none : Option Jvm.ClassFile.FieldType)) ∈ wNeed := List.mem_filter.mpr ⟨List.mem_of_getElem? (i := 88) (by decide +kernel), by decide +kernel⟩
theorem q_82 : (Jvm.Cond.methodLink "java/lang/Throwable" (1 : Nat) ({ cls := "java/lang/Object", name := "<init>", desc := "()V" } : Jvm.MethodName)) ∈ wNeed := List.mem_filter.mpr ⟨List.mem_of_getElem? (i := 89) (by decide +kernel), by decide +kernel⟩
theorem q_83 : (Jvm.Cond.fieldLink "java/lang/Throwable" (13 : Nat) "java/lang/Throwable" "UNASSIGNED_STACK" "[Ljava/lang/StackTraceElement;") ∈ wNeed := List.mem_filter.mpr ⟨List.mem_of_getElem? (i := 90) (by decide +kernel), by decide +kernel⟩
theorem q_85 : (Jvm.Cond.fieldLink "java/lang/Throwable" (20 : Nat) "java/lang/Throwable" "SUPPRESSED_SENTINEL" "Ljava/util/List;") ∈ wNeed := List.mem_filter.mpr ⟨List.mem_of_getElem? (i := 92) (by decide +kernel), by decide +kernel⟩
theorem q_87 : (Jvm.Cond.methodLink "java/lang/Throwable" (27 : Nat) ({ cls := "java/lang/Throwable", name := "fillInStackTrace", desc := "()Ljava/lang/Throwable;" } : Jvm.MethodName)) ∈ wNeed := List.mem_filter.mpr ⟨List.mem_of_getElem? (i := 94) (by decide +kernel), by decide +kernel⟩
theorem q_88 : (Jvm.Cond.instanceMethod ({ cls := "java/lang/Throwable", name := "fillInStackTrace", desc := "()Ljava/lang/Throwable;" } : Jvm.MethodName)) ∈ wNeed := List.mem_filter.mpr ⟨List.mem_of_getElem? (i := 95) (by decide +kernel), by decide +kernel⟩
theorem q_89 : (Jvm.Cond.sameMethod "java/lang/Throwable" "java/lang/Throwable" "fillInStackTrace" "()Ljava/lang/Throwable;") ∈ wNeed := List.mem_filter.mpr ⟨List.mem_of_getElem? (i := 96) (by decide +kernel), by decide +kernel⟩
theorem q_90 : (Jvm.Cond.selects "java/lang/IllegalArgumentException" ({ cls := "java/lang/Throwable", name := "fillInStackTrace", desc := "()Ljava/lang/Throwable;" } : Jvm.MethodName) ({ cls := "java/lang/Throwable", name := "fillInStackTrace", desc := "()Ljava/lang/Throwable;" } : Jvm.MethodName)) ∈ wNeed := List.mem_filter.mpr ⟨List.mem_of_getElem? (i := 97) (by decide +kernel), by decide +kernel⟩
theorem q_91 : (Jvm.Cond.selects "java/lang/IllegalStateException" ({ cls := "java/lang/Throwable", name := "fillInStackTrace", desc := "()Ljava/lang/Throwable;" } : Jvm.MethodName) ({ cls := "java/lang/Throwable", name := "fillInStackTrace", desc := "()Ljava/lang/Throwable;" } : Jvm.MethodName)) ∈ wNeed := List.mem_filter.mpr ⟨List.mem_of_getElem? (i := 98) (by decide +kernel), by decide +kernel⟩
theorem q_92 : (Jvm.Cond.codeSync ({ cls := "java/lang/Throwable", name := "fillInStackTrace", desc := "()Ljava/lang/Throwable;" } : Jvm.MethodName) prog_13_method_18_code (1 : Nat) (Option.some (Jvm.ClassFile.FieldType.object "java/lang/Throwable"))) ∈ wNeed := List.mem_filter.mpr ⟨List.mem_of_getElem? (i := 99) (by decide +kernel), by decide +kernel⟩
theorem q_93 : (Jvm.Cond.methodLink "java/lang/Throwable" (202 : Nat) ({ cls := "java/lang/Throwable", name := "fillInStackTrace", desc := "(I)Ljava/lang/Throwable;" } : Jvm.MethodName)) ∈ wNeed := List.mem_filter.mpr ⟨List.mem_of_getElem? (i := 100) (by decide +kernel), by decide +kernel⟩
theorem q_95 : (Jvm.Cond.instanceMethod ({ cls := "java/lang/Throwable", name := "fillInStackTrace", desc := "(I)Ljava/lang/Throwable;" } : Jvm.MethodName)) ∈ wNeed := List.mem_filter.mpr ⟨List.mem_of_getElem? (i := 102) (by decide +kernel), by decide +kernel⟩
theorem q_96 : (Jvm.Cond.instantiable "java/lang/Throwable" (6 : Nat)) ∈ wNeed := List.mem_filter.mpr ⟨List.mem_of_getElem? (i := 103) (by decide +kernel), by decide +kernel⟩
theorem q_97 : (Jvm.Cond.native ({ cls := "java/lang/Throwable", name := "fillInStackTrace", desc := "(I)Ljava/lang/Throwable;" } : Jvm.MethodName)) ∈ wNeed := List.mem_filter.mpr ⟨List.mem_of_getElem? (i := 104) (by decide +kernel), by decide +kernel⟩
theorem q_99 : (Jvm.Cond.methodLink "DroitLine" (180 : Nat) ({ cls := "java/lang/IndexOutOfBoundsException", name := "<init>", desc := "(Ljava/lang/String;)V" } : Jvm.MethodName)) ∈ wNeed := List.mem_filter.mpr ⟨List.mem_of_getElem? (i := 106) (by decide +kernel), by decide +kernel⟩
theorem q_100 : (Jvm.Cond.instanceMethod ({ cls := "java/lang/IndexOutOfBoundsException", name := "<init>", desc := "(Ljava/lang/String;)V" } : Jvm.MethodName)) ∈ wNeed := List.mem_filter.mpr ⟨List.mem_of_getElem? (i := 107) (by decide +kernel), by decide +kernel⟩
theorem q_101 : (Jvm.Cond.code ({ cls := "java/lang/IndexOutOfBoundsException", name := "<init>", desc := "(Ljava/lang/String;)V" } : Jvm.MethodName) prog_9_method_2_code (2 : Nat) (Option.none : Option Jvm.ClassFile.FieldType)) ∈ wNeed := List.mem_filter.mpr ⟨List.mem_of_getElem? (i := 108) (by decide +kernel), by decide +kernel⟩
theorem q_102 : (Jvm.Cond.methodLink "java/lang/IndexOutOfBoundsException" (7 : Nat) ({ cls := "java/lang/RuntimeException", name := "<init>", desc := "(Ljava/lang/String;)V" } : Jvm.MethodName)) ∈ wNeed := List.mem_filter.mpr ⟨List.mem_of_getElem? (i := 109) (by decide +kernel), by decide +kernel⟩
theorem q_103 : (Jvm.Cond.instanceMethod ({ cls := "java/lang/RuntimeException", name := "<init>", desc := "(Ljava/lang/String;)V" } : Jvm.MethodName)) ∈ wNeed := List.mem_filter.mpr ⟨List.mem_of_getElem? (i := 110) (by decide +kernel), by decide +kernel⟩
theorem q_104 : (Jvm.Cond.code ({ cls := "java/lang/RuntimeException", name := "<init>", desc := "(Ljava/lang/String;)V" } : Jvm.MethodName) prog_11_method_2_code (2 : Nat) (Option.none : Option Jvm.ClassFile.FieldType)) ∈ wNeed := List.mem_filter.mpr ⟨List.mem_of_getElem? (i := 111) (by decide +kernel), by decide +kernel⟩
theorem q_105 : (Jvm.Cond.methodLink "java/lang/RuntimeException" (7 : Nat) ({ cls := "java/lang/Exception", name := "<init>", desc := "(Ljava/lang/String;)V" } : Jvm.MethodName)) ∈ wNeed := List.mem_filter.mpr ⟨List.mem_of_getElem? (i := 112) (by decide +kernel), by decide +kernel⟩
theorem q_106 : (Jvm.Cond.instanceMethod ({ cls := "java/lang/Exception", name := "<init>", desc := "(Ljava/lang/String;)V" } : Jvm.MethodName)) ∈ wNeed := List.mem_filter.mpr ⟨List.mem_of_getElem? (i := 113) (by decide +kernel), by decide +kernel⟩
theorem q_107 : (Jvm.Cond.code ({ cls := "java/lang/Exception", name := "<init>", desc := "(Ljava/lang/String;)V" } : Jvm.MethodName) prog_6_method_2_code (2 : Nat) (Option.none : Option Jvm.ClassFile.FieldType)) ∈ wNeed := List.mem_filter.mpr ⟨List.mem_of_getElem? (i := 114) (by decide +kernel), by decide +kernel⟩
theorem q_108 : (Jvm.Cond.methodLink "java/lang/Exception" (7 : Nat) ({ cls := "java/lang/Throwable", name := "<init>", desc := "(Ljava/lang/String;)V" } : Jvm.MethodName)) ∈ wNeed := List.mem_filter.mpr ⟨List.mem_of_getElem? (i := 115) (by decide +kernel), by decide +kernel⟩
theorem q_109 : (Jvm.Cond.instanceMethod ({ cls := "java/lang/Throwable", name := "<init>", desc := "(Ljava/lang/String;)V" } : Jvm.MethodName)) ∈ wNeed := List.mem_filter.mpr ⟨List.mem_of_getElem? (i := 116) (by decide +kernel), by decide +kernel⟩
theorem q_110 : (Jvm.Cond.code ({ cls := "java/lang/Throwable", name := "<init>", desc := "(Ljava/lang/String;)V" } : Jvm.MethodName) prog_13_method_2_code (2 : Nat) (Option.none : Option Jvm.ClassFile.FieldType)) ∈ wNeed := List.mem_filter.mpr ⟨List.mem_of_getElem? (i := 117) (by decide +kernel), by decide +kernel⟩
theorem q_111 : (Jvm.Cond.fieldLink "java/lang/Throwable" (198 : Nat) "java/lang/Throwable" "backtrace" "Ljava/lang/Object;") ∈ wNeed := List.mem_filter.mpr ⟨List.mem_of_getElem? (i := 118) (by decide +kernel), by decide +kernel⟩
theorem q_112 : (Jvm.Cond.fieldLink "java/lang/Throwable" (31 : Nat) "java/lang/Throwable" "detailMessage" "Ljava/lang/String;") ∈ wNeed := List.mem_filter.mpr ⟨List.mem_of_getElem? (i := 119) (by decide +kernel), by decide +kernel⟩
theorem q_113 : (Jvm.Cond.fieldLink "java/lang/Throwable" (7 : Nat) "java/lang/Throwable" "cause" "Ljava/lang/Throwable;") ∈ wNeed := List.mem_filter.mpr ⟨List.mem_of_getElem? (i := 120) (by decide +kernel), by decide +kernel⟩
theorem q_114 : (Jvm.Cond.fieldLink "java/lang/Throwable" (17 : Nat) "java/lang/Throwable" "stackTrace" "[Ljava/lang/StackTraceElement;") ∈ wNeed := List.mem_filter.mpr ⟨List.mem_of_getElem? (i := 121) (by decide +kernel), by decide +kernel⟩
theorem q_115 : (Jvm.Cond.fieldLink "java/lang/Throwable" (24 : Nat) "java/lang/Throwable" "suppressedExceptions" "Ljava/util/List;") ∈ wNeed := List.mem_filter.mpr ⟨List.mem_of_getElem? (i := 122) (by decide +kernel), by decide +kernel⟩
theorem q_120 : (Jvm.Cond.lays "java/lang/IndexOutOfBoundsException" "java/lang/Throwable" "depth" "I") ∈ wNeed := List.mem_filter.mpr ⟨List.mem_of_getElem? (i := 127) (by decide +kernel), by decide +kernel⟩
theorem q_123 : (Jvm.Cond.superclass "java/lang/IndexOutOfBoundsException" "java/lang/RuntimeException") ∈ wNeed := List.mem_filter.mpr ⟨List.mem_of_getElem? (i := 130) (by decide +kernel), by decide +kernel⟩
theorem q_124 : (Jvm.Cond.arrayClass Jvm.ClassFile.FieldType.byte) ∈ wNeed := List.mem_filter.mpr ⟨List.mem_of_getElem? (i := 131) (by decide +kernel), by decide +kernel⟩
theorem q_125 : (Jvm.Cond.methodLink "DroitLine" (31 : Nat) ({ cls := "DroitLine", name := "checkRange", desc := "(III)V" } : Jvm.MethodName)) ∈ wNeed := List.mem_filter.mpr ⟨List.mem_of_getElem? (i := 132) (by decide +kernel), by decide +kernel⟩
theorem q_126 : (Jvm.Cond.static ({ cls := "DroitLine", name := "checkRange", desc := "(III)V" } : Jvm.MethodName)) ∈ wNeed := List.mem_filter.mpr ⟨List.mem_of_getElem? (i := 133) (by decide +kernel), by decide +kernel⟩
theorem q_127 : (Jvm.Cond.code ({ cls := "DroitLine", name := "checkRange", desc := "(III)V" } : Jvm.MethodName) prog_1_method_32_code (3 : Nat) (Option.none : Option Jvm.ClassFile.FieldType)) ∈ wNeed := List.mem_filter.mpr ⟨List.mem_of_getElem? (i := 134) (by decide +kernel), by decide +kernel⟩
theorem q_128 : (Jvm.Cond.classLink "DroitLine" (185 : Nat) "java/lang/IllegalArgumentException") ∈ wNeed := List.mem_filter.mpr ⟨List.mem_of_getElem? (i := 135) (by decide +kernel), by decide +kernel⟩
theorem q_129 : (Jvm.Cond.instantiable "java/lang/IllegalArgumentException" (6 : Nat)) ∈ wNeed := List.mem_filter.mpr ⟨List.mem_of_getElem? (i := 136) (by decide +kernel), by decide +kernel⟩
theorem q_131 : (Jvm.Cond.selects "java/lang/IllegalArgumentException" ({ cls := "java/lang/Throwable", name := "fillInStackTrace", desc := "(I)Ljava/lang/Throwable;" } : Jvm.MethodName) ({ cls := "java/lang/Throwable", name := "fillInStackTrace", desc := "(I)Ljava/lang/Throwable;" } : Jvm.MethodName)) ∈ wNeed := List.mem_filter.mpr ⟨List.mem_of_getElem? (i := 138) (by decide +kernel), by decide +kernel⟩
theorem q_132 : (Jvm.Cond.lays "java/lang/IllegalArgumentException" "java/lang/Throwable" "cause" "Ljava/lang/Throwable;") ∈ wNeed := List.mem_filter.mpr ⟨List.mem_of_getElem? (i := 139) (by decide +kernel), by decide +kernel⟩
theorem q_133 : (Jvm.Cond.lays "java/lang/IllegalArgumentException" "java/lang/Throwable" "stackTrace" "[Ljava/lang/StackTraceElement;") ∈ wNeed := List.mem_filter.mpr ⟨List.mem_of_getElem? (i := 140) (by decide +kernel), by decide +kernel⟩
theorem q_134 : (Jvm.Cond.lays "java/lang/IllegalArgumentException" "java/lang/Throwable" "suppressedExceptions" "Ljava/util/List;") ∈ wNeed := List.mem_filter.mpr ⟨List.mem_of_getElem? (i := 141) (by decide +kernel), by decide +kernel⟩
theorem q_135 : (Jvm.Cond.lays "java/lang/IllegalArgumentException" "java/lang/Throwable" "detailMessage" "Ljava/lang/String;") ∈ wNeed := List.mem_filter.mpr ⟨List.mem_of_getElem? (i := 142) (by decide +kernel), by decide +kernel⟩
theorem q_136 : (Jvm.Cond.lays "java/lang/IllegalArgumentException" "java/lang/Throwable" "backtrace" "Ljava/lang/Object;") ∈ wNeed := List.mem_filter.mpr ⟨List.mem_of_getElem? (i := 143) (by decide +kernel), by decide +kernel⟩
theorem q_138 : (Jvm.Cond.methodLink "DroitLine" (189 : Nat) ({ cls := "java/lang/IllegalArgumentException", name := "<init>", desc := "(Ljava/lang/String;)V" } : Jvm.MethodName)) ∈ wNeed := List.mem_filter.mpr ⟨List.mem_of_getElem? (i := 145) (by decide +kernel), by decide +kernel⟩
theorem q_139 : (Jvm.Cond.instanceMethod ({ cls := "java/lang/IllegalArgumentException", name := "<init>", desc := "(Ljava/lang/String;)V" } : Jvm.MethodName)) ∈ wNeed := List.mem_filter.mpr ⟨List.mem_of_getElem? (i := 146) (by decide +kernel), by decide +kernel⟩
theorem q_140 : (Jvm.Cond.code ({ cls := "java/lang/IllegalArgumentException", name := "<init>", desc := "(Ljava/lang/String;)V" } : Jvm.MethodName) prog_7_method_2_code (2 : Nat) (Option.none : Option Jvm.ClassFile.FieldType)) ∈ wNeed := List.mem_filter.mpr ⟨List.mem_of_getElem? (i := 147) (by decide +kernel), by decide +kernel⟩
theorem q_141 : (Jvm.Cond.methodLink "java/lang/IllegalArgumentException" (7 : Nat) ({ cls := "java/lang/RuntimeException", name := "<init>", desc := "(Ljava/lang/String;)V" } : Jvm.MethodName)) ∈ wNeed := List.mem_filter.mpr ⟨List.mem_of_getElem? (i := 148) (by decide +kernel), by decide +kernel⟩
theorem q_142 : (Jvm.Cond.lays "java/lang/IllegalArgumentException" "java/lang/Throwable" "depth" "I") ∈ wNeed := List.mem_filter.mpr ⟨List.mem_of_getElem? (i := 149) (by decide +kernel), by decide +kernel⟩
theorem q_143 : (Jvm.Cond.superclass "java/lang/IllegalArgumentException" "java/lang/RuntimeException") ∈ wNeed := List.mem_filter.mpr ⟨List.mem_of_getElem? (i := 150) (by decide +kernel), by decide +kernel⟩
theorem q_144 : (Jvm.Cond.methodLink "DroitLineLaw" (145 : Nat) ({ cls := "DroitLine", name := "rate", desc := "(I)I" } : Jvm.MethodName)) ∈ wNeed := List.mem_filter.mpr ⟨List.mem_of_getElem? (i := 151) (by decide +kernel), by decide +kernel⟩
theorem q_145 : (Jvm.Cond.instanceMethod ({ cls := "DroitLine", name := "rate", desc := "(I)I" } : Jvm.MethodName)) ∈ wNeed := List.mem_filter.mpr ⟨List.mem_of_getElem? (i := 152) (by decide +kernel), by decide +kernel⟩
theorem q_146 : (Jvm.Cond.selects "DroitLine" ({ cls := "DroitLine", name := "rate", desc := "(I)I" } : Jvm.MethodName) ({ cls := "DroitLine", name := "rate", desc := "(I)I" } : Jvm.MethodName)) ∈ wNeed := List.mem_filter.mpr ⟨List.mem_of_getElem? (i := 153) (by decide +kernel), by decide +kernel⟩
theorem q_147 : (Jvm.Cond.code ({ cls := "DroitLine", name := "rate", desc := "(I)I" } : Jvm.MethodName) prog_1_method_14_code (3 : Nat) (Option.some Jvm.ClassFile.FieldType.int)) ∈ wNeed := List.mem_filter.mpr ⟨List.mem_of_getElem? (i := 154) (by decide +kernel), by decide +kernel⟩
theorem q_148 : (Jvm.Cond.methodLink "DroitLineLaw" (8 : Nat) ({ cls := "DroitLineLaw", name := "call", desc := "(I)I" } : Jvm.MethodName)) ∈ wNeed := List.mem_filter.mpr ⟨List.mem_of_getElem? (i := 155) (by decide +kernel), by decide +kernel⟩
theorem q_149 : (Jvm.Cond.static ({ cls := "DroitLineLaw", name := "call", desc := "(I)I" } : Jvm.MethodName)) ∈ wNeed := List.mem_filter.mpr ⟨List.mem_of_getElem? (i := 156) (by decide +kernel), by decide +kernel⟩
theorem q_150 : (Jvm.Cond.code ({ cls := "DroitLineLaw", name := "call", desc := "(I)I" } : Jvm.MethodName) method_2_code (6 : Nat) (Option.some Jvm.ClassFile.FieldType.int)) ∈ wNeed := List.mem_filter.mpr ⟨List.mem_of_getElem? (i := 157) (by decide +kernel), by decide +kernel⟩
theorem q_151 : (Jvm.Cond.constant "DroitLineLaw" (7 : Nat) (2000000 : Int32)) ∈ wNeed := List.mem_filter.mpr ⟨List.mem_of_getElem? (i := 158) (by decide +kernel), by decide +kernel⟩
theorem q_152 : (Jvm.Cond.methodLink "DroitLineLaw" (96 : Nat) ({ cls := "DroitLineLaw", name := "fee", desc := "(I)I" } : Jvm.MethodName)) ∈ wNeed := List.mem_filter.mpr ⟨List.mem_of_getElem? (i := 159) (by decide +kernel), by decide +kernel⟩
theorem q_153 : (Jvm.Cond.static ({ cls := "DroitLineLaw", name := "fee", desc := "(I)I" } : Jvm.MethodName)) ∈ wNeed := List.mem_filter.mpr ⟨List.mem_of_getElem? (i := 160) (by decide +kernel), by decide +kernel⟩
theorem q_154 : (Jvm.Cond.code ({ cls := "DroitLineLaw", name := "fee", desc := "(I)I" } : Jvm.MethodName) method_5_code (1 : Nat) (Option.some Jvm.ClassFile.FieldType.int)) ∈ wNeed := List.mem_filter.mpr ⟨List.mem_of_getElem? (i := 161) (by decide +kernel), by decide +kernel⟩
theorem q_155 : (Jvm.Cond.methodLink "DroitLineLaw" (14 : Nat) ({ cls := "DroitLineLaw", name := "hundredths", desc := "(IIII)I" } : Jvm.MethodName)) ∈ wNeed := List.mem_filter.mpr ⟨List.mem_of_getElem? (i := 162) (by decide +kernel), by decide +kernel⟩
theorem q_156 : (Jvm.Cond.static ({ cls := "DroitLineLaw", name := "hundredths", desc := "(IIII)I" } : Jvm.MethodName)) ∈ wNeed := List.mem_filter.mpr ⟨List.mem_of_getElem? (i := 163) (by decide +kernel), by decide +kernel⟩
theorem q_157 : (Jvm.Cond.code ({ cls := "DroitLineLaw", name := "hundredths", desc := "(IIII)I" } : Jvm.MethodName) method_4_code (5 : Nat) (Option.some Jvm.ClassFile.FieldType.int)) ∈ wNeed := List.mem_filter.mpr ⟨List.mem_of_getElem? (i := 164) (by decide +kernel), by decide +kernel⟩
theorem q_158 : (Jvm.Cond.constant "DroitLineLaw" (18 : Nat) (50000 : Int32)) ∈ wNeed := List.mem_filter.mpr ⟨List.mem_of_getElem? (i := 165) (by decide +kernel), by decide +kernel⟩
theorem q_159 : (Jvm.Cond.methodLink "DroitLineLaw" (87 : Nat) ({ cls := "DroitLineLaw", name := "share", desc := "([II)I" } : Jvm.MethodName)) ∈ wNeed := List.mem_filter.mpr ⟨List.mem_of_getElem? (i := 166) (by decide +kernel), by decide +kernel⟩
theorem q_160 : (Jvm.Cond.static ({ cls := "DroitLineLaw", name := "share", desc := "([II)I" } : Jvm.MethodName)) ∈ wNeed := List.mem_filter.mpr ⟨List.mem_of_getElem? (i := 167) (by decide +kernel), by decide +kernel⟩
theorem q_161 : (Jvm.Cond.code ({ cls := "DroitLineLaw", name := "share", desc := "([II)I" } : Jvm.MethodName) method_6_code (6 : Nat) (Option.some Jvm.ClassFile.FieldType.int)) ∈ wNeed := List.mem_filter.mpr ⟨List.mem_of_getElem? (i := 168) (by decide +kernel), by decide +kernel⟩
theorem q_162 : (Jvm.Cond.constant "DroitLineLaw" (19 : Nat) (200000 : Int32)) ∈ wNeed := List.mem_filter.mpr ⟨List.mem_of_getElem? (i := 169) (by decide +kernel), by decide +kernel⟩
theorem q_163 : (Jvm.Cond.methodLink "DroitLineLaw" (93 : Nat) ({ cls := "DroitLineLaw", name := "interest", desc := "([I[I[II)I" } : Jvm.MethodName)) ∈ wNeed := List.mem_filter.mpr ⟨List.mem_of_getElem? (i := 170) (by decide +kernel), by decide +kernel⟩
theorem q_164 : (Jvm.Cond.static ({ cls := "DroitLineLaw", name := "interest", desc := "([I[I[II)I" } : Jvm.MethodName)) ∈ wNeed := List.mem_filter.mpr ⟨List.mem_of_getElem? (i := 171) (by decide +kernel), by decide +kernel⟩
theorem q_165 : (Jvm.Cond.code ({ cls := "DroitLineLaw", name := "interest", desc := "([I[I[II)I" } : Jvm.MethodName) method_7_code (6 : Nat) (Option.some Jvm.ClassFile.FieldType.int)) ∈ wNeed := List.mem_filter.mpr ⟨List.mem_of_getElem? (i := 172) (by decide +kernel), by decide +kernel⟩
theorem q_166 : (Jvm.Cond.constantLong "DroitLineLaw" (20 : Nat) (100000 : Int64)) ∈ wNeed := List.mem_filter.mpr ⟨List.mem_of_getElem? (i := 173) (by decide +kernel), by decide +kernel⟩
theorem q_167 : (Jvm.Cond.methodLink "DroitLineLaw" (135 : Nat) ({ cls := "DroitLineLaw", name := "falls", desc := "([I[I[I[II)I" } : Jvm.MethodName)) ∈ wNeed := List.mem_filter.mpr ⟨List.mem_of_getElem? (i := 174) (by decide +kernel), by decide +kernel⟩
theorem q_168 : (Jvm.Cond.static ({ cls := "DroitLineLaw", name := "falls", desc := "([I[I[I[II)I" } : Jvm.MethodName)) ∈ wNeed := List.mem_filter.mpr ⟨List.mem_of_getElem? (i := 175) (by decide +kernel), by decide +kernel⟩
theorem q_169 : (Jvm.Cond.code ({ cls := "DroitLineLaw", name := "falls", desc := "([I[I[I[II)I" } : Jvm.MethodName) method_8_code (10 : Nat) (Option.some Jvm.ClassFile.FieldType.int)) ∈ wNeed := List.mem_filter.mpr ⟨List.mem_of_getElem? (i := 176) (by decide +kernel), by decide +kernel⟩
theorem q_170 : (Jvm.Cond.methodLink "DroitLineLaw" (22 : Nat) ({ cls := "DroitLineLaw", name := "next", desc := "(I)I" } : Jvm.MethodName)) ∈ wNeed := List.mem_filter.mpr ⟨List.mem_of_getElem? (i := 177) (by decide +kernel), by decide +kernel⟩
theorem q_171 : (Jvm.Cond.static ({ cls := "DroitLineLaw", name := "next", desc := "(I)I" } : Jvm.MethodName)) ∈ wNeed := List.mem_filter.mpr ⟨List.mem_of_getElem? (i := 178) (by decide +kernel), by decide +kernel⟩
theorem q_172 : (Jvm.Cond.code ({ cls := "DroitLineLaw", name := "next", desc := "(I)I" } : Jvm.MethodName) method_3_code (2 : Nat) (Option.some Jvm.ClassFile.FieldType.int)) ∈ wNeed := List.mem_filter.mpr ⟨List.mem_of_getElem? (i := 179) (by decide +kernel), by decide +kernel⟩
theorem q_173 : (Jvm.Cond.methodLink "DroitLineLaw" (139 : Nat) ({ cls := "DroitLineLaw", name := "clears", desc := "([II)I" } : Jvm.MethodName)) ∈ wNeed := List.mem_filter.mpr ⟨List.mem_of_getElem? (i := 180) (by decide +kernel), by decide +kernel⟩
theorem q_174 : (Jvm.Cond.static ({ cls := "DroitLineLaw", name := "clears", desc := "([II)I" } : Jvm.MethodName)) ∈ wNeed := List.mem_filter.mpr ⟨List.mem_of_getElem? (i := 181) (by decide +kernel), by decide +kernel⟩
theorem q_175 : (Jvm.Cond.code ({ cls := "DroitLineLaw", name := "clears", desc := "([II)I" } : Jvm.MethodName) method_9_code (4 : Nat) (Option.some Jvm.ClassFile.FieldType.int)) ∈ wNeed := List.mem_filter.mpr ⟨List.mem_of_getElem? (i := 182) (by decide +kernel), by decide +kernel⟩
theorem q_176 : (Jvm.Cond.methodLink "DroitLineLaw" (131 : Nat) ({ cls := "DroitLineLaw", name := "does", desc := "(LDroitLine;IIII)I" } : Jvm.MethodName)) ∈ wNeed := List.mem_filter.mpr ⟨List.mem_of_getElem? (i := 183) (by decide +kernel), by decide +kernel⟩
theorem q_177 : (Jvm.Cond.static ({ cls := "DroitLineLaw", name := "does", desc := "(LDroitLine;IIII)I" } : Jvm.MethodName)) ∈ wNeed := List.mem_filter.mpr ⟨List.mem_of_getElem? (i := 184) (by decide +kernel), by decide +kernel⟩
theorem q_178 : (Jvm.Cond.codeWith ({ cls := "DroitLineLaw", name := "does", desc := "(LDroitLine;IIII)I" } : Jvm.MethodName) method_10_code (6 : Nat) (Option.some Jvm.ClassFile.FieldType.int) [((0 : Nat), (132 : Nat), (133 : Nat), (59 : Nat)), ((0 : Nat), (132 : Nat), (138 : Nat), (62 : Nat)), ((0 : Nat), (132 : Nat), (143 : Nat), (65 : Nat))]) ∈ wNeed := List.mem_filter.mpr ⟨List.mem_of_getElem? (i := 185) (by decide +kernel), by decide +kernel⟩
theorem q_179 : (Jvm.Cond.classLink "DroitLineLaw" (59 : Nat) "java/lang/IndexOutOfBoundsException") ∈ wNeed := List.mem_filter.mpr ⟨List.mem_of_getElem? (i := 186) (by decide +kernel), by decide +kernel⟩
theorem q_180 : (Jvm.Cond.classLink "DroitLineLaw" (62 : Nat) "java/lang/IllegalArgumentException") ∈ wNeed := List.mem_filter.mpr ⟨List.mem_of_getElem? (i := 187) (by decide +kernel), by decide +kernel⟩
theorem q_181 : (Jvm.Cond.classLink "DroitLineLaw" (65 : Nat) "java/lang/IllegalStateException") ∈ wNeed := List.mem_filter.mpr ⟨List.mem_of_getElem? (i := 188) (by decide +kernel), by decide +kernel⟩
theorem q_182 : (Jvm.Cond.methodLink "DroitLineLaw" (25 : Nat) ({ cls := "DroitLine", name := "lot", desc := "(III)I" } : Jvm.MethodName)) ∈ wNeed := List.mem_filter.mpr ⟨List.mem_of_getElem? (i := 189) (by decide +kernel), by decide +kernel⟩
theorem q_183 : (Jvm.Cond.instanceMethod ({ cls := "DroitLine", name := "lot", desc := "(III)I" } : Jvm.MethodName)) ∈ wNeed := List.mem_filter.mpr ⟨List.mem_of_getElem? (i := 190) (by decide +kernel), by decide +kernel⟩
theorem q_184 : (Jvm.Cond.selects "DroitLine" ({ cls := "DroitLine", name := "lot", desc := "(III)I" } : Jvm.MethodName) ({ cls := "DroitLine", name := "lot", desc := "(III)I" } : Jvm.MethodName)) ∈ wNeed := List.mem_filter.mpr ⟨List.mem_of_getElem? (i := 191) (by decide +kernel), by decide +kernel⟩
theorem q_185 : (Jvm.Cond.code ({ cls := "DroitLine", name := "lot", desc := "(III)I" } : Jvm.MethodName) prog_1_method_2_code (5 : Nat) (Option.some Jvm.ClassFile.FieldType.int)) ∈ wNeed := List.mem_filter.mpr ⟨List.mem_of_getElem? (i := 192) (by decide +kernel), by decide +kernel⟩
theorem q_186 : (Jvm.Cond.constant "DroitLine" (30 : Nat) (1000000 : Int32)) ∈ wNeed := List.mem_filter.mpr ⟨List.mem_of_getElem? (i := 193) (by decide +kernel), by decide +kernel⟩
theorem q_187 : (Jvm.Cond.methodLink "DroitLine" (35 : Nat) ({ cls := "DroitLine", name := "checkArtist", desc := "(I)V" } : Jvm.MethodName)) ∈ wNeed := List.mem_filter.mpr ⟨List.mem_of_getElem? (i := 194) (by decide +kernel), by decide +kernel⟩
theorem q_188 : (Jvm.Cond.static ({ cls := "DroitLine", name := "checkArtist", desc := "(I)V" } : Jvm.MethodName)) ∈ wNeed := List.mem_filter.mpr ⟨List.mem_of_getElem? (i := 195) (by decide +kernel), by decide +kernel⟩
theorem q_189 : (Jvm.Cond.code ({ cls := "DroitLine", name := "checkArtist", desc := "(I)V" } : Jvm.MethodName) prog_1_method_33_code (1 : Nat) (Option.none : Option Jvm.ClassFile.FieldType)) ∈ wNeed := List.mem_filter.mpr ⟨List.mem_of_getElem? (i := 196) (by decide +kernel), by decide +kernel⟩
theorem q_190 : (Jvm.Cond.classLink "DroitLine" (41 : Nat) "java/lang/IllegalStateException") ∈ wNeed := List.mem_filter.mpr ⟨List.mem_of_getElem? (i := 197) (by decide +kernel), by decide +kernel⟩
theorem q_191 : (Jvm.Cond.instantiable "java/lang/IllegalStateException" (6 : Nat)) ∈ wNeed := List.mem_filter.mpr ⟨List.mem_of_getElem? (i := 198) (by decide +kernel), by decide +kernel⟩
theorem q_193 : (Jvm.Cond.selects "java/lang/IllegalStateException" ({ cls := "java/lang/Throwable", name := "fillInStackTrace", desc := "(I)Ljava/lang/Throwable;" } : Jvm.MethodName) ({ cls := "java/lang/Throwable", name := "fillInStackTrace", desc := "(I)Ljava/lang/Throwable;" } : Jvm.MethodName)) ∈ wNeed := List.mem_filter.mpr ⟨List.mem_of_getElem? (i := 200) (by decide +kernel), by decide +kernel⟩
theorem q_194 : (Jvm.Cond.lays "java/lang/IllegalStateException" "java/lang/Throwable" "cause" "Ljava/lang/Throwable;") ∈ wNeed := List.mem_filter.mpr ⟨List.mem_of_getElem? (i := 201) (by decide +kernel), by decide +kernel⟩
theorem q_195 : (Jvm.Cond.lays "java/lang/IllegalStateException" "java/lang/Throwable" "stackTrace" "[Ljava/lang/StackTraceElement;") ∈ wNeed := List.mem_filter.mpr ⟨List.mem_of_getElem? (i := 202) (by decide +kernel), by decide +kernel⟩
theorem q_196 : (Jvm.Cond.lays "java/lang/IllegalStateException" "java/lang/Throwable" "suppressedExceptions" "Ljava/util/List;") ∈ wNeed := List.mem_filter.mpr ⟨List.mem_of_getElem? (i := 203) (by decide +kernel), by decide +kernel⟩
theorem q_197 : (Jvm.Cond.lays "java/lang/IllegalStateException" "java/lang/Throwable" "detailMessage" "Ljava/lang/String;") ∈ wNeed := List.mem_filter.mpr ⟨List.mem_of_getElem? (i := 204) (by decide +kernel), by decide +kernel⟩
theorem q_198 : (Jvm.Cond.lays "java/lang/IllegalStateException" "java/lang/Throwable" "backtrace" "Ljava/lang/Object;") ∈ wNeed := List.mem_filter.mpr ⟨List.mem_of_getElem? (i := 205) (by decide +kernel), by decide +kernel⟩
theorem q_200 : (Jvm.Cond.methodLink "DroitLine" (45 : Nat) ({ cls := "java/lang/IllegalStateException", name := "<init>", desc := "(Ljava/lang/String;)V" } : Jvm.MethodName)) ∈ wNeed := List.mem_filter.mpr ⟨List.mem_of_getElem? (i := 207) (by decide +kernel), by decide +kernel⟩
theorem q_201 : (Jvm.Cond.instanceMethod ({ cls := "java/lang/IllegalStateException", name := "<init>", desc := "(Ljava/lang/String;)V" } : Jvm.MethodName)) ∈ wNeed := List.mem_filter.mpr ⟨List.mem_of_getElem? (i := 208) (by decide +kernel), by decide +kernel⟩
theorem q_202 : (Jvm.Cond.code ({ cls := "java/lang/IllegalStateException", name := "<init>", desc := "(Ljava/lang/String;)V" } : Jvm.MethodName) prog_8_method_2_code (2 : Nat) (Option.none : Option Jvm.ClassFile.FieldType)) ∈ wNeed := List.mem_filter.mpr ⟨List.mem_of_getElem? (i := 209) (by decide +kernel), by decide +kernel⟩
theorem q_203 : (Jvm.Cond.methodLink "java/lang/IllegalStateException" (7 : Nat) ({ cls := "java/lang/RuntimeException", name := "<init>", desc := "(Ljava/lang/String;)V" } : Jvm.MethodName)) ∈ wNeed := List.mem_filter.mpr ⟨List.mem_of_getElem? (i := 210) (by decide +kernel), by decide +kernel⟩
theorem q_204 : (Jvm.Cond.lays "java/lang/IllegalStateException" "java/lang/Throwable" "depth" "I") ∈ wNeed := List.mem_filter.mpr ⟨List.mem_of_getElem? (i := 211) (by decide +kernel), by decide +kernel⟩
theorem q_205 : (Jvm.Cond.superclass "java/lang/IllegalStateException" "java/lang/RuntimeException") ∈ wNeed := List.mem_filter.mpr ⟨List.mem_of_getElem? (i := 212) (by decide +kernel), by decide +kernel⟩
theorem q_206 : (Jvm.Cond.instantiable "DroitLine$Lot" (13 : Nat)) ∈ wNeed := List.mem_filter.mpr ⟨List.mem_of_getElem? (i := 213) (by decide +kernel), by decide +kernel⟩
theorem q_207 : (Jvm.Cond.methodLink "DroitLine" (48 : Nat) ({ cls := "DroitLine", name := "calledAmount", desc := "(I)I" } : Jvm.MethodName)) ∈ wNeed := List.mem_filter.mpr ⟨List.mem_of_getElem? (i := 214) (by decide +kernel), by decide +kernel⟩
theorem q_208 : (Jvm.Cond.static ({ cls := "DroitLine", name := "calledAmount", desc := "(I)I" } : Jvm.MethodName)) ∈ wNeed := List.mem_filter.mpr ⟨List.mem_of_getElem? (i := 215) (by decide +kernel), by decide +kernel⟩
theorem q_209 : (Jvm.Cond.code ({ cls := "DroitLine", name := "calledAmount", desc := "(I)I" } : Jvm.MethodName) prog_1_method_36_code (2 : Nat) (Option.some Jvm.ClassFile.FieldType.int)) ∈ wNeed := List.mem_filter.mpr ⟨List.mem_of_getElem? (i := 216) (by decide +kernel), by decide +kernel⟩
theorem q_210 : (Jvm.Cond.methodLink "DroitLine" (192 : Nat) ({ cls := "DroitLine", name := "stepOf", desc := "(I)I" } : Jvm.MethodName)) ∈ wNeed := List.mem_filter.mpr ⟨List.mem_of_getElem? (i := 217) (by decide +kernel), by decide +kernel⟩
theorem q_211 : (Jvm.Cond.static ({ cls := "DroitLine", name := "stepOf", desc := "(I)I" } : Jvm.MethodName)) ∈ wNeed := List.mem_filter.mpr ⟨List.mem_of_getElem? (i := 218) (by decide +kernel), by decide +kernel⟩
theorem q_212 : (Jvm.Cond.code ({ cls := "DroitLine", name := "stepOf", desc := "(I)I" } : Jvm.MethodName) prog_1_method_35_code (1 : Nat) (Option.some Jvm.ClassFile.FieldType.int)) ∈ wNeed := List.mem_filter.mpr ⟨List.mem_of_getElem? (i := 219) (by decide +kernel), by decide +kernel⟩
theorem q_213 : (Jvm.Cond.methodLink "DroitLine" (52 : Nat) ({ cls := "DroitLine$Lot", name := "<init>", desc := "(III)V" } : Jvm.MethodName)) ∈ wNeed := List.mem_filter.mpr ⟨List.mem_of_getElem? (i := 220) (by decide +kernel), by decide +kernel⟩
theorem q_214 : (Jvm.Cond.instanceMethod ({ cls := "DroitLine$Lot", name := "<init>", desc := "(III)V" } : Jvm.MethodName)) ∈ wNeed := List.mem_filter.mpr ⟨List.mem_of_getElem? (i := 221) (by decide +kernel), by decide +kernel⟩
theorem q_215 : (Jvm.Cond.code ({ cls := "DroitLine$Lot", name := "<init>", desc := "(III)V" } : Jvm.MethodName) prog_2_method_1_code (4 : Nat) (Option.none : Option Jvm.ClassFile.FieldType)) ∈ wNeed := List.mem_filter.mpr ⟨List.mem_of_getElem? (i := 222) (by decide +kernel), by decide +kernel⟩
theorem q_216 : (Jvm.Cond.methodLink "DroitLine$Lot" (3 : Nat) ({ cls := "java/lang/Object", name := "<init>", desc := "()V" } : Jvm.MethodName)) ∈ wNeed := List.mem_filter.mpr ⟨List.mem_of_getElem? (i := 223) (by decide +kernel), by decide +kernel⟩
theorem q_217 : (Jvm.Cond.classLink "DroitLine$Lot" (21 : Nat) "DroitLine$Offers") ∈ wNeed := List.mem_filter.mpr ⟨List.mem_of_getElem? (i := 224) (by decide +kernel), by decide +kernel⟩
theorem q_218 : (Jvm.Cond.instantiable "DroitLine$Offers" (3 : Nat)) ∈ wNeed := List.mem_filter.mpr ⟨List.mem_of_getElem? (i := 225) (by decide +kernel), by decide +kernel⟩
theorem q_220 : (Jvm.Cond.instanceMethod ({ cls := "DroitLine$Offers", name := "<init>", desc := "()V" } : Jvm.MethodName)) ∈ wNeed := List.mem_filter.mpr ⟨List.mem_of_getElem? (i := 227) (by decide +kernel), by decide +kernel⟩
theorem q_221 : (Jvm.Cond.code ({ cls := "DroitLine$Offers", name := "<init>", desc := "()V" } : Jvm.MethodName) prog_3_method_1_code (1 : Nat) (Option.none : Option Jvm.ClassFile.FieldType)) ∈ wNeed := List.mem_filter.mpr ⟨List.mem_of_getElem? (i := 228) (by decide +kernel), by decide +kernel⟩
theorem q_222 : (Jvm.Cond.methodLink "DroitLine$Offers" (3 : Nat) ({ cls := "java/lang/Object", name := "<init>", desc := "()V" } : Jvm.MethodName)) ∈ wNeed := List.mem_filter.mpr ⟨List.mem_of_getElem? (i := 229) (by decide +kernel), by decide +kernel⟩
theorem q_223 : (Jvm.Cond.fieldLink "DroitLine$Offers" (9 : Nat) "DroitLine$Offers" "buyers" "[I") ∈ wNeed := List.mem_filter.mpr ⟨List.mem_of_getElem? (i := 230) (by decide +kernel), by decide +kernel⟩
theorem q_224 : (Jvm.Cond.fieldLink "DroitLine$Offers" (15 : Nat) "DroitLine$Offers" "amounts" "[I") ∈ wNeed := List.mem_filter.mpr ⟨List.mem_of_getElem? (i := 231) (by decide +kernel), by decide +kernel⟩
theorem q_225 : (Jvm.Cond.fieldLink "DroitLine$Offers" (18 : Nat) "DroitLine$Offers" "count" "I") ∈ wNeed := List.mem_filter.mpr ⟨List.mem_of_getElem? (i := 232) (by decide +kernel), by decide +kernel⟩
theorem q_228 : (Jvm.Cond.laysFinal "DroitLine$Offers" "DroitLine$Offers" "buyers" "[I") ∈ wNeed := List.mem_filter.mpr ⟨List.mem_of_getElem? (i := 235) (by decide +kernel), by decide +kernel⟩
theorem q_230 : (Jvm.Cond.laysFinal "DroitLine$Offers" "DroitLine$Offers" "amounts" "[I") ∈ wNeed := List.mem_filter.mpr ⟨List.mem_of_getElem? (i := 237) (by decide +kernel), by decide +kernel⟩
theorem q_232 : (Jvm.Cond.lays "DroitLine$Offers" "DroitLine$Offers" "count" "I") ∈ wNeed := List.mem_filter.mpr ⟨List.mem_of_getElem? (i := 239) (by decide +kernel), by decide +kernel⟩
theorem q_234 : (Jvm.Cond.superclass "DroitLine$Offers" "java/lang/Object") ∈ wNeed := List.mem_filter.mpr ⟨List.mem_of_getElem? (i := 241) (by decide +kernel), by decide +kernel⟩
theorem q_235 : (Jvm.Cond.fieldLink "DroitLine$Lot" (9 : Nat) "DroitLine$Lot" "seller" "I") ∈ wNeed := List.mem_filter.mpr ⟨List.mem_of_getElem? (i := 242) (by decide +kernel), by decide +kernel⟩
theorem q_237 : (Jvm.Cond.fieldLink "DroitLine$Lot" (15 : Nat) "DroitLine$Lot" "artist" "I") ∈ wNeed := List.mem_filter.mpr ⟨List.mem_of_getElem? (i := 244) (by decide +kernel), by decide +kernel⟩
theorem q_239 : (Jvm.Cond.fieldLink "DroitLine$Lot" (24 : Nat) "DroitLine$Lot" "offers" "LDroitLine$Offers;") ∈ wNeed := List.mem_filter.mpr ⟨List.mem_of_getElem? (i := 246) (by decide +kernel), by decide +kernel⟩
theorem q_241 : (Jvm.Cond.fieldLink "DroitLine$Lot" (18 : Nat) "DroitLine$Lot" "reserve" "I") ∈ wNeed := List.mem_filter.mpr ⟨List.mem_of_getElem? (i := 248) (by decide +kernel), by decide +kernel⟩
theorem q_243 : (Jvm.Cond.fieldLink "DroitLine$Lot" (28 : Nat) "DroitLine$Lot" "state" "I") ∈ wNeed := List.mem_filter.mpr ⟨List.mem_of_getElem? (i := 250) (by decide +kernel), by decide +kernel⟩
theorem q_245 : (Jvm.Cond.fieldLink "DroitLine$Lot" (31 : Nat) "DroitLine$Lot" "winner" "I") ∈ wNeed := List.mem_filter.mpr ⟨List.mem_of_getElem? (i := 252) (by decide +kernel), by decide +kernel⟩
theorem q_247 : (Jvm.Cond.fieldLink "DroitLine$Lot" (34 : Nat) "DroitLine$Lot" "hammerPrice" "I") ∈ wNeed := List.mem_filter.mpr ⟨List.mem_of_getElem? (i := 254) (by decide +kernel), by decide +kernel⟩
theorem q_250 : (Jvm.Cond.fieldLink "DroitLine$Lot" (37 : Nat) "DroitLine$Lot" "gapBuyer" "I") ∈ wNeed := List.mem_filter.mpr ⟨List.mem_of_getElem? (i := 257) (by decide +kernel), by decide +kernel⟩
theorem q_253 : (Jvm.Cond.fieldLink "DroitLine$Lot" (43 : Nat) "DroitLine$Lot" "advanced" "I") ∈ wNeed := List.mem_filter.mpr ⟨List.mem_of_getElem? (i := 260) (by decide +kernel), by decide +kernel⟩
theorem q_257 : (Jvm.Cond.laysFinal "DroitLine$Lot" "DroitLine$Lot" "seller" "I") ∈ wNeed := List.mem_filter.mpr ⟨List.mem_of_getElem? (i := 264) (by decide +kernel), by decide +kernel⟩
theorem q_259 : (Jvm.Cond.laysFinal "DroitLine$Lot" "DroitLine$Lot" "artist" "I") ∈ wNeed := List.mem_filter.mpr ⟨List.mem_of_getElem? (i := 266) (by decide +kernel), by decide +kernel⟩
theorem q_261 : (Jvm.Cond.laysFinal "DroitLine$Lot" "DroitLine$Lot" "offers" "LDroitLine$Offers;") ∈ wNeed := List.mem_filter.mpr ⟨List.mem_of_getElem? (i := 268) (by decide +kernel), by decide +kernel⟩
theorem q_263 : (Jvm.Cond.lays "DroitLine$Lot" "DroitLine$Lot" "reserve" "I") ∈ wNeed := List.mem_filter.mpr ⟨List.mem_of_getElem? (i := 270) (by decide +kernel), by decide +kernel⟩
theorem q_265 : (Jvm.Cond.lays "DroitLine$Lot" "DroitLine$Lot" "state" "I") ∈ wNeed := List.mem_filter.mpr ⟨List.mem_of_getElem? (i := 272) (by decide +kernel), by decide +kernel⟩
theorem q_267 : (Jvm.Cond.lays "DroitLine$Lot" "DroitLine$Lot" "winner" "I") ∈ wNeed := List.mem_filter.mpr ⟨List.mem_of_getElem? (i := 274) (by decide +kernel), by decide +kernel⟩
theorem q_269 : (Jvm.Cond.lays "DroitLine$Lot" "DroitLine$Lot" "hammerPrice" "I") ∈ wNeed := List.mem_filter.mpr ⟨List.mem_of_getElem? (i := 276) (by decide +kernel), by decide +kernel⟩
theorem q_271 : (Jvm.Cond.lays "DroitLine$Lot" "DroitLine$Lot" "saleYear" "I") ∈ wNeed := List.mem_filter.mpr ⟨List.mem_of_getElem? (i := 278) (by decide +kernel), by decide +kernel⟩
theorem q_273 : (Jvm.Cond.lays "DroitLine$Lot" "DroitLine$Lot" "gapBuyer" "I") ∈ wNeed := List.mem_filter.mpr ⟨List.mem_of_getElem? (i := 280) (by decide +kernel), by decide +kernel⟩
theorem q_275 : (Jvm.Cond.lays "DroitLine$Lot" "DroitLine$Lot" "gapPrice" "I") ∈ wNeed := List.mem_filter.mpr ⟨List.mem_of_getElem? (i := 282) (by decide +kernel), by decide +kernel⟩
theorem q_277 : (Jvm.Cond.lays "DroitLine$Lot" "DroitLine$Lot" "advanced" "I") ∈ wNeed := List.mem_filter.mpr ⟨List.mem_of_getElem? (i := 284) (by decide +kernel), by decide +kernel⟩
theorem q_279 : (Jvm.Cond.lays "DroitLine$Lot" "DroitLine$Lot" "advanceDay" "I") ∈ wNeed := List.mem_filter.mpr ⟨List.mem_of_getElem? (i := 286) (by decide +kernel), by decide +kernel⟩
theorem q_281 : (Jvm.Cond.lays "DroitLine$Lot" "DroitLine$Lot" "interestAtSettling" "I") ∈ wNeed := List.mem_filter.mpr ⟨List.mem_of_getElem? (i := 288) (by decide +kernel), by decide +kernel⟩
theorem q_283 : (Jvm.Cond.superclass "DroitLine$Lot" "java/lang/Object") ∈ wNeed := List.mem_filter.mpr ⟨List.mem_of_getElem? (i := 290) (by decide +kernel), by decide +kernel⟩
theorem q_284 : (Jvm.Cond.methodLink "DroitLineLaw" (31 : Nat) ({ cls := "DroitLine", name := "bid", desc := "(III)I" } : Jvm.MethodName)) ∈ wNeed := List.mem_filter.mpr ⟨List.mem_of_getElem? (i := 291) (by decide +kernel), by decide +kernel⟩
theorem q_285 : (Jvm.Cond.instanceMethod ({ cls := "DroitLine", name := "bid", desc := "(III)I" } : Jvm.MethodName)) ∈ wNeed := List.mem_filter.mpr ⟨List.mem_of_getElem? (i := 292) (by decide +kernel), by decide +kernel⟩
theorem q_286 : (Jvm.Cond.selects "DroitLine" ({ cls := "DroitLine", name := "bid", desc := "(III)I" } : Jvm.MethodName) ({ cls := "DroitLine", name := "bid", desc := "(III)I" } : Jvm.MethodName)) ∈ wNeed := List.mem_filter.mpr ⟨List.mem_of_getElem? (i := 293) (by decide +kernel), by decide +kernel⟩
theorem q_287 : (Jvm.Cond.code ({ cls := "DroitLine", name := "bid", desc := "(III)I" } : Jvm.MethodName) prog_1_method_3_code (6 : Nat) (Option.some Jvm.ClassFile.FieldType.int)) ∈ wNeed := List.mem_filter.mpr ⟨List.mem_of_getElem? (i := 294) (by decide +kernel), by decide +kernel⟩
theorem q_288 : (Jvm.Cond.methodLink "DroitLine" (54 : Nat) ({ cls := "DroitLine", name := "findLot", desc := "(I)LDroitLine$Lot;" } : Jvm.MethodName)) ∈ wNeed := List.mem_filter.mpr ⟨List.mem_of_getElem? (i := 295) (by decide +kernel), by decide +kernel⟩
theorem q_290 : (Jvm.Cond.instanceMethod ({ cls := "DroitLine", name := "findLot", desc := "(I)LDroitLine$Lot;" } : Jvm.MethodName)) ∈ wNeed := List.mem_filter.mpr ⟨List.mem_of_getElem? (i := 297) (by decide +kernel), by decide +kernel⟩
theorem q_291 : (Jvm.Cond.code ({ cls := "DroitLine", name := "findLot", desc := "(I)LDroitLine$Lot;" } : Jvm.MethodName) prog_1_method_29_code (3 : Nat) (Option.some (Jvm.ClassFile.FieldType.object "DroitLine$Lot"))) ∈ wNeed := List.mem_filter.mpr ⟨List.mem_of_getElem? (i := 298) (by decide +kernel), by decide +kernel⟩
theorem q_293 : (Jvm.Cond.methodLink "DroitLine" (58 : Nat) ({ cls := "DroitLine", name := "checkBuyer", desc := "(I)V" } : Jvm.MethodName)) ∈ wNeed := List.mem_filter.mpr ⟨List.mem_of_getElem? (i := 300) (by decide +kernel), by decide +kernel⟩
theorem q_294 : (Jvm.Cond.static ({ cls := "DroitLine", name := "checkBuyer", desc := "(I)V" } : Jvm.MethodName)) ∈ wNeed := List.mem_filter.mpr ⟨List.mem_of_getElem? (i := 301) (by decide +kernel), by decide +kernel⟩
theorem q_295 : (Jvm.Cond.code ({ cls := "DroitLine", name := "checkBuyer", desc := "(I)V" } : Jvm.MethodName) prog_1_method_31_code (1 : Nat) (Option.none : Option Jvm.ClassFile.FieldType)) ∈ wNeed := List.mem_filter.mpr ⟨List.mem_of_getElem? (i := 302) (by decide +kernel), by decide +kernel⟩
theorem q_297 : (Jvm.Cond.methodLink "DroitLine" (61 : Nat) ({ cls := "DroitLine", name := "checkState", desc := "(LDroitLine$Lot;I)V" } : Jvm.MethodName)) ∈ wNeed := List.mem_filter.mpr ⟨List.mem_of_getElem? (i := 304) (by decide +kernel), by decide +kernel⟩
theorem q_298 : (Jvm.Cond.static ({ cls := "DroitLine", name := "checkState", desc := "(LDroitLine$Lot;I)V" } : Jvm.MethodName)) ∈ wNeed := List.mem_filter.mpr ⟨List.mem_of_getElem? (i := 305) (by decide +kernel), by decide +kernel⟩
theorem q_299 : (Jvm.Cond.code ({ cls := "DroitLine", name := "checkState", desc := "(LDroitLine$Lot;I)V" } : Jvm.MethodName) prog_1_method_34_code (2 : Nat) (Option.none : Option Jvm.ClassFile.FieldType)) ∈ wNeed := List.mem_filter.mpr ⟨List.mem_of_getElem? (i := 306) (by decide +kernel), by decide +kernel⟩
theorem q_301 : (Jvm.Cond.methodLink "DroitLine" (69 : Nat) ({ cls := "DroitLine$Offers", name := "leave", desc := "(II)V" } : Jvm.MethodName)) ∈ wNeed := List.mem_filter.mpr ⟨List.mem_of_getElem? (i := 308) (by decide +kernel), by decide +kernel⟩
theorem q_302 : (Jvm.Cond.instanceMethod ({ cls := "DroitLine$Offers", name := "leave", desc := "(II)V" } : Jvm.MethodName)) ∈ wNeed := List.mem_filter.mpr ⟨List.mem_of_getElem? (i := 309) (by decide +kernel), by decide +kernel⟩
theorem q_303 : (Jvm.Cond.selects "DroitLine$Offers" ({ cls := "DroitLine$Offers", name := "leave", desc := "(II)V" } : Jvm.MethodName) ({ cls := "DroitLine$Offers", name := "leave", desc := "(II)V" } : Jvm.MethodName)) ∈ wNeed := List.mem_filter.mpr ⟨List.mem_of_getElem? (i := 310) (by decide +kernel), by decide +kernel⟩
theorem q_304 : (Jvm.Cond.code ({ cls := "DroitLine$Offers", name := "leave", desc := "(II)V" } : Jvm.MethodName) prog_3_method_2_code (4 : Nat) (Option.none : Option Jvm.ClassFile.FieldType)) ∈ wNeed := List.mem_filter.mpr ⟨List.mem_of_getElem? (i := 311) (by decide +kernel), by decide +kernel⟩
theorem q_305 : (Jvm.Cond.methodLink "DroitLine$Offers" (22 : Nat) ({ cls := "DroitLine$Offers", name := "buyerAt", desc := "(I)I" } : Jvm.MethodName)) ∈ wNeed := List.mem_filter.mpr ⟨List.mem_of_getElem? (i := 312) (by decide +kernel), by decide +kernel⟩
theorem q_306 : (Jvm.Cond.instanceMethod ({ cls := "DroitLine$Offers", name := "buyerAt", desc := "(I)I" } : Jvm.MethodName)) ∈ wNeed := List.mem_filter.mpr ⟨List.mem_of_getElem? (i := 313) (by decide +kernel), by decide +kernel⟩
theorem q_307 : (Jvm.Cond.selects "DroitLine$Offers" ({ cls := "DroitLine$Offers", name := "buyerAt", desc := "(I)I" } : Jvm.MethodName) ({ cls := "DroitLine$Offers", name := "buyerAt", desc := "(I)I" } : Jvm.MethodName)) ∈ wNeed := List.mem_filter.mpr ⟨List.mem_of_getElem? (i := 314) (by decide +kernel), by decide +kernel⟩
theorem q_308 : (Jvm.Cond.code ({ cls := "DroitLine$Offers", name := "buyerAt", desc := "(I)I" } : Jvm.MethodName) prog_3_method_3_code (2 : Nat) (Option.some Jvm.ClassFile.FieldType.int)) ∈ wNeed := List.mem_filter.mpr ⟨List.mem_of_getElem? (i := 315) (by decide +kernel), by decide +kernel⟩
theorem q_309 : (Jvm.Cond.methodLink "DroitLine$Offers" (26 : Nat) ({ cls := "java/lang/Math", name := "max", desc := "(II)I" } : Jvm.MethodName)) ∈ wNeed := List.mem_filter.mpr ⟨List.mem_of_getElem? (i := 316) (by decide +kernel), by decide +kernel⟩
theorem q_310 : (Jvm.Cond.static ({ cls := "java/lang/Math", name := "max", desc := "(II)I" } : Jvm.MethodName)) ∈ wNeed := List.mem_filter.mpr ⟨List.mem_of_getElem? (i := 317) (by decide +kernel), by decide +kernel⟩
theorem q_311 : (Jvm.Cond.code ({ cls := "java/lang/Math", name := "max", desc := "(II)I" } : Jvm.MethodName) prog_10_method_65_code (2 : Nat) (Option.some Jvm.ClassFile.FieldType.int)) ∈ wNeed := List.mem_filter.mpr ⟨List.mem_of_getElem? (i := 318) (by decide +kernel), by decide +kernel⟩
theorem q_312 : (Jvm.Cond.methodLink "DroitLineLaw" (34 : Nat) ({ cls := "DroitLine", name := "hammer", desc := "(I)I" } : Jvm.MethodName)) ∈ wNeed := List.mem_filter.mpr ⟨List.mem_of_getElem? (i := 319) (by decide +kernel), by decide +kernel⟩
theorem q_313 : (Jvm.Cond.instanceMethod ({ cls := "DroitLine", name := "hammer", desc := "(I)I" } : Jvm.MethodName)) ∈ wNeed := List.mem_filter.mpr ⟨List.mem_of_getElem? (i := 320) (by decide +kernel), by decide +kernel⟩
theorem q_314 : (Jvm.Cond.selects "DroitLine" ({ cls := "DroitLine", name := "hammer", desc := "(I)I" } : Jvm.MethodName) ({ cls := "DroitLine", name := "hammer", desc := "(I)I" } : Jvm.MethodName)) ∈ wNeed := List.mem_filter.mpr ⟨List.mem_of_getElem? (i := 321) (by decide +kernel), by decide +kernel⟩
theorem q_315 : (Jvm.Cond.code ({ cls := "DroitLine", name := "hammer", desc := "(I)I" } : Jvm.MethodName) prog_1_method_4_code (6 : Nat) (Option.some Jvm.ClassFile.FieldType.int)) ∈ wNeed := List.mem_filter.mpr ⟨List.mem_of_getElem? (i := 322) (by decide +kernel), by decide +kernel⟩
theorem q_316 : (Jvm.Cond.methodLink "DroitLine" (75 : Nat) ({ cls := "DroitLine$Offers", name := "placeOfBest", desc := "()I" } : Jvm.MethodName)) ∈ wNeed := List.mem_filter.mpr ⟨List.mem_of_getElem? (i := 323) (by decide +kernel), by decide +kernel⟩
theorem q_317 : (Jvm.Cond.instanceMethod ({ cls := "DroitLine$Offers", name := "placeOfBest", desc := "()I" } : Jvm.MethodName)) ∈ wNeed := List.mem_filter.mpr ⟨List.mem_of_getElem? (i := 324) (by decide +kernel), by decide +kernel⟩
theorem q_318 : (Jvm.Cond.selects "DroitLine$Offers" ({ cls := "DroitLine$Offers", name := "placeOfBest", desc := "()I" } : Jvm.MethodName) ({ cls := "DroitLine$Offers", name := "placeOfBest", desc := "()I" } : Jvm.MethodName)) ∈ wNeed := List.mem_filter.mpr ⟨List.mem_of_getElem? (i := 325) (by decide +kernel), by decide +kernel⟩
theorem q_319 : (Jvm.Cond.code ({ cls := "DroitLine$Offers", name := "placeOfBest", desc := "()I" } : Jvm.MethodName) prog_3_method_5_code (3 : Nat) (Option.some Jvm.ClassFile.FieldType.int)) ∈ wNeed := List.mem_filter.mpr ⟨List.mem_of_getElem? (i := 326) (by decide +kernel), by decide +kernel⟩
theorem q_320 : (Jvm.Cond.methodLink "DroitLine$Offers" (32 : Nat) ({ cls := "DroitLine$Offers", name := "amountAt", desc := "(I)I" } : Jvm.MethodName)) ∈ wNeed := List.mem_filter.mpr ⟨List.mem_of_getElem? (i := 327) (by decide +kernel), by decide +kernel⟩
theorem q_321 : (Jvm.Cond.instanceMethod ({ cls := "DroitLine$Offers", name := "amountAt", desc := "(I)I" } : Jvm.MethodName)) ∈ wNeed := List.mem_filter.mpr ⟨List.mem_of_getElem? (i := 328) (by decide +kernel), by decide +kernel⟩
theorem q_322 : (Jvm.Cond.selects "DroitLine$Offers" ({ cls := "DroitLine$Offers", name := "amountAt", desc := "(I)I" } : Jvm.MethodName) ({ cls := "DroitLine$Offers", name := "amountAt", desc := "(I)I" } : Jvm.MethodName)) ∈ wNeed := List.mem_filter.mpr ⟨List.mem_of_getElem? (i := 329) (by decide +kernel), by decide +kernel⟩
theorem q_323 : (Jvm.Cond.code ({ cls := "DroitLine$Offers", name := "amountAt", desc := "(I)I" } : Jvm.MethodName) prog_3_method_4_code (2 : Nat) (Option.some Jvm.ClassFile.FieldType.int)) ∈ wNeed := List.mem_filter.mpr ⟨List.mem_of_getElem? (i := 330) (by decide +kernel), by decide +kernel⟩
theorem q_324 : (Jvm.Cond.methodLink "DroitLine" (79 : Nat) ({ cls := "DroitLine$Offers", name := "amountAt", desc := "(I)I" } : Jvm.MethodName)) ∈ wNeed := List.mem_filter.mpr ⟨List.mem_of_getElem? (i := 331) (by decide +kernel), by decide +kernel⟩
theorem q_325 : (Jvm.Cond.methodLink "DroitLine" (88 : Nat) ({ cls := "DroitLine$Offers", name := "buyerAt", desc := "(I)I" } : Jvm.MethodName)) ∈ wNeed := List.mem_filter.mpr ⟨List.mem_of_getElem? (i := 332) (by decide +kernel), by decide +kernel⟩
theorem q_326 : (Jvm.Cond.methodLink "DroitLine" (94 : Nat) ({ cls := "DroitLine$Offers", name := "highestBeside", desc := "(I)I" } : Jvm.MethodName)) ∈ wNeed := List.mem_filter.mpr ⟨List.mem_of_getElem? (i := 333) (by decide +kernel), by decide +kernel⟩
theorem q_327 : (Jvm.Cond.instanceMethod ({ cls := "DroitLine$Offers", name := "highestBeside", desc := "(I)I" } : Jvm.MethodName)) ∈ wNeed := List.mem_filter.mpr ⟨List.mem_of_getElem? (i := 334) (by decide +kernel), by decide +kernel⟩
theorem q_328 : (Jvm.Cond.selects "DroitLine$Offers" ({ cls := "DroitLine$Offers", name := "highestBeside", desc := "(I)I" } : Jvm.MethodName) ({ cls := "DroitLine$Offers", name := "highestBeside", desc := "(I)I" } : Jvm.MethodName)) ∈ wNeed := List.mem_filter.mpr ⟨List.mem_of_getElem? (i := 335) (by decide +kernel), by decide +kernel⟩
theorem q_329 : (Jvm.Cond.code ({ cls := "DroitLine$Offers", name := "highestBeside", desc := "(I)I" } : Jvm.MethodName) prog_3_method_6_code (4 : Nat) (Option.some Jvm.ClassFile.FieldType.int)) ∈ wNeed := List.mem_filter.mpr ⟨List.mem_of_getElem? (i := 336) (by decide +kernel), by decide +kernel⟩
theorem q_330 : (Jvm.Cond.methodLink "DroitLine" (97 : Nat) ({ cls := "DroitLine", name := "priceFor", desc := "(III)I" } : Jvm.MethodName)) ∈ wNeed := List.mem_filter.mpr ⟨List.mem_of_getElem? (i := 337) (by decide +kernel), by decide +kernel⟩
theorem q_331 : (Jvm.Cond.static ({ cls := "DroitLine", name := "priceFor", desc := "(III)I" } : Jvm.MethodName)) ∈ wNeed := List.mem_filter.mpr ⟨List.mem_of_getElem? (i := 338) (by decide +kernel), by decide +kernel⟩
theorem q_332 : (Jvm.Cond.code ({ cls := "DroitLine", name := "priceFor", desc := "(III)I" } : Jvm.MethodName) prog_1_method_37_code (4 : Nat) (Option.some Jvm.ClassFile.FieldType.int)) ∈ wNeed := List.mem_filter.mpr ⟨List.mem_of_getElem? (i := 339) (by decide +kernel), by decide +kernel⟩
theorem q_333 : (Jvm.Cond.methodLink "DroitLine" (195 : Nat) ({ cls := "java/lang/Math", name := "min", desc := "(II)I" } : Jvm.MethodName)) ∈ wNeed := List.mem_filter.mpr ⟨List.mem_of_getElem? (i := 340) (by decide +kernel), by decide +kernel⟩
theorem q_334 : (Jvm.Cond.static ({ cls := "java/lang/Math", name := "min", desc := "(II)I" } : Jvm.MethodName)) ∈ wNeed := List.mem_filter.mpr ⟨List.mem_of_getElem? (i := 341) (by decide +kernel), by decide +kernel⟩
theorem q_335 : (Jvm.Cond.code ({ cls := "java/lang/Math", name := "min", desc := "(II)I" } : Jvm.MethodName) prog_10_method_69_code (2 : Nat) (Option.some Jvm.ClassFile.FieldType.int)) ∈ wNeed := List.mem_filter.mpr ⟨List.mem_of_getElem? (i := 342) (by decide +kernel), by decide +kernel⟩
theorem q_336 : (Jvm.Cond.methodLink "DroitLine" (201 : Nat) ({ cls := "java/lang/Math", name := "max", desc := "(II)I" } : Jvm.MethodName)) ∈ wNeed := List.mem_filter.mpr ⟨List.mem_of_getElem? (i := 343) (by decide +kernel), by decide +kernel⟩
theorem q_337 : (Jvm.Cond.methodLink "DroitLineLaw" (37 : Nat) ({ cls := "DroitLine", name := "again", desc := "(II)I" } : Jvm.MethodName)) ∈ wNeed := List.mem_filter.mpr ⟨List.mem_of_getElem? (i := 344) (by decide +kernel), by decide +kernel⟩
theorem q_338 : (Jvm.Cond.instanceMethod ({ cls := "DroitLine", name := "again", desc := "(II)I" } : Jvm.MethodName)) ∈ wNeed := List.mem_filter.mpr ⟨List.mem_of_getElem? (i := 345) (by decide +kernel), by decide +kernel⟩
theorem q_339 : (Jvm.Cond.selects "DroitLine" ({ cls := "DroitLine", name := "again", desc := "(II)I" } : Jvm.MethodName) ({ cls := "DroitLine", name := "again", desc := "(II)I" } : Jvm.MethodName)) ∈ wNeed := List.mem_filter.mpr ⟨List.mem_of_getElem? (i := 346) (by decide +kernel), by decide +kernel⟩
theorem q_340 : (Jvm.Cond.code ({ cls := "DroitLine", name := "again", desc := "(II)I" } : Jvm.MethodName) prog_1_method_5_code (5 : Nat) (Option.some Jvm.ClassFile.FieldType.int)) ∈ wNeed := List.mem_filter.mpr ⟨List.mem_of_getElem? (i := 347) (by decide +kernel), by decide +kernel⟩
theorem q_341 : (Jvm.Cond.methodLink "DroitLine" (113 : Nat) ({ cls := "DroitLine$Lot", name := "open", desc := "(I)V" } : Jvm.MethodName)) ∈ wNeed := List.mem_filter.mpr ⟨List.mem_of_getElem? (i := 348) (by decide +kernel), by decide +kernel⟩
theorem q_342 : (Jvm.Cond.instanceMethod ({ cls := "DroitLine$Lot", name := "open", desc := "(I)V" } : Jvm.MethodName)) ∈ wNeed := List.mem_filter.mpr ⟨List.mem_of_getElem? (i := 349) (by decide +kernel), by decide +kernel⟩
theorem q_343 : (Jvm.Cond.selects "DroitLine$Lot" ({ cls := "DroitLine$Lot", name := "open", desc := "(I)V" } : Jvm.MethodName) ({ cls := "DroitLine$Lot", name := "open", desc := "(I)V" } : Jvm.MethodName)) ∈ wNeed := List.mem_filter.mpr ⟨List.mem_of_getElem? (i := 350) (by decide +kernel), by decide +kernel⟩
theorem q_344 : (Jvm.Cond.code ({ cls := "DroitLine$Lot", name := "open", desc := "(I)V" } : Jvm.MethodName) prog_2_method_2_code (2 : Nat) (Option.none : Option Jvm.ClassFile.FieldType)) ∈ wNeed := List.mem_filter.mpr ⟨List.mem_of_getElem? (i := 351) (by decide +kernel), by decide +kernel⟩
theorem q_345 : (Jvm.Cond.methodLink "DroitLineLaw" (41 : Nat) ({ cls := "DroitLine", name := "pay", desc := "(I)I" } : Jvm.MethodName)) ∈ wNeed := List.mem_filter.mpr ⟨List.mem_of_getElem? (i := 352) (by decide +kernel), by decide +kernel⟩
theorem q_346 : (Jvm.Cond.instanceMethod ({ cls := "DroitLine", name := "pay", desc := "(I)I" } : Jvm.MethodName)) ∈ wNeed := List.mem_filter.mpr ⟨List.mem_of_getElem? (i := 353) (by decide +kernel), by decide +kernel⟩
theorem q_347 : (Jvm.Cond.selects "DroitLine" ({ cls := "DroitLine", name := "pay", desc := "(I)I" } : Jvm.MethodName) ({ cls := "DroitLine", name := "pay", desc := "(I)I" } : Jvm.MethodName)) ∈ wNeed := List.mem_filter.mpr ⟨List.mem_of_getElem? (i := 354) (by decide +kernel), by decide +kernel⟩
theorem q_348 : (Jvm.Cond.code ({ cls := "DroitLine", name := "pay", desc := "(I)I" } : Jvm.MethodName) prog_1_method_8_code (4 : Nat) (Option.some Jvm.ClassFile.FieldType.int)) ∈ wNeed := List.mem_filter.mpr ⟨List.mem_of_getElem? (i := 355) (by decide +kernel), by decide +kernel⟩
theorem q_349 : (Jvm.Cond.methodLink "DroitLine" (116 : Nat) ({ cls := "DroitLine", name := "feeFor", desc := "(I)I" } : Jvm.MethodName)) ∈ wNeed := List.mem_filter.mpr ⟨List.mem_of_getElem? (i := 356) (by decide +kernel), by decide +kernel⟩
theorem q_350 : (Jvm.Cond.static ({ cls := "DroitLine", name := "feeFor", desc := "(I)I" } : Jvm.MethodName)) ∈ wNeed := List.mem_filter.mpr ⟨List.mem_of_getElem? (i := 357) (by decide +kernel), by decide +kernel⟩
theorem q_351 : (Jvm.Cond.code ({ cls := "DroitLine", name := "feeFor", desc := "(I)I" } : Jvm.MethodName) prog_1_method_39_code (1 : Nat) (Option.some Jvm.ClassFile.FieldType.int)) ∈ wNeed := List.mem_filter.mpr ⟨List.mem_of_getElem? (i := 358) (by decide +kernel), by decide +kernel⟩
theorem q_352 : (Jvm.Cond.methodLink "DroitLine" (204 : Nat) ({ cls := "DroitLine", name := "ofBand", desc := "(IIII)I" } : Jvm.MethodName)) ∈ wNeed := List.mem_filter.mpr ⟨List.mem_of_getElem? (i := 359) (by decide +kernel), by decide +kernel⟩
theorem q_353 : (Jvm.Cond.static ({ cls := "DroitLine", name := "ofBand", desc := "(IIII)I" } : Jvm.MethodName)) ∈ wNeed := List.mem_filter.mpr ⟨List.mem_of_getElem? (i := 360) (by decide +kernel), by decide +kernel⟩
theorem q_354 : (Jvm.Cond.code ({ cls := "DroitLine", name := "ofBand", desc := "(IIII)I" } : Jvm.MethodName) prog_1_method_38_code (4 : Nat) (Option.some Jvm.ClassFile.FieldType.int)) ∈ wNeed := List.mem_filter.mpr ⟨List.mem_of_getElem? (i := 361) (by decide +kernel), by decide +kernel⟩
theorem q_355 : (Jvm.Cond.constant "DroitLine" (208 : Nat) (50000 : Int32)) ∈ wNeed := List.mem_filter.mpr ⟨List.mem_of_getElem? (i := 362) (by decide +kernel), by decide +kernel⟩
theorem q_356 : (Jvm.Cond.methodLink "DroitLine" (126 : Nat) ({ cls := "DroitLine", name := "closeGap", desc := "(LDroitLine$Lot;)V" } : Jvm.MethodName)) ∈ wNeed := List.mem_filter.mpr ⟨List.mem_of_getElem? (i := 363) (by decide +kernel), by decide +kernel⟩
theorem q_358 : (Jvm.Cond.instanceMethod ({ cls := "DroitLine", name := "closeGap", desc := "(LDroitLine$Lot;)V" } : Jvm.MethodName)) ∈ wNeed := List.mem_filter.mpr ⟨List.mem_of_getElem? (i := 365) (by decide +kernel), by decide +kernel⟩
theorem q_359 : (Jvm.Cond.code ({ cls := "DroitLine", name := "closeGap", desc := "(LDroitLine$Lot;)V" } : Jvm.MethodName) prog_1_method_44_code (2 : Nat) (Option.none : Option Jvm.ClassFile.FieldType)) ∈ wNeed := List.mem_filter.mpr ⟨List.mem_of_getElem? (i := 366) (by decide +kernel), by decide +kernel⟩
theorem q_360 : (Jvm.Cond.methodLink "DroitLine" (141 : Nat) ({ cls := "DroitLine", name := "addToDebt", desc := "(II)V" } : Jvm.MethodName)) ∈ wNeed := List.mem_filter.mpr ⟨List.mem_of_getElem? (i := 367) (by decide +kernel), by decide +kernel⟩
theorem q_362 : (Jvm.Cond.instanceMethod ({ cls := "DroitLine", name := "addToDebt", desc := "(II)V" } : Jvm.MethodName)) ∈ wNeed := List.mem_filter.mpr ⟨List.mem_of_getElem? (i := 369) (by decide +kernel), by decide +kernel⟩
theorem q_363 : (Jvm.Cond.code ({ cls := "DroitLine", name := "addToDebt", desc := "(II)V" } : Jvm.MethodName) prog_1_method_46_code (3 : Nat) (Option.none : Option Jvm.ClassFile.FieldType)) ∈ wNeed := List.mem_filter.mpr ⟨List.mem_of_getElem? (i := 370) (by decide +kernel), by decide +kernel⟩
theorem q_364 : (Jvm.Cond.methodLink "DroitLineLaw" (44 : Nat) ({ cls := "DroitLine", name := "defaults", desc := "(I)I" } : Jvm.MethodName)) ∈ wNeed := List.mem_filter.mpr ⟨List.mem_of_getElem? (i := 371) (by decide +kernel), by decide +kernel⟩
theorem q_365 : (Jvm.Cond.instanceMethod ({ cls := "DroitLine", name := "defaults", desc := "(I)I" } : Jvm.MethodName)) ∈ wNeed := List.mem_filter.mpr ⟨List.mem_of_getElem? (i := 372) (by decide +kernel), by decide +kernel⟩
theorem q_366 : (Jvm.Cond.selects "DroitLine" ({ cls := "DroitLine", name := "defaults", desc := "(I)I" } : Jvm.MethodName) ({ cls := "DroitLine", name := "defaults", desc := "(I)I" } : Jvm.MethodName)) ∈ wNeed := List.mem_filter.mpr ⟨List.mem_of_getElem? (i := 373) (by decide +kernel), by decide +kernel⟩
theorem q_367 : (Jvm.Cond.code ({ cls := "DroitLine", name := "defaults", desc := "(I)I" } : Jvm.MethodName) prog_1_method_9_code (4 : Nat) (Option.some Jvm.ClassFile.FieldType.int)) ∈ wNeed := List.mem_filter.mpr ⟨List.mem_of_getElem? (i := 374) (by decide +kernel), by decide +kernel⟩
theorem q_368 : (Jvm.Cond.methodLink "DroitLineLaw" (47 : Nat) ({ cls := "DroitLine", name := "payGaps", desc := "(I)I" } : Jvm.MethodName)) ∈ wNeed := List.mem_filter.mpr ⟨List.mem_of_getElem? (i := 375) (by decide +kernel), by decide +kernel⟩
theorem q_369 : (Jvm.Cond.instanceMethod ({ cls := "DroitLine", name := "payGaps", desc := "(I)I" } : Jvm.MethodName)) ∈ wNeed := List.mem_filter.mpr ⟨List.mem_of_getElem? (i := 376) (by decide +kernel), by decide +kernel⟩
theorem q_370 : (Jvm.Cond.selects "DroitLine" ({ cls := "DroitLine", name := "payGaps", desc := "(I)I" } : Jvm.MethodName) ({ cls := "DroitLine", name := "payGaps", desc := "(I)I" } : Jvm.MethodName)) ∈ wNeed := List.mem_filter.mpr ⟨List.mem_of_getElem? (i := 377) (by decide +kernel), by decide +kernel⟩
theorem q_371 : (Jvm.Cond.code ({ cls := "DroitLine", name := "payGaps", desc := "(I)I" } : Jvm.MethodName) prog_1_method_10_code (3 : Nat) (Option.some Jvm.ClassFile.FieldType.int)) ∈ wNeed := List.mem_filter.mpr ⟨List.mem_of_getElem? (i := 378) (by decide +kernel), by decide +kernel⟩
theorem q_372 : (Jvm.Cond.methodLink "DroitLine" (136 : Nat) ({ cls := "DroitLine", name := "owedBy", desc := "(I)I" } : Jvm.MethodName)) ∈ wNeed := List.mem_filter.mpr ⟨List.mem_of_getElem? (i := 379) (by decide +kernel), by decide +kernel⟩
theorem q_374 : (Jvm.Cond.instanceMethod ({ cls := "DroitLine", name := "owedBy", desc := "(I)I" } : Jvm.MethodName)) ∈ wNeed := List.mem_filter.mpr ⟨List.mem_of_getElem? (i := 381) (by decide +kernel), by decide +kernel⟩
theorem q_375 : (Jvm.Cond.code ({ cls := "DroitLine", name := "owedBy", desc := "(I)I" } : Jvm.MethodName) prog_1_method_45_code (2 : Nat) (Option.some Jvm.ClassFile.FieldType.int)) ∈ wNeed := List.mem_filter.mpr ⟨List.mem_of_getElem? (i := 382) (by decide +kernel), by decide +kernel⟩
theorem q_377 : (Jvm.Cond.methodLink "DroitLineLaw" (50 : Nat) ({ cls := "DroitLine", name := "advance", desc := "(II)I" } : Jvm.MethodName)) ∈ wNeed := List.mem_filter.mpr ⟨List.mem_of_getElem? (i := 384) (by decide +kernel), by decide +kernel⟩
theorem q_378 : (Jvm.Cond.instanceMethod ({ cls := "DroitLine", name := "advance", desc := "(II)I" } : Jvm.MethodName)) ∈ wNeed := List.mem_filter.mpr ⟨List.mem_of_getElem? (i := 385) (by decide +kernel), by decide +kernel⟩
theorem q_379 : (Jvm.Cond.selects "DroitLine" ({ cls := "DroitLine", name := "advance", desc := "(II)I" } : Jvm.MethodName) ({ cls := "DroitLine", name := "advance", desc := "(II)I" } : Jvm.MethodName)) ∈ wNeed := List.mem_filter.mpr ⟨List.mem_of_getElem? (i := 386) (by decide +kernel), by decide +kernel⟩
theorem q_380 : (Jvm.Cond.code ({ cls := "DroitLine", name := "advance", desc := "(II)I" } : Jvm.MethodName) prog_1_method_11_code (5 : Nat) (Option.some Jvm.ClassFile.FieldType.int)) ∈ wNeed := List.mem_filter.mpr ⟨List.mem_of_getElem? (i := 387) (by decide +kernel), by decide +kernel⟩
theorem q_382 : (Jvm.Cond.methodLink "DroitLineLaw" (53 : Nat) ({ cls := "DroitLine", name := "settle", desc := "(I)I" } : Jvm.MethodName)) ∈ wNeed := List.mem_filter.mpr ⟨List.mem_of_getElem? (i := 389) (by decide +kernel), by decide +kernel⟩
theorem q_383 : (Jvm.Cond.instanceMethod ({ cls := "DroitLine", name := "settle", desc := "(I)I" } : Jvm.MethodName)) ∈ wNeed := List.mem_filter.mpr ⟨List.mem_of_getElem? (i := 390) (by decide +kernel), by decide +kernel⟩
theorem q_384 : (Jvm.Cond.selects "DroitLine" ({ cls := "DroitLine", name := "settle", desc := "(I)I" } : Jvm.MethodName) ({ cls := "DroitLine", name := "settle", desc := "(I)I" } : Jvm.MethodName)) ∈ wNeed := List.mem_filter.mpr ⟨List.mem_of_getElem? (i := 391) (by decide +kernel), by decide +kernel⟩
theorem q_385 : (Jvm.Cond.code ({ cls := "DroitLine", name := "settle", desc := "(I)I" } : Jvm.MethodName) prog_1_method_12_code (8 : Nat) (Option.some Jvm.ClassFile.FieldType.int)) ∈ wNeed := List.mem_filter.mpr ⟨List.mem_of_getElem? (i := 392) (by decide +kernel), by decide +kernel⟩
theorem q_386 : (Jvm.Cond.methodLink "DroitLine" (158 : Nat) ({ cls := "DroitLine", name := "hundredthsOf", desc := "(I)I" } : Jvm.MethodName)) ∈ wNeed := List.mem_filter.mpr ⟨List.mem_of_getElem? (i := 393) (by decide +kernel), by decide +kernel⟩
theorem q_388 : (Jvm.Cond.instanceMethod ({ cls := "DroitLine", name := "hundredthsOf", desc := "(I)I" } : Jvm.MethodName)) ∈ wNeed := List.mem_filter.mpr ⟨List.mem_of_getElem? (i := 395) (by decide +kernel), by decide +kernel⟩
theorem q_389 : (Jvm.Cond.code ({ cls := "DroitLine", name := "hundredthsOf", desc := "(I)I" } : Jvm.MethodName) prog_1_method_43_code (2 : Nat) (Option.some Jvm.ClassFile.FieldType.int)) ∈ wNeed := List.mem_filter.mpr ⟨List.mem_of_getElem? (i := 396) (by decide +kernel), by decide +kernel⟩
theorem q_390 : (Jvm.Cond.methodLink "DroitLine" (161 : Nat) ({ cls := "DroitLine", name := "shareOf", desc := "(LDroitLine$Lot;)I" } : Jvm.MethodName)) ∈ wNeed := List.mem_filter.mpr ⟨List.mem_of_getElem? (i := 397) (by decide +kernel), by decide +kernel⟩
theorem q_391 : (Jvm.Cond.static ({ cls := "DroitLine", name := "shareOf", desc := "(LDroitLine$Lot;)I" } : Jvm.MethodName)) ∈ wNeed := List.mem_filter.mpr ⟨List.mem_of_getElem? (i := 398) (by decide +kernel), by decide +kernel⟩
theorem q_392 : (Jvm.Cond.code ({ cls := "DroitLine", name := "shareOf", desc := "(LDroitLine$Lot;)I" } : Jvm.MethodName) prog_1_method_40_code (3 : Nat) (Option.some Jvm.ClassFile.FieldType.int)) ∈ wNeed := List.mem_filter.mpr ⟨List.mem_of_getElem? (i := 399) (by decide +kernel), by decide +kernel⟩
theorem q_393 : (Jvm.Cond.methodLink "DroitLine" (212 : Nat) ({ cls := "DroitLine", name := "isTooLongDead", desc := "(LDroitLine$Lot;)Z" } : Jvm.MethodName)) ∈ wNeed := List.mem_filter.mpr ⟨List.mem_of_getElem? (i := 400) (by decide +kernel), by decide +kernel⟩
theorem q_394 : (Jvm.Cond.static ({ cls := "DroitLine", name := "isTooLongDead", desc := "(LDroitLine$Lot;)Z" } : Jvm.MethodName)) ∈ wNeed := List.mem_filter.mpr ⟨List.mem_of_getElem? (i := 401) (by decide +kernel), by decide +kernel⟩
theorem q_395 : (Jvm.Cond.code ({ cls := "DroitLine", name := "isTooLongDead", desc := "(LDroitLine$Lot;)Z" } : Jvm.MethodName) prog_1_method_41_code (1 : Nat) (Option.some Jvm.ClassFile.FieldType.boolean)) ∈ wNeed := List.mem_filter.mpr ⟨List.mem_of_getElem? (i := 402) (by decide +kernel), by decide +kernel⟩
theorem q_396 : (Jvm.Cond.constant "DroitLine" (216 : Nat) (200000 : Int32)) ∈ wNeed := List.mem_filter.mpr ⟨List.mem_of_getElem? (i := 403) (by decide +kernel), by decide +kernel⟩
theorem q_397 : (Jvm.Cond.methodLink "DroitLine" (165 : Nat) ({ cls := "DroitLine", name := "interestOf", desc := "(LDroitLine$Lot;)I" } : Jvm.MethodName)) ∈ wNeed := List.mem_filter.mpr ⟨List.mem_of_getElem? (i := 404) (by decide +kernel), by decide +kernel⟩
theorem q_399 : (Jvm.Cond.instanceMethod ({ cls := "DroitLine", name := "interestOf", desc := "(LDroitLine$Lot;)I" } : Jvm.MethodName)) ∈ wNeed := List.mem_filter.mpr ⟨List.mem_of_getElem? (i := 406) (by decide +kernel), by decide +kernel⟩
theorem q_400 : (Jvm.Cond.code ({ cls := "DroitLine", name := "interestOf", desc := "(LDroitLine$Lot;)I" } : Jvm.MethodName) prog_1_method_42_code (4 : Nat) (Option.some Jvm.ClassFile.FieldType.int)) ∈ wNeed := List.mem_filter.mpr ⟨List.mem_of_getElem? (i := 407) (by decide +kernel), by decide +kernel⟩
theorem q_401 : (Jvm.Cond.constantLong "DroitLine" (217 : Nat) (100000 : Int64)) ∈ wNeed := List.mem_filter.mpr ⟨List.mem_of_getElem? (i := 408) (by decide +kernel), by decide +kernel⟩
theorem q_402 : (Jvm.Cond.methodLink "DroitLineLaw" (56 : Nat) ({ cls := "DroitLine", name := "days", desc := "(I)I" } : Jvm.MethodName)) ∈ wNeed := List.mem_filter.mpr ⟨List.mem_of_getElem? (i := 409) (by decide +kernel), by decide +kernel⟩
theorem q_403 : (Jvm.Cond.instanceMethod ({ cls := "DroitLine", name := "days", desc := "(I)I" } : Jvm.MethodName)) ∈ wNeed := List.mem_filter.mpr ⟨List.mem_of_getElem? (i := 410) (by decide +kernel), by decide +kernel⟩
theorem q_404 : (Jvm.Cond.selects "DroitLine" ({ cls := "DroitLine", name := "days", desc := "(I)I" } : Jvm.MethodName) ({ cls := "DroitLine", name := "days", desc := "(I)I" } : Jvm.MethodName)) ∈ wNeed := List.mem_filter.mpr ⟨List.mem_of_getElem? (i := 411) (by decide +kernel), by decide +kernel⟩
theorem q_405 : (Jvm.Cond.code ({ cls := "DroitLine", name := "days", desc := "(I)I" } : Jvm.MethodName) prog_1_method_15_code (2 : Nat) (Option.some Jvm.ClassFile.FieldType.int)) ∈ wNeed := List.mem_filter.mpr ⟨List.mem_of_getElem? (i := 412) (by decide +kernel), by decide +kernel⟩
theorem q_407 : (Jvm.Cond.constant "DroitLineLaw" (61 : Nat) (-2000000011 : Int32)) ∈ wNeed := List.mem_filter.mpr ⟨List.mem_of_getElem? (i := 414) (by decide +kernel), by decide +kernel⟩
theorem q_408 : (Jvm.Cond.constant "DroitLineLaw" (64 : Nat) (-2000000012 : Int32)) ∈ wNeed := List.mem_filter.mpr ⟨List.mem_of_getElem? (i := 415) (by decide +kernel), by decide +kernel⟩
theorem q_409 : (Jvm.Cond.constant "DroitLineLaw" (67 : Nat) (-2000000013 : Int32)) ∈ wNeed := List.mem_filter.mpr ⟨List.mem_of_getElem? (i := 416) (by decide +kernel), by decide +kernel⟩
theorem q_410 : (Jvm.Cond.methodLink "DroitLineLaw" (124 : Nat) ({ cls := "DroitLineLaw", name := "isHouse", desc := "(LDroitLine;[I[I[I[I[II)Z" } : Jvm.MethodName)) ∈ wNeed := List.mem_filter.mpr ⟨List.mem_of_getElem? (i := 417) (by decide +kernel), by decide +kernel⟩
theorem q_411 : (Jvm.Cond.static ({ cls := "DroitLineLaw", name := "isHouse", desc := "(LDroitLine;[I[I[I[I[II)Z" } : Jvm.MethodName)) ∈ wNeed := List.mem_filter.mpr ⟨List.mem_of_getElem? (i := 418) (by decide +kernel), by decide +kernel⟩
theorem q_412 : (Jvm.Cond.code ({ cls := "DroitLineLaw", name := "isHouse", desc := "(LDroitLine;[I[I[I[I[II)Z" } : Jvm.MethodName) method_11_code (19 : Nat) (Option.some Jvm.ClassFile.FieldType.boolean)) ∈ wNeed := List.mem_filter.mpr ⟨List.mem_of_getElem? (i := 419) (by decide +kernel), by decide +kernel⟩
theorem q_413 : (Jvm.Cond.methodLink "DroitLineLaw" (68 : Nat) ({ cls := "DroitLine", name := "lots", desc := "()I" } : Jvm.MethodName)) ∈ wNeed := List.mem_filter.mpr ⟨List.mem_of_getElem? (i := 420) (by decide +kernel), by decide +kernel⟩
theorem q_414 : (Jvm.Cond.instanceMethod ({ cls := "DroitLine", name := "lots", desc := "()I" } : Jvm.MethodName)) ∈ wNeed := List.mem_filter.mpr ⟨List.mem_of_getElem? (i := 421) (by decide +kernel), by decide +kernel⟩
theorem q_415 : (Jvm.Cond.selects "DroitLine" ({ cls := "DroitLine", name := "lots", desc := "()I" } : Jvm.MethodName) ({ cls := "DroitLine", name := "lots", desc := "()I" } : Jvm.MethodName)) ∈ wNeed := List.mem_filter.mpr ⟨List.mem_of_getElem? (i := 422) (by decide +kernel), by decide +kernel⟩
theorem q_416 : (Jvm.Cond.code ({ cls := "DroitLine", name := "lots", desc := "()I" } : Jvm.MethodName) prog_1_method_6_code (1 : Nat) (Option.some Jvm.ClassFile.FieldType.int)) ∈ wNeed := List.mem_filter.mpr ⟨List.mem_of_getElem? (i := 423) (by decide +kernel), by decide +kernel⟩
theorem q_417 : (Jvm.Cond.methodLink "DroitLineLaw" (72 : Nat) ({ cls := "DroitLine", name := "state", desc := "(I)I" } : Jvm.MethodName)) ∈ wNeed := List.mem_filter.mpr ⟨List.mem_of_getElem? (i := 424) (by decide +kernel), by decide +kernel⟩
theorem q_418 : (Jvm.Cond.instanceMethod ({ cls := "DroitLine", name := "state", desc := "(I)I" } : Jvm.MethodName)) ∈ wNeed := List.mem_filter.mpr ⟨List.mem_of_getElem? (i := 425) (by decide +kernel), by decide +kernel⟩
theorem q_419 : (Jvm.Cond.selects "DroitLine" ({ cls := "DroitLine", name := "state", desc := "(I)I" } : Jvm.MethodName) ({ cls := "DroitLine", name := "state", desc := "(I)I" } : Jvm.MethodName)) ∈ wNeed := List.mem_filter.mpr ⟨List.mem_of_getElem? (i := 426) (by decide +kernel), by decide +kernel⟩
theorem q_420 : (Jvm.Cond.code ({ cls := "DroitLine", name := "state", desc := "(I)I" } : Jvm.MethodName) prog_1_method_16_code (2 : Nat) (Option.some Jvm.ClassFile.FieldType.int)) ∈ wNeed := List.mem_filter.mpr ⟨List.mem_of_getElem? (i := 427) (by decide +kernel), by decide +kernel⟩
theorem q_421 : (Jvm.Cond.methodLink "DroitLineLaw" (75 : Nat) ({ cls := "DroitLine", name := "buyerOf", desc := "(I)I" } : Jvm.MethodName)) ∈ wNeed := List.mem_filter.mpr ⟨List.mem_of_getElem? (i := 428) (by decide +kernel), by decide +kernel⟩
theorem q_422 : (Jvm.Cond.instanceMethod ({ cls := "DroitLine", name := "buyerOf", desc := "(I)I" } : Jvm.MethodName)) ∈ wNeed := List.mem_filter.mpr ⟨List.mem_of_getElem? (i := 429) (by decide +kernel), by decide +kernel⟩
theorem q_423 : (Jvm.Cond.selects "DroitLine" ({ cls := "DroitLine", name := "buyerOf", desc := "(I)I" } : Jvm.MethodName) ({ cls := "DroitLine", name := "buyerOf", desc := "(I)I" } : Jvm.MethodName)) ∈ wNeed := List.mem_filter.mpr ⟨List.mem_of_getElem? (i := 430) (by decide +kernel), by decide +kernel⟩
theorem q_424 : (Jvm.Cond.code ({ cls := "DroitLine", name := "buyerOf", desc := "(I)I" } : Jvm.MethodName) prog_1_method_17_code (2 : Nat) (Option.some Jvm.ClassFile.FieldType.int)) ∈ wNeed := List.mem_filter.mpr ⟨List.mem_of_getElem? (i := 431) (by decide +kernel), by decide +kernel⟩
theorem q_425 : (Jvm.Cond.methodLink "DroitLineLaw" (78 : Nat) ({ cls := "DroitLine", name := "price", desc := "(I)I" } : Jvm.MethodName)) ∈ wNeed := List.mem_filter.mpr ⟨List.mem_of_getElem? (i := 432) (by decide +kernel), by decide +kernel⟩
theorem q_426 : (Jvm.Cond.instanceMethod ({ cls := "DroitLine", name := "price", desc := "(I)I" } : Jvm.MethodName)) ∈ wNeed := List.mem_filter.mpr ⟨List.mem_of_getElem? (i := 433) (by decide +kernel), by decide +kernel⟩
theorem q_427 : (Jvm.Cond.selects "DroitLine" ({ cls := "DroitLine", name := "price", desc := "(I)I" } : Jvm.MethodName) ({ cls := "DroitLine", name := "price", desc := "(I)I" } : Jvm.MethodName)) ∈ wNeed := List.mem_filter.mpr ⟨List.mem_of_getElem? (i := 434) (by decide +kernel), by decide +kernel⟩
theorem q_428 : (Jvm.Cond.code ({ cls := "DroitLine", name := "price", desc := "(I)I" } : Jvm.MethodName) prog_1_method_18_code (2 : Nat) (Option.some Jvm.ClassFile.FieldType.int)) ∈ wNeed := List.mem_filter.mpr ⟨List.mem_of_getElem? (i := 435) (by decide +kernel), by decide +kernel⟩
theorem q_429 : (Jvm.Cond.methodLink "DroitLineLaw" (81 : Nat) ({ cls := "DroitLine", name := "bids", desc := "(I)I" } : Jvm.MethodName)) ∈ wNeed := List.mem_filter.mpr ⟨List.mem_of_getElem? (i := 436) (by decide +kernel), by decide +kernel⟩
theorem q_430 : (Jvm.Cond.instanceMethod ({ cls := "DroitLine", name := "bids", desc := "(I)I" } : Jvm.MethodName)) ∈ wNeed := List.mem_filter.mpr ⟨List.mem_of_getElem? (i := 437) (by decide +kernel), by decide +kernel⟩
theorem q_431 : (Jvm.Cond.selects "DroitLine" ({ cls := "DroitLine", name := "bids", desc := "(I)I" } : Jvm.MethodName) ({ cls := "DroitLine", name := "bids", desc := "(I)I" } : Jvm.MethodName)) ∈ wNeed := List.mem_filter.mpr ⟨List.mem_of_getElem? (i := 438) (by decide +kernel), by decide +kernel⟩
theorem q_432 : (Jvm.Cond.code ({ cls := "DroitLine", name := "bids", desc := "(I)I" } : Jvm.MethodName) prog_1_method_19_code (2 : Nat) (Option.some Jvm.ClassFile.FieldType.int)) ∈ wNeed := List.mem_filter.mpr ⟨List.mem_of_getElem? (i := 439) (by decide +kernel), by decide +kernel⟩
theorem q_433 : (Jvm.Cond.methodLink "DroitLineLaw" (84 : Nat) ({ cls := "DroitLine", name := "share", desc := "(I)I" } : Jvm.MethodName)) ∈ wNeed := List.mem_filter.mpr ⟨List.mem_of_getElem? (i := 440) (by decide +kernel), by decide +kernel⟩
theorem q_434 : (Jvm.Cond.instanceMethod ({ cls := "DroitLine", name := "share", desc := "(I)I" } : Jvm.MethodName)) ∈ wNeed := List.mem_filter.mpr ⟨List.mem_of_getElem? (i := 441) (by decide +kernel), by decide +kernel⟩
theorem q_435 : (Jvm.Cond.selects "DroitLine" ({ cls := "DroitLine", name := "share", desc := "(I)I" } : Jvm.MethodName) ({ cls := "DroitLine", name := "share", desc := "(I)I" } : Jvm.MethodName)) ∈ wNeed := List.mem_filter.mpr ⟨List.mem_of_getElem? (i := 442) (by decide +kernel), by decide +kernel⟩
theorem q_436 : (Jvm.Cond.code ({ cls := "DroitLine", name := "share", desc := "(I)I" } : Jvm.MethodName) prog_1_method_21_code (2 : Nat) (Option.some Jvm.ClassFile.FieldType.int)) ∈ wNeed := List.mem_filter.mpr ⟨List.mem_of_getElem? (i := 443) (by decide +kernel), by decide +kernel⟩
theorem q_437 : (Jvm.Cond.methodLink "DroitLineLaw" (90 : Nat) ({ cls := "DroitLine", name := "interest", desc := "(I)I" } : Jvm.MethodName)) ∈ wNeed := List.mem_filter.mpr ⟨List.mem_of_getElem? (i := 444) (by decide +kernel), by decide +kernel⟩
theorem q_438 : (Jvm.Cond.instanceMethod ({ cls := "DroitLine", name := "interest", desc := "(I)I" } : Jvm.MethodName)) ∈ wNeed := List.mem_filter.mpr ⟨List.mem_of_getElem? (i := 445) (by decide +kernel), by decide +kernel⟩
theorem q_439 : (Jvm.Cond.selects "DroitLine" ({ cls := "DroitLine", name := "interest", desc := "(I)I" } : Jvm.MethodName) ({ cls := "DroitLine", name := "interest", desc := "(I)I" } : Jvm.MethodName)) ∈ wNeed := List.mem_filter.mpr ⟨List.mem_of_getElem? (i := 446) (by decide +kernel), by decide +kernel⟩
theorem q_440 : (Jvm.Cond.code ({ cls := "DroitLine", name := "interest", desc := "(I)I" } : Jvm.MethodName) prog_1_method_22_code (2 : Nat) (Option.some Jvm.ClassFile.FieldType.int)) ∈ wNeed := List.mem_filter.mpr ⟨List.mem_of_getElem? (i := 447) (by decide +kernel), by decide +kernel⟩
theorem q_441 : (Jvm.Cond.methodLink "DroitLineLaw" (99 : Nat) ({ cls := "DroitLine", name := "owes", desc := "(I)I" } : Jvm.MethodName)) ∈ wNeed := List.mem_filter.mpr ⟨List.mem_of_getElem? (i := 448) (by decide +kernel), by decide +kernel⟩
theorem q_442 : (Jvm.Cond.instanceMethod ({ cls := "DroitLine", name := "owes", desc := "(I)I" } : Jvm.MethodName)) ∈ wNeed := List.mem_filter.mpr ⟨List.mem_of_getElem? (i := 449) (by decide +kernel), by decide +kernel⟩
theorem q_443 : (Jvm.Cond.selects "DroitLine" ({ cls := "DroitLine", name := "owes", desc := "(I)I" } : Jvm.MethodName) ({ cls := "DroitLine", name := "owes", desc := "(I)I" } : Jvm.MethodName)) ∈ wNeed := List.mem_filter.mpr ⟨List.mem_of_getElem? (i := 450) (by decide +kernel), by decide +kernel⟩
theorem q_444 : (Jvm.Cond.code ({ cls := "DroitLine", name := "owes", desc := "(I)I" } : Jvm.MethodName) prog_1_method_23_code (2 : Nat) (Option.some Jvm.ClassFile.FieldType.int)) ∈ wNeed := List.mem_filter.mpr ⟨List.mem_of_getElem? (i := 451) (by decide +kernel), by decide +kernel⟩
theorem q_445 : (Jvm.Cond.constant "DroitLineLaw" (102 : Nat) (1000001 : Int32)) ∈ wNeed := List.mem_filter.mpr ⟨List.mem_of_getElem? (i := 452) (by decide +kernel), by decide +kernel⟩
theorem q_446 : (Jvm.Cond.methodLink "DroitLineLaw" (103 : Nat) ({ cls := "DroitLine", name := "in", desc := "()J" } : Jvm.MethodName)) ∈ wNeed := List.mem_filter.mpr ⟨List.mem_of_getElem? (i := 453) (by decide +kernel), by decide +kernel⟩
theorem q_447 : (Jvm.Cond.instanceMethod ({ cls := "DroitLine", name := "in", desc := "()J" } : Jvm.MethodName)) ∈ wNeed := List.mem_filter.mpr ⟨List.mem_of_getElem? (i := 454) (by decide +kernel), by decide +kernel⟩
theorem q_448 : (Jvm.Cond.selects "DroitLine" ({ cls := "DroitLine", name := "in", desc := "()J" } : Jvm.MethodName) ({ cls := "DroitLine", name := "in", desc := "()J" } : Jvm.MethodName)) ∈ wNeed := List.mem_filter.mpr ⟨List.mem_of_getElem? (i := 455) (by decide +kernel), by decide +kernel⟩
theorem q_449 : (Jvm.Cond.code ({ cls := "DroitLine", name := "in", desc := "()J" } : Jvm.MethodName) prog_1_method_24_code (1 : Nat) (Option.some Jvm.ClassFile.FieldType.long)) ∈ wNeed := List.mem_filter.mpr ⟨List.mem_of_getElem? (i := 456) (by decide +kernel), by decide +kernel⟩
theorem q_450 : (Jvm.Cond.methodLink "DroitLineLaw" (107 : Nat) ({ cls := "DroitLine", name := "out", desc := "()J" } : Jvm.MethodName)) ∈ wNeed := List.mem_filter.mpr ⟨List.mem_of_getElem? (i := 457) (by decide +kernel), by decide +kernel⟩
theorem q_451 : (Jvm.Cond.instanceMethod ({ cls := "DroitLine", name := "out", desc := "()J" } : Jvm.MethodName)) ∈ wNeed := List.mem_filter.mpr ⟨List.mem_of_getElem? (i := 458) (by decide +kernel), by decide +kernel⟩
theorem q_452 : (Jvm.Cond.selects "DroitLine" ({ cls := "DroitLine", name := "out", desc := "()J" } : Jvm.MethodName) ({ cls := "DroitLine", name := "out", desc := "()J" } : Jvm.MethodName)) ∈ wNeed := List.mem_filter.mpr ⟨List.mem_of_getElem? (i := 459) (by decide +kernel), by decide +kernel⟩
theorem q_453 : (Jvm.Cond.code ({ cls := "DroitLine", name := "out", desc := "()J" } : Jvm.MethodName) prog_1_method_25_code (1 : Nat) (Option.some Jvm.ClassFile.FieldType.long)) ∈ wNeed := List.mem_filter.mpr ⟨List.mem_of_getElem? (i := 460) (by decide +kernel), by decide +kernel⟩
theorem q_454 : (Jvm.Cond.methodLink "DroitLineLaw" (110 : Nat) ({ cls := "DroitLine", name := "kept", desc := "()J" } : Jvm.MethodName)) ∈ wNeed := List.mem_filter.mpr ⟨List.mem_of_getElem? (i := 461) (by decide +kernel), by decide +kernel⟩
theorem q_455 : (Jvm.Cond.instanceMethod ({ cls := "DroitLine", name := "kept", desc := "()J" } : Jvm.MethodName)) ∈ wNeed := List.mem_filter.mpr ⟨List.mem_of_getElem? (i := 462) (by decide +kernel), by decide +kernel⟩
theorem q_456 : (Jvm.Cond.selects "DroitLine" ({ cls := "DroitLine", name := "kept", desc := "()J" } : Jvm.MethodName) ({ cls := "DroitLine", name := "kept", desc := "()J" } : Jvm.MethodName)) ∈ wNeed := List.mem_filter.mpr ⟨List.mem_of_getElem? (i := 463) (by decide +kernel), by decide +kernel⟩
theorem q_457 : (Jvm.Cond.code ({ cls := "DroitLine", name := "kept", desc := "()J" } : Jvm.MethodName) prog_1_method_26_code (1 : Nat) (Option.some Jvm.ClassFile.FieldType.long)) ∈ wNeed := List.mem_filter.mpr ⟨List.mem_of_getElem? (i := 464) (by decide +kernel), by decide +kernel⟩
theorem q_458 : (Jvm.Cond.methodLink "DroitLineLaw" (113 : Nat) ({ cls := "DroitLine", name := "held", desc := "()J" } : Jvm.MethodName)) ∈ wNeed := List.mem_filter.mpr ⟨List.mem_of_getElem? (i := 465) (by decide +kernel), by decide +kernel⟩
theorem q_459 : (Jvm.Cond.instanceMethod ({ cls := "DroitLine", name := "held", desc := "()J" } : Jvm.MethodName)) ∈ wNeed := List.mem_filter.mpr ⟨List.mem_of_getElem? (i := 466) (by decide +kernel), by decide +kernel⟩
theorem q_460 : (Jvm.Cond.selects "DroitLine" ({ cls := "DroitLine", name := "held", desc := "()J" } : Jvm.MethodName) ({ cls := "DroitLine", name := "held", desc := "()J" } : Jvm.MethodName)) ∈ wNeed := List.mem_filter.mpr ⟨List.mem_of_getElem? (i := 467) (by decide +kernel), by decide +kernel⟩
theorem q_461 : (Jvm.Cond.code ({ cls := "DroitLine", name := "held", desc := "()J" } : Jvm.MethodName) prog_1_method_27_code (1 : Nat) (Option.some Jvm.ClassFile.FieldType.long)) ∈ wNeed := List.mem_filter.mpr ⟨List.mem_of_getElem? (i := 468) (by decide +kernel), by decide +kernel⟩
theorem q_462 : (Jvm.Cond.methodLink "DroitLineLaw" (116 : Nat) ({ cls := "DroitLine", name := "heldByLots", desc := "()J" } : Jvm.MethodName)) ∈ wNeed := List.mem_filter.mpr ⟨List.mem_of_getElem? (i := 469) (by decide +kernel), by decide +kernel⟩
theorem q_463 : (Jvm.Cond.instanceMethod ({ cls := "DroitLine", name := "heldByLots", desc := "()J" } : Jvm.MethodName)) ∈ wNeed := List.mem_filter.mpr ⟨List.mem_of_getElem? (i := 470) (by decide +kernel), by decide +kernel⟩
theorem q_464 : (Jvm.Cond.selects "DroitLine" ({ cls := "DroitLine", name := "heldByLots", desc := "()J" } : Jvm.MethodName) ({ cls := "DroitLine", name := "heldByLots", desc := "()J" } : Jvm.MethodName)) ∈ wNeed := List.mem_filter.mpr ⟨List.mem_of_getElem? (i := 471) (by decide +kernel), by decide +kernel⟩
theorem q_465 : (Jvm.Cond.code ({ cls := "DroitLine", name := "heldByLots", desc := "()J" } : Jvm.MethodName) prog_1_method_28_code (7 : Nat) (Option.some Jvm.ClassFile.FieldType.long)) ∈ wNeed := List.mem_filter.mpr ⟨List.mem_of_getElem? (i := 472) (by decide +kernel), by decide +kernel⟩
theorem q_466 : (Jvm.Cond.methodLink "DroitLine" (173 : Nat) ({ cls := "DroitLine$Lot", name := "heldForIt", desc := "()I" } : Jvm.MethodName)) ∈ wNeed := List.mem_filter.mpr ⟨List.mem_of_getElem? (i := 473) (by decide +kernel), by decide +kernel⟩
theorem q_467 : (Jvm.Cond.instanceMethod ({ cls := "DroitLine$Lot", name := "heldForIt", desc := "()I" } : Jvm.MethodName)) ∈ wNeed := List.mem_filter.mpr ⟨List.mem_of_getElem? (i := 474) (by decide +kernel), by decide +kernel⟩
theorem q_468 : (Jvm.Cond.selects "DroitLine$Lot" ({ cls := "DroitLine$Lot", name := "heldForIt", desc := "()I" } : Jvm.MethodName) ({ cls := "DroitLine$Lot", name := "heldForIt", desc := "()I" } : Jvm.MethodName)) ∈ wNeed := List.mem_filter.mpr ⟨List.mem_of_getElem? (i := 475) (by decide +kernel), by decide +kernel⟩
theorem q_469 : (Jvm.Cond.code ({ cls := "DroitLine$Lot", name := "heldForIt", desc := "()I" } : Jvm.MethodName) prog_2_method_3_code (1 : Nat) (Option.some Jvm.ClassFile.FieldType.int)) ∈ wNeed := List.mem_filter.mpr ⟨List.mem_of_getElem? (i := 476) (by decide +kernel), by decide +kernel⟩
theorem q_470 : (Jvm.Cond.methodLink "DroitLineLaw" (119 : Nat) ({ cls := "DroitLine", name := "callOf", desc := "(I)I" } : Jvm.MethodName)) ∈ wNeed := List.mem_filter.mpr ⟨List.mem_of_getElem? (i := 477) (by decide +kernel), by decide +kernel⟩
theorem q_471 : (Jvm.Cond.instanceMethod ({ cls := "DroitLine", name := "callOf", desc := "(I)I" } : Jvm.MethodName)) ∈ wNeed := List.mem_filter.mpr ⟨List.mem_of_getElem? (i := 478) (by decide +kernel), by decide +kernel⟩
theorem q_472 : (Jvm.Cond.selects "DroitLine" ({ cls := "DroitLine", name := "callOf", desc := "(I)I" } : Jvm.MethodName) ({ cls := "DroitLine", name := "callOf", desc := "(I)I" } : Jvm.MethodName)) ∈ wNeed := List.mem_filter.mpr ⟨List.mem_of_getElem? (i := 479) (by decide +kernel), by decide +kernel⟩
theorem q_473 : (Jvm.Cond.code ({ cls := "DroitLine", name := "callOf", desc := "(I)I" } : Jvm.MethodName) prog_1_method_7_code (2 : Nat) (Option.some Jvm.ClassFile.FieldType.int)) ∈ wNeed := List.mem_filter.mpr ⟨List.mem_of_getElem? (i := 480) (by decide +kernel), by decide +kernel⟩
theorem q_474 : (Jvm.Cond.methodLink "DroitLineLaw" (122 : Nat) ({ cls := "DroitLine", name := "fee", desc := "(I)I" } : Jvm.MethodName)) ∈ wNeed := List.mem_filter.mpr ⟨List.mem_of_getElem? (i := 481) (by decide +kernel), by decide +kernel⟩
theorem q_475 : (Jvm.Cond.instanceMethod ({ cls := "DroitLine", name := "fee", desc := "(I)I" } : Jvm.MethodName)) ∈ wNeed := List.mem_filter.mpr ⟨List.mem_of_getElem? (i := 482) (by decide +kernel), by decide +kernel⟩
theorem q_476 : (Jvm.Cond.selects "DroitLine" ({ cls := "DroitLine", name := "fee", desc := "(I)I" } : Jvm.MethodName) ({ cls := "DroitLine", name := "fee", desc := "(I)I" } : Jvm.MethodName)) ∈ wNeed := List.mem_filter.mpr ⟨List.mem_of_getElem? (i := 483) (by decide +kernel), by decide +kernel⟩
theorem q_477 : (Jvm.Cond.code ({ cls := "DroitLine", name := "fee", desc := "(I)I" } : Jvm.MethodName) prog_1_method_20_code (2 : Nat) (Option.some Jvm.ClassFile.FieldType.int)) ∈ wNeed := List.mem_filter.mpr ⟨List.mem_of_getElem? (i := 484) (by decide +kernel), by decide +kernel⟩
theorem q_478 : (Jvm.Cond.constant "DroitLineLaw" (128 : Nat) (2147483647 : Int32)) ∈ wNeed := List.mem_filter.mpr ⟨List.mem_of_getElem? (i := 485) (by decide +kernel), by decide +kernel⟩
theorem q_479 : (Jvm.Cond.constant "DroitLineLaw" (129 : Nat) (50021 : Int32)) ∈ wNeed := List.mem_filter.mpr ⟨List.mem_of_getElem? (i := 486) (by decide +kernel), by decide +kernel⟩
theorem q_480 : (Jvm.Cond.constant "DroitLineLaw" (130 : Nat) (1000000 : Int32)) ∈ wNeed := List.mem_filter.mpr ⟨List.mem_of_getElem? (i := 487) (by decide +kernel), by decide +kernel⟩
theorem q_481 : (Jvm.Cond.constant "DroitLineLaw" (148 : Nat) (77777 : Int32)) ∈ wNeed := List.mem_filter.mpr ⟨List.mem_of_getElem? (i := 488) (by decide +kernel), by decide +kernel⟩
theorem q_482 : (Jvm.Cond.sameMethod "java/lang/Throwable" "java/lang/Throwable" "fillInStackTrace" "(I)Ljava/lang/Throwable;") ∈ wNeed := List.mem_filter.mpr ⟨List.mem_of_getElem? (i := 489) (by decide +kernel), by decide +kernel⟩
theorem i_X : ∀ w ∈ u_ws "DroitLine" F_X 9, w ∈ wNeed := gi_c q_30 (gi_c q_32 (gi_c q_34 (gi_c q_36 (gi_c q_38 (gi_c q_40 (gi_c q_42 (gi_c q_44 (gi_c q_46 (fun _ h => absurd h List.not_mem_nil)))))))))
theorem i_L : ∀ w ∈ u_ws "DroitLine$Lot" F_L 13, w ∈ wNeed := gi_c q_257 (gi_c q_259 (gi_c q_261 (gi_c q_263 (gi_c q_265 (gi_c q_267 (gi_c q_269 (gi_c q_271 (gi_c q_273 (gi_c q_275 (gi_c q_277 (gi_c q_279 (gi_c q_281 (fun _ h => absurd h List.not_mem_nil)))))))))))))
theorem i_O : ∀ w ∈ u_ws "DroitLine$Offers" F_O 3, w ∈ wNeed := gi_c q_228 (gi_c q_230 (gi_c q_232 (fun _ h => absurd h List.not_mem_nil)))
end
section
/-! ===== BEGIN words of one list among another's, by their places ===== -/
theorem goodIn_r {big : List Cond} (ws : List Cond) (ps : List Nat) (hp : ws = ps.filterMap (fun i => big[i]?)) (h : ws.all goodWord = true) : GoodIn big ws := by
  intro w hw
  have h1 := List.all_eq_true.mp h w hw
  rw [hp] at hw
  obtain ⟨i, -, hi⟩ := List.mem_filterMap.mp hw
  have hm : w ∈ big := by first | exact List.mem_of_getElem? hi | exact List.getElem?_mem hi
  exact ⟨hm, good_of_word h1⟩
theorem goodIn_app {big a b : List Cond} (ha : GoodIn big a) (hb : GoodIn big b) : GoodIn big (a ++ b) := fun w h => (List.mem_append.mp h).elim (ha w) (hb w)
theorem goodIn_ca {big a b : List Cond} {c : Cond} (ha : GoodIn big (c :: a)) (hb : GoodIn big b) : GoodIn big (c :: (a ++ b)) := fun w h => (List.mem_cons.mp h).elim (fun e => ha w (List.mem_cons.mpr (Or.inl e))) (fun h => (List.mem_append.mp h).elim (fun h => ha w (List.mem_cons.mpr (Or.inr h))) (hb w))
theorem goodIn_sub {big ws : List Cond} (hm : ∀ w ∈ ws, w ∈ big) (h : ws.all goodWord = true) : GoodIn big ws := fun w hw => ⟨hm w hw, good_of_word (List.all_eq_true.mp h w hw)⟩
/-! ===== END ===== -/
/-! ===== BEGIN exceptions that leave a method, and their catching by the caller (launches without stack traces) ===== -/
section VXA
/-! The laws vx_back, vx_callV, vx_callS, vx_callSW, vx_throw0, vx_throwS follow proofs of the library, with one case more: JvmDerived/Free/Laws.lean (Back.of_free), Shelf42/LK1.lean (callV, callS), Shelf/KitTraced.lean (throwNew0V, throwNewS). -/
/-- where a method has thrown q: the class by its name, the cell, what was written, the world -/
def vx_T (XC : String → State → State → Prop) (st : State) (q : Addr) (t : State) (mc ms : Nat) (free : Addr → Prop) : Prop :=
  ∃ (E : String) (ce : Cell) (L : List Loc), XC E st t ∧ t.heap[q]? = some ce ∧ ce.vm = .none ∧ st.vm.findClass E = some ce.cls ∧ st.WarmedH t.vm ∧ st.sameButNew ({ t with vm := st.vm } : State) L mc ms ∧ ∀ z ∈ L, free z.base
def vx_Q (Qc : Array Value → State → Outcome → State → Prop) (XC : String → State → State → Prop) (mc ms : Nat) (free : Addr → Prop) : Array Value → State → Outcome → State → Prop := fun a st o t =>
  (Qc a st o t ∧ ∃ L, FrameEnd st o t L mc ms ∧ ∀ q ∈ L, free q.base) ∨ ∃ q, o = .threw q ∧ vx_T XC st q t mc ms free
/-- a callee that returns or throws -/
def vx_Met (l : Launch) (y : MethodName) (ws : List Cond) (rm : Room) (Pc : Array Value → State → Prop) (Qc : Array Value → State → Outcome → State → Prop) (XC : String → State → State → Prop) (mc ms : Nat) (free : Addr → Prop) : Prop :=
  MetFree l y (headSpec ws rm) Pc (fun _ _ _ _ _ => True) (vx_Q Qc XC mc ms free)
def vx_Post (XC : String → State → State → Prop) (mc ms : Nat) (free : Addr → Prop) : Pt → Array Value → Addr → Pt → Prop := fun A a q B =>
  ∃ (g : JFrame) (mk : MethodId) (t : State) (L : List Loc) (E : String) (ce : Cell), B.U.heap = t.heap ∧ B.U.vm = t.vm ∧ XC E (A.U.calling g mk a) t ∧ t.heap[q]? = some ce ∧ ce.vm = .none ∧ A.U.vm.findClass E = some ce.cls ∧ B.locs = A.locs ++ L ∧ (∀ z ∈ L, free z.base) ∧ B.cells = A.cells + mc ∧ B.slots = A.slots + ms
def vx_Back (l : Launch) (R : Room) (p : Program) (e : Env) (below : List Frame) (s : State) (sargs : Array Value) (y : MethodName) (len W9 : Nat)
    (Pre : Pt → Array Value → Prop) (Post : Pt → Array Value → Option Value → Pt → Prop) (PostX : Pt → Array Value → Addr → Pt → Prop) : Prop :=
  ∀ (m : MethodId) (meth : Method) (c : Code) (A : Pt) (g : JFrame) (ig : Instr) (mk : MethodId) (a : Array Value),
    Stand p l e R s m sargs below meth c A.U A.locs A.cells A.slots → g.method = m → g.locals.size = c.maxLocals → decode c.code g.pc = .ok (ig, len) →
    2 * g.monitorRoom + (g.stack.map fun v => v.category).sum ≤ W9 → A.U.methodNamed? y = some mk → Pre A a →
    (∃ (v : Option Value) (B : Pt), Stand p l e R s m sargs below meth c B.U B.locs B.cells B.slots ∧ Post A a v B ∧
      Steps p.tables e below (doInvoke e (A.U.setTop g) [] mk a).1 (B.U.setTop { g with pc := g.pc + len, stack := v.toList ++ g.stack })) ∨
    (∃ (q : Addr) (B : Pt), Stand p l e R s m sargs below meth c B.U B.locs B.cells B.slots ∧ PostX A a q B ∧
      Steps p.tables e below (doInvoke e (A.U.setTop g) [] mk a).1 ((B.U.setTop g).pushFrame (.throwing q)))
section Payer
variable {l : Launch} {R : Room} {p : Program} {e : Env} {below : List Frame} {s : State} {sargs : Array Value} {y : MethodName} {len W9 : Nat}
theorem vx_back {ws : List Cond} {rm : Room} {Pc : Array Value → State → Prop} {Qc : Array Value → State → Outcome → State → Prop} {XC : String → State → State → Prop} {mc ms : Nat} {free : Addr → Prop} {bytes : ByteArray} {maxL : Nat} {ret : Option FieldType}
    (hM : vx_Met l y ws rm Pc Qc XC mc ms free) (hblind : FrameBlind Pc) (hrc : rm.cells = mc) (hrs : rm.slots = ms)
    (hframes : rm.frames + 1 ≤ R.frames) (hlocals : W9 + (maxL + 11) + rm.locals ≤ R.locals)
    (hws : ∀ w ∈ ws, ∀ a' U, s.WarmedH U.vm → w.before a' U = true) (hcode : Cond.code y bytes maxL ret ∈ ws) (hinit : ∀ a' U, s.WarmedH U.vm → (Cond.initialized y.cls).before a' U = true) :
    vx_Back l R p e below s sargs y len W9 (PreOf R mc ms Pc) (PostOf Qc mc ms free) (vx_Post XC mc ms free) := by
  intro m meth c A g ig mk a X hg hsize hdg hW hn hp
  have h1 : (headSpec ws rm).pre.before a A.U = true := atoms_intro fun w hw => hws w hw _ _ X.warmed
  have h2 : (Cond.code y bytes maxL ret).before a A.U = true := hws _ hcode _ _ X.warmed
  have h3 : (Cond.initialized y.cls).before a A.U = true := hinit _ _ X.warmed
  have h4 : A.cells + (headSpec ws rm).room.cells ≤ R.cells := by rw [show (headSpec ws rm).room.cells = mc from hrc]; exact hp.1
  have h5 : A.slots + (headSpec ws rm).room.slots ≤ R.slots := by rw [show (headSpec ws rm).room.slots = ms from hrs]; exact hp.2.1
  have hPc : Pc a (A.U.calling g mk a) := hblind _ _ _ _ hp.2.2
  obtain ⟨U, Ls, c0, s0⟩ := A
  dsimp only [Pt.U, Pt.locs, Pt.cells, Pt.slots] at h1 h2 h3 h4 h5 X hn hPc ⊢
  obtain ⟨methY, cY, hmY, hcY, -, hlY, -, -, -, -⟩ := Cond.code_spec hn h2
  obtain ⟨kY, hkY, -⟩ := className_of_methodNamed hn
  have hinitY : kY.init = .initialized := Cond.initialized_spec (findClass_of_methodNamed hn) hkY h3
  have h : At U g.method c below := by rw [hg]; exact X.here
  have hlocals9 : W9 + (maxL + 11) + (headSpec ws rm).room.locals ≤ R.locals := hlocals
  have happ : (headSpec ws rm).appliesLoose y e.platform (U.calling g mk a) = true :=
    Spec.appliesLoose_calling (g := g) h hdg hn hkY hinitY
      (X.room_calling (g := g) (R' := (headSpec ws rm).room) hsize hmY hcY hframes (by rw [hlY]; omega) h4 h5) h1
  obtain ⟨mid, hmid⟩ := h.above
  have hfr : (U.setTop g).frames = (.java g :: mid) ++ below := by rw [State.frames_setTop' g h.top, hmid]; rfl
  obtain ⟨o, s₂, hsteps, -, hend, hq⟩ := Steps.callFree hM p X.admits X.cas X.clock (acts := []) hfr happ hPc trivial
  have hq' : vx_Q Qc XC mc ms free a (U.calling g mk a) o s₂ := hq
  rw [State.frames_setTop' g h.top] at hend
  obtain ⟨g₀, hg0⟩ := Option.isSome_iff_exists.mp h.top
  obtain ⟨r, hr⟩ := State.topJava?_eq_some.mp hg0
  have hr' : (({ U with heap := s₂.heap, slotsUsed := s₂.slotsUsed } : State).setVm s₂.vm).frames = .java g₀ :: r := hr
  rcases hq' with ⟨hqc, L, hfe, hL⟩ | ⟨q, rfl, E, ce, L, hx, hce, hcv, hcl, hW₂, hsm, hL⟩
  · obtain ⟨⟨v, rfl⟩, hW₂, e2, q2, q3, q4, q5, q6⟩ := id hfe
    have e3 : s₂ = ({ (U.calling g mk a).setFrames s₂.frames with heap := s₂.heap, slotsUsed := s₂.slotsUsed } : State).setVm s₂.vm := by
      have : s₂ = ({ s₂ with vm := (U.calling g mk a).vm } : State).setVm s₂.vm := rfl
      rw [e2] at this
      exact this
    obtain ⟨c₂, i₂, len₂, hc₂, hd₂, hf₂⟩ := hend
    have hW' : U.WarmedH s₂.vm := hW₂
    have hcc : c₂ = c := by
      have h1 : s₂.code? g.method = U.code? g.method := by
        rw [State.code?_eq, State.code?_eq, hW'.alike.method?]
      exact Option.some.inj (hc₂.symm.trans (h1.trans h.code))
    subst hcc
    have hlen : len₂ = len := by rw [hdg] at hd₂; cases hd₂; rfl
    subst hlen
    have hs₂ : s₂ = (({ U with heap := s₂.heap, slotsUsed := s₂.slotsUsed } : State).setVm s₂.vm).setTop { g with pc := g.pc + len₂, stack := v.toList ++ g.stack } := by
      refine e3.trans ?_
      rw [hf₂, State.calling_eq h.top, State.setFrames_setFrames, State.setTop_of_frames _ hr', hr]
      rfl
    have hsame : U.sameButNew ({ U with heap := s₂.heap, slotsUsed := s₂.slotsUsed } : State) L mc ms := by
      refine ⟨?_, q2, q3, q4, q5, q6⟩
      obtain ⟨t, ht, -⟩ := State.frames_cons hr
      show ({ U with heap := s₂.heap, slotsUsed := s₂.slotsUsed } : State) = { U.setFrames U.frames with heap := s₂.heap, slotsUsed := s₂.slotsUsed }
      rw [State.setFrames_self ht]
    subst hg
    refine Or.inl ⟨v, ⟨(({ U with heap := s₂.heap, slotsUsed := s₂.slotsUsed } : State).setVm s₂.vm), Ls ++ L, c0 + mc, s0 + ms⟩,
      ⟨X.admits, X.cas, X.clock, X.frames, X.room, X.hears, X.method, X.code, (X.here.setHeapUsed s₂.heap s₂.slotsUsed).setVm hW'.alike, X.tail, State.WarmedH.trans X.warmed hW', X.limits, X.bytes, X.same.trans (hsame.setVm s.vm)⟩,
      ⟨g, mk, s₂, L, rfl, rfl, hqc, rfl, hL, rfl, rfl⟩, ?_⟩
    show Steps p.tables e below _ ((({ U with heap := s₂.heap, slotsUsed := s₂.slotsUsed } : State).setVm s₂.vm).setTop { g with pc := g.pc + len₂, stack := v.toList ++ g.stack })
    rw [← hs₂]
    exact hsteps
  · obtain ⟨e2, q2, q3, q4, q5, q6⟩ := id hsm
    have e3 : s₂ = ({ (U.calling g mk a).setFrames s₂.frames with heap := s₂.heap, slotsUsed := s₂.slotsUsed } : State).setVm s₂.vm := by
      have : s₂ = ({ s₂ with vm := (U.calling g mk a).vm } : State).setVm s₂.vm := rfl
      rw [e2] at this
      exact this
    have hf₂ : s₂.frames = .throwing q :: .java g :: U.frames.tail := hend
    have hW' : U.WarmedH s₂.vm := hW₂
    have hs₂ : s₂ = ((({ U with heap := s₂.heap, slotsUsed := s₂.slotsUsed } : State).setVm s₂.vm).setTop g).pushFrame (.throwing q) := by
      refine e3.trans ?_
      rw [hf₂, State.calling_eq h.top, State.setFrames_setFrames, State.pushFrame, State.frames_setTop _ hr', State.setTop_of_frames _ hr', State.setFrames_setFrames, hr]
      rfl
    have hsame : U.sameButNew ({ U with heap := s₂.heap, slotsUsed := s₂.slotsUsed } : State) L mc ms := by
      refine ⟨?_, q2, q3, q4, q5, q6⟩
      obtain ⟨t, ht, -⟩ := State.frames_cons hr
      show ({ U with heap := s₂.heap, slotsUsed := s₂.slotsUsed } : State) = { U.setFrames U.frames with heap := s₂.heap, slotsUsed := s₂.slotsUsed }
      rw [State.setFrames_self ht]
    subst hg
    refine Or.inr ⟨q, ⟨(({ U with heap := s₂.heap, slotsUsed := s₂.slotsUsed } : State).setVm s₂.vm), Ls ++ L, c0 + mc, s0 + ms⟩,
      ⟨X.admits, X.cas, X.clock, X.frames, X.room, X.hears, X.method, X.code, (X.here.setHeapUsed s₂.heap s₂.slotsUsed).setVm hW'.alike, X.tail, State.WarmedH.trans X.warmed hW', X.limits, X.bytes, X.same.trans (hsame.setVm s.vm)⟩,
      ⟨g, mk, s₂, L, E, ce, rfl, rfl, hx, hce, hcv, hcl, rfl, hL, rfl, rfl⟩, ?_⟩
    show Steps p.tables e below _ (((({ U with heap := s₂.heap, slotsUsed := s₂.slotsUsed } : State).setVm s₂.vm).setTop g).pushFrame (.throwing q))
    rw [← hs₂]
    exact hsteps
end Payer
section Calls
variable {p : Program} {l : Launch} {e : Env} {R : Room} {s : State} {m : MethodId} {args : Array Value} {below : List Frame} {meth : Method} {c : Code} {T : State} {locs : List Loc} {cells slots : Nat}
theorem vx_callV (X : Stand p l e R s m args below meth c T locs cells slots) (hexec : p.tables.exec = Jvm.exec) {own C : String} {index : Nat} {y : MethodName} {bytes : ByteArray} {maxL : Nat} {ret : Option FieldType}
    (hown : s.vm.findClass own = some m.cls) (hlink : (Cond.methodLink own index y).before args s = true) (hinst : (Cond.instanceMethod y).before args s = true) (hsel : (Cond.selects C y y).before args s = true)
    (hcode : (Cond.code y bytes maxL ret).before args s = true) (hy : y.cls ≠ "java/lang/invoke/MethodHandle" ∧ y.cls ≠ "java/lang/invoke/VarHandle")
    {W9 : Nat} {Pre : Pt → Array Value → Prop} {Post : Pt → Array Value → Option Value → Pt → Prop} {PostX : Pt → Array Value → Addr → Pt → Prop} (hK : vx_Back l R p e below s args y 3 W9 Pre Post PostX)
    {b : Addr} {cellB : Cell} (hcell : T.heap[b]? = some cellB) (hobj : cellB.vm.isStatics = false) (hcls : s.vm.findClass C = some cellB.cls)
    {g : JFrame} (hg : g.method = m) (hsize : g.locals.size = c.maxLocals) {argsL rest : List Value} (hlen : ∀ sig, parseMethodDescriptor y.desc = some sig → argsL.length = sig.parameters.length)
    (hstack : g.stack = argsL.reverse ++ .ref b :: rest) (hW : 2 * g.monitorRoom + (rest.map fun v => v.category).sum ≤ W9) (hdg : decode c.code g.pc = .ok (.invokevirtual index, 3))
    (hpre : ∀ vm₁, s.WarmedH vm₁ → Pre ⟨T.setVm vm₁, locs, cells, slots⟩ (Value.ref b :: argsL).toArray) :
    (∃ (v : Option Value) (vm₁ : Vm) (B : Pt), s.WarmedH vm₁ ∧ Stand p l e R s m args below meth c B.U B.locs B.cells B.slots ∧ Post ⟨T.setVm vm₁, locs, cells, slots⟩ (Value.ref b :: argsL).toArray v B ∧
      ∀ target, Steps p.tables e below (B.U.setTop { g with pc := g.pc + 3, stack := v.toList ++ rest }) target → Steps p.tables e below (T.setTop g) target) ∨
    (∃ (q : Addr) (vm₁ : Vm) (B : Pt), s.WarmedH vm₁ ∧ Stand p l e R s m args below meth c B.U B.locs B.cells B.slots ∧ PostX ⟨T.setVm vm₁, locs, cells, slots⟩ (Value.ref b :: argsL).toArray q B ∧
      Steps p.tables e below (T.setTop g) ((B.U.setTop { g with stack := rest }).pushFrame (.throwing q))) := by
  obtain ⟨mk, methM, hnamed, hmethM, hstM, habM⟩ := Cond.instanceMethod_spec hinst
  obtain ⟨methM', cM, hmethM', -, -, -, -, -, -, hsigM⟩ := Cond.code_spec hnamed hcode
  cases hmethM.symm.trans hmethM'
  obtain ⟨c2, r2, m2, q1, q2, q3, q4, kP, hkP, hkPi⟩ := Cond.selects_spec hsel
  cases hcls.symm.trans q1
  cases (State.methodFound?_of_named hnamed hy).symm.trans q2
  cases hnamed.symm.trans q3
  have hselP : selectMethod e.platform s.vm cellB.cls mk = .method mk := by rw [Launch.admits_selectMethod X.admits]; exact q4
  obtain ⟨vm₁, X₁, hstep₁⟩ := X.invokevirtual hexec hown hlink hnamed hmethM hstM hkP hkPi hy (a := b) (cell := cellB) hcell
    (fun z h => by rw [h] at hobj; cases hobj) hselP hmethM habM hkP hkPi (g := g) hg (argsL := argsL) (rest := rest) (hlen _ hsigM) hstack hdg
  rcases hK m meth c ⟨T.setVm vm₁, locs, cells, slots⟩ { g with stack := rest } (.invokevirtual index) mk (Value.ref b :: argsL).toArray X₁ hg hsize hdg hW (X₁.named hnamed) (hpre vm₁ X₁.warmed) with ⟨v, B, X', hpost, hsteps⟩ | ⟨q, B, X', hpost, hsteps⟩
  · exact Or.inl ⟨v, vm₁, B, X₁.warmed, X', hpost, fun target h => hstep₁ _ fun acts => by rw [doInvoke_state]; exact hsteps.trans h⟩
  · exact Or.inr ⟨q, vm₁, B, X₁.warmed, X', hpost, hstep₁ _ fun acts => by rw [doInvoke_state]; exact hsteps⟩
theorem vx_callS (X : Stand p l e R s m args below meth c T locs cells slots) (hexec : p.tables.exec = Jvm.exec) {own : String} {index : Nat} {y : MethodName} {bytes : ByteArray} {maxL : Nat} {ret : Option FieldType}
    (hown : s.vm.findClass own = some m.cls) (hlink : (Cond.methodLink own index y).before args s = true) (hstat : (Cond.static y).before args s = true) (hinit : (Cond.initialized y.cls).before args s = true)
    (hcode : (Cond.code y bytes maxL ret).before args s = true) (hy : y.cls ≠ "java/lang/invoke/MethodHandle" ∧ y.cls ≠ "java/lang/invoke/VarHandle")
    {W9 : Nat} {Pre : Pt → Array Value → Prop} {Post : Pt → Array Value → Option Value → Pt → Prop} {PostX : Pt → Array Value → Addr → Pt → Prop} (hK : vx_Back l R p e below s args y 3 W9 Pre Post PostX)
    {g : JFrame} (hg : g.method = m) (hsize : g.locals.size = c.maxLocals) {argsL rest : List Value} (hlen : ∀ sig, parseMethodDescriptor y.desc = some sig → argsL.length = sig.parameters.length)
    (hstack : g.stack = argsL.reverse ++ rest) (hW : 2 * g.monitorRoom + (rest.map fun v => v.category).sum ≤ W9) (hdg : decode c.code g.pc = .ok (.invokestatic index, 3))
    (hpre : ∀ vm₁, s.WarmedH vm₁ → Pre ⟨T.setVm vm₁, locs, cells, slots⟩ argsL.toArray) :
    (∃ (v : Option Value) (vm₁ : Vm) (B : Pt), s.WarmedH vm₁ ∧ Stand p l e R s m args below meth c B.U B.locs B.cells B.slots ∧ Post ⟨T.setVm vm₁, locs, cells, slots⟩ argsL.toArray v B ∧
      ∀ target, Steps p.tables e below (B.U.setTop { g with pc := g.pc + 3, stack := v.toList ++ rest }) target → Steps p.tables e below (T.setTop g) target) ∨
    (∃ (q : Addr) (vm₁ : Vm) (B : Pt), s.WarmedH vm₁ ∧ Stand p l e R s m args below meth c B.U B.locs B.cells B.slots ∧ PostX ⟨T.setVm vm₁, locs, cells, slots⟩ argsL.toArray q B ∧
      Steps p.tables e below (T.setTop g) ((B.U.setTop { g with stack := rest }).pushFrame (.throwing q))) := by
  obtain ⟨mk, hnamed⟩ := Cond.code_named hcode
  obtain ⟨methM, cM, hmethM, -, -, -, -, -, -, hsigM⟩ := Cond.code_spec hnamed hcode
  have hstatic : methM.isStatic = true := Cond.static_spec hnamed hmethM hstat
  obtain ⟨kP, hkP, -⟩ := className_of_methodNamed hnamed
  have hinitP : kP.init = .initialized := Cond.initialized_spec (findClass_of_methodNamed hnamed) hkP hinit
  obtain ⟨vm₁, X₁, hstep₁⟩ := X.invokestatic hexec hown hlink hnamed hmethM hstatic hkP hinitP hy (g := g) hg (argsL := argsL) (rest := rest) (hlen _ hsigM) hstack hdg
  rcases hK m meth c ⟨T.setVm vm₁, locs, cells, slots⟩ { g with stack := rest } (.invokestatic index) mk argsL.toArray X₁ hg hsize hdg hW (X₁.named hnamed) (hpre vm₁ X₁.warmed) with ⟨v, B, X', hpost, hsteps⟩ | ⟨q, B, X', hpost, hsteps⟩
  · exact Or.inl ⟨v, vm₁, B, X₁.warmed, X', hpost, fun target h => hstep₁ _ fun acts => by rw [doInvoke_state]; exact hsteps.trans h⟩
  · exact Or.inr ⟨q, vm₁, B, X₁.warmed, X', hpost, hstep₁ _ fun acts => by rw [doInvoke_state]; exact hsteps⟩
end Calls
theorem vx_cls {s : State} {T : State} {vm₁ : Vm} {E : String} {k : ClassId} (hW : s.WarmedH vm₁) (h : (T.setVm vm₁).vm.findClass E = some k) : s.vm.findClass E = some k := by
  have h1 : vm₁.findClass E = some k := h
  rw [hW.alike.findClass] at h1
  exact h1
/-- the method's frame g, with q thrown over it -/
def vx_W (p : Program) (l : Launch) (e : Env) (R : Room) (s : State) (m : MethodId) (args : Array Value) (below : List Frame) (meth : Method) (c : Code) (H : Heap) (locs : List Loc) (cells slots : Nat) (Q : State → Prop) (g : JFrame) (q : Addr) : Prop :=
  ∀ T : State, T.heap = H → Stand p l e R s m args below meth c T locs cells slots → ∃ t, Steps p.tables e below ((T.setTop g).pushFrame (.throwing q)) t ∧ Q t
def vx_Run (p : Program) (l : Launch) (e : Env) (R : Room) (s : State) (m : MethodId) (args : Array Value) (below : List Frame) (meth : Method) (c : Code) (H : Heap) (locs : List Loc) (cells slots mc ms : Nat) (g : JFrame) (rest : List Value) (Qa : State → Outcome → State → Prop) (XC : String → State → State → Prop) (free : Addr → Prop) : Prop :=
  ∀ T : State, T.heap = H → Stand p l e R s m args below meth c T locs cells slots →
    (∃ (v : Option Value) (st₀ t T' : State) (L : List Loc), st₀.heap = H ∧ Stand p l e R s m args below meth c T' (locs ++ L) (cells + mc) (slots + ms) ∧ (∀ q ∈ L, free q.base) ∧ T'.heap = t.heap ∧ T'.vm = t.vm ∧ Qa st₀ (.returned v) t ∧
      Goes p e below T g T' { g with pc := g.pc + 3, stack := v.toList ++ rest }) ∨
    (∃ (q : Addr) (st₀ t T' : State) (L : List Loc) (E : String) (ce : Cell), st₀.heap = H ∧ Stand p l e R s m args below meth c T' (locs ++ L) (cells + mc) (slots + ms) ∧ (∀ z ∈ L, free z.base) ∧ T'.heap = t.heap ∧ T'.vm = t.vm ∧ XC E st₀ t ∧ t.heap[q]? = some ce ∧ ce.vm = .none ∧ s.vm.findClass E = some ce.cls ∧
      Steps p.tables e below (T.setTop g) ((T'.setTop { g with stack := rest }).pushFrame (.throwing q)))
def vx_X {S : Type} (px : S → Prop) (B : String → S → State → Prop) (A : Nat → Prop) : String → State → State → Prop := fun E st t => ∃ u : S, px u ∧ B E u t ∧ va_F A st t
section Runs
variable {p : Program} {l : Launch} {e : Env} {R : Room} {s : State} {m : MethodId} {args : Array Value} {below : List Frame} {meth : Method} {c : Code} {H : Heap} {locs : List Loc} {cells slots : Nat}
variable {y : MethodName} {bytes cc : ByteArray} {maxL nL mc ms n index : Nat} {ret : Option FieldType} {ws : List Cond} {rm : Room} {Pc : Array Value → State → Prop} {Qc : Array Value → State → Outcome → State → Prop} {XC : String → State → State → Prop} {free : Addr → Prop} {Ts : List Cond} {own C : String} {b : Addr} {As rest : List Value} {g : JFrame}
theorem vx_callBack (cb : CallB R s args own index y bytes maxL ret ws rm mc ms n) (hM : vx_Met l y ws rm Pc Qc XC mc ms free) (hbl : FrameBlind Pc) : vx_Back l R p e below s args y 3 8 (PreOf R mc ms Pc) (PostOf Qc mc ms free) (vx_Post XC mc ms free) := by
  obtain ⟨hrc, hrs, hfr, hlo, hws, hcw, -, hini, -⟩ := cb
  exact vx_back (bytes := bytes) (maxL := maxL) (ret := ret) hM hbl hrc hrs hfr hlo hws hcw (fun a' U hW => word_at hW (Or.inl (by first | rfl | simp [Cond.onTables, Cond.keeps, Cond.steady])) hini)
theorem vx_runV (S : CallFix p m c cc nL s args Ts own) (hM : vx_Met l y ws rm Pc Qc XC mc ms free) (cw : CallW R s args own C index y bytes maxL ret ws rm mc ms n) (hp : PreV s H C b Pc As)
    (hg : g.method = m) (hn : As.length = n) (hsize : g.locals.size = nL) (hstack : g.stack = As.reverse ++ .ref b :: rest) (hW : 2 * g.monitorRoom + (rest.map fun v => v.category).sum ≤ 8) (hdg : decode cc g.pc = .ok (.invokevirtual index, 3)) (hf : cells + mc ≤ R.cells ∧ slots + ms ≤ R.slots) :
    vx_Run p l e R s m args below meth c H locs cells slots mc ms g rest (Qc (Value.ref b :: As).toArray) XC free := by
  have hK : vx_Back l R p e below s args y 3 8 (PreOf R mc ms Pc) (PostOf Qc mc ms free) (vx_Post XC mc ms free) := vx_callBack cw.1 hM hp.1
  obtain ⟨⟨-, -, -, -, -, -, hcode, -, hy, hlen, hl⟩, hin, hse⟩ := cw
  obtain ⟨hx, hb, hml, ho, -⟩ := S
  obtain ⟨-, ⟨cellB, hcB, hoB, hclB⟩, hPc⟩ := hp
  intro T hT X
  rcases vx_callV X hx (C := C) (bytes := bytes) (maxL := maxL) (ret := ret) ho hl hin hse hcode hy hK (by rw [hT]; exact hcB) hoB hclB hg (hsize.trans hml.symm) (argsL := As) (rest := rest) (fun sig h => hn.trans (hlen sig h)) hstack hW (by rw [hb]; exact hdg)
    (fun vm₁ hW₁ => ⟨hf.1, hf.2, hPc (T.setVm vm₁) hT hW₁⟩) with ⟨v, vm₁, ⟨U', l2, c2, s2⟩, hW₁, X', ⟨g', mk, t, L, e1, e2, hq, h1, hL, h2, h3⟩, st⟩ | ⟨q, vm₁, ⟨U', l2, c2, s2⟩, hW₁, X', ⟨g', mk, t, L, E, ce, e1, e2, hq, hce, hcv, hcl, h1, hL, h2, h3⟩, st⟩
  · dsimp only [Pt.U, Pt.locs, Pt.cells, Pt.slots] at X' e1 e2 h1 h2 h3 st
    subst h1; subst h2; subst h3
    exact Or.inl ⟨v, (T.setVm vm₁).calling g' mk (Value.ref b :: As).toArray, t, U', L, hT, X', hL, e1, e2, hq, st⟩
  · dsimp only [Pt.U, Pt.locs, Pt.cells, Pt.slots] at X' e1 e2 h1 h2 h3 st hcl
    subst h1; subst h2; subst h3
    exact Or.inr ⟨q, (T.setVm vm₁).calling g' mk (Value.ref b :: As).toArray, t, U', L, E, ce, hT, X', hL, e1, e2, hq, hce, hcv, vx_cls hW₁ hcl, st⟩
theorem vx_runS (S : CallFix p m c cc nL s args Ts own) (hM : vx_Met l y ws rm Pc Qc XC mc ms free) (cw : CallB R s args own index y bytes maxL ret ws rm mc ms n ∧ (Cond.static y).before args s = true) (hp : PreS s H Pc As)
    (hg : g.method = m) (hn : As.length = n) (hsize : g.locals.size = nL) (hstack : g.stack = As.reverse ++ rest) (hW : 2 * g.monitorRoom + (rest.map fun v => v.category).sum ≤ 8) (hdg : decode cc g.pc = .ok (.invokestatic index, 3)) (hf : cells + mc ≤ R.cells ∧ slots + ms ≤ R.slots) :
    vx_Run p l e R s m args below meth c H locs cells slots mc ms g rest (Qc As.toArray) XC free := by
  have hK : vx_Back l R p e below s args y 3 8 (PreOf R mc ms Pc) (PostOf Qc mc ms free) (vx_Post XC mc ms free) := vx_callBack cw.1 hM hp.1
  obtain ⟨⟨-, -, -, -, -, -, hcode, hini, hy, hlen, hl⟩, hstt⟩ := cw
  obtain ⟨hx, hb, hml, ho, -⟩ := S
  intro T hT X
  rcases vx_callS X hx (bytes := bytes) (maxL := maxL) (ret := ret) ho hl hstt hini hcode hy hK hg (hsize.trans hml.symm) (argsL := As) (rest := rest) (fun sig h => hn.trans (hlen sig h)) hstack hW (by rw [hb]; exact hdg)
    (fun vm₁ hW₁ => ⟨hf.1, hf.2, hp.2 (T.setVm vm₁) hT hW₁⟩) with ⟨v, vm₁, ⟨U', l2, c2, s2⟩, hW₁, X', ⟨g', mk, t, L, e1, e2, hq, h1, hL, h2, h3⟩, st⟩ | ⟨q, vm₁, ⟨U', l2, c2, s2⟩, hW₁, X', ⟨g', mk, t, L, E, ce, e1, e2, hq, hce, hcv, hcl, h1, hL, h2, h3⟩, st⟩
  · dsimp only [Pt.U, Pt.locs, Pt.cells, Pt.slots] at X' e1 e2 h1 h2 h3 st
    subst h1; subst h2; subst h3
    exact Or.inl ⟨v, (T.setVm vm₁).calling g' mk As.toArray, t, U', L, hT, X', hL, e1, e2, hq, st⟩
  · dsimp only [Pt.U, Pt.locs, Pt.cells, Pt.slots] at X' e1 e2 h1 h2 h3 st hcl
    subst h1; subst h2; subst h3
    exact Or.inr ⟨q, (T.setVm vm₁).calling g' mk As.toArray, t, U', L, E, ce, hT, X', hL, e1, e2, hq, hce, hcv, vx_cls hW₁ hcl, st⟩
end Runs
section Rows
variable {p : Program} {l : Launch} {e : Env} {R : Room} {s : State} {m : MethodId} {args : Array Value} {below : List Frame} {meth : Method} {c : Code} {H : Heap} {locs : List Loc} {cells slots : Nat} {Q : State → Prop}
variable {mc ms : Nat} {free : Addr → Prop} {A0 A1 : Nat → Prop} {H0 : Heap} {a : Array Value} {pc : Nat} {ls : Array Slot} {st0 rest : List Value}
theorem vx_keep {st₀ t T' : State} {L : List Loc} (h0 : st₀.heap = H) (e1 : T'.heap = t.heap) (hS : va_S A0 H0 H locs) (hA : ∀ q, q < H.size → A1 q → A0 q) (hf : ∀ q, free q → A0 q) (hL : ∀ q ∈ L, free q.base) (hF : va_F A1 st₀ t) :
    H.size ≤ T'.heap.size ∧ (∀ q : Nat, q < H.size → ¬ A1 q → T'.heap[q]? = H[q]?) ∧ va_S A0 H0 T'.heap (locs ++ L) := by
  obtain ⟨hz, hk⟩ := hF
  rw [h0] at hz hk
  exact ⟨by rw [e1]; exact hz, fun q h1 h2 => by rw [e1]; exact hk q h1 h2,
    ⟨Nat.le_trans hS.1 (by rw [e1]; exact hz), fun q h1 h2 => by rw [e1, hk q (Nat.lt_of_lt_of_le h1 hS.1) (fun z => h2 (hA q (Nat.lt_of_lt_of_le h1 hS.1) z))]; exact hS.2.1 q h1 h2, fun q hq => by
      rcases List.mem_append.mp hq with h | h
      · exact hS.2.2 q h
      · exact hf _ (hL q h)⟩⟩
theorem vx_calli {S SX : Type} {post : Int32 → S → Prop} {px : SX → Prop} {B : S → State → Prop} {BX : String → SX → State → Prop} {AX : Nat → Prop} (hr : vx_Run p l e R s m args below meth c H locs cells slots mc ms (F0 m pc ls st0) rest (va_Qi post B A1 a) (vx_X px BX AX) free) (hS : va_S A0 H0 H locs) (hA : ∀ q, q < H.size → A1 q → A0 q) (hf : ∀ q, free q → A0 q) (hAX : ∀ q, q < H.size → AX q → A0 q)
    (kx : ∀ (E : String) (ce : Cell) (q9 : Addr) (u : SX) (t : State) (H1 : Heap) (locs1 : List Loc), t.heap = H1 → s.vm.Alike t.vm → px u → BX E u t → H.size ≤ H1.size → (∀ q : Nat, q < H.size → ¬ AX q → H1[q]? = H[q]?) → va_S A0 H0 H1 locs1 → H1[q9]? = some ce → ce.vm = .none → s.vm.findClass E = some ce.cls → vx_W p l e R s m args below meth c H1 locs1 (cells + mc) (slots + ms) Q (F0 m pc ls rest) q9)
    (kk : ∀ (r : Int32) (u : S) (t : State) (H1 : Heap) (locs1 : List Loc), t.heap = H1 → s.vm.Alike t.vm → post r u → B u t → H.size ≤ H1.size → (∀ q : Nat, q < H.size → ¬ A1 q → H1[q]? = H[q]?) → va_S A0 H0 H1 locs1 → W p l e R s m args below meth c H1 locs1 (cells + mc) (slots + ms) Q (F0 m (pc + 3) ls (.int r :: rest))) : W p l e R s m args below meth c H locs cells slots Q (F0 m pc ls st0) := by
  intro T hT X
  rcases hr T hT X with ⟨v, st₀, t, T', L, h0, X', hL, e1, e2, ⟨⟨r, u, hv, hp, hb⟩, hF⟩, st⟩ | ⟨q, st₀, t, T', L, E, ce, h0, X', hL, e1, e2, ⟨u, hp, hb, hF⟩, hce, hcv, hcl, st⟩
  · cases hv
    obtain ⟨k1, k2, k3⟩ := vx_keep h0 e1 hS hA hf hL hF
    obtain ⟨t2, a1, b1⟩ := kk r u t T'.heap (locs ++ L) e1.symm (by rw [← e2]; exact X'.warmed.alike) hp hb k1 k2 k3 T' rfl X'
    exact ⟨t2, st t2 a1, b1⟩
  · obtain ⟨k1, k2, k3⟩ := vx_keep h0 e1 hS hAX hf hL hF
    obtain ⟨t2, a1, b1⟩ := kx E ce q u t T'.heap (locs ++ L) e1.symm (by rw [← e2]; exact X'.warmed.alike) hp hb k1 k2 k3 (by rw [e1]; exact hce) hcv hcl T' rfl X'
    exact ⟨t2, st.trans a1, b1⟩
theorem vx_calll {S SX : Type} {post : Int64 → S → Prop} {px : SX → Prop} {B : S → State → Prop} {BX : String → SX → State → Prop} {AX : Nat → Prop} (hr : vx_Run p l e R s m args below meth c H locs cells slots mc ms (F0 m pc ls st0) rest (va_Ql post B A1 a) (vx_X px BX AX) free) (hS : va_S A0 H0 H locs) (hA : ∀ q, q < H.size → A1 q → A0 q) (hf : ∀ q, free q → A0 q) (hAX : ∀ q, q < H.size → AX q → A0 q)
    (kx : ∀ (E : String) (ce : Cell) (q9 : Addr) (u : SX) (t : State) (H1 : Heap) (locs1 : List Loc), t.heap = H1 → s.vm.Alike t.vm → px u → BX E u t → H.size ≤ H1.size → (∀ q : Nat, q < H.size → ¬ AX q → H1[q]? = H[q]?) → va_S A0 H0 H1 locs1 → H1[q9]? = some ce → ce.vm = .none → s.vm.findClass E = some ce.cls → vx_W p l e R s m args below meth c H1 locs1 (cells + mc) (slots + ms) Q (F0 m pc ls rest) q9)
    (kk : ∀ (r : Int64) (u : S) (t : State) (H1 : Heap) (locs1 : List Loc), t.heap = H1 → s.vm.Alike t.vm → post r u → B u t → H.size ≤ H1.size → (∀ q : Nat, q < H.size → ¬ A1 q → H1[q]? = H[q]?) → va_S A0 H0 H1 locs1 → W p l e R s m args below meth c H1 locs1 (cells + mc) (slots + ms) Q (F0 m (pc + 3) ls (.long r :: rest))) : W p l e R s m args below meth c H locs cells slots Q (F0 m pc ls st0) := by
  intro T hT X
  rcases hr T hT X with ⟨v, st₀, t, T', L, h0, X', hL, e1, e2, ⟨⟨r, u, hv, hp, hb⟩, hF⟩, st⟩ | ⟨q, st₀, t, T', L, E, ce, h0, X', hL, e1, e2, ⟨u, hp, hb, hF⟩, hce, hcv, hcl, st⟩
  · cases hv
    obtain ⟨k1, k2, k3⟩ := vx_keep h0 e1 hS hA hf hL hF
    obtain ⟨t2, a1, b1⟩ := kk r u t T'.heap (locs ++ L) e1.symm (by rw [← e2]; exact X'.warmed.alike) hp hb k1 k2 k3 T' rfl X'
    exact ⟨t2, st t2 a1, b1⟩
  · obtain ⟨k1, k2, k3⟩ := vx_keep h0 e1 hS hAX hf hL hF
    obtain ⟨t2, a1, b1⟩ := kx E ce q u t T'.heap (locs ++ L) e1.symm (by rw [← e2]; exact X'.warmed.alike) hp hb k1 k2 k3 (by rw [e1]; exact hce) hcv hcl T' rfl X'
    exact ⟨t2, st.trans a1, b1⟩
theorem vx_callf {S SX : Type} {post : UInt32 → S → Prop} {px : SX → Prop} {B : S → State → Prop} {BX : String → SX → State → Prop} {AX : Nat → Prop} (hr : vx_Run p l e R s m args below meth c H locs cells slots mc ms (F0 m pc ls st0) rest (va_Qf post B A1 a) (vx_X px BX AX) free) (hS : va_S A0 H0 H locs) (hA : ∀ q, q < H.size → A1 q → A0 q) (hf : ∀ q, free q → A0 q) (hAX : ∀ q, q < H.size → AX q → A0 q)
    (kx : ∀ (E : String) (ce : Cell) (q9 : Addr) (u : SX) (t : State) (H1 : Heap) (locs1 : List Loc), t.heap = H1 → s.vm.Alike t.vm → px u → BX E u t → H.size ≤ H1.size → (∀ q : Nat, q < H.size → ¬ AX q → H1[q]? = H[q]?) → va_S A0 H0 H1 locs1 → H1[q9]? = some ce → ce.vm = .none → s.vm.findClass E = some ce.cls → vx_W p l e R s m args below meth c H1 locs1 (cells + mc) (slots + ms) Q (F0 m pc ls rest) q9)
    (kk : ∀ (r : UInt32) (u : S) (t : State) (H1 : Heap) (locs1 : List Loc), t.heap = H1 → s.vm.Alike t.vm → post r u → B u t → H.size ≤ H1.size → (∀ q : Nat, q < H.size → ¬ A1 q → H1[q]? = H[q]?) → va_S A0 H0 H1 locs1 → W p l e R s m args below meth c H1 locs1 (cells + mc) (slots + ms) Q (F0 m (pc + 3) ls (.float r :: rest))) : W p l e R s m args below meth c H locs cells slots Q (F0 m pc ls st0) := by
  intro T hT X
  rcases hr T hT X with ⟨v, st₀, t, T', L, h0, X', hL, e1, e2, ⟨⟨r, u, hv, hp, hb⟩, hF⟩, st⟩ | ⟨q, st₀, t, T', L, E, ce, h0, X', hL, e1, e2, ⟨u, hp, hb, hF⟩, hce, hcv, hcl, st⟩
  · cases hv
    obtain ⟨k1, k2, k3⟩ := vx_keep h0 e1 hS hA hf hL hF
    obtain ⟨t2, a1, b1⟩ := kk r u t T'.heap (locs ++ L) e1.symm (by rw [← e2]; exact X'.warmed.alike) hp hb k1 k2 k3 T' rfl X'
    exact ⟨t2, st t2 a1, b1⟩
  · obtain ⟨k1, k2, k3⟩ := vx_keep h0 e1 hS hAX hf hL hF
    obtain ⟨t2, a1, b1⟩ := kx E ce q u t T'.heap (locs ++ L) e1.symm (by rw [← e2]; exact X'.warmed.alike) hp hb k1 k2 k3 (by rw [e1]; exact hce) hcv hcl T' rfl X'
    exact ⟨t2, st.trans a1, b1⟩
theorem vx_calld {S SX : Type} {post : UInt64 → S → Prop} {px : SX → Prop} {B : S → State → Prop} {BX : String → SX → State → Prop} {AX : Nat → Prop} (hr : vx_Run p l e R s m args below meth c H locs cells slots mc ms (F0 m pc ls st0) rest (va_Qd post B A1 a) (vx_X px BX AX) free) (hS : va_S A0 H0 H locs) (hA : ∀ q, q < H.size → A1 q → A0 q) (hf : ∀ q, free q → A0 q) (hAX : ∀ q, q < H.size → AX q → A0 q)
    (kx : ∀ (E : String) (ce : Cell) (q9 : Addr) (u : SX) (t : State) (H1 : Heap) (locs1 : List Loc), t.heap = H1 → s.vm.Alike t.vm → px u → BX E u t → H.size ≤ H1.size → (∀ q : Nat, q < H.size → ¬ AX q → H1[q]? = H[q]?) → va_S A0 H0 H1 locs1 → H1[q9]? = some ce → ce.vm = .none → s.vm.findClass E = some ce.cls → vx_W p l e R s m args below meth c H1 locs1 (cells + mc) (slots + ms) Q (F0 m pc ls rest) q9)
    (kk : ∀ (r : UInt64) (u : S) (t : State) (H1 : Heap) (locs1 : List Loc), t.heap = H1 → s.vm.Alike t.vm → post r u → B u t → H.size ≤ H1.size → (∀ q : Nat, q < H.size → ¬ A1 q → H1[q]? = H[q]?) → va_S A0 H0 H1 locs1 → W p l e R s m args below meth c H1 locs1 (cells + mc) (slots + ms) Q (F0 m (pc + 3) ls (.double r :: rest))) : W p l e R s m args below meth c H locs cells slots Q (F0 m pc ls st0) := by
  intro T hT X
  rcases hr T hT X with ⟨v, st₀, t, T', L, h0, X', hL, e1, e2, ⟨⟨r, u, hv, hp, hb⟩, hF⟩, st⟩ | ⟨q, st₀, t, T', L, E, ce, h0, X', hL, e1, e2, ⟨u, hp, hb, hF⟩, hce, hcv, hcl, st⟩
  · cases hv
    obtain ⟨k1, k2, k3⟩ := vx_keep h0 e1 hS hA hf hL hF
    obtain ⟨t2, a1, b1⟩ := kk r u t T'.heap (locs ++ L) e1.symm (by rw [← e2]; exact X'.warmed.alike) hp hb k1 k2 k3 T' rfl X'
    exact ⟨t2, st t2 a1, b1⟩
  · obtain ⟨k1, k2, k3⟩ := vx_keep h0 e1 hS hAX hf hL hF
    obtain ⟨t2, a1, b1⟩ := kx E ce q u t T'.heap (locs ++ L) e1.symm (by rw [← e2]; exact X'.warmed.alike) hp hb k1 k2 k3 (by rw [e1]; exact hce) hcv hcl T' rfl X'
    exact ⟨t2, st.trans a1, b1⟩
theorem vx_callv {S SX : Type} {post : S → Prop} {px : SX → Prop} {B : S → State → Prop} {BX : String → SX → State → Prop} {AX : Nat → Prop} (hr : vx_Run p l e R s m args below meth c H locs cells slots mc ms (F0 m pc ls st0) rest (va_Qv post B A1 a) (vx_X px BX AX) free) (hS : va_S A0 H0 H locs) (hA : ∀ q, q < H.size → A1 q → A0 q) (hf : ∀ q, free q → A0 q) (hAX : ∀ q, q < H.size → AX q → A0 q)
    (kx : ∀ (E : String) (ce : Cell) (q9 : Addr) (u : SX) (t : State) (H1 : Heap) (locs1 : List Loc), t.heap = H1 → s.vm.Alike t.vm → px u → BX E u t → H.size ≤ H1.size → (∀ q : Nat, q < H.size → ¬ AX q → H1[q]? = H[q]?) → va_S A0 H0 H1 locs1 → H1[q9]? = some ce → ce.vm = .none → s.vm.findClass E = some ce.cls → vx_W p l e R s m args below meth c H1 locs1 (cells + mc) (slots + ms) Q (F0 m pc ls rest) q9)
    (kk : ∀ (u : S) (t : State) (H1 : Heap) (locs1 : List Loc), t.heap = H1 → s.vm.Alike t.vm → post u → B u t → H.size ≤ H1.size → (∀ q : Nat, q < H.size → ¬ A1 q → H1[q]? = H[q]?) → va_S A0 H0 H1 locs1 → W p l e R s m args below meth c H1 locs1 (cells + mc) (slots + ms) Q (F0 m (pc + 3) ls (rest))) : W p l e R s m args below meth c H locs cells slots Q (F0 m pc ls st0) := by
  intro T hT X
  rcases hr T hT X with ⟨v, st₀, t, T', L, h0, X', hL, e1, e2, ⟨⟨u, hv, hp, hb⟩, hF⟩, st⟩ | ⟨q, st₀, t, T', L, E, ce, h0, X', hL, e1, e2, ⟨u, hp, hb, hF⟩, hce, hcv, hcl, st⟩
  · cases hv
    obtain ⟨k1, k2, k3⟩ := vx_keep h0 e1 hS hA hf hL hF
    obtain ⟨t2, a1, b1⟩ := kk u t T'.heap (locs ++ L) e1.symm (by rw [← e2]; exact X'.warmed.alike) hp hb k1 k2 k3 T' rfl X'
    exact ⟨t2, st t2 a1, b1⟩
  · obtain ⟨k1, k2, k3⟩ := vx_keep h0 e1 hS hAX hf hL hF
    obtain ⟨t2, a1, b1⟩ := kx E ce q u t T'.heap (locs ++ L) e1.symm (by rw [← e2]; exact X'.warmed.alike) hp hb k1 k2 k3 (by rw [e1]; exact hce) hcv hcl T' rfl X'
    exact ⟨t2, st.trans a1, b1⟩
/-- caught by the row x of this method's table; the rows ahead don't take it -/
theorem vx_catch {own name : String} {E : String} {ce : Cell} {q : Addr} (hown : s.vm.findClass own = some m.cls) (pre : List ExceptionTableEntry) (x : ExceptionTableEntry) (suf : List ExceptionTableEntry) (hsplit : c.exceptionTable.toList = pre ++ x :: suf)
    (hpass : ∀ z ∈ pre, covers z pc = false ∨ (z.catchType ≠ 0 ∧ ∃ nm : String, (Cond.classLink own z.catchType nm).before args s = true ∧ va_Nc E nm s)) (hx : covers x pc = true) (h0 : x.catchType ≠ 0)
    (hlink : (Cond.classLink own x.catchType name).before args s = true) (hcast : (Cond.castable E name).before args s = true) (hcell : H[q]? = some ce) (hv : ce.vm = .none) (hcl : s.vm.findClass E = some ce.cls)
    (kk : W p l e R s m args below meth c H locs cells slots Q (F0 m x.handlerPc ls [.ref q])) : vx_W p l e R s m args below meth c H locs cells slots Q (F0 m pc ls rest) q := by
  intro T hT X
  have hpl : e.platform.magicAccessors = ({} : Platform).magicAccessors := by rw [X.admits.platform]
  obtain ⟨c3, c4, hc3, hc4, hasg⟩ := Cond.castable_spec hcast
  cases Option.some.inj (hc3.symm.trans hcl)
  obtain ⟨c5, hc5, hcl5⟩ := Cond.classLink_spec hown hlink e.platform hpl
  cases Option.some.inj (hc4.symm.trans hc5)
  obtain ⟨vm', X', st⟩ := X.thenCaughtThrough q (g := F0 m pc ls rest) rfl (Steps.refl _) (by rw [hT]; exact hcell) (by rw [hv]; rfl) (by obtain ⟨k9, h9, -⟩ := Vm.findClass_spec hcl; exact ⟨k9, h9⟩) pre x suf hsplit
    (fun z hz => by
      rcases hpass z hz with h | ⟨hz0, nm, hl1, hn1⟩
      · exact Or.inl h
      · obtain ⟨c6, hc6, hcl6⟩ := Cond.classLink_spec hown hl1 e.platform hpl
        obtain ⟨a8, b8, h1, h2, h3⟩ := hn1
        cases Option.some.inj (h1.symm.trans hcl)
        cases Option.some.inj (h2.symm.trans hc6)
        exact Or.inr ⟨hz0, _, hcl6, h3⟩) hx (Or.inr ⟨h0, c4, hcl5, hasg⟩)
  obtain ⟨t, a1, b1⟩ := kk (T.setVm vm') hT X'
  exact ⟨t, st.trans a1, b1⟩
end Rows
section Ends
variable {p : Program} {l : Launch} {e : Env} {R : Room} {s : State} {m : MethodId} {args : Array Value} {below : List Frame} {meth : Method} {c : Code} {H : Heap} {locs : List Loc} {cells slots : Nat} {Q : State → Prop}
variable {mc ms : Nat} {free : Addr → Prop} {A0 A1 : Nat → Prop} {H0 : Heap} {a : Array Value} {ls : Array Slot} {st0 rest : List Value}
variable {Qc : Array Value → State → Outcome → State → Prop} {XC : String → State → State → Prop}
/-- what a body that may throw owes at its end -/
def vx_MQ (below : List Frame) (Qc : Array Value → State → Outcome → State → Prop) (XC : String → State → State → Prop) (a : Array Value) (s : State) (mc ms : Nat) (free : Addr → Prop) : State → Prop := fun t =>
  ∃ o, t.status = .running ∧ Ended t below o ∧ vx_Q Qc XC mc ms free a s o t
theorem vx_ret {g : JFrame} {mc ms : Nat} (k : W p l e R s m args below meth c H locs cells slots (MQ below Qc args s mc ms free) g) : W p l e R s m args below meth c H locs cells slots (vx_MQ below Qc XC args s mc ms free) g := by
  intro T hT X
  obtain ⟨t, a1, o, b1, b2, b3, b4⟩ := k T hT X
  exact ⟨t, a1, o, b1, b2, Or.inl ⟨b3, b4⟩⟩
/-- not caught here: it goes on to the caller -/
theorem vx_widen {g : JFrame} {q : Addr} {k n : Nat} (h1 : cells ≤ k) (h2 : slots ≤ n) (kk : vx_W p l e R s m args below meth c H locs k n Q g q) : vx_W p l e R s m args below meth c H locs cells slots Q g q := fun T hT X => kk T hT (stand_widen X h1 h2)
theorem vx_out {pc : Nat} {E : String} {ce : Cell} {q : Addr} {mc ms : Nat} (hout : ∀ x ∈ c.exceptionTable.toList, covers x pc = false) (hlocks : meth.locks = false) (hcell : H[q]? = some ce) (hv : ce.vm = .none) (hcl : s.vm.findClass E = some ce.cls)
    (hx : ∀ t : State, t.heap = H → s.vm.Alike t.vm → XC E s t) (hf : ∀ z ∈ locs, free z.base) (hc : cells ≤ mc) (hs : slots ≤ ms) :
    vx_W p l e R s m args below meth c H locs cells slots (vx_MQ below Qc XC args s mc ms free) (F0 m pc ls rest) q := by
  intro T hT X
  obtain ⟨st1, hrun, hend, hW, hsm⟩ := X.leaveThrown q (g := F0 m pc ls rest) rfl rfl rfl hout hlocks
  have hcell9 : (T.setFrames (.throwing q :: below)).heap[q]? = some ce := by
    show T.heap[q]? = some ce
    rw [hT]; exact hcell
  exact ⟨_, st1, .threw q, hrun, hend, Or.inr ⟨q, rfl, E, ce, locs, hx _ hT hW.alike, hcell9, hv, hcl, hW, hsm.mono hc hs, hf⟩⟩
theorem vx_frame {U : State} {k n : Nat} (h : s.sameButNew ({ U with vm := s.vm } : State) locs k n) : s.heap.size ≤ U.heap.size ∧ ∀ q : Nat, q < s.heap.size → (∀ z ∈ locs, z.base ≠ q) → U.heap[q]? = s.heap[q]? := by
  obtain ⟨-, h2, -, -, -, h6⟩ := h
  refine ⟨h2, fun q hq hz => ?_⟩
  obtain ⟨c9, e1, e2, e3, e4⟩ := h6 q _ (Array.getElem?_eq_getElem hq)
  have hs : c9.slots = (s.heap[q]).slots := Array.ext_getElem? fun i => e4 i fun hm => hz _ hm rfl
  have h9 : c9 = s.heap[q] := by
    rw [hs] at e2
    exact e2
  have e5 : U.heap[q]? = some c9 := e1
  rw [e5, h9, Array.getElem?_eq_getElem hq]
/-- the words of a throw but the four that speak of the heap -/
def vx_no (w : Cond) : Bool := decide (w ≠ .isRef (.static Bundle.tN "UNASSIGNED_STACK" Bundle.steD)) && decide (w ≠ .isRef (.static Bundle.tN "SUPPRESSED_SENTINEL" Bundle.listD)) && decide (w ≠ .laysStatic Bundle.tN "UNASSIGNED_STACK" Bundle.steD) && decide (w ≠ .laysStatic Bundle.tN "SUPPRESSED_SENTINEL" Bundle.listD)
def vx_at0 (own : String) (ic : Nat) (X : String) (names : List String) : List Cond := (Bundle.ownAtoms0 own ic X names).filter vx_no
def vx_atS (own : String) (ic : Nat) (X : String) (names : List String) : List Cond := (Bundle.ownAtoms own ic X names).filter vx_no
/-- a word that the tables alone decide, or a good one -/
def vx_ot (w : Cond) : Bool := w.onTables || goodWord w
theorem vx_ot_at {args a' : Array Value} {s U : State} {w : Cond} (hW : s.WarmedH U.vm) (hvm : s.vm = U.vm) (hg : vx_ot w = true) (h : w.before args s = true) : w.before a' U = true := by
  simp only [vx_ot, Bool.or_eq_true] at hg
  rcases hg with hg | hg
  · exact va_tabs hg hvm h
  · exact word_at hW (good_of_word hg) h
/-- a list's words: the good ones out of the method's own list, the others by premises of their own -/
theorem vx_hat {args : Array Value} {s : State} {L B : List Cond} (h1 : ∀ w ∈ L.filter goodWord, w.before args s = true) (h2 : ∀ w ∈ L.filter (fun w => !goodWord w), w ∈ B) (h3 : ∀ w ∈ B, w.before args s = true) : ∀ w ∈ L, w.before args s = true := by
  intro w hw
  by_cases g : goodWord w = true
  · exact h1 w (List.mem_filter.mpr ⟨hw, g⟩)
  · refine h3 w (h2 w (List.mem_filter.mpr ⟨hw, ?_⟩))
    show (!goodWord w) = true
    cases hgw : goodWord w
    · rfl
    · exact absurd hgw g
theorem vx_c {args : Array Value} {s : State} {w : Cond} {B : List Cond} (h : w.before args s = true) (t : ∀ w ∈ B, w.before args s = true) : ∀ w' ∈ w :: B, w'.before args s = true := fun w' h' => (List.mem_cons.mp h').elim (fun e => by rw [e]; exact h) (t w')
theorem vx_n {args : Array Value} {s : State} : ∀ w ∈ ([] : List Cond), w.before args s = true := fun _ h => nomatch h
theorem vx_own {args : Array Value} {s : State} {L : List Cond} (h1 : ∀ w ∈ L.filter vx_no, w.before args s = true)
    (hU : (Cond.isRef (.static Bundle.tN "UNASSIGNED_STACK" Bundle.steD)).before args s = true) (hN : (Cond.isRef (.static Bundle.tN "SUPPRESSED_SENTINEL" Bundle.listD)).before args s = true)
    (lU : (Cond.laysStatic Bundle.tN "UNASSIGNED_STACK" Bundle.steD).before args s = true) (lN : (Cond.laysStatic Bundle.tN "SUPPRESSED_SENTINEL" Bundle.listD).before args s = true) : ∀ w ∈ L, w.before args s = true := by
  intro w hw
  by_cases e1 : w = .isRef (.static Bundle.tN "UNASSIGNED_STACK" Bundle.steD)
  · rw [e1]; exact hU
  · by_cases e2 : w = .isRef (.static Bundle.tN "SUPPRESSED_SENTINEL" Bundle.listD)
    · rw [e2]; exact hN
    · by_cases e3 : w = .laysStatic Bundle.tN "UNASSIGNED_STACK" Bundle.steD
      · rw [e3]; exact lU
      · by_cases e4 : w = .laysStatic Bundle.tN "SUPPRESSED_SENTINEL" Bundle.listD
        · rw [e4]; exact lN
        · exact h1 w (List.mem_filter.mpr ⟨hw, by unfold vx_no; rw [decide_eq_true e1, decide_eq_true e2, decide_eq_true e3, decide_eq_true e4]; rfl⟩)
/-- where a static field lies, its class's statics cell in H -/
def vx_L (C n d : String) (A : Nat → Prop) (U : State) (H : Heap) : Prop := ∃ (c : ClassId) (k : Class) (i : Nat) (f : Field) (a : Nat) (cell : Cell), U.vm.findClass C = some c ∧ U.fieldFound? C n d = some (c, k, i, f) ∧ f.isStatic = true ∧ k.statics = some a ∧ H[a]? = some cell ∧ cell.vm.isStatics = true ∧ cell.cls = c ∧ f.slot < cell.slots.size ∧ k.staticTypes[f.slot]? = some f.type ∧ ¬ A a
theorem vx_L.moved {C n d : String} {A : Nat → Prop} {u U : State} {H : Heap} (hvm : u.vm.Alike U.vm) (h : vx_L C n d A u H) : vx_L C n d A U H := by
  obtain ⟨c, k, i, f, a, cell, h1, h2, h3, h4, h5, h6, h7, h8, h9, h10⟩ := h
  obtain ⟨k', hi', he⟩ := State.fieldFound?_setVm hvm h2
  exact ⟨c, k', i, f, a, cell, by rw [hvm.findClass]; exact h1, hi', h3, by rw [he]; exact h4, h5, h6, h7, h8, by rw [he]; exact h9, h10⟩
theorem vx_L.kept {C n d : String} {A : Nat → Prop} {U : State} {H H1 : Heap} (h : vx_L C n d A U H) (hq : ∀ a : Nat, a < H.size → ¬ A a → H1[a]? = H[a]?) : vx_L C n d A U H1 := by
  obtain ⟨c, k, i, f, a, cell, h1, h2, h3, h4, h5, h6, h7, h8, h9, h10⟩ := h
  exact ⟨c, k, i, f, a, cell, h1, h2, h3, h4, by rw [hq a (Array.getElem?_eq_some_iff.mp h5).1 h10]; exact h5, h6, h7, h8, h9, h10⟩
theorem vx_L.narrow {C n d : String} {A B : Nat → Prop} {U : State} {H : Heap} (h : vx_L C n d A U H) (hAB : ∀ q, B q → A q) : vx_L C n d B U H := by
  obtain ⟨c, k, i, f, a, cell, h1, h2, h3, h4, h5, h6, h7, h8, h9, h10⟩ := h
  exact ⟨c, k, i, f, a, cell, h1, h2, h3, h4, h5, h6, h7, h8, h9, fun z => h10 (hAB _ z)⟩
theorem vx_L.word {C n d : String} {A : Nat → Prop} {s : State} {args : Array Value} (h : vx_L C n d A s s.heap) : (Cond.laysStatic C n d).before args s = true := by
  obtain ⟨c, k, i, f, a, cell, h1, h2, h3, h4, h5, h6, h7, h8, h9, -⟩ := h
  show (Cond.laysStatic C n d).holds args s none s [] = true
  exact Cond.laysStatic_of h1 h2 h3 h4 h5 h6 h7 h8 h9
/-- .. and what it holds: null or some reference -/
def vx_Zq (C n d : String) (A : Nat → Prop) (U : State) (H : Heap) : Prop := va_Zq C n d A U H ∧ vx_L C n d A U H
theorem vx_Zq.moved {C n d : String} {A : Nat → Prop} {u U : State} {H : Heap} (hvm : u.vm.Alike U.vm) (h : vx_Zq C n d A u H) : vx_Zq C n d A U H := ⟨va_Zq.moved hvm h.1, vx_L.moved hvm h.2⟩
theorem vx_Zq.kept {C n d : String} {A : Nat → Prop} {U : State} {H H1 : Heap} (h : vx_Zq C n d A U H) (hq : ∀ a : Nat, a < H.size → ¬ A a → H1[a]? = H[a]?) : vx_Zq C n d A U H1 := ⟨va_Zq.kept h.1 hq, vx_L.kept h.2 hq⟩
theorem vx_Zq.narrow {C n d : String} {A B : Nat → Prop} {U : State} {H : Heap} (h : vx_Zq C n d A U H) (hAB : ∀ q, B q → A q) : vx_Zq C n d B U H := ⟨va_Zq.narrow h.1 hAB, vx_L.narrow h.2 hAB⟩
theorem vx_Zqof {args : Array Value} {s : State} {C n d : String} {A : Nat → Prop} (hl : (Cond.laysStatic C n d).before args s = true) (hini : (Cond.initialized C).before args s = true) (h : (Cond.isRef (.static C n d)).before args s = true) (hA : ∀ a : Nat, a < s.heap.size → ¬ A a) : vx_Zq C n d A s s.heap := by
  refine ⟨va_Zqof hl hini h hA, ?_⟩
  obtain ⟨c, k, i, f, a, cell, h1, h2, h3, h4, h5, h6, h7, h8, h9⟩ := Cond.laysStatic_spec hl
  exact ⟨c, k, i, f, a, cell, h1, h2, h3, h4, h5, h6, h7, h8, h9, hA a (Array.getElem?_eq_some_iff.mp h5).1⟩
theorem vx_isRef {C n d : String} {v : Value} {A : Nat → Prop} {s : State} {args : Array Value} (h : va_Z C n d v A s s.heap) (hv : v.isRef = true) : (Cond.isRef (.static C n d)).before args s = true := by
  obtain ⟨cf, kf, fi, f, a, cell, h1, h2, h3, h4, h5, h6, h7, -⟩ := h
  have he : (Term.static C n d).eval args s none [] s = some v := by
    simp [Term.eval, State.fieldNamed?, h1, h2, h4, h5, h6, h7]
  simp only [Cond.before, Cond.holds, Cond.value, he]
  cases v <;> simp_all [Value.isRef]
theorem vx_isRefq {C n d : String} {A : Nat → Prop} {s : State} {args : Array Value} (h : va_Zq C n d A s s.heap) : (Cond.isRef (.static C n d)).before args s = true := by
  rcases h with h | ⟨t, h⟩
  · exact vx_isRef h rfl
  · exact vx_isRef h rfl
/-- the same frame, seen from here: as if the method were called anew in this heap -/
theorem vx_rebase {T : State} (X : Stand p l e R s m args below meth c T locs cells slots) {R' : Room} (hf : R'.frames ≤ R.frames) (hl : R'.locals ≤ R.locals) (hc : cells + R'.cells ≤ R.cells) (hs : slots + R'.slots ≤ R.slots) :
    Stand p l e R' ((T.setVm s.vm).setFrames (.invoking m args :: below)) m args below meth c T [] 0 0 := by
  have htop : (T.setVm s.vm).topJava?.isSome := X.here.top
  have hF : ((T.setVm s.vm).setFrames (.invoking m args :: below)).frames = .invoking m args :: below := State.frames_setFrames _ (State.cur_lt_of_top htop)
  obtain ⟨g₀, hg0⟩ := Option.isSome_iff_exists.mp htop
  obtain ⟨r, hr⟩ := State.topJava?_eq_some.mp hg0
  have hl9 : e.platform.stackLimits (T.setVm s.vm).me = e.platform.stackLimits s.me := X.limits
  have hb9 : (T.setVm s.vm).me.stackBytes = s.me.stackBytes := X.bytes
  refine ⟨X.admits, X.cas, X.clock, hF, ?_, X.hears, X.method, X.code, X.here, X.tail, X.warmed, ?_, ?_, ?_⟩
  · have h := X.room
    have hU : ((T.setVm s.vm).setFrames (.invoking m args :: below)).localsInUse = s.localsInUse := by
      rw [State.localsInUse_invoking hF (meth := meth) (c := c) X.method X.code, State.localsInUse_invoking X.frames X.method X.code]
    simp only [State.hasRoom, Bool.and_eq_true, decide_eq_true_eq] at h ⊢
    obtain ⟨⟨⟨⟨h1, h2, h3, h4, h5, h6⟩, h7⟩, h8⟩, h9⟩ := h
    rw [X.frames, List.length_cons] at h2 h3
    have q1 := X.heapSize
    have q2 := X.used
    simp only [hF, hU, List.length_cons, State.stackLimits_setFrames, State.stackBytes_setFrames, hl9, hb9]
    refine ⟨⟨⟨⟨by omega, by omega, by omega, by omega, by omega, h6⟩, ?_⟩, ?_⟩, X.book⟩
    · show T.heap.size + R'.cells ≤ e.platform.maxCells
      omega
    · show T.slotsUsed + R'.slots ≤ e.platform.maxSlots
      omega
  · rw [State.stackLimits_setFrames]; rfl
  · rw [State.stackBytes_setFrames]; rfl
  · refine ⟨?_, Nat.le_refl _, Nat.le_refl _, ?_, ?_, fun a c9 h9 => ⟨c9, h9, rfl, rfl, fun _ _ => rfl⟩⟩
    · obtain ⟨t, ht, -⟩ := State.frames_cons hr
      show T.setVm s.vm = { ((T.setVm s.vm).setFrames (.invoking m args :: below)).setFrames (T.setVm s.vm).frames with heap := T.heap, slotsUsed := T.slotsUsed }
      rw [State.setFrames_setFrames, State.setFrames_self ht]
      rfl
    · show T.slotsUsed = T.slotsUsed + ((T.heap.toList.drop T.heap.size).map (·.slots.size)).sum
      rw [List.drop_eq_nil_of_le (Nat.le_of_eq Array.length_toList)]
      rfl
    · show ((T.heap.toList.drop T.heap.size).map (·.slots.size)).sum ≤ 0
      rw [List.drop_eq_nil_of_le (Nat.le_of_eq Array.length_toList)]
      exact Nat.le_refl _
/-- 'throw new E()': new; dup; invokespecial; athrow -/
theorem vx_throw0 {cc : ByteArray} {pc : Nat} (hexec : p.tables.exec = Jvm.exec) (hb : c.code = cc) (hl : l.stackTraces = false) {own cls : String} {names : List String} {ik ic mc ms : Nat} {A : Nat → Prop}
    (hown : s.vm.findClass own = some m.cls) (hcls : Bundle.fit cls = true) (hnames : ∀ n ∈ names, Bundle.fit n = true)
    (hk : (Cond.classLink own ik cls).before args s = true) (hini : (Cond.initialized cls).before args s = true) (hat : ∀ w ∈ vx_at0 own ic cls names, w.before args s = true)
    (hgood : ∀ w ∈ Cond.classLink own ik cls :: Cond.initialized cls :: vx_at0 own ic cls names, vx_ot w = true)
    (hU : vx_Zq Bundle.tN "UNASSIGNED_STACK" Bundle.steD A s s.heap) (hN : vx_Zq Bundle.tN "SUPPRESSED_SENTINEL" Bundle.listD A s s.heap) (hS : va_S A s.heap H locs) (hsize : ls.size = c.maxLocals)
    (d0 : decode cc pc = .ok (.new ik, 3)) (d3 : decode cc (pc + 3) = .ok (.dup, 1)) (d4 : decode cc (pc + 4) = .ok (.invokespecial ic, 3)) (d7 : decode cc (pc + 7) = .ok (.athrow, 1))
    (hout : ∀ x ∈ c.exceptionTable.toList, covers x (pc + 7) = false)
    (hRframes : names.length + 3 < R.frames) (hRlocals : (rest.map fun v => v.category).sum + (13 * (names.length + 1) + 42) ≤ R.locals) (hRcells : cells + 1 ≤ R.cells) (hRslots : slots + 6 ≤ R.slots) (hlocks : meth.locks = false)
    (hx : ∀ t : State, s.vm.Alike t.vm → H.size ≤ t.heap.size → (∀ q : Nat, q < H.size → t.heap[q]? = H[q]?) → XC cls s t)
    (hf : ∀ z ∈ locs, free z.base) (hc : cells + 1 ≤ mc) (hs : slots + 6 ≤ ms) :
    W p l e R s m args below meth c H locs cells slots (vx_MQ below Qc XC args s mc ms free) (F0 m pc ls rest) := by
  intro T hT X
  have htr : e.platform.stackTraces = false := (show e.platform.stackTraces = l.stackTraces by rw [X.admits.platform]).trans hl
  have Y := vx_rebase X (R' := { frames := R.frames, locals := R.locals, cells := 1, slots := 6 }) (Nat.le_refl _) (Nat.le_refl _) hRcells hRslots
  obtain ⟨s', hA⟩ : ∃ z, z = (T.setVm s.vm).setFrames (.invoking m args :: below) := ⟨_, rfl⟩
  rw [← hA] at Y
  have hvm : s'.vm = s.vm := by rw [hA]; rfl
  have hhp : s'.heap = H := by rw [hA]; exact hT
  have hW0 : s.WarmedH s'.vm := by rw [hvm]; exact State.WarmedH.refl s
  have hat' : ∀ w ∈ vx_at0 own ic cls names, w.before args s' = true := fun w hw => vx_ot_at hW0 hvm.symm (hgood w (List.mem_cons_of_mem _ (List.mem_cons_of_mem _ hw))) (hat w hw)
  have hk' : (Cond.classLink own ik cls).before args s' = true := vx_ot_at hW0 hvm.symm (hgood _ List.mem_cons_self) hk
  have hini' : (Cond.initialized cls).before args s' = true := vx_ot_at hW0 hvm.symm (hgood _ (List.mem_cons_of_mem _ List.mem_cons_self)) hini
  have hU' : vx_Zq Bundle.tN "UNASSIGNED_STACK" Bundle.steD A s' s'.heap := by rw [hhp]; exact vx_Zq.moved hW0.alike (hU.kept hS.2.1)
  have hN' : vx_Zq Bundle.tN "SUPPRESSED_SENTINEL" Bundle.listD A s' s'.heap := by rw [hhp]; exact vx_Zq.moved hW0.alike (hN.kept hS.2.1)
  have h : ∀ w ∈ Bundle.ownAtoms0 own ic cls names, w.before args s' = true := vx_own hat' (vx_isRefq hU'.1) (vx_isRefq hN'.1) hU'.2.word hN'.2.word
  have hown' : s'.vm.findClass own = some m.cls := by rw [hvm]; exact hown
  have hins : (Cond.instantiable cls 6).before args s' = true := h _ (by simp [Bundle.ownAtoms0])
  obtain ⟨vm₁, cX, kX, hfX, hkX, -, -, X₁, st1⟩ := Y.newCold hexec (own := own) (C := cls) (index := ik) (n := 6) hown' hk' hins hini'
    (g := F0 m pc ls rest) rfl (by rw [hb]; exact d0) (Nat.le_refl _) (Nat.le_refl _)
  generalize hT1 : (T.setVm vm₁).pushCell { cls := cX, slots := kX.instanceTypes.map defaultValue, vm := .none } = T1 at X₁ st1
  have hcat : (Value.ref T.heap.size).category = 1 := rfl
  have hcellA : T1.heap[T.heap.size]? = some (freshCell cX kX) := by rw [← hT1]; exact State.heap_pushCell_size _ _
  have d3' : decode c.code (pc + 3) = .ok (.dup, 1) := by rw [hb]; exact d3
  obtain ⟨U, hsteps, hrun, hend, hW, hsame, ce, hce, hO⟩ := X₁.ctorThrow0 hexec htr (own := own) (cls := cls) (names := names) (ic := ic) hown' hcls hnames h (fun x hx => nomatch hx) hfX hkX hcellA (by rw [hhp, hT]; exact Nat.le_refl _)
    (g := { method := m, pc := pc + 4, locals := ls, stack := .ref T.heap.size :: .ref T.heap.size :: rest, locked := none }) rfl hsize rfl rfl (rest := rest) rfl
    (by rw [hb]; exact d4) (by rw [hb]; exact d7) hout hRframes (by simp only [List.map_cons, List.sum_cons, hcat]; omega) hlocks
  obtain ⟨f1, f2⟩ := vx_frame hsame
  rw [hhp] at f1 f2
  have hWs : s.WarmedH U.vm := State.WarmedH.trans hW0 hW
  have hcl : s.vm.findClass cls = some ce.cls := by
    have h9 := hO.cls
    rw [hvm] at h9
    exact h9
  have hall : s.sameButNew ({ U with vm := s.vm } : State) locs mc ms := by
    subst hA
    obtain ⟨e1, e2⟩ := hsame
    rw [State.setFrames_setFrames] at e1
    have h2 : (T.setVm s.vm).sameButNew ({ U with vm := s.vm } : State) [] (0 + 1) (0 + 6) := ⟨e1, e2⟩
    have h3 := X.same.trans h2
    rw [List.append_nil] at h3
    exact h3.mono hc hs
  refine ⟨U, ?_, .threw T.heap.size, hrun, hend, Or.inr ⟨T.heap.size, rfl, cls, ce, locs, hx U hWs.alike f1 (fun q hq => f2 q hq (fun z hz => nomatch hz)), hce, hO.vm, hcl, hWs, hall, hf⟩⟩
  refine st1 _ ?_
  show Steps p.tables e below (T1.setTop { method := m, pc := pc + 3, locals := ls, stack := .ref T.heap.size :: rest, locked := none }) _
  jvm_step X₁.here [X₁.here.top, hexec, d3', Value.category]
  exact hsteps
/-- 'throw new E("text")': new; dup; ldc; invokespecial; athrow -/
theorem vx_throwS {cc : ByteArray} {pc : Nat} (hexec : p.tables.exec = Jvm.exec) (hb : c.code = cc) (hl : l.stackTraces = false) {own cls text : String} {names : List String} {ik is ic mc ms sa : Nat} {A : Nat → Prop}
    (hown : s.vm.findClass own = some m.cls) (hcls : Bundle.fit cls = true) (hnames : ∀ n ∈ names, Bundle.fit n = true)
    (hk : (Cond.classLink own ik cls).before args s = true) (hini : (Cond.initialized cls).before args s = true) (hstr : vk_R own is text sa s) (hat : ∀ w ∈ vx_atS own ic cls names, w.before args s = true)
    (hgood : ∀ w ∈ Cond.classLink own ik cls :: Cond.initialized cls :: vx_atS own ic cls names, vx_ot w = true)
    (hU : vx_Zq Bundle.tN "UNASSIGNED_STACK" Bundle.steD A s s.heap) (hN : vx_Zq Bundle.tN "SUPPRESSED_SENTINEL" Bundle.listD A s s.heap) (hS : va_S A s.heap H locs) (hsize : ls.size = c.maxLocals)
    (d0 : decode cc pc = .ok (.new ik, 3)) (d3 : decode cc (pc + 3) = .ok (.dup, 1)) (d4 : decode cc (pc + 4) = .ok (.ldc is, 2)) (d6 : decode cc (pc + 6) = .ok (.invokespecial ic, 3)) (d9 : decode cc (pc + 9) = .ok (.athrow, 1))
    (hout : ∀ x ∈ c.exceptionTable.toList, covers x (pc + 9) = false)
    (hRframes : names.length + 3 < R.frames) (hRlocals : (rest.map fun v => v.category).sum + (13 * (names.length + 1) + 43) ≤ R.locals) (hRcells : cells + 1 ≤ R.cells) (hRslots : slots + 6 ≤ R.slots) (hlocks : meth.locks = false)
    (hx : ∀ t : State, s.vm.Alike t.vm → H.size ≤ t.heap.size → (∀ q : Nat, q < H.size → t.heap[q]? = H[q]?) → XC cls s t)
    (hf : ∀ z ∈ locs, free z.base) (hc : cells + 1 ≤ mc) (hs : slots + 6 ≤ ms) :
    W p l e R s m args below meth c H locs cells slots (vx_MQ below Qc XC args s mc ms free) (F0 m pc ls rest) := by
  intro T hT X
  have htr : e.platform.stackTraces = false := (show e.platform.stackTraces = l.stackTraces by rw [X.admits.platform]).trans hl
  have Y := vx_rebase X (R' := { frames := R.frames, locals := R.locals, cells := 1, slots := 6 }) (Nat.le_refl _) (Nat.le_refl _) hRcells hRslots
  obtain ⟨s', hA⟩ : ∃ z, z = (T.setVm s.vm).setFrames (.invoking m args :: below) := ⟨_, rfl⟩
  rw [← hA] at Y
  have hvm : s'.vm = s.vm := by rw [hA]; rfl
  have hhp : s'.heap = H := by rw [hA]; exact hT
  have hW0 : s.WarmedH s'.vm := by rw [hvm]; exact State.WarmedH.refl s
  have hat' : ∀ w ∈ vx_atS own ic cls names, w.before args s' = true := fun w hw => vx_ot_at hW0 hvm.symm (hgood w (List.mem_cons_of_mem _ (List.mem_cons_of_mem _ hw))) (hat w hw)
  have hk' : (Cond.classLink own ik cls).before args s' = true := vx_ot_at hW0 hvm.symm (hgood _ List.mem_cons_self) hk
  have hini' : (Cond.initialized cls).before args s' = true := vx_ot_at hW0 hvm.symm (hgood _ (List.mem_cons_of_mem _ List.mem_cons_self)) hini
  have hU' : vx_Zq Bundle.tN "UNASSIGNED_STACK" Bundle.steD A s' s'.heap := by rw [hhp]; exact vx_Zq.moved hW0.alike (hU.kept hS.2.1)
  have hN' : vx_Zq Bundle.tN "SUPPRESSED_SENTINEL" Bundle.listD A s' s'.heap := by rw [hhp]; exact vx_Zq.moved hW0.alike (hN.kept hS.2.1)
  have h : ∀ w ∈ Bundle.ownAtoms own ic cls names, w.before args s' = true := vx_own hat' (vx_isRefq hU'.1) (vx_isRefq hN'.1) hU'.2.word hN'.2.word
  have hown' : s'.vm.findClass own = some m.cls := by rw [hvm]; exact hown
  have hins : (Cond.instantiable cls 6).before args s' = true := h _ (by simp [Bundle.ownAtoms])
  obtain ⟨vm₁, cX, kX, hfX, hkX, -, -, X₁, st1⟩ := Y.newCold hexec (own := own) (C := cls) (index := ik) (n := 6) hown' hk' hins hini'
    (g := F0 m pc ls rest) rfl (by rw [hb]; exact d0) (Nat.le_refl _) (Nat.le_refl _)
  generalize hT1 : (T.setVm vm₁).pushCell { cls := cX, slots := kX.instanceTypes.map defaultValue, vm := .none } = T1 at X₁ st1
  have hcat : (Value.ref T.heap.size).category = 1 := rfl
  have hcellA : T1.heap[T.heap.size]? = some (freshCell cX kX) := by rw [← hT1]; exact State.heap_pushCell_size _ _
  have d3' : decode c.code (pc + 3) = .ok (.dup, 1) := by rw [hb]; exact d3
  have d4' : decode c.code (pc + 4) = .ok (.ldc is, 2) := by rw [hb]; exact d4
  have hstr' : vk_R own is text sa s' := vk_R.warm hW0 hstr
  obtain ⟨U, hsteps, hrun, hend, hW, hsame, ce, hce, hO⟩ := X₁.ctorThrowS hexec htr (own := own) (cls := cls) (names := names) (ic := ic) hown' hcls hnames h (fun x hx => nomatch hx) hfX hkX hcellA (by rw [hhp, hT]; exact Nat.le_refl _) (msg := .ref sa) rfl
    (g := { method := m, pc := pc + 6, locals := ls, stack := .ref sa :: .ref T.heap.size :: .ref T.heap.size :: rest, locked := none }) rfl hsize rfl rfl (rest := rest) rfl
    (by rw [hb]; exact d6) (by rw [hb]; exact d9) hout hRframes (by simp only [List.map_cons, List.sum_cons, hcat]; omega) hlocks
  obtain ⟨f1, f2⟩ := vx_frame hsame
  rw [hhp] at f1 f2
  have hWs : s.WarmedH U.vm := State.WarmedH.trans hW0 hW
  have hcl : s.vm.findClass cls = some ce.cls := by
    have h9 := hO.cls
    rw [hvm] at h9
    exact h9
  have hall : s.sameButNew ({ U with vm := s.vm } : State) locs mc ms := by
    subst hA
    obtain ⟨e1, e2⟩ := hsame
    rw [State.setFrames_setFrames] at e1
    have h2 : (T.setVm s.vm).sameButNew ({ U with vm := s.vm } : State) [] (0 + 1) (0 + 6) := ⟨e1, e2⟩
    have h3 := X.same.trans h2
    rw [List.append_nil] at h3
    exact h3.mono hc hs
  refine ⟨U, ?_, .threw T.heap.size, hrun, hend, Or.inr ⟨T.heap.size, rfl, cls, ce, locs, hx U hWs.alike f1 (fun q hq => f2 q hq (fun z hz => nomatch hz)), hce, hO.vm, hcl, hWs, hall, hf⟩⟩
  refine st1 _ ?_
  show Steps p.tables e below (T1.setTop { method := m, pc := pc + 3, locals := ls, stack := .ref T.heap.size :: rest, locked := none }) _
  jvm_step X₁.here [X₁.here.top, hexec, d3', Value.category]
  exact X₁.ldcString hexec (own := own) (text := text) (index := is) (a := sa) hown' hstr'.1 hstr'.2
    (g := { method := m, pc := pc + 4, locals := ls, stack := .ref T.heap.size :: .ref T.heap.size :: rest, locked := none }) rfl d4' _ hsteps
/-- 'throw new E("text")', the text by a wide index -/
theorem vx_throwSW {cc : ByteArray} {pc : Nat} (hexec : p.tables.exec = Jvm.exec) (hb : c.code = cc) (hl : l.stackTraces = false) {own cls text : String} {names : List String} {ik is ic mc ms sa : Nat} {A : Nat → Prop}
    (hown : s.vm.findClass own = some m.cls) (hcls : Bundle.fit cls = true) (hnames : ∀ n ∈ names, Bundle.fit n = true)
    (hk : (Cond.classLink own ik cls).before args s = true) (hini : (Cond.initialized cls).before args s = true) (hstr : vk_R own is text sa s) (hat : ∀ w ∈ vx_atS own ic cls names, w.before args s = true)
    (hgood : ∀ w ∈ Cond.classLink own ik cls :: Cond.initialized cls :: vx_atS own ic cls names, vx_ot w = true)
    (hU : vx_Zq Bundle.tN "UNASSIGNED_STACK" Bundle.steD A s s.heap) (hN : vx_Zq Bundle.tN "SUPPRESSED_SENTINEL" Bundle.listD A s s.heap) (hS : va_S A s.heap H locs) (hsize : ls.size = c.maxLocals)
    (d0 : decode cc pc = .ok (.new ik, 3)) (d3 : decode cc (pc + 3) = .ok (.dup, 1)) (d4 : decode cc (pc + 4) = .ok (.ldc_w is, 3)) (d7 : decode cc (pc + 7) = .ok (.invokespecial ic, 3)) (d10 : decode cc (pc + 10) = .ok (.athrow, 1))
    (hout : ∀ x ∈ c.exceptionTable.toList, covers x (pc + 10) = false)
    (hRframes : names.length + 3 < R.frames) (hRlocals : (rest.map fun v => v.category).sum + (13 * (names.length + 1) + 43) ≤ R.locals) (hRcells : cells + 1 ≤ R.cells) (hRslots : slots + 6 ≤ R.slots) (hlocks : meth.locks = false)
    (hx : ∀ t : State, s.vm.Alike t.vm → H.size ≤ t.heap.size → (∀ q : Nat, q < H.size → t.heap[q]? = H[q]?) → XC cls s t)
    (hf : ∀ z ∈ locs, free z.base) (hc : cells + 1 ≤ mc) (hs : slots + 6 ≤ ms) :
    W p l e R s m args below meth c H locs cells slots (vx_MQ below Qc XC args s mc ms free) (F0 m pc ls rest) := by
  intro T hT X
  have htr : e.platform.stackTraces = false := (show e.platform.stackTraces = l.stackTraces by rw [X.admits.platform]).trans hl
  have Y := vx_rebase X (R' := { frames := R.frames, locals := R.locals, cells := 1, slots := 6 }) (Nat.le_refl _) (Nat.le_refl _) hRcells hRslots
  obtain ⟨s', hA⟩ : ∃ z, z = (T.setVm s.vm).setFrames (.invoking m args :: below) := ⟨_, rfl⟩
  rw [← hA] at Y
  have hvm : s'.vm = s.vm := by rw [hA]; rfl
  have hhp : s'.heap = H := by rw [hA]; exact hT
  have hW0 : s.WarmedH s'.vm := by rw [hvm]; exact State.WarmedH.refl s
  have hat' : ∀ w ∈ vx_atS own ic cls names, w.before args s' = true := fun w hw => vx_ot_at hW0 hvm.symm (hgood w (List.mem_cons_of_mem _ (List.mem_cons_of_mem _ hw))) (hat w hw)
  have hk' : (Cond.classLink own ik cls).before args s' = true := vx_ot_at hW0 hvm.symm (hgood _ List.mem_cons_self) hk
  have hini' : (Cond.initialized cls).before args s' = true := vx_ot_at hW0 hvm.symm (hgood _ (List.mem_cons_of_mem _ List.mem_cons_self)) hini
  have hU' : vx_Zq Bundle.tN "UNASSIGNED_STACK" Bundle.steD A s' s'.heap := by rw [hhp]; exact vx_Zq.moved hW0.alike (hU.kept hS.2.1)
  have hN' : vx_Zq Bundle.tN "SUPPRESSED_SENTINEL" Bundle.listD A s' s'.heap := by rw [hhp]; exact vx_Zq.moved hW0.alike (hN.kept hS.2.1)
  have h : ∀ w ∈ Bundle.ownAtoms own ic cls names, w.before args s' = true := vx_own hat' (vx_isRefq hU'.1) (vx_isRefq hN'.1) hU'.2.word hN'.2.word
  have hown' : s'.vm.findClass own = some m.cls := by rw [hvm]; exact hown
  have hins : (Cond.instantiable cls 6).before args s' = true := h _ (by simp [Bundle.ownAtoms])
  obtain ⟨vm₁, cX, kX, hfX, hkX, -, -, X₁, st1⟩ := Y.newCold hexec (own := own) (C := cls) (index := ik) (n := 6) hown' hk' hins hini'
    (g := F0 m pc ls rest) rfl (by rw [hb]; exact d0) (Nat.le_refl _) (Nat.le_refl _)
  generalize hT1 : (T.setVm vm₁).pushCell { cls := cX, slots := kX.instanceTypes.map defaultValue, vm := .none } = T1 at X₁ st1
  have hcat : (Value.ref T.heap.size).category = 1 := rfl
  have hcellA : T1.heap[T.heap.size]? = some (freshCell cX kX) := by rw [← hT1]; exact State.heap_pushCell_size _ _
  have d3' : decode c.code (pc + 3) = .ok (.dup, 1) := by rw [hb]; exact d3
  have d4' : decode c.code (pc + 4) = .ok (.ldc_w is, 3) := by rw [hb]; exact d4
  have hstr' : vk_R own is text sa s' := vk_R.warm hW0 hstr
  obtain ⟨U, hsteps, hrun, hend, hW, hsame, ce, hce, hO⟩ := X₁.ctorThrowS hexec htr (own := own) (cls := cls) (names := names) (ic := ic) hown' hcls hnames h (fun x hx => nomatch hx) hfX hkX hcellA (by rw [hhp, hT]; exact Nat.le_refl _) (msg := .ref sa) rfl
    (g := { method := m, pc := pc + 7, locals := ls, stack := .ref sa :: .ref T.heap.size :: .ref T.heap.size :: rest, locked := none }) rfl hsize rfl rfl (rest := rest) rfl
    (by rw [hb]; exact d7) (by rw [hb]; exact d10) hout hRframes (by simp only [List.map_cons, List.sum_cons, hcat]; omega) hlocks
  obtain ⟨f1, f2⟩ := vx_frame hsame
  rw [hhp] at f1 f2
  have hWs : s.WarmedH U.vm := State.WarmedH.trans hW0 hW
  have hcl : s.vm.findClass cls = some ce.cls := by
    have h9 := hO.cls
    rw [hvm] at h9
    exact h9
  have hall : s.sameButNew ({ U with vm := s.vm } : State) locs mc ms := by
    subst hA
    obtain ⟨e1, e2⟩ := hsame
    rw [State.setFrames_setFrames] at e1
    have h2 : (T.setVm s.vm).sameButNew ({ U with vm := s.vm } : State) [] (0 + 1) (0 + 6) := ⟨e1, e2⟩
    have h3 := X.same.trans h2
    rw [List.append_nil] at h3
    exact h3.mono hc hs
  refine ⟨U, ?_, .threw T.heap.size, hrun, hend, Or.inr ⟨T.heap.size, rfl, cls, ce, locs, hx U hWs.alike f1 (fun q hq => f2 q hq (fun z hz => nomatch hz)), hce, hO.vm, hcl, hWs, hall, hf⟩⟩
  refine st1 _ ?_
  show Steps p.tables e below (T1.setTop { method := m, pc := pc + 3, locals := ls, stack := .ref T.heap.size :: rest, locked := none }) _
  jvm_step X₁.here [X₁.here.top, hexec, d3', Value.category]
  exact X₁.ldcStringW hexec (own := own) (text := text) (index := is) (a := sa) hown' hstr'.1 hstr'.2
    (g := { method := m, pc := pc + 4, locals := ls, stack := .ref T.heap.size :: .ref T.heap.size :: rest, locked := none }) rfl d4' _ hsteps
end Ends
section Bodies
variable {l : Launch}
theorem vx_ofW {y : MethodName} {ws ws' : List Cond} {rm : Room} {Pc : Array Value → State → Prop} {Qc : Array Value → State → Outcome → State → Prop} {XC : String → State → State → Prop} {mc ms : Nat} {free : Addr → Prop} {cc : ByteArray} {maxL : Nat} {ret : Option FieldType}
    (hy : plainName y.cls = true) (hw : ws = Cond.code y cc maxL ret :: ws')
    (body : ∀ p e s m args below meth c s₁, BodyLoose p l y (headSpec ws rm) cc maxL ret e s m args below meth c s₁ → c.maxLocals = maxL → (∀ x ∈ c.exceptionTable.toList, False) → Pc args s →
      W p l e (headSpec ws rm).room s m args below meth c s.heap [] 0 0 (vx_MQ below Qc XC args s mc ms free) (entryFrame m args maxL)) : vx_Met l y ws rm Pc Qc XC mc ms free := by
  refine MetFree.of_bodyS (code := cc) (maxLocals := maxL) (ret := ret) hy ?_ ?_
  · intro args s m h hn
    obtain ⟨meth, c, h1, h2, h3, h4, h5, h6, -, -⟩ := Cond.code_spec hn (atoms_spec (ws := ws) h _ (by rw [hw]; exact List.mem_cons_self))
    exact ⟨meth, c, h1, h2, h3, h4, h5, h6⟩
  · intro p e s m args below meth c s₁ B hml hP _
    have hh0 : s₁.heap = s.heap := by rw [B.state]; rfl
    have ht : ∀ x ∈ c.exceptionTable.toList, False := by
      obtain ⟨meth9, c9, h1, h2, -, -, -, -, h7, -⟩ := Cond.code_spec B.named (atoms_spec (ws := ws) B.pre _ (by rw [hw]; exact List.mem_cons_self))
      cases Option.some.inj (h1.symm.trans B.method)
      cases Option.some.inj (h2.symm.trans (Stand.of_body B).code)
      intro x hx
      rw [Array.isEmpty_iff.mp h7] at hx
      cases hx
    obtain ⟨t, a1, o, b1, b2, b3⟩ := body p e s m args below meth c s₁ B hml ht hP s₁ hh0 (Stand.of_body B)
    exact ⟨t, o, a1, b1, b2, b3⟩
/-- the table of a body with handlers -/
theorem vx_table {p : Program} {x y : MethodName} {S : Spec} {cc bytes : ByteArray} {maxL maxL' : Nat} {ret ret' : Option FieldType} {e : Env} {s s₁ : State} {m : MethodId} {args : Array Value} {below : List Frame} {meth : Method} {c : Code} {hh : List (Nat × Nat × Nat × Nat)}
    (B : BodyLoose p l y S cc maxL ret e s m args below meth c s₁) (h : (Cond.codeWith y bytes maxL' ret' hh).before args s = true) : c.exceptionTable.toList = tableOf hh := by
  obtain ⟨m9, meth9, c9, hn9, h1, h2, -, -, h6, -⟩ := Cond.codeWith_spec h
  cases Option.some.inj (hn9.symm.trans B.named)
  cases Option.some.inj (h1.symm.trans B.method)
  cases Option.some.inj (h2.symm.trans (Stand.of_body B).code)
  rw [← h6, table_eq]
end Bodies
end VXA
/-! ===== END ===== -/
/-! ===== BEGIN a static call of a method with an exception table ===== -/
section VXS
variable {p : Program} {l : Launch} {e : Env} {R : Room} {s : State} {m : MethodId} {args : Array Value} {below : List Frame} {meth : Method} {c : Code} {T : State} {H : Heap} {locs : List Loc} {cells slots : Nat}
abbrev vx_CSW (R : Room) (s : State) (args : Array Value) (own : String) (index : Nat) (y : MethodName) (bytes : ByteArray) (maxL : Nat) (ret : Option FieldType) (hh : List (Nat × Nat × Nat × Nat)) (ws : List Cond) (rm : Room) (mc ms n : Nat) : Prop :=
  (rm.cells = mc ∧ rm.slots = ms ∧ rm.frames + 1 ≤ R.frames ∧ 8 + (maxL + 11) + rm.locals ≤ R.locals ∧ (∀ w ∈ ws, ∀ (a' : Array Value) (U : State), s.WarmedH U.vm → w.before a' U = true) ∧ Cond.codeWith y bytes maxL ret hh ∈ ws) ∧
  (Cond.codeWith y bytes maxL ret hh).before args s = true ∧ (Cond.initialized y.cls).before args s = true ∧ (y.cls ≠ "java/lang/invoke/MethodHandle" ∧ y.cls ≠ "java/lang/invoke/VarHandle") ∧
  (∀ sig, parseMethodDescriptor y.desc = some sig → n = sig.parameters.length) ∧ (Cond.methodLink own index y).before args s = true ∧ (Cond.static y).before args s = true
theorem vx_cwSW {own : String} {index maxL mc ms : Nat} {y : MethodName} {bytes : ByteArray} {ret : Option FieldType} {hh : List (Nat × Nat × Nat × Nat)} {Ts ws ws' : List Cond} {rm : Room} (n : Nat) (ht : ∀ w ∈ Ts, w.before args s = true) (hT : GoodIn Ts (va_wsS own index y ws)) (hw : ws = Cond.codeWith y bytes maxL ret hh :: ws') (hrc : rm.cells = mc) (hrs : rm.slots = ms)
    (hd : y.cls ≠ "java/lang/invoke/MethodHandle" ∧ y.cls ≠ "java/lang/invoke/VarHandle" ∧ (parseMethodDescriptor y.desc).map (fun d => d.parameters.length) = some n) (hR : rm.frames + 1 ≤ R.frames ∧ 8 + (maxL + 11) + rm.locals ≤ R.locals) :
    vx_CSW R s args own index y bytes maxL ret hh ws rm mc ms n := by
  have ok : ∀ w ∈ va_wsS own index y ws, w.before args s = true := fun w h => ht w (hT w h).1
  have hG : GoodIn Ts ws := fun w h => hT w (by unfold va_wsS; exact List.mem_append_right _ h)
  have hc : Cond.codeWith y bytes maxL ret hh ∈ ws := by rw [hw]; exact List.mem_cons_self
  refine ⟨⟨hrc, hrs, hR.1, hR.2, pay_in ht hG, hc⟩, ht _ (hG _ hc).1, ok _ (by simp [va_wsS]), ⟨hd.1, hd.2.1⟩, fun sig h => ?_, ok _ (by simp [va_wsS]), ok _ (by simp [va_wsS])⟩
  have h2 := hd.2.2
  rw [h] at h2
  exact (Option.some.inj h2).symm
theorem vx_callSW (X : Stand p l e R s m args below meth c T locs cells slots) (hexec : p.tables.exec = Jvm.exec) {own : String} {index : Nat} {y : MethodName} {bytes : ByteArray} {maxL : Nat} {ret : Option FieldType} {hh : List (Nat × Nat × Nat × Nat)}
    (hown : s.vm.findClass own = some m.cls) (hlink : (Cond.methodLink own index y).before args s = true) (hstat : (Cond.static y).before args s = true) (hinit : (Cond.initialized y.cls).before args s = true)
    (hcode : (Cond.codeWith y bytes maxL ret hh).before args s = true) (hy : y.cls ≠ "java/lang/invoke/MethodHandle" ∧ y.cls ≠ "java/lang/invoke/VarHandle")
    {W9 : Nat} {Pre : Pt → Array Value → Prop} {Post : Pt → Array Value → Option Value → Pt → Prop} (hK : Back l R p e below s args y 3 W9 Pre Post)
    {g : JFrame} (hg : g.method = m) (hsize : g.locals.size = c.maxLocals) {argsL rest : List Value} (hlen : ∀ sig, parseMethodDescriptor y.desc = some sig → argsL.length = sig.parameters.length)
    (hstack : g.stack = argsL.reverse ++ rest) (hW : 2 * g.monitorRoom + (rest.map fun v => v.category).sum ≤ W9) (hdg : decode c.code g.pc = .ok (.invokestatic index, 3))
    (hpre : ∀ vm₁, s.WarmedH vm₁ → Pre ⟨T.setVm vm₁, locs, cells, slots⟩ argsL.toArray) :
    ∃ (v : Option Value) (vm₁ : Vm) (B : Pt), s.WarmedH vm₁ ∧ Stand p l e R s m args below meth c B.U B.locs B.cells B.slots ∧ Post ⟨T.setVm vm₁, locs, cells, slots⟩ argsL.toArray v B ∧
      ∀ target, Steps p.tables e below (B.U.setTop { g with pc := g.pc + 3, stack := v.toList ++ rest }) target → Steps p.tables e below (T.setTop g) target := by
  obtain ⟨mk, methM, cM, hnamed, hmethM, -, -, -, -, -, -, hsigM⟩ := Cond.codeWith_spec hcode
  have hstatic : methM.isStatic = true := Cond.static_spec hnamed hmethM hstat
  obtain ⟨kP, hkP, -⟩ := className_of_methodNamed hnamed
  have hinitP : kP.init = .initialized := Cond.initialized_spec (findClass_of_methodNamed hnamed) hkP hinit
  obtain ⟨vm₁, X₁, hstep₁⟩ := X.invokestatic hexec hown hlink hnamed hmethM hstatic hkP hinitP hy (g := g) hg (argsL := argsL) (rest := rest) (hlen _ hsigM) hstack hdg
  obtain ⟨v, B, X', hpost, hsteps⟩ := hK m meth c ⟨T.setVm vm₁, locs, cells, slots⟩ { g with stack := rest } (.invokestatic index) mk argsL.toArray X₁ hg hsize hdg hW (X₁.named hnamed) (hpre vm₁ X₁.warmed)
  exact ⟨v, vm₁, B, X₁.warmed, X', hpost, fun target h => hstep₁ _ fun acts => by rw [doInvoke_state]; exact hsteps.trans h⟩
theorem vx_runSW {y : MethodName} {bytes cc : ByteArray} {maxL nL mc ms n index : Nat} {ret : Option FieldType} {hh : List (Nat × Nat × Nat × Nat)} {ws : List Cond} {rm : Room} {Pc : Array Value → State → Prop} {Qc : Array Value → State → Outcome → State → Prop} {free : Addr → Prop} {Ts : List Cond} {own : String} {As rest : List Value} {g : JFrame}
    (S : CallFix p m c cc nL s args Ts own) (hM : Met l y ws rm Pc Qc mc ms free) (cw : vx_CSW R s args own index y bytes maxL ret hh ws rm mc ms n) (hp : PreS s H Pc As)
    (hg : g.method = m) (hn : As.length = n) (hsize : g.locals.size = nL) (hstack : g.stack = As.reverse ++ rest) (hW : 2 * g.monitorRoom + (rest.map fun v => v.category).sum ≤ 8) (hdg : decode cc g.pc = .ok (.invokestatic index, 3)) (hf : cells + mc ≤ R.cells ∧ slots + ms ≤ R.slots) :
    va_Run p l e R s m args below meth c H locs cells slots mc ms g rest (Qc As.toArray) (free) := by
  obtain ⟨⟨hrc, hrs, hfr, hlo, hws, hcw⟩, hcode, hini, hy, hlen, hl, hstt⟩ := cw
  have hK : Back l R p e below s args y 3 8 (PreOf R mc ms Pc) (PostOf Qc mc ms free) := va_backW (hh := hh) (bytes := bytes) (maxL := maxL) (ret := ret) hM hp.1 hrc hrs hfr hlo hws hcw (fun a' U hW => word_at hW (Or.inl (by first | rfl | simp [Cond.onTables, Cond.keeps, Cond.steady])) hini)
  obtain ⟨hx, hb, hml, ho, -⟩ := S
  intro T hT X
  obtain ⟨v, vm₁, ⟨U', l2, c2, s2⟩, hW₁, X', ⟨g', mk, t, L, e1, e2, hq, h1, hL, h2, h3⟩, st⟩ := vx_callSW X hx (hh := hh) (bytes := bytes) (maxL := maxL) (ret := ret) ho hl hstt hini hcode hy hK hg (hsize.trans hml.symm) (argsL := As) (rest := rest) (fun sig h => hn.trans (hlen sig h)) hstack hW (by rw [hb]; exact hdg)
    (fun vm₁ hW₁ => ⟨hf.1, hf.2, hp.2 (T.setVm vm₁) hT hW₁⟩)
  dsimp only [Pt.U, Pt.locs, Pt.cells, Pt.slots] at X' e1 e2 h1 h2 h3 st
  subst h1; subst h2; subst h3
  exact ⟨v, (T.setVm vm₁).calling g' mk As.toArray, t, U', L, hT, X', hL, e1, e2, hq, st⟩
/-- not caught here, past rows that name other classes: it goes on to the caller -/
theorem vx_outP {p : Program} {l : Launch} {e : Env} {R : Room} {s : State} {m : MethodId} {args : Array Value} {below : List Frame} {meth : Method} {c : Code} {H : Heap} {locs : List Loc} {cells slots : Nat} {free : Addr → Prop} {ls : Array Slot} {rest : List Value} {Qc : Array Value → State → Outcome → State → Prop} {XC : String → State → State → Prop}
    {pc : Nat} {own E : String} {ce : Cell} {q : Addr} {mc ms : Nat} (hown : s.vm.findClass own = some m.cls) (hlocks : meth.locks = false)
    (hpass : ∀ z ∈ c.exceptionTable.toList, covers z pc = false ∨ (z.catchType ≠ 0 ∧ ∃ nm : String, (Cond.classLink own z.catchType nm).before args s = true ∧ va_Nc E nm s)) (hcell : H[q]? = some ce) (hv : ce.vm = .none) (hcl : s.vm.findClass E = some ce.cls)
    (hx : ∀ t : State, t.heap = H → s.vm.Alike t.vm → XC E s t) (hf : ∀ z ∈ locs, free z.base) (hc : cells ≤ mc) (hs : slots ≤ ms) :
    vx_W p l e R s m args below meth c H locs cells slots (vx_MQ below Qc XC args s mc ms free) (F0 m pc ls rest) q := by
  intro T hT X
  have hpl : e.platform.magicAccessors = ({} : Platform).magicAccessors := by rw [X.admits.platform]
  obtain ⟨vm', hW', X', st⟩ := X.outThrough hlocks q (g := F0 m pc ls rest) rfl rfl rfl (cell := ce) (by rw [hT]; exact hcell) (by rw [hv]; rfl)
    (by obtain ⟨k9, h9, -⟩ := Vm.findClass_spec hcl; exact ⟨k9, h9⟩) (fun z hz => by
      rcases hpass z hz with h | ⟨hz0, nm, hl1, hn1⟩
      · exact Or.inl h
      · obtain ⟨c6, hc6, hcl6⟩ := Cond.classLink_spec hown hl1 e.platform hpl
        obtain ⟨a8, b8, h1, h2, h3⟩ := hn1
        cases Option.some.inj (h1.symm.trans hcl)
        cases Option.some.inj (h2.symm.trans hc6)
        exact Or.inr ⟨hz0, _, hcl6, h3⟩)
  obtain ⟨g₀, hfr⟩ := X'.frames_eq
  have hcell9 : ((T.setVm vm').setFrames (.throwing q :: below)).heap[q]? = some ce := by
    show T.heap[q]? = some ce
    rw [hT]; exact hcell
  have hend : Ended ((T.setVm vm').setFrames (.throwing q :: below)) below (.threw q) := State.frames_setFrames _ (State.cur_lt_of_frames hfr)
  refine ⟨(T.setVm vm').setFrames (.throwing q :: below), ?_, .threw q, X'.here.running, hend, Or.inr ⟨q, rfl, E, ce, locs, hx _ hT (X'.ends _).1.alike, hcell9, hv, hcl, (X'.ends _).1, (X'.ends _).2.mono hc hs, hf⟩⟩
  rw [X.pushThrowing_eq]
  exact st
/-- a thing of a world lies in the heap -/
theorem vx_lt {D : va_G} {cl : List vw_C} {ws : va_W} {H1 : Heap} (h : va_P D cl ws H1) {k : Nat} {q : Nat × va_E} (hk : ws[k]? = some q) : q.1 < H1.size := (h k q hk).lt
end VXS
/-! ===== END ===== -/
/-! ===== BEGIN methods with a table of their own: called by a name, returning or throwing ===== -/
section VXH
/-! vx_backW, vx_callVX, vx_callSX, vx_callVW, vx_runVW, vx_runVX, vx_runSX, vx_ofWH follow the same proofs as their sisters above (Free/Laws.lean, Shelf42/LK1.lean); vx_outP calls Shelf42/NT130.lean (outThrough). -/
section
variable {l : Launch} {R : Room} {p : Program} {e : Env} {below : List Frame} {s : State} {sargs : Array Value} {y : MethodName} {len W9 : Nat}
theorem vx_backW {ws : List Cond} {rm : Room} {Pc : Array Value → State → Prop} {Qc : Array Value → State → Outcome → State → Prop} {XC : String → State → State → Prop} {mc ms : Nat} {free : Addr → Prop} {bytes : ByteArray} {maxL : Nat} {ret : Option FieldType} {hh : List (Nat × Nat × Nat × Nat)}
    (hM : vx_Met l y ws rm Pc Qc XC mc ms free) (hblind : FrameBlind Pc) (hrc : rm.cells = mc) (hrs : rm.slots = ms)
    (hframes : rm.frames + 1 ≤ R.frames) (hlocals : W9 + (maxL + 11) + rm.locals ≤ R.locals)
    (hws : ∀ w ∈ ws, ∀ a' U, s.WarmedH U.vm → w.before a' U = true) (hcode : Cond.codeWith y bytes maxL ret hh ∈ ws) (hinit : ∀ a' U, s.WarmedH U.vm → (Cond.initialized y.cls).before a' U = true) :
    vx_Back l R p e below s sargs y len W9 (PreOf R mc ms Pc) (PostOf Qc mc ms free) (vx_Post XC mc ms free) := by
  intro m meth c A g ig mk a X hg hsize hdg hW hn hp
  have h1 : (headSpec ws rm).pre.before a A.U = true := atoms_intro fun w hw => hws w hw _ _ X.warmed
  have h2 : (Cond.codeWith y bytes maxL ret hh).before a A.U = true := hws _ hcode _ _ X.warmed
  have h3 : (Cond.initialized y.cls).before a A.U = true := hinit _ _ X.warmed
  have h4 : A.cells + (headSpec ws rm).room.cells ≤ R.cells := by rw [show (headSpec ws rm).room.cells = mc from hrc]; exact hp.1
  have h5 : A.slots + (headSpec ws rm).room.slots ≤ R.slots := by rw [show (headSpec ws rm).room.slots = ms from hrs]; exact hp.2.1
  have hPc : Pc a (A.U.calling g mk a) := hblind _ _ _ _ hp.2.2
  obtain ⟨U, Ls, c0, s0⟩ := A
  dsimp only [Pt.U, Pt.locs, Pt.cells, Pt.slots] at h1 h2 h3 h4 h5 X hn hPc ⊢
  obtain ⟨m9, methY, cY, hn9, hmY, hcY, -, hlY, -⟩ := Cond.codeWith_spec h2
  cases Option.some.inj (hn9.symm.trans hn)
  obtain ⟨kY, hkY, -⟩ := className_of_methodNamed hn
  have hinitY : kY.init = .initialized := Cond.initialized_spec (findClass_of_methodNamed hn) hkY h3
  have h : At U g.method c below := by rw [hg]; exact X.here
  have hlocals9 : W9 + (maxL + 11) + (headSpec ws rm).room.locals ≤ R.locals := hlocals
  have happ : (headSpec ws rm).appliesLoose y e.platform (U.calling g mk a) = true :=
    Spec.appliesLoose_calling (g := g) h hdg hn hkY hinitY
      (X.room_calling (g := g) (R' := (headSpec ws rm).room) hsize hmY hcY hframes (by rw [hlY]; omega) h4 h5) h1
  obtain ⟨mid, hmid⟩ := h.above
  have hfr : (U.setTop g).frames = (.java g :: mid) ++ below := by rw [State.frames_setTop' g h.top, hmid]; rfl
  obtain ⟨o, s₂, hsteps, -, hend, hq⟩ := Steps.callFree hM p X.admits X.cas X.clock (acts := []) hfr happ hPc trivial
  have hq' : vx_Q Qc XC mc ms free a (U.calling g mk a) o s₂ := hq
  rw [State.frames_setTop' g h.top] at hend
  obtain ⟨g₀, hg0⟩ := Option.isSome_iff_exists.mp h.top
  obtain ⟨r, hr⟩ := State.topJava?_eq_some.mp hg0
  have hr' : (({ U with heap := s₂.heap, slotsUsed := s₂.slotsUsed } : State).setVm s₂.vm).frames = .java g₀ :: r := hr
  rcases hq' with ⟨hqc, L, hfe, hL⟩ | ⟨q, rfl, E, ce, L, hx, hce, hcv, hcl, hW₂, hsm, hL⟩
  · obtain ⟨⟨v, rfl⟩, hW₂, e2, q2, q3, q4, q5, q6⟩ := id hfe
    have e3 : s₂ = ({ (U.calling g mk a).setFrames s₂.frames with heap := s₂.heap, slotsUsed := s₂.slotsUsed } : State).setVm s₂.vm := by
      have : s₂ = ({ s₂ with vm := (U.calling g mk a).vm } : State).setVm s₂.vm := rfl
      rw [e2] at this
      exact this
    obtain ⟨c₂, i₂, len₂, hc₂, hd₂, hf₂⟩ := hend
    have hW' : U.WarmedH s₂.vm := hW₂
    have hcc : c₂ = c := by
      have h1 : s₂.code? g.method = U.code? g.method := by
        rw [State.code?_eq, State.code?_eq, hW'.alike.method?]
      exact Option.some.inj (hc₂.symm.trans (h1.trans h.code))
    subst hcc
    have hlen : len₂ = len := by rw [hdg] at hd₂; cases hd₂; rfl
    subst hlen
    have hs₂ : s₂ = (({ U with heap := s₂.heap, slotsUsed := s₂.slotsUsed } : State).setVm s₂.vm).setTop { g with pc := g.pc + len₂, stack := v.toList ++ g.stack } := by
      refine e3.trans ?_
      rw [hf₂, State.calling_eq h.top, State.setFrames_setFrames, State.setTop_of_frames _ hr', hr]
      rfl
    have hsame : U.sameButNew ({ U with heap := s₂.heap, slotsUsed := s₂.slotsUsed } : State) L mc ms := by
      refine ⟨?_, q2, q3, q4, q5, q6⟩
      obtain ⟨t, ht, -⟩ := State.frames_cons hr
      show ({ U with heap := s₂.heap, slotsUsed := s₂.slotsUsed } : State) = { U.setFrames U.frames with heap := s₂.heap, slotsUsed := s₂.slotsUsed }
      rw [State.setFrames_self ht]
    subst hg
    refine Or.inl ⟨v, ⟨(({ U with heap := s₂.heap, slotsUsed := s₂.slotsUsed } : State).setVm s₂.vm), Ls ++ L, c0 + mc, s0 + ms⟩,
      ⟨X.admits, X.cas, X.clock, X.frames, X.room, X.hears, X.method, X.code, (X.here.setHeapUsed s₂.heap s₂.slotsUsed).setVm hW'.alike, X.tail, State.WarmedH.trans X.warmed hW', X.limits, X.bytes, X.same.trans (hsame.setVm s.vm)⟩,
      ⟨g, mk, s₂, L, rfl, rfl, hqc, rfl, hL, rfl, rfl⟩, ?_⟩
    show Steps p.tables e below _ ((({ U with heap := s₂.heap, slotsUsed := s₂.slotsUsed } : State).setVm s₂.vm).setTop { g with pc := g.pc + len₂, stack := v.toList ++ g.stack })
    rw [← hs₂]
    exact hsteps
  · obtain ⟨e2, q2, q3, q4, q5, q6⟩ := id hsm
    have e3 : s₂ = ({ (U.calling g mk a).setFrames s₂.frames with heap := s₂.heap, slotsUsed := s₂.slotsUsed } : State).setVm s₂.vm := by
      have : s₂ = ({ s₂ with vm := (U.calling g mk a).vm } : State).setVm s₂.vm := rfl
      rw [e2] at this
      exact this
    have hf₂ : s₂.frames = .throwing q :: .java g :: U.frames.tail := hend
    have hW' : U.WarmedH s₂.vm := hW₂
    have hs₂ : s₂ = ((({ U with heap := s₂.heap, slotsUsed := s₂.slotsUsed } : State).setVm s₂.vm).setTop g).pushFrame (.throwing q) := by
      refine e3.trans ?_
      rw [hf₂, State.calling_eq h.top, State.setFrames_setFrames, State.pushFrame, State.frames_setTop _ hr', State.setTop_of_frames _ hr', State.setFrames_setFrames, hr]
      rfl
    have hsame : U.sameButNew ({ U with heap := s₂.heap, slotsUsed := s₂.slotsUsed } : State) L mc ms := by
      refine ⟨?_, q2, q3, q4, q5, q6⟩
      obtain ⟨t, ht, -⟩ := State.frames_cons hr
      show ({ U with heap := s₂.heap, slotsUsed := s₂.slotsUsed } : State) = { U.setFrames U.frames with heap := s₂.heap, slotsUsed := s₂.slotsUsed }
      rw [State.setFrames_self ht]
    subst hg
    refine Or.inr ⟨q, ⟨(({ U with heap := s₂.heap, slotsUsed := s₂.slotsUsed } : State).setVm s₂.vm), Ls ++ L, c0 + mc, s0 + ms⟩,
      ⟨X.admits, X.cas, X.clock, X.frames, X.room, X.hears, X.method, X.code, (X.here.setHeapUsed s₂.heap s₂.slotsUsed).setVm hW'.alike, X.tail, State.WarmedH.trans X.warmed hW', X.limits, X.bytes, X.same.trans (hsame.setVm s.vm)⟩,
      ⟨g, mk, s₂, L, E, ce, rfl, rfl, hx, hce, hcv, hcl, rfl, hL, rfl, rfl⟩, ?_⟩
    show Steps p.tables e below _ (((({ U with heap := s₂.heap, slotsUsed := s₂.slotsUsed } : State).setVm s₂.vm).setTop g).pushFrame (.throwing q))
    rw [← hs₂]
    exact hsteps
end
variable {p : Program} {l : Launch} {e : Env} {R : Room} {s : State} {m : MethodId} {args : Array Value} {below : List Frame} {meth : Method} {c : Code} {T : State} {H : Heap} {locs : List Loc} {cells slots : Nat}
theorem vx_callVX (X : Stand p l e R s m args below meth c T locs cells slots) (hexec : p.tables.exec = Jvm.exec) {own C : String} {index : Nat} {y : MethodName} {bytes : ByteArray} {maxL : Nat} {ret : Option FieldType} {hh : List (Nat × Nat × Nat × Nat)}
    (hown : s.vm.findClass own = some m.cls) (hlink : (Cond.methodLink own index y).before args s = true) (hinst : (Cond.instanceMethod y).before args s = true) (hsel : (Cond.selects C y y).before args s = true)
    (hcode : (Cond.codeWith y bytes maxL ret hh).before args s = true) (hy : y.cls ≠ "java/lang/invoke/MethodHandle" ∧ y.cls ≠ "java/lang/invoke/VarHandle")
    {W9 : Nat} {Pre : Pt → Array Value → Prop} {Post : Pt → Array Value → Option Value → Pt → Prop} {PostX : Pt → Array Value → Addr → Pt → Prop} (hK : vx_Back l R p e below s args y 3 W9 Pre Post PostX)
    {b : Addr} {cellB : Cell} (hcell : T.heap[b]? = some cellB) (hobj : cellB.vm.isStatics = false) (hcls : s.vm.findClass C = some cellB.cls)
    {g : JFrame} (hg : g.method = m) (hsize : g.locals.size = c.maxLocals) {argsL rest : List Value} (hlen : ∀ sig, parseMethodDescriptor y.desc = some sig → argsL.length = sig.parameters.length)
    (hstack : g.stack = argsL.reverse ++ .ref b :: rest) (hW : 2 * g.monitorRoom + (rest.map fun v => v.category).sum ≤ W9) (hdg : decode c.code g.pc = .ok (.invokevirtual index, 3))
    (hpre : ∀ vm₁, s.WarmedH vm₁ → Pre ⟨T.setVm vm₁, locs, cells, slots⟩ (Value.ref b :: argsL).toArray) :
    (∃ (v : Option Value) (vm₁ : Vm) (B : Pt), s.WarmedH vm₁ ∧ Stand p l e R s m args below meth c B.U B.locs B.cells B.slots ∧ Post ⟨T.setVm vm₁, locs, cells, slots⟩ (Value.ref b :: argsL).toArray v B ∧
      ∀ target, Steps p.tables e below (B.U.setTop { g with pc := g.pc + 3, stack := v.toList ++ rest }) target → Steps p.tables e below (T.setTop g) target) ∨
    (∃ (q : Addr) (vm₁ : Vm) (B : Pt), s.WarmedH vm₁ ∧ Stand p l e R s m args below meth c B.U B.locs B.cells B.slots ∧ PostX ⟨T.setVm vm₁, locs, cells, slots⟩ (Value.ref b :: argsL).toArray q B ∧
      Steps p.tables e below (T.setTop g) ((B.U.setTop { g with stack := rest }).pushFrame (.throwing q))) := by
  obtain ⟨mk, methM, hnamed, hmethM, hstM, habM⟩ := Cond.instanceMethod_spec hinst
  obtain ⟨m8, methM', cM, hn8, hmethM', -, -, -, -, -, -, hsigM⟩ := Cond.codeWith_spec hcode
  cases Option.some.inj (hn8.symm.trans hnamed)
  cases hmethM.symm.trans hmethM'
  obtain ⟨c2, r2, m2, q1, q2, q3, q4, kP, hkP, hkPi⟩ := Cond.selects_spec hsel
  cases hcls.symm.trans q1
  cases (State.methodFound?_of_named hnamed hy).symm.trans q2
  cases hnamed.symm.trans q3
  have hselP : selectMethod e.platform s.vm cellB.cls mk = .method mk := by rw [Launch.admits_selectMethod X.admits]; exact q4
  obtain ⟨vm₁, X₁, hstep₁⟩ := X.invokevirtual hexec hown hlink hnamed hmethM hstM hkP hkPi hy (a := b) (cell := cellB) hcell
    (fun z h => by rw [h] at hobj; cases hobj) hselP hmethM habM hkP hkPi (g := g) hg (argsL := argsL) (rest := rest) (hlen _ hsigM) hstack hdg
  rcases hK m meth c ⟨T.setVm vm₁, locs, cells, slots⟩ { g with stack := rest } (.invokevirtual index) mk (Value.ref b :: argsL).toArray X₁ hg hsize hdg hW (X₁.named hnamed) (hpre vm₁ X₁.warmed) with ⟨v, B, X', hpost, hsteps⟩ | ⟨q, B, X', hpost, hsteps⟩
  · exact Or.inl ⟨v, vm₁, B, X₁.warmed, X', hpost, fun target h => hstep₁ _ fun acts => by rw [doInvoke_state]; exact hsteps.trans h⟩
  · exact Or.inr ⟨q, vm₁, B, X₁.warmed, X', hpost, hstep₁ _ fun acts => by rw [doInvoke_state]; exact hsteps⟩
theorem vx_callSX (X : Stand p l e R s m args below meth c T locs cells slots) (hexec : p.tables.exec = Jvm.exec) {own : String} {index : Nat} {y : MethodName} {bytes : ByteArray} {maxL : Nat} {ret : Option FieldType} {hh : List (Nat × Nat × Nat × Nat)}
    (hown : s.vm.findClass own = some m.cls) (hlink : (Cond.methodLink own index y).before args s = true) (hstat : (Cond.static y).before args s = true) (hinit : (Cond.initialized y.cls).before args s = true)
    (hcode : (Cond.codeWith y bytes maxL ret hh).before args s = true) (hy : y.cls ≠ "java/lang/invoke/MethodHandle" ∧ y.cls ≠ "java/lang/invoke/VarHandle")
    {W9 : Nat} {Pre : Pt → Array Value → Prop} {Post : Pt → Array Value → Option Value → Pt → Prop} {PostX : Pt → Array Value → Addr → Pt → Prop} (hK : vx_Back l R p e below s args y 3 W9 Pre Post PostX)
    {g : JFrame} (hg : g.method = m) (hsize : g.locals.size = c.maxLocals) {argsL rest : List Value} (hlen : ∀ sig, parseMethodDescriptor y.desc = some sig → argsL.length = sig.parameters.length)
    (hstack : g.stack = argsL.reverse ++ rest) (hW : 2 * g.monitorRoom + (rest.map fun v => v.category).sum ≤ W9) (hdg : decode c.code g.pc = .ok (.invokestatic index, 3))
    (hpre : ∀ vm₁, s.WarmedH vm₁ → Pre ⟨T.setVm vm₁, locs, cells, slots⟩ argsL.toArray) :
    (∃ (v : Option Value) (vm₁ : Vm) (B : Pt), s.WarmedH vm₁ ∧ Stand p l e R s m args below meth c B.U B.locs B.cells B.slots ∧ Post ⟨T.setVm vm₁, locs, cells, slots⟩ argsL.toArray v B ∧
      ∀ target, Steps p.tables e below (B.U.setTop { g with pc := g.pc + 3, stack := v.toList ++ rest }) target → Steps p.tables e below (T.setTop g) target) ∨
    (∃ (q : Addr) (vm₁ : Vm) (B : Pt), s.WarmedH vm₁ ∧ Stand p l e R s m args below meth c B.U B.locs B.cells B.slots ∧ PostX ⟨T.setVm vm₁, locs, cells, slots⟩ argsL.toArray q B ∧
      Steps p.tables e below (T.setTop g) ((B.U.setTop { g with stack := rest }).pushFrame (.throwing q))) := by
  obtain ⟨mk, methM, cM, hnamed, hmethM, -, -, -, -, -, -, hsigM⟩ := Cond.codeWith_spec hcode
  have hstatic : methM.isStatic = true := Cond.static_spec hnamed hmethM hstat
  obtain ⟨kP, hkP, -⟩ := className_of_methodNamed hnamed
  have hinitP : kP.init = .initialized := Cond.initialized_spec (findClass_of_methodNamed hnamed) hkP hinit
  obtain ⟨vm₁, X₁, hstep₁⟩ := X.invokestatic hexec hown hlink hnamed hmethM hstatic hkP hinitP hy (g := g) hg (argsL := argsL) (rest := rest) (hlen _ hsigM) hstack hdg
  rcases hK m meth c ⟨T.setVm vm₁, locs, cells, slots⟩ { g with stack := rest } (.invokestatic index) mk argsL.toArray X₁ hg hsize hdg hW (X₁.named hnamed) (hpre vm₁ X₁.warmed) with ⟨v, B, X', hpost, hsteps⟩ | ⟨q, B, X', hpost, hsteps⟩
  · exact Or.inl ⟨v, vm₁, B, X₁.warmed, X', hpost, fun target h => hstep₁ _ fun acts => by rw [doInvoke_state]; exact hsteps.trans h⟩
  · exact Or.inr ⟨q, vm₁, B, X₁.warmed, X', hpost, hstep₁ _ fun acts => by rw [doInvoke_state]; exact hsteps⟩
theorem vx_callVW (X : Stand p l e R s m args below meth c T locs cells slots) (hexec : p.tables.exec = Jvm.exec) {own C : String} {index : Nat} {y : MethodName} {bytes : ByteArray} {maxL : Nat} {ret : Option FieldType} {hh : List (Nat × Nat × Nat × Nat)}
    (hown : s.vm.findClass own = some m.cls) (hlink : (Cond.methodLink own index y).before args s = true) (hinst : (Cond.instanceMethod y).before args s = true) (hsel : (Cond.selects C y y).before args s = true)
    (hcode : (Cond.codeWith y bytes maxL ret hh).before args s = true) (hy : y.cls ≠ "java/lang/invoke/MethodHandle" ∧ y.cls ≠ "java/lang/invoke/VarHandle")
    {W9 : Nat} {Pre : Pt → Array Value → Prop} {Post : Pt → Array Value → Option Value → Pt → Prop} (hK : Back l R p e below s args y 3 W9 Pre Post)
    {b : Addr} {cellB : Cell} (hcell : T.heap[b]? = some cellB) (hobj : cellB.vm.isStatics = false) (hcls : s.vm.findClass C = some cellB.cls)
    {g : JFrame} (hg : g.method = m) (hsize : g.locals.size = c.maxLocals) {argsL rest : List Value} (hlen : ∀ sig, parseMethodDescriptor y.desc = some sig → argsL.length = sig.parameters.length)
    (hstack : g.stack = argsL.reverse ++ .ref b :: rest) (hW : 2 * g.monitorRoom + (rest.map fun v => v.category).sum ≤ W9) (hdg : decode c.code g.pc = .ok (.invokevirtual index, 3))
    (hpre : ∀ vm₁, s.WarmedH vm₁ → Pre ⟨T.setVm vm₁, locs, cells, slots⟩ (Value.ref b :: argsL).toArray) :
    ∃ (v : Option Value) (vm₁ : Vm) (B : Pt), s.WarmedH vm₁ ∧ Stand p l e R s m args below meth c B.U B.locs B.cells B.slots ∧ Post ⟨T.setVm vm₁, locs, cells, slots⟩ (Value.ref b :: argsL).toArray v B ∧
      ∀ target, Steps p.tables e below (B.U.setTop { g with pc := g.pc + 3, stack := v.toList ++ rest }) target → Steps p.tables e below (T.setTop g) target := by
  obtain ⟨mk, methM, hnamed, hmethM, hstM, habM⟩ := Cond.instanceMethod_spec hinst
  obtain ⟨m8, methM', cM, hn8, hmethM', -, -, -, -, -, -, hsigM⟩ := Cond.codeWith_spec hcode
  cases Option.some.inj (hn8.symm.trans hnamed)
  cases hmethM.symm.trans hmethM'
  obtain ⟨c2, r2, m2, q1, q2, q3, q4, kP, hkP, hkPi⟩ := Cond.selects_spec hsel
  cases hcls.symm.trans q1
  cases (State.methodFound?_of_named hnamed hy).symm.trans q2
  cases hnamed.symm.trans q3
  have hselP : selectMethod e.platform s.vm cellB.cls mk = .method mk := by rw [Launch.admits_selectMethod X.admits]; exact q4
  obtain ⟨vm₁, X₁, hstep₁⟩ := X.invokevirtual hexec hown hlink hnamed hmethM hstM hkP hkPi hy (a := b) (cell := cellB) hcell
    (fun z h => by rw [h] at hobj; cases hobj) hselP hmethM habM hkP hkPi (g := g) hg (argsL := argsL) (rest := rest) (hlen _ hsigM) hstack hdg
  obtain ⟨v, B, X', hpost, hsteps⟩ := hK m meth c ⟨T.setVm vm₁, locs, cells, slots⟩ { g with stack := rest } (.invokevirtual index) mk (Value.ref b :: argsL).toArray X₁ hg hsize hdg hW (X₁.named hnamed) (hpre vm₁ X₁.warmed)
  exact ⟨v, vm₁, B, X₁.warmed, X', hpost, fun target h => hstep₁ _ fun acts => by rw [doInvoke_state]; exact hsteps.trans h⟩
abbrev vx_CVW (R : Room) (s : State) (args : Array Value) (own C : String) (index : Nat) (y : MethodName) (bytes : ByteArray) (maxL : Nat) (ret : Option FieldType) (hh : List (Nat × Nat × Nat × Nat)) (ws : List Cond) (rm : Room) (mc ms n : Nat) : Prop :=
  (rm.cells = mc ∧ rm.slots = ms ∧ rm.frames + 1 ≤ R.frames ∧ 8 + (maxL + 11) + rm.locals ≤ R.locals ∧ (∀ w ∈ ws, ∀ (a' : Array Value) (U : State), s.WarmedH U.vm → w.before a' U = true) ∧ Cond.codeWith y bytes maxL ret hh ∈ ws) ∧
  (Cond.codeWith y bytes maxL ret hh).before args s = true ∧ (Cond.initialized y.cls).before args s = true ∧ (y.cls ≠ "java/lang/invoke/MethodHandle" ∧ y.cls ≠ "java/lang/invoke/VarHandle") ∧
  (∀ sig, parseMethodDescriptor y.desc = some sig → n = sig.parameters.length) ∧ (Cond.methodLink own index y).before args s = true ∧ (Cond.instanceMethod y).before args s = true ∧ (Cond.selects C y y).before args s = true
theorem vx_cwVW {own C : String} {index maxL mc ms : Nat} {y : MethodName} {bytes : ByteArray} {ret : Option FieldType} {hh : List (Nat × Nat × Nat × Nat)} {Ts ws ws' : List Cond} {rm : Room} (n : Nat) (ht : ∀ w ∈ Ts, w.before args s = true) (hT : GoodIn Ts (wsV own index C y ws)) (hw : ws = Cond.codeWith y bytes maxL ret hh :: ws') (hrc : rm.cells = mc) (hrs : rm.slots = ms)
    (hd : y.cls = C ∧ y.cls ≠ "java/lang/invoke/MethodHandle" ∧ y.cls ≠ "java/lang/invoke/VarHandle" ∧ (parseMethodDescriptor y.desc).map (fun d => d.parameters.length) = some n) (hR : rm.frames + 1 ≤ R.frames ∧ 8 + (maxL + 11) + rm.locals ≤ R.locals) :
    vx_CVW R s args own C index y bytes maxL ret hh ws rm mc ms n := by
  obtain ⟨hC, hd⟩ := hd
  subst hC
  have ok : ∀ w ∈ wsV own index y.cls y ws, w.before args s = true := fun w h => ht w (hT w h).1
  have hG : GoodIn Ts ws := fun w h => hT w (by unfold wsV; exact List.mem_append_right _ h)
  have hc : Cond.codeWith y bytes maxL ret hh ∈ ws := by rw [hw]; exact List.mem_cons_self
  refine ⟨⟨hrc, hrs, hR.1, hR.2, pay_in ht hG, hc⟩, ht _ (hG _ hc).1, ok _ (by simp [wsV]), ⟨hd.1, hd.2.1⟩, fun sig h => ?_, ok _ (by simp [wsV]), ok _ (by simp [wsV]), ok _ (by simp [wsV])⟩
  have h2 := hd.2.2
  rw [h] at h2
  exact (Option.some.inj h2).symm
theorem vx_runVW {y : MethodName} {bytes cc : ByteArray} {maxL nL mc ms n index : Nat} {ret : Option FieldType} {hh : List (Nat × Nat × Nat × Nat)} {ws : List Cond} {rm : Room} {Pc : Array Value → State → Prop} {Qc : Array Value → State → Outcome → State → Prop} {free : Addr → Prop} {Ts : List Cond} {own C : String} {b : Addr} {As rest : List Value} {g : JFrame}
    (S : CallFix p m c cc nL s args Ts own) (hM : Met l y ws rm Pc Qc mc ms free) (cw : vx_CVW R s args own C index y bytes maxL ret hh ws rm mc ms n) (hp : PreV s H C b Pc As)
    (hg : g.method = m) (hn : As.length = n) (hsize : g.locals.size = nL) (hstack : g.stack = As.reverse ++ .ref b :: rest) (hW : 2 * g.monitorRoom + (rest.map fun v => v.category).sum ≤ 8) (hdg : decode cc g.pc = .ok (.invokevirtual index, 3)) (hf : cells + mc ≤ R.cells ∧ slots + ms ≤ R.slots) :
    va_Run p l e R s m args below meth c H locs cells slots mc ms g rest (Qc (Value.ref b :: As).toArray) free := by
  obtain ⟨⟨hrc, hrs, hfr, hlo, hws, hcw⟩, hcode, hini, hy, hlen, hl, hin, hse⟩ := cw
  have hK : Back l R p e below s args y 3 8 (PreOf R mc ms Pc) (PostOf Qc mc ms free) := va_backW (hh := hh) (bytes := bytes) (maxL := maxL) (ret := ret) hM hp.1 hrc hrs hfr hlo hws hcw (fun a' U hW => word_at hW (Or.inl (by first | rfl | simp [Cond.onTables, Cond.keeps, Cond.steady])) hini)
  obtain ⟨hx, hb, hml, ho, -⟩ := S
  obtain ⟨-, ⟨cellB, hcB, hoB, hclB⟩, hPc⟩ := hp
  intro T hT X
  obtain ⟨v, vm₁, ⟨U', l2, c2, s2⟩, hW₁, X', ⟨g', mk, t, L, e1, e2, hq, h1, hL, h2, h3⟩, st⟩ := vx_callVW X hx (C := C) (hh := hh) (bytes := bytes) (maxL := maxL) (ret := ret) ho hl hin hse hcode hy hK (by rw [hT]; exact hcB) hoB hclB hg (hsize.trans hml.symm) (argsL := As) (rest := rest) (fun sig h => hn.trans (hlen sig h)) hstack hW (by rw [hb]; exact hdg)
    (fun vm₁ hW₁ => ⟨hf.1, hf.2, hPc (T.setVm vm₁) hT hW₁⟩)
  dsimp only [Pt.U, Pt.locs, Pt.cells, Pt.slots] at X' e1 e2 h1 h2 h3 st
  subst h1; subst h2; subst h3
  exact ⟨v, (T.setVm vm₁).calling g' mk (Value.ref b :: As).toArray, t, U', L, hT, X', hL, e1, e2, hq, st⟩
section
variable {y : MethodName} {bytes cc : ByteArray} {maxL nL mc ms n index : Nat} {ret : Option FieldType} {ws : List Cond} {rm : Room} {Pc : Array Value → State → Prop} {Qc : Array Value → State → Outcome → State → Prop} {XC : String → State → State → Prop} {free : Addr → Prop} {Ts : List Cond} {own C : String} {b : Addr} {As rest : List Value} {g : JFrame}
theorem vx_runVX {hh : List (Nat × Nat × Nat × Nat)} (S : CallFix p m c cc nL s args Ts own) (hM : vx_Met l y ws rm Pc Qc XC mc ms free) (cw : vx_CVW R s args own C index y bytes maxL ret hh ws rm mc ms n) (hp : PreV s H C b Pc As)
    (hg : g.method = m) (hn : As.length = n) (hsize : g.locals.size = nL) (hstack : g.stack = As.reverse ++ .ref b :: rest) (hW : 2 * g.monitorRoom + (rest.map fun v => v.category).sum ≤ 8) (hdg : decode cc g.pc = .ok (.invokevirtual index, 3)) (hf : cells + mc ≤ R.cells ∧ slots + ms ≤ R.slots) :
    vx_Run p l e R s m args below meth c H locs cells slots mc ms g rest (Qc (Value.ref b :: As).toArray) XC free := by
  obtain ⟨⟨hrc, hrs, hfr, hlo, hws, hcw⟩, hcode, hini, hy, hlen, hl, hin, hse⟩ := cw
  have hK : vx_Back l R p e below s args y 3 8 (PreOf R mc ms Pc) (PostOf Qc mc ms free) (vx_Post XC mc ms free) := vx_backW (hh := hh) (bytes := bytes) (maxL := maxL) (ret := ret) hM hp.1 hrc hrs hfr hlo hws hcw (fun a' U hW => word_at hW (Or.inl (by first | rfl | simp [Cond.onTables, Cond.keeps, Cond.steady])) hini)
  obtain ⟨hx, hb, hml, ho, -⟩ := S
  obtain ⟨-, ⟨cellB, hcB, hoB, hclB⟩, hPc⟩ := hp
  intro T hT X
  rcases vx_callVX X hx (C := C) (hh := hh) (bytes := bytes) (maxL := maxL) (ret := ret) ho hl hin hse hcode hy hK (by rw [hT]; exact hcB) hoB hclB hg (hsize.trans hml.symm) (argsL := As) (rest := rest) (fun sig h => hn.trans (hlen sig h)) hstack hW (by rw [hb]; exact hdg)
    (fun vm₁ hW₁ => ⟨hf.1, hf.2, hPc (T.setVm vm₁) hT hW₁⟩) with ⟨v, vm₁, ⟨U', l2, c2, s2⟩, hW₁, X', ⟨g', mk, t, L, e1, e2, hq, h1, hL, h2, h3⟩, st⟩ | ⟨q, vm₁, ⟨U', l2, c2, s2⟩, hW₁, X', ⟨g', mk, t, L, E, ce, e1, e2, hq, hce, hcv, hcl, h1, hL, h2, h3⟩, st⟩
  · dsimp only [Pt.U, Pt.locs, Pt.cells, Pt.slots] at X' e1 e2 h1 h2 h3 st
    subst h1; subst h2; subst h3
    exact Or.inl ⟨v, (T.setVm vm₁).calling g' mk (Value.ref b :: As).toArray, t, U', L, hT, X', hL, e1, e2, hq, st⟩
  · dsimp only [Pt.U, Pt.locs, Pt.cells, Pt.slots] at X' e1 e2 h1 h2 h3 st hcl
    subst h1; subst h2; subst h3
    exact Or.inr ⟨q, (T.setVm vm₁).calling g' mk (Value.ref b :: As).toArray, t, U', L, E, ce, hT, X', hL, e1, e2, hq, hce, hcv, vx_cls hW₁ hcl, st⟩
theorem vx_runSX {hh : List (Nat × Nat × Nat × Nat)} (S : CallFix p m c cc nL s args Ts own) (hM : vx_Met l y ws rm Pc Qc XC mc ms free) (cw : vx_CSW R s args own index y bytes maxL ret hh ws rm mc ms n) (hp : PreS s H Pc As)
    (hg : g.method = m) (hn : As.length = n) (hsize : g.locals.size = nL) (hstack : g.stack = As.reverse ++ rest) (hW : 2 * g.monitorRoom + (rest.map fun v => v.category).sum ≤ 8) (hdg : decode cc g.pc = .ok (.invokestatic index, 3)) (hf : cells + mc ≤ R.cells ∧ slots + ms ≤ R.slots) :
    vx_Run p l e R s m args below meth c H locs cells slots mc ms g rest (Qc As.toArray) XC free := by
  obtain ⟨⟨hrc, hrs, hfr, hlo, hws, hcw⟩, hcode, hini, hy, hlen, hl, hstt⟩ := cw
  have hK : vx_Back l R p e below s args y 3 8 (PreOf R mc ms Pc) (PostOf Qc mc ms free) (vx_Post XC mc ms free) := vx_backW (hh := hh) (bytes := bytes) (maxL := maxL) (ret := ret) hM hp.1 hrc hrs hfr hlo hws hcw (fun a' U hW => word_at hW (Or.inl (by first | rfl | simp [Cond.onTables, Cond.keeps, Cond.steady])) hini)
  obtain ⟨hx, hb, hml, ho, -⟩ := S
  intro T hT X
  rcases vx_callSX X hx (hh := hh) (bytes := bytes) (maxL := maxL) (ret := ret) ho hl hstt hini hcode hy hK hg (hsize.trans hml.symm) (argsL := As) (rest := rest) (fun sig h => hn.trans (hlen sig h)) hstack hW (by rw [hb]; exact hdg)
    (fun vm₁ hW₁ => ⟨hf.1, hf.2, hp.2 (T.setVm vm₁) hT hW₁⟩) with ⟨v, vm₁, ⟨U', l2, c2, s2⟩, hW₁, X', ⟨g', mk, t, L, e1, e2, hq, h1, hL, h2, h3⟩, st⟩ | ⟨q, vm₁, ⟨U', l2, c2, s2⟩, hW₁, X', ⟨g', mk, t, L, E, ce, e1, e2, hq, hce, hcv, hcl, h1, hL, h2, h3⟩, st⟩
  · dsimp only [Pt.U, Pt.locs, Pt.cells, Pt.slots] at X' e1 e2 h1 h2 h3 st
    subst h1; subst h2; subst h3
    exact Or.inl ⟨v, (T.setVm vm₁).calling g' mk As.toArray, t, U', L, hT, X', hL, e1, e2, hq, st⟩
  · dsimp only [Pt.U, Pt.locs, Pt.cells, Pt.slots] at X' e1 e2 h1 h2 h3 st hcl
    subst h1; subst h2; subst h3
    exact Or.inr ⟨q, (T.setVm vm₁).calling g' mk As.toArray, t, U', L, E, ce, hT, X', hL, e1, e2, hq, hce, hcv, vx_cls hW₁ hcl, st⟩
end
end VXH
theorem vx_ofWH {l : Launch} {y : MethodName} {ws ws' : List Cond} {rm : Room} {Pc : Array Value → State → Prop} {Qc : Array Value → State → Outcome → State → Prop} {XC : String → State → State → Prop} {mc ms : Nat} {free : Addr → Prop} {cc : ByteArray} {maxL : Nat} {ret : Option FieldType} {hh : List (Nat × Nat × Nat × Nat)}
    (hy : plainName y.cls = true) (hw : ws = Cond.codeWith y cc maxL ret hh :: ws')
    (body : ∀ p e s m args below meth c s₁, BodyLoose p l y (headSpec ws rm) cc maxL ret e s m args below meth c s₁ → c.maxLocals = maxL → Pc args s →
      W p l e (headSpec ws rm).room s m args below meth c s.heap [] 0 0 (vx_MQ below Qc XC args s mc ms free) (entryFrame m args maxL)) : vx_Met l y ws rm Pc Qc XC mc ms free := by
  refine MetFree.of_bodyS (code := cc) (maxLocals := maxL) (ret := ret) hy ?_ ?_
  · intro args s m h hn
    obtain ⟨m9, meth, c, hn9, h1, h2, h3, h4, -, h5, h6, -⟩ := Cond.codeWith_spec (atoms_spec (ws := ws) h _ (by rw [hw]; exact List.mem_cons_self))
    cases hn.symm.trans hn9
    exact ⟨meth, c, h1, h2, h3, h4, h5, h6⟩
  · intro p e s m args below meth c s₁ B hml hP _
    have hh0 : s₁.heap = s.heap := by rw [B.state]; rfl
    obtain ⟨t, a1, o, b1, b2, b3⟩ := body p e s m args below meth c s₁ B hml hP s₁ hh0 (Stand.of_body B)
    exact ⟨t, o, a1, b1, b2, b3⟩
/-! ===== END ===== -/
/-! ===== BEGIN what the machine throws by itself, no traces kept ===== -/
section VXM
set_option maxHeartbeats 1000000 in
/-- the machine throws cls with the message text, no traces kept: from its note over the frame g to 'throwing' over the same frame (follows the proofs of Stand.vmThrowsMessage, Shelf/KitTracedVmS.lean, and Stand.throwsMessageColdBareV, StandMessageColdV.lean, without the step out of the frame) -/
theorem vx_vmAt {p : Program} {l : Launch} {e : Env} {R : Room} {s : State} {m₀ : MethodId} {args : Array Value} {below : List Frame} {meth : Method} {c : Code} {W : State} {locs : List Loc} {cells slots : Nat}
    (X : Stand p l e R s m₀ args below meth c W locs cells slots) (hexec : p.tables.exec = Jvm.exec) (htr : e.platform.stackTraces = false) {cls : String} {names : List String} {text : String}
    (hcls : Bundle.fit cls = true) (hnames : ∀ n ∈ names, Bundle.fit n = true) (hsoe : (cls == "java/lang/StackOverflowError") = false) (hoom : (cls == "java/lang/OutOfMemoryError") = false)
    (h : ∀ a ∈ Bundle.messageArmAtoms cls names, a.before args s = true)
    (hlocs : ∀ x ∈ locs, ∀ cell, s.heap[x.base]? = some cell → cell.vm.isStatics = false)
    (htext : (text == notModelled) = false) (hlimit : ¬ (stringBytes (stringToUtf16 text)).size > e.platform.arrayLengthLimit) (hheap : ¬ (stringBytes (stringToUtf16 text)).size * componentBytes .byte > e.platform.maxHeapBytes)
    {g : JFrame} (hg : g.method = m₀) (hsize : g.locals.size = c.maxLocals)
    (hRframes : names.length + 4 < R.frames) (hRlocals : 2 * g.monitorRoom + (g.stack.map fun v => v.category).sum + 10240 ≤ R.locals) (hshort : 13 * names.length + 55 ≤ 10240)
    (hRcells : cells + 3 ≤ R.cells) (hRslots : slots + ((stringBytes (stringToUtf16 text)).size + 4 + 6) ≤ R.slots) (hlocks : meth.locks = false) :
    ∃ (S : State) (q : Addr) (ce : Cell), (∀ target, Steps p.tables e below ((S.setTop g).pushFrame (.throwing q)) target → Steps p.tables e below ((W.setTop g).pushFrame (.throwNew cls (some text) none)) target) ∧
      Stand p l e R s m₀ args below meth c S locs (cells + 3) (slots + ((stringBytes (stringToUtf16 text)).size + 4 + 6)) ∧ S.heap[q]? = some ce ∧ s.vm.findClass cls = some ce.cls ∧ ce.vm = .none := by
  have howns : e.platform.frameOwnsMonitors = true := by rw [X.admits.platform]
  have hfin : e.platform.finalization = false := by rw [X.admits.platform]
  have hpl : e.platform.magicAccessors = ({} : Platform).magicAccessors := by rw [X.admits.platform]
  have a : ∀ x, x ∈ Bundle.messageArmAtoms cls names → x.holds args s none s [] = true := fun x hx => h x hx
  obtain ⟨T, Z0, L, -, Y⟩ := ThrowableC.of_atoms (args := args) howns hfin hpl (fun x hx => h x (by simp [Bundle.messageArmAtoms, hx]))
  obtain ⟨Z, M, LZ, LM, hnZ⟩ := Init0T.ofS_atoms (args := args) hpl L Y (fun x hx => h x (by simp [Bundle.messageArmAtoms, hx]))
  obtain ⟨P1, Ps, hlen, L1, hL, hP1m, hlink1, hlink⟩ := Bundle.chainS (args := args) hpl hnZ names cls hcls hnames (fun x hx => h x (by simp [Bundle.messageArmAtoms, hx]))
  obtain ⟨Zs, LZs, hn4, hfitv, hfitc⟩ := StringT.of_atoms (args := args) (fun x hx => h x (by simp [Bundle.messageArmAtoms, hx]))
  have hfound : s.vm.findClass cls = some P1.m.cls := findClass_of_methodNamed hP1m
  obtain ⟨c1, kX, hc1, hk, hord, -, -, hn6⟩ := Cond.instantiable_spec (a (.instantiable cls 6) (by simp [Bundle.messageArmAtoms]))
  cases Option.some.inj (hc1.symm.trans hfound)
  have hinit := Cond.initialized_spec hfound hk (a (.initialized cls) (by simp [Bundle.messageArmAtoms]))
  have hctor : kX.findMethod "<init>" "(Ljava/lang/String;)V" = some P1.m.idx := findMethod_of_methodNamed hP1m hk
  have hsel0 : selectMethod e.platform s.vm P1.m.cls T.fill0 = .method T.fill0 := by
    obtain ⟨c2, r2, m2, q1, q2, q3, q4, -⟩ := Cond.selects_spec (a (.selects cls Bundle.tFill0 Bundle.tFill0) (by simp [Bundle.messageArmAtoms]))
    cases Option.some.inj (q1.symm.trans hfound)
    cases Option.some.inj (q2.symm.trans (State.methodFound?_of_named Y.fill0 (by decide)))
    cases Option.some.inj (q3.symm.trans Y.fill0)
    rw [Launch.admits_selectMethod X.admits]; exact q4
  have hselF : selectMethod e.platform s.vm P1.m.cls T.fill = .method T.fill := by
    obtain ⟨c2, r2, m2, q1, q2, q3, q4, -⟩ := Cond.selects_spec (a (.selects cls Bundle.tFill Bundle.tFill) (by simp [Bundle.messageArmAtoms]))
    cases Option.some.inj (q1.symm.trans hfound)
    cases Option.some.inj (q2.symm.trans (State.methodFound?_of_named Y.fill (by decide)))
    cases Option.some.inj (q3.symm.trans Y.fill)
    rw [Launch.admits_selectMethod X.admits]; exact q4
  obtain ⟨cellS0, hcS0, hiss⟩ := Y.statics
  obtain ⟨u0, hu0⟩ := Cond.staticRefV Y.unassigned L.unassignedStatic L.statics hcS0 hiss (a (.isRef (.static Bundle.tN "UNASSIGNED_STACK" Bundle.steD)) (by simp [Bundle.messageArmAtoms]))
  obtain ⟨sen, hsen⟩ := Cond.staticRefV Y.sentinel L.sentinelStatic L.statics hcS0 hiss (a (.isRef (.static Bundle.tN "SUPPRESSED_SENTINEL" Bundle.listD)) (by simp [Bundle.messageArmAtoms]))
  obtain ⟨ci198, i198, fB, hk198, hg198, ha198, hsB, -, hnB, htB, hffB⟩ := Cond.ownField (t := .object "java/lang/Object") Y.found L.cls (by decide +kernel) (a (.fieldLink Bundle.tN 198 Bundle.tN "backtrace" "Ljava/lang/Object;") (by simp [Bundle.messageArmAtoms])) (a (.lays Bundle.tN Bundle.tN "backtrace" "Ljava/lang/Object;") (by simp [Bundle.messageArmAtoms])) e.platform hpl
  obtain ⟨cellS, hcS', heS, -, hkeep⟩ := X.same.2.2.2.2.2 T.aS cellS0 hcS0
  have hcellS : W.heap[T.aS]? = some cellS := hcS'
  have hout' : ∀ i, (⟨T.aS, i⟩ : Loc) ∉ locs := fun i hmem => by
    have := hlocs _ hmem cellS0 hcS0
    rw [hiss] at this; cases this
  have hknownS : cellS.vm ≠ .unknown := by
    rw [heS]; intro hu
    rw [show cellS0.vm = .unknown from hu] at hiss
    cases hiss
  have hvU : cellS.slots[T.fUnassigned.slot]? = some u0.v := by rw [hkeep _ (hout' _)]; exact hu0
  have hvSen : cellS.slots[T.fSentinel.slot]? = some sen.v := by rw [hkeep _ (hout' _)]; exact hsen
  obtain ⟨iM, hffM⟩ := Y.msg
  obtain ⟨tyC, dC, hdC, hdnC⟩ := Cond.laysAt hfound hk Y.cause (a (.lays cls Bundle.tN "cause" "Ljava/lang/Throwable;") (by simp [Bundle.messageArmAtoms]))
  obtain ⟨tyS, dS, hdS, hdnS⟩ := Cond.laysAt hfound hk Y.stack (a (.lays cls Bundle.tN "stackTrace" Bundle.steD) (by simp [Bundle.messageArmAtoms]))
  obtain ⟨tyP, dP, hdP, hdnP⟩ := Cond.laysAt hfound hk Y.supp (a (.lays cls Bundle.tN "suppressedExceptions" Bundle.listD) (by simp [Bundle.messageArmAtoms]))
  obtain ⟨tyM, dM, hdM, hdnM⟩ := Cond.laysAt hfound hk hffM (a (.lays cls Bundle.tN "detailMessage" "Ljava/lang/String;") (by simp [Bundle.messageArmAtoms]))
  obtain ⟨tyB, dB, hdB, hdnB⟩ := Cond.laysAt hfound hk hffB (a (.lays cls Bundle.tN "backtrace" "Ljava/lang/Object;") (by simp [Bundle.messageArmAtoms]))
  have bC := Cond.laysApart hdB hdC hdnB hdnC (by rw [hnB, Y.causeName]; decide)
  have bS := Cond.laysApart hdB hdS hdnB hdnS (by rw [hnB, Y.stackName]; decide)
  have bP := Cond.laysApart hdB hdP hdnB hdnP (by rw [hnB, Y.suppName]; decide)
  have hbk : ((preparedCellV T.toThrowableT (freshCell P1.m.cls kX) (W.heap.size + 2) u0 sen).withEntry W.cur).slots[fB.slot]? = some .null := by
    have := fresh_default (c := P1.m.cls) tyB
    rw [htB] at this
    simpa [preparedCellV, Cell.setSlot, Cell.withEntry, Array.getElem?_setIfInBounds, bC, bS, bP, bC.symm, bS.symm, bP.symm, defaultValue] using this
  have tkC := Takes.of_laid (v := .ref (W.heap.size + 2)) hk hord tyC (by rw [Y.causeType]; rfl)
  have tkS := Takes.of_laid (v := u0.v) hk hord tyS (by rw [Y.stackType]; exact fits_refV_array _ u0)
  have tkP := Takes.of_laid (v := sen.v) hk hord tyP (by rw [Y.suppType]; exact fits_refV_object _ sen)
  have tkM := Takes.of_laid (v := .ref (W.heap.size + 1)) hk hord tyM (by rw [Y.msgType]; rfl)
  have hskip : SkipFacts T e.platform s (fun u => u) u0 ((preparedCellV T.toThrowableT (freshCell P1.m.cls kX) (W.heap.size + 2) u0 sen).withEntry W.cur) := ⟨{ ci198 := ci198, i198 := i198, fBack := fB }, ⟨hk198, hg198, ha198, hsB⟩, hbk, fun _ _ => rfl⟩
  have h0 : At W g.method c below := by rw [hg]; exact X.here
  obtain ⟨hbeyond, hfreeW⟩ := X.vmMayThrow hsize (.throwNew cls (some text) none) (fun f hf => by cases hf) rfl hRlocals
  have hfr' : W.frames.length + Ps.length + 4 < (e.platform.stackLimits W.me).1 := by have := X.framesAbove hRframes; omega
  have hwd' : (stackUse (.java g :: W.frames.tail)).2 + 13 * Ps.length + 55 ≤ (e.platform.stackLimits W.me).2 := by have := X.stackAbove hsize (K := 13 * Ps.length + 55) (by omega); omega
  have hslots : W.slotsUsed + (stringBytes (stringToUtf16 text)).size + Zs.kS.instanceTypes.size + kX.instanceTypes.size ≤ e.platform.maxSlots := by
    have := X.slotsAbove hRslots
    rw [hn4, hn6]
    omega
  obtain ⟨vm', hW', st⟩ := Steps.vmThrowsMessageColdByV p (s₀ := s) (S := W) (g := g) h0 hexec T L Z LZ M LM X.warmed (t := W.cur) rfl Zs LZs P1 L1 Ps hL hlink1 hlink hsoe hoom hfound hk hinit hord hctor
    (Launch.admits_hotImplicitExceptions X.admits) hbeyond hfreeW htext hlimit hheap (X.cellsAbove hRcells) hslots (hfitv _) (hfitc _)
    (Nn := fun u => u) heapOnly_id (fun _ _ => rfl) (fun _ => rfl) (fun u x y => setCell_twice _ _ _ _) (fun _ => Nat.le_refl _) (cN := ((preparedCellV T.toThrowableT (freshCell P1.m.cls kX) (W.heap.size + 2) u0 sen).withEntry W.cur))
    hsel0 hcellS hknownS hvU tkS (fun _ hu => hu) (fun _ hu => hu) rfl rfl rfl (by simp [preparedCellV, Cell.setSlot, Cell.withEntry]) hskip (fun _ _ hA hW _ hroom _ hrest => L.nativeOff p htr hA hW hroom hrest) hselF hvSen tkC tkP tkM Y.objLocals rfl hfr' hwd'
  rw [plainBareV_eq T.toThrowableT (W.heap.size + 2) u0 sen (.ref (W.heap.size + 1)) W.cur rfl rfl] at st
  obtain ⟨-, -, w3, w4, -, -, -⟩ := withThrown_facts e.platform W Zs text P1.m.cls kX
  have X3 := ((X.pushed (bytesOf Zs.cB (stringToUtf16 text))).pushed (stringAt Zs.cS Zs.kS Zs.fv Zs.fc (stringToUtf16 text) W.heap.size)).pushed (freshCell P1.m.cls kX)
  rw [← withString_eq] at X3
  have X4 := X3.noted hW'
  have ha : (W.heap.size + 2) < ((withThrown W Zs text P1.m.cls kX).setVm vm').heap.size := by show _ < (withThrown W Zs text P1.m.cls kX).heap.size; rw [w3]; omega
  have hcell : ((withThrown W Zs text P1.m.cls kX).setVm vm').heap[(W.heap.size + 2)]? = some (freshCell P1.m.cls kX) := w4
  have X5 := ((((X4.stored hcell T.fCause.slot (.ref (W.heap.size + 2))).storedAgain ha T.fStack.slot u0.v).storedAgain ha T.fSupp.slot sen.v).storedAgain ha T.fStack.slot u0.v).storedAgain ha T.fMsg.slot (.ref (W.heap.size + 1))
  obtain ⟨g₁, hfrM⟩ := X5.frames_eq
  have hU : ((((withThrown W Zs text P1.m.cls kX).setVm vm').setCell (W.heap.size + 2) (plainBareV T.toThrowableT (freshCell P1.m.cls kX) (W.heap.size + 2) u0 sen (.ref (W.heap.size + 1)))).setTop g).pushFrame (.throwing (W.heap.size + 2)) = (((withThrown W Zs text P1.m.cls kX).setVm vm').setCell (W.heap.size + 2) (plainBareV T.toThrowableT (freshCell P1.m.cls kX) (W.heap.size + 2) u0 sen (.ref (W.heap.size + 1)))).setFrames (.throwing (W.heap.size + 2) :: .java g :: below) := by
    rw [State.pushFrame, State.frames_setTop _ hfrM, State.setTop_of_frames _ hfrM, State.setFrames_setFrames]
  have b1 : (bytesOf Zs.cB (stringToUtf16 text)).slots.size = (stringBytes (stringToUtf16 text)).size := by
    rw [(Cell.writeAll_facts _ _).2.2]; simp [bytes0]
  have b2 : (stringAt Zs.cS Zs.kS Zs.fv Zs.fc (stringToUtf16 text) W.heap.size).slots.size = 4 := by simp [string0, Cell.setSlot, hn4]
  have b3 : (freshCell P1.m.cls kX).slots.size = 6 := by simp [hn6]
  rw [b1, b2, b3] at X5
  have e9 : slots + (stringBytes (stringToUtf16 text)).size + 4 + 6 = slots + ((stringBytes (stringToUtf16 text)).size + 4 + 6) := by omega
  rw [e9] at X5
  simp only [List.append_assoc, List.cons_append, List.nil_append] at X5
  refine ⟨((withThrown W Zs text P1.m.cls kX).setVm vm').setCell (W.heap.size + 2) (plainBareV T.toThrowableT (freshCell P1.m.cls kX) (W.heap.size + 2) u0 sen (.ref (W.heap.size + 1))), W.heap.size + 2, _, fun target ht => st _ (by rw [X.tail, ← hU]; exact ht),
    X5.forget (fun y hy => ?_), heapAt_setCell_self _ ha, hfound, rfl⟩
  simp only [List.mem_cons, List.not_mem_nil, or_false] at hy
  have hge : s.heap.size ≤ W.heap.size := X.same.2.1
  rcases hy with rfl | rfl | rfl | rfl | rfl <;> exact Nat.le_trans hge (Nat.le_add_right _ 2)
set_option maxHeartbeats 1000000 in
/-- the machine throws NullPointerException, no traces kept: from its note over the frame g to 'throwing' over the same frame (follows the proof of Stand.vmThrowsNpe, Shelf42/KT2.lean; throwsNpeColdBareVAt, Shelf42/NT91.lean, called) -/
theorem vx_npeAt {p : Program} {l : Launch} {e : Env} {R : Room} {s : State} {m₀ : MethodId} {args : Array Value} {below : List Frame} {meth : Method} {c : Code} {W : State} {locs : List Loc} {cells slots : Nat}
    (X : Stand p l e R s m₀ args below meth c W locs cells slots) (hexec : p.tables.exec = Jvm.exec) (htr : e.platform.stackTraces = false) {n : Nat}
    (h : ∀ a ∈ Bundle.npeArmAtoms n, a.before args s = true)
    (hlocs : ∀ x ∈ locs, ∀ cell, s.heap[x.base]? = some cell → cell.vm.isStatics = false)
    {g : JFrame} (hg : g.method = m₀) (hsize : g.locals.size = c.maxLocals)
    (hRframes : 7 < R.frames) (hRlocals : 2 * g.monitorRoom + (g.stack.map fun v => v.category).sum + 10240 ≤ R.locals)
    (hRcells : cells + 1 ≤ R.cells) (hRslots : slots + n ≤ R.slots) (hlocks : meth.locks = false) :
    ∃ (S : State) (q : Addr) (ce : Cell), (∀ target, Steps p.tables e below ((S.setTop g).pushFrame (.throwing q)) target → Steps p.tables e below ((W.setTop g).pushFrame (.throwNew "java/lang/NullPointerException" none none)) target) ∧
      Stand p l e R s m₀ args below meth c S locs (cells + 1) (slots + n) ∧ S.heap[q]? = some ce ∧ s.vm.findClass "java/lang/NullPointerException" = some ce.cls ∧ ce.vm = .none := by
  have howns : e.platform.frameOwnsMonitors = true := by rw [X.admits.platform]
  have hfin : e.platform.finalization = false := by rw [X.admits.platform]
  have hpl : e.platform.magicAccessors = ({} : Platform).magicAccessors := by rw [X.admits.platform]
  have hpl2 : e.platform.arrayCloneIsPublic = true := by rw [X.admits.platform]
  have a' : ∀ x, x ∈ Bundle.npeArmAtoms n → x.holds args s none s [] = true := fun x hx => h x hx
  obtain ⟨T, Z, L, LZ, Y⟩ := ThrowableC.of_atoms (args := args) howns hfin hpl (fun x hx => h x (by simp [Bundle.npeArmAtoms, hx]))
  obtain ⟨N, LN, hcN, hnNF, hordN, hffS⟩ := NpeC.of_atoms (args := args) hpl hpl2 L Y (fun x hx => h x (by simp [Bundle.npeArmAtoms, hx]))
  obtain ⟨P1, L1, hP1m, hP1s⟩ := PassC.of_atoms (args := args) (s := s) hpl (X := Bundle.nN) (Y := Bundle.rN) (by decide) (by decide) LibCode.NullPointerException.Init0.at_0 LibCode.NullPointerException.Init0.at_1 LibCode.NullPointerException.Init0.at_4 (fun x hx => h x (by simp [Bundle.npeArmAtoms, hx]))
  obtain ⟨PR, LR, hPRm, hPRs⟩ := PassC.of_atoms (args := args) (s := s) hpl (X := Bundle.rN) (Y := Bundle.eN) (by decide) (by decide) LibCode.RuntimeException.Init0.at_0 LibCode.RuntimeException.Init0.at_1 LibCode.RuntimeException.Init0.at_4 (fun x hx => h x (by simp [Bundle.npeArmAtoms, hx]))
  obtain ⟨PE, LEx, hPEm, hPEs⟩ := PassC.of_atoms (args := args) (s := s) hpl (X := Bundle.eN) (Y := Bundle.tN) (by decide) (by decide) LibCode.Exception.Init0.at_0 LibCode.Exception.Init0.at_1 LibCode.Exception.Init0.at_4 (fun x hx => h x (by simp [Bundle.npeArmAtoms, hx]))
  have hfound : s.vm.findClass Bundle.nN = some P1.m.cls := findClass_of_methodNamed hP1m
  have ecls : N.cN = P1.m.cls := Option.some.inj (hcN.symm.trans hfound)
  have hk : s.vm.classes[P1.m.cls]? = some N.kN := by rw [← ecls]; exact LN.cls
  have hinit := Cond.initialized_spec hfound hk (a' (.initialized Bundle.nN) (by simp [Bundle.npeArmAtoms]))
  have hctor : N.kN.findMethod "<init>" "()V" = some P1.m.idx := findMethod_of_methodNamed hP1m hk
  obtain ⟨c1, k1, hc1, hk1, -, -, -, hn⟩ := Cond.instantiable_spec (a' (.instantiable Bundle.nN n) (by simp [Bundle.npeArmAtoms]))
  cases Option.some.inj (hc1.symm.trans hfound)
  cases Option.some.inj (hk1.symm.trans hk)
  have hfsz : (freshCell P1.m.cls N.kN).slots.size = n := by simp [hn]
  have hlink1 : P1.sup = PR.m := Option.some.inj (hP1s.symm.trans hPRm)
  have hlinkR : PR.sup = PE.m := Option.some.inj (hPRs.symm.trans hPEm)
  have hlinkE : PE.sup = Z.m T.toThrowableT := Option.some.inj (hPEs.symm.trans Y.init0)
  have hLs : ∀ P, P ∈ [PR, PE] → P.Links0 e.platform s := fun P hP => by
    simp only [List.mem_cons, List.not_mem_nil, or_false] at hP
    rcases hP with rfl | rfl
    · exact LR
    · exact LEx
  have hsel0 : selectMethod e.platform s.vm P1.m.cls T.fill0 = .method T.fill0 := by
    obtain ⟨c2, r2, m2, q1, q2, q3, q4, -⟩ := Cond.selects_spec (a' (.selects Bundle.nN Bundle.tFill0 Bundle.tFill0) (by simp [Bundle.npeArmAtoms]))
    cases Option.some.inj (q1.symm.trans hfound)
    cases Option.some.inj (q2.symm.trans (State.methodFound?_of_named Y.fill0 (by decide)))
    cases Option.some.inj (q3.symm.trans Y.fill0)
    rw [Launch.admits_selectMethod X.admits]; exact q4
  have hselF : selectMethod e.platform s.vm P1.m.cls T.fill = .method N.fill := by
    obtain ⟨c2, r2, m2, q1, q2, q3, q4, -⟩ := Cond.selects_spec (a' (.selects Bundle.nN Bundle.tFill Bundle.nFill) (by simp [Bundle.npeArmAtoms]))
    cases Option.some.inj (q1.symm.trans hfound)
    cases Option.some.inj (q2.symm.trans (State.methodFound?_of_named Y.fill (by decide)))
    cases Option.some.inj (q3.symm.trans hnNF)
    rw [Launch.admits_selectMethod X.admits]; exact q4
  obtain ⟨cellS0, hcS0, hiss⟩ := Y.statics
  obtain ⟨u0, hu0⟩ := Cond.staticRefV Y.unassigned L.unassignedStatic L.statics hcS0 hiss (a' (.isRef (.static Bundle.tN "UNASSIGNED_STACK" Bundle.steD)) (by simp [Bundle.npeArmAtoms]))
  obtain ⟨sen, hsen⟩ := Cond.staticRefV Y.sentinel L.sentinelStatic L.statics hcS0 hiss (a' (.isRef (.static Bundle.tN "SUPPRESSED_SENTINEL" Bundle.listD)) (by simp [Bundle.npeArmAtoms]))
  obtain ⟨ci198, i198, fB, hk198, hg198, ha198, hsB, -, hnB, htB, hffB⟩ := Cond.ownField (t := .object "java/lang/Object") Y.found L.cls (by decide +kernel) (a' (.fieldLink Bundle.tN 198 Bundle.tN "backtrace" Bundle.objD) (by simp [Bundle.npeArmAtoms])) (a' (.lays Bundle.tN Bundle.tN "backtrace" Bundle.objD) (by simp [Bundle.npeArmAtoms])) e.platform hpl
  obtain ⟨cellS, hcS', heS, -, hkeep⟩ := X.same.2.2.2.2.2 T.aS cellS0 hcS0
  have hcellS : W.heap[T.aS]? = some cellS := hcS'
  have hout' : ∀ i, (⟨T.aS, i⟩ : Loc) ∉ locs := fun i hmem => by
    have := hlocs _ hmem cellS0 hcS0
    rw [hiss] at this; cases this
  have hknownS : cellS.vm ≠ .unknown := by
    rw [heS]; intro hu
    rw [show cellS0.vm = .unknown from hu] at hiss
    cases hiss
  have hvU : cellS.slots[T.fUnassigned.slot]? = some u0.v := by rw [hkeep _ (hout' _)]; exact hu0
  have hvSen : cellS.slots[T.fSentinel.slot]? = some sen.v := by rw [hkeep _ (hout' _)]; exact hsen
  obtain ⟨tyC, dC, hdC, hdnC⟩ := Cond.laysAt hfound hk Y.cause (a' (.lays Bundle.nN Bundle.tN "cause" "Ljava/lang/Throwable;") (by simp [Bundle.npeArmAtoms]))
  obtain ⟨tyS, dS, hdS, hdnS⟩ := Cond.laysAt hfound hk Y.stack (a' (.lays Bundle.nN Bundle.tN "stackTrace" Bundle.steD) (by simp [Bundle.npeArmAtoms]))
  obtain ⟨tyP, dP, hdP, hdnP⟩ := Cond.laysAt hfound hk Y.supp (a' (.lays Bundle.nN Bundle.tN "suppressedExceptions" Bundle.listD) (by simp [Bundle.npeArmAtoms]))
  obtain ⟨tyX, dX, hdX, hdnX⟩ := Cond.laysAt hfound hk hffS (a' (.lays Bundle.nN Bundle.nN "extendedMessageState" "I") (by simp [Bundle.npeArmAtoms, Bundle.npeAtoms]))
  obtain ⟨hnX, htX⟩ := State.fieldFound?_type hffS (t := .int) (by decide +kernel)
  have xC := Cond.laysApart hdC hdX hdnC hdnX (by rw [hnX, Y.causeName]; decide)
  have xS := Cond.laysApart hdS hdX hdnS hdnX (by rw [hnX, Y.stackName]; decide)
  have xP := Cond.laysApart hdP hdX hdnP hdnX (by rw [hnX, Y.suppName]; decide)
  have hv0 : (freshCell P1.m.cls N.kN).slots[N.fState.slot]? = some (.int 0) := by
    have := fresh_default (c := P1.m.cls) tyX
    rw [htX] at this; exact this
  obtain ⟨tyB, dB, hdB, hdnB⟩ := Cond.laysAt hfound hk hffB (a' (.lays Bundle.nN Bundle.tN "backtrace" Bundle.objD) (by simp [Bundle.npeArmAtoms]))
  have bC := Cond.laysApart hdB hdC hdnB hdnC (by rw [hnB, Y.causeName]; decide)
  have bS := Cond.laysApart hdB hdS hdnB hdnS (by rw [hnB, Y.stackName]; decide)
  have bP := Cond.laysApart hdB hdP hdnB hdnP (by rw [hnB, Y.suppName]; decide)
  have bX := Cond.laysApart hdB hdX hdnB hdnX (by rw [hnB, hnX]; decide)
  have hbk : ((npeCell N.toNpeT (preparedCellV T.toThrowableT (freshCell P1.m.cls N.kN) W.heap.size u0 sen) W.cur).withEntry W.cur).slots[fB.slot]? = some .null := by
    have := fresh_default (c := P1.m.cls) tyB
    rw [htB] at this
    simpa [npeCell, preparedCellV, Cell.setSlot, Cell.withEntry, Array.getElem?_setIfInBounds, bC, bS, bP, bX, bC.symm, bS.symm, bP.symm, bX.symm, defaultValue] using this
  have tkC := Takes.of_laid (v := .ref W.heap.size) hk hordN tyC (by rw [Y.causeType]; rfl)
  have tkS := Takes.of_laid (v := u0.v) hk hordN tyS (by rw [Y.stackType]; exact fits_refV_array _ u0)
  have tkP := Takes.of_laid (v := sen.v) hk hordN tyP (by rw [Y.suppType]; exact fits_refV_object _ sen)
  have tkX := Takes.of_laid (v := .int 1) hk hordN tyX (by rw [htX]; rfl)
  have hskip : SkipFacts T e.platform s (fun u => u) u0 ((npeCell N.toNpeT (preparedCellV T.toThrowableT (freshCell P1.m.cls N.kN) W.heap.size u0 sen) W.cur).withEntry W.cur) := ⟨{ ci198 := ci198, i198 := i198, fBack := fB }, ⟨hk198, hg198, ha198, hsB⟩, hbk, fun _ _ => rfl⟩
  obtain ⟨vm', X3, st, -⟩ := X.throwsNpeColdBareVAt hexec hg hsize T L Z LZ N LN P1 L1 [PR, PE] hLs hlink1 ⟨hlinkR, hlinkE, trivial⟩ hfound hk hinit hordN hctor hsel0 hselF hcellS hknownS hvU hvSen
    hv0 xC xS xP tkC tkS tkP tkX Y.objLocals hskip (fun _ _ hA hW _ hroom _ hrest => L.nativeOff p htr hA hW hroom hrest) (by simpa using hRframes) hRlocals (by simp) hRcells (by rw [hn]; exact hRslots)
  have hlt : W.heap.size < ((W.pushCell (freshCell P1.m.cls N.kN)).setVm vm').heap.size := by
    show W.heap.size < (W.pushCell (freshCell P1.m.cls N.kN)).heap.size
    rw [State.heap_size_pushCell]; omega
  rw [hfsz] at X3
  obtain ⟨g₁, hfrM⟩ := X3.frames_eq
  have hU : ((((W.pushCell (freshCell P1.m.cls N.kN)).setVm vm').setCell W.heap.size (npeBareV T.toThrowableT N.toNpeT (freshCell P1.m.cls N.kN) W.heap.size u0 sen)).setTop g).pushFrame (.throwing W.heap.size) = (((W.pushCell (freshCell P1.m.cls N.kN)).setVm vm').setCell W.heap.size (npeBareV T.toThrowableT N.toNpeT (freshCell P1.m.cls N.kN) W.heap.size u0 sen)).setFrames (.throwing W.heap.size :: .java g :: below) := by
    rw [State.pushFrame, State.frames_setTop _ hfrM, State.setTop_of_frames _ hfrM, State.setFrames_setFrames]
  refine ⟨_, W.heap.size, _, fun target ht => st.trans (by rw [← hU]; exact ht), X3.forget (fun y hy => ?_), heapAt_setCell_self _ hlt, hfound, rfl⟩
  simp only [List.mem_cons, List.not_mem_nil, or_false] at hy
  have hge : s.heap.size ≤ W.heap.size := X.same.2.1
  rcases hy with rfl | rfl | rfl | rfl | rfl <;> exact hge
/-- the words of a machine's NullPointerException, but the four that speak of the heap -/
def vx_atN (n : Nat) : List Cond := (Bundle.npeArmAtoms n).filter vx_no
/-- the words of a machine's throw with a message, but the four that speak of the heap -/
def vx_atM (X : String) (names : List String) : List Cond := (Bundle.messageArmAtoms X names).filter vx_no
section
variable {p : Program} {l : Launch} {e : Env} {R : Room} {s : State} {m : MethodId} {args : Array Value} {below : List Frame} {meth : Method} {c : Code} {H : Heap} {locs : List Loc} {cells slots : Nat}
/-- a frame seen from a rebased start, seen from the first start again -/
theorem vx_back9 {T S : State} {R' : Room} {k n : Nat} (X : Stand p l e R s m args below meth c T locs cells slots) (Y : Stand p l e R' ((T.setVm s.vm).setFrames (.invoking m args :: below)) m args below meth c T [] 0 0) (Z : Stand p l e R' ((T.setVm s.vm).setFrames (.invoking m args :: below)) m args below meth c S [] k n) :
    Stand p l e R s m args below meth c S locs (cells + k) (slots + n) := by
  have hW0 : s.WarmedH ((T.setVm s.vm).setFrames (.invoking m args :: below)).vm := State.WarmedH.refl s
  refine { admits := X.admits, cas := X.cas, clock := X.clock, frames := X.frames, room := X.room, hears := X.hears, method := X.method, code := X.code, here := Z.here, tail := Z.tail, warmed := State.WarmedH.trans hW0 Z.warmed, limits := Z.limits.trans (Y.limits.symm.trans X.limits), bytes := Z.bytes.trans (Y.bytes.symm.trans X.bytes), same := ?_ }
  obtain ⟨e1, e2⟩ := Z.same
  rw [State.setFrames_setFrames] at e1
  have h2 : (T.setVm s.vm).sameButNew (S.setVm s.vm) [] k n := ⟨e1, e2⟩
  have h3 := X.same.trans h2
  rw [List.append_nil] at h3
  exact h3
/-- from the machine's note that E is thrown here with this text -/
def vx_Note (p : Program) (l : Launch) (e : Env) (R : Room) (s : State) (m : MethodId) (args : Array Value) (below : List Frame) (meth : Method) (c : Code) (H : Heap) (locs : List Loc) (cells slots : Nat) (Q : State → Prop) (g : JFrame) (E text : String) : Prop :=
  ∀ T : State, T.heap = H → Stand p l e R s m args below meth c T locs cells slots → ∃ t, Steps p.tables e below ((T.setTop g).pushFrame (.throwNew E (some text) none)) t ∧ Q t
theorem vx_vm {pc : Nat} {ls : Array Slot} {rest : List Value} {Q : State → Prop} (hexec : p.tables.exec = Jvm.exec) (hl : l.stackTraces = false) {cls text : String} {names : List String} {nb : Nat} {A : Nat → Prop}
    (hcls : Bundle.fit cls = true) (hnames : ∀ n ∈ names, Bundle.fit n = true) (hsoe : (cls == "java/lang/StackOverflowError") = false) (hoom : (cls == "java/lang/OutOfMemoryError") = false)
    (hat : ∀ w ∈ vx_atM cls names, w.before args s = true) (hgood : ∀ w ∈ vx_atM cls names, vx_ot w = true)
    (hU : vx_Zq Bundle.tN "UNASSIGNED_STACK" Bundle.steD A s s.heap) (hN : vx_Zq Bundle.tN "SUPPRESSED_SENTINEL" Bundle.listD A s s.heap) (hS : va_S A s.heap H locs) (hsize : ls.size = c.maxLocals)
    (htext : (text == notModelled) = false) (hnb : (stringBytes (stringToUtf16 text)).size ≤ nb) (hnb1 : nb ≤ 1000)
    (hRframes : names.length + 4 < R.frames) (hRlocals : (rest.map fun v => v.category).sum + 10240 ≤ R.locals) (hshort : 13 * names.length + 55 ≤ 10240) (hRcells : cells + 3 ≤ R.cells) (hRslots : slots + (nb + 10) ≤ R.slots) (hlocks : meth.locks = false)
    (k : ∀ (H1 : Heap) (q9 : Addr) (ce : Cell), H.size ≤ H1.size → (∀ q : Nat, q < H.size → H1[q]? = H[q]?) → va_S A s.heap H1 locs → H1[q9]? = some ce → ce.vm = .none → s.vm.findClass cls = some ce.cls → vx_W p l e R s m args below meth c H1 locs (cells + 3) (slots + (nb + 10)) Q (F0 m pc ls rest) q9) :
    vx_Note p l e R s m args below meth c H locs cells slots Q (F0 m pc ls rest) cls text := by
  intro T hT X
  have htr : e.platform.stackTraces = false := (show e.platform.stackTraces = l.stackTraces by rw [X.admits.platform]).trans hl
  have Y := vx_rebase X (R' := { frames := R.frames, locals := R.locals, cells := 3, slots := nb + 10 }) (Nat.le_refl _) (Nat.le_refl _) hRcells hRslots
  have hhp : ((T.setVm s.vm).setFrames (.invoking m args :: below)).heap = H := hT
  have hW0 : s.WarmedH ((T.setVm s.vm).setFrames (.invoking m args :: below)).vm := State.WarmedH.refl s
  have hat' : ∀ w ∈ vx_atM cls names, w.before args ((T.setVm s.vm).setFrames (.invoking m args :: below)) = true := fun w hw => vx_ot_at hW0 rfl (hgood w hw) (hat w hw)
  have hU' : vx_Zq Bundle.tN "UNASSIGNED_STACK" Bundle.steD A ((T.setVm s.vm).setFrames (.invoking m args :: below)) ((T.setVm s.vm).setFrames (.invoking m args :: below)).heap := by rw [hhp]; exact vx_Zq.moved hW0.alike (hU.kept hS.2.1)
  have hN' : vx_Zq Bundle.tN "SUPPRESSED_SENTINEL" Bundle.listD A ((T.setVm s.vm).setFrames (.invoking m args :: below)) ((T.setVm s.vm).setFrames (.invoking m args :: below)).heap := by rw [hhp]; exact vx_Zq.moved hW0.alike (hN.kept hS.2.1)
  obtain ⟨S, q, ce, st, Z, hce, hcl', hv⟩ := vx_vmAt Y hexec htr (cls := cls) (names := names) (text := text) hcls hnames hsoe hoom (vx_own hat' (vx_isRefq hU'.1) (vx_isRefq hN'.1) hU'.2.word hN'.2.word) (fun x hx => nomatch hx) htext
    (by rw [Launch.admits_arrayLengthLimit X.admits]; omega) (by rw [Launch.admits_maxHeapBytes X.admits]; simp only [componentBytes]; omega)
    (g := F0 m pc ls rest) rfl hsize hRframes (by show 2 * 0 + (rest.map fun v => v.category).sum + 10240 ≤ R.locals; omega) hshort (by show 0 + 3 ≤ 3; omega) (by show 0 + (_ + 4 + 6) ≤ nb + 10; omega) hlocks
  obtain ⟨f1, f2⟩ := vx_frame Z.same
  have f1' : H.size ≤ S.heap.size := by rw [← hT]; exact f1
  have f2' : ∀ q : Nat, q < H.size → S.heap[q]? = H[q]? := fun q hq => by
    rw [← hT]
    exact f2 q (by rw [← hT] at hq; exact hq) (fun z hz => nomatch hz)
  have X5 := vx_back9 X Y Z
  have X6 : Stand p l e R s m args below meth c S locs (cells + 3) (slots + (nb + 10)) := { X5 with same := X5.same.mono (by omega) (by omega) }
  obtain ⟨t, a1, b1⟩ := k S.heap q ce f1' f2' ⟨Nat.le_trans hS.1 f1', fun q h1 h2 => (f2' q (Nat.lt_of_lt_of_le h1 hS.1)).trans (hS.2.1 q h1 h2), hS.2.2⟩ hce hv hcl' S rfl X6
  exact ⟨t, st t a1, b1⟩
/-- from the machine's note that NullPointerException is thrown here -/
def vx_NoteN (p : Program) (l : Launch) (e : Env) (R : Room) (s : State) (m : MethodId) (args : Array Value) (below : List Frame) (meth : Method) (c : Code) (H : Heap) (locs : List Loc) (cells slots : Nat) (Q : State → Prop) (g : JFrame) : Prop :=
  ∀ T : State, T.heap = H → Stand p l e R s m args below meth c T locs cells slots → ∃ t, Steps p.tables e below ((T.setTop g).pushFrame (.throwNew "java/lang/NullPointerException" none none)) t ∧ Q t
theorem vx_npe {pc : Nat} {ls : Array Slot} {rest : List Value} {Q : State → Prop} (hexec : p.tables.exec = Jvm.exec) (hl : l.stackTraces = false) {nb : Nat} {A : Nat → Prop}
    (hat : ∀ w ∈ vx_atN nb, w.before args s = true) (hgood : ∀ w ∈ vx_atN nb, vx_ot w = true)
    (hU : vx_Zq Bundle.tN "UNASSIGNED_STACK" Bundle.steD A s s.heap) (hN : vx_Zq Bundle.tN "SUPPRESSED_SENTINEL" Bundle.listD A s s.heap) (hS : va_S A s.heap H locs) (hsize : ls.size = c.maxLocals)
    (hRframes : 7 < R.frames) (hRlocals : (rest.map fun v => v.category).sum + 10240 ≤ R.locals) (hRcells : cells + 1 ≤ R.cells) (hRslots : slots + nb ≤ R.slots) (hlocks : meth.locks = false)
    (k : ∀ (H1 : Heap) (q9 : Addr) (ce : Cell), H.size ≤ H1.size → (∀ q : Nat, q < H.size → H1[q]? = H[q]?) → va_S A s.heap H1 locs → H1[q9]? = some ce → ce.vm = .none → s.vm.findClass "java/lang/NullPointerException" = some ce.cls → vx_W p l e R s m args below meth c H1 locs (cells + 1) (slots + nb) Q (F0 m pc ls rest) q9) :
    vx_NoteN p l e R s m args below meth c H locs cells slots Q (F0 m pc ls rest) := by
  intro T hT X
  have htr : e.platform.stackTraces = false := (show e.platform.stackTraces = l.stackTraces by rw [X.admits.platform]).trans hl
  have Y := vx_rebase X (R' := { frames := R.frames, locals := R.locals, cells := 1, slots := nb }) (Nat.le_refl _) (Nat.le_refl _) hRcells hRslots
  have hhp : ((T.setVm s.vm).setFrames (.invoking m args :: below)).heap = H := hT
  have hW0 : s.WarmedH ((T.setVm s.vm).setFrames (.invoking m args :: below)).vm := State.WarmedH.refl s
  have hat' : ∀ w ∈ vx_atN nb, w.before args ((T.setVm s.vm).setFrames (.invoking m args :: below)) = true := fun w hw => vx_ot_at hW0 rfl (hgood w hw) (hat w hw)
  have hU' : vx_Zq Bundle.tN "UNASSIGNED_STACK" Bundle.steD A ((T.setVm s.vm).setFrames (.invoking m args :: below)) ((T.setVm s.vm).setFrames (.invoking m args :: below)).heap := by rw [hhp]; exact vx_Zq.moved hW0.alike (hU.kept hS.2.1)
  have hN' : vx_Zq Bundle.tN "SUPPRESSED_SENTINEL" Bundle.listD A ((T.setVm s.vm).setFrames (.invoking m args :: below)) ((T.setVm s.vm).setFrames (.invoking m args :: below)).heap := by rw [hhp]; exact vx_Zq.moved hW0.alike (hN.kept hS.2.1)
  obtain ⟨S, q, ce, st, Z, hce, hcl', hv⟩ := vx_npeAt Y hexec htr (n := nb) (vx_own hat' (vx_isRefq hU'.1) (vx_isRefq hN'.1) hU'.2.word hN'.2.word) (fun x hx => nomatch hx)
    (g := F0 m pc ls rest) rfl hsize hRframes (by show 2 * 0 + (rest.map fun v => v.category).sum + 10240 ≤ R.locals; omega) (by show 0 + 1 ≤ 1; omega) (by show 0 + nb ≤ nb; omega) hlocks
  obtain ⟨f1, f2⟩ := vx_frame Z.same
  have f1' : H.size ≤ S.heap.size := by rw [← hT]; exact f1
  have f2' : ∀ q : Nat, q < H.size → S.heap[q]? = H[q]? := fun q hq => by
    rw [← hT]
    exact f2 q (by rw [← hT] at hq; exact hq) (fun z hz => nomatch hz)
  have X5 := vx_back9 X Y Z
  have X6 : Stand p l e R s m args below meth c S locs (cells + 1) (slots + nb) := { X5 with same := X5.same.mono (by omega) (by omega) }
  obtain ⟨t, a1, b1⟩ := k S.heap q ce f1' f2' ⟨Nat.le_trans hS.1 f1', fun q h1 h2 => (f2' q (Nat.lt_of_lt_of_le h1 hS.1)).trans (hS.2.1 q h1 h2), hS.2.2⟩ hce hv hcl' S rfl X6
  exact ⟨t, st t a1, b1⟩
variable {Q : State → Prop} {cc : ByteArray} {pc : Nat} {ls : Array Slot} {rest : List Value}
theorem vx_idivZ (hexec : p.tables.exec = Jvm.exec) (hb : c.code = cc) {a b : Int32} (h0 : b = 0) (d : decode cc pc = .ok (.idiv, 1)) (k : vx_Note p l e R s m args below meth c H locs cells slots Q (F0 m pc ls rest) "java/lang/ArithmeticException" "/ by zero") :
    W p l e R s m args below meth c H locs cells slots Q (F0 m pc ls (.int b :: .int a :: rest)) := by
  intro T hT X
  obtain ⟨t, st, q⟩ := k T hT X
  exact ⟨t, X.idivZero hexec (g := F0 m pc ls (.int b :: .int a :: rest)) rfl (a := a) (rest := rest) (by rw [h0]) (by rw [hb]; exact d) t st, q⟩
theorem vx_iremZ (hexec : p.tables.exec = Jvm.exec) (hb : c.code = cc) {a b : Int32} (h0 : b = 0) (d : decode cc pc = .ok (.irem, 1)) (k : vx_Note p l e R s m args below meth c H locs cells slots Q (F0 m pc ls rest) "java/lang/ArithmeticException" "/ by zero") :
    W p l e R s m args below meth c H locs cells slots Q (F0 m pc ls (.int b :: .int a :: rest)) := by
  intro T hT X
  obtain ⟨t, st, q⟩ := k T hT X
  exact ⟨t, X.iremZero hexec (g := F0 m pc ls (.int b :: .int a :: rest)) rfl (a := a) (rest := rest) (by rw [h0]) (by rw [hb]; exact d) t st, q⟩
theorem vx_ldivZ (hexec : p.tables.exec = Jvm.exec) (hb : c.code = cc) {a b : Int64} (h0 : b = 0) (d : decode cc pc = .ok (.ldiv, 1)) (k : vx_Note p l e R s m args below meth c H locs cells slots Q (F0 m pc ls rest) "java/lang/ArithmeticException" "/ by zero") :
    W p l e R s m args below meth c H locs cells slots Q (F0 m pc ls (.long b :: .long a :: rest)) := by
  intro T hT X
  obtain ⟨t, st, q⟩ := k T hT X
  exact ⟨t, X.ldivZero hexec (g := F0 m pc ls (.long b :: .long a :: rest)) rfl (a := a) (rest := rest) (by rw [h0]) (by rw [hb]; exact d) t st, q⟩
theorem vx_lremZ (hexec : p.tables.exec = Jvm.exec) (hb : c.code = cc) {a b : Int64} (h0 : b = 0) (d : decode cc pc = .ok (.lrem, 1)) (k : vx_Note p l e R s m args below meth c H locs cells slots Q (F0 m pc ls rest) "java/lang/ArithmeticException" "/ by zero") :
    W p l e R s m args below meth c H locs cells slots Q (F0 m pc ls (.long b :: .long a :: rest)) := by
  intro T hT X
  obtain ⟨t, st, q⟩ := k T hT X
  exact ⟨t, X.lremZero hexec (g := F0 m pc ls (.long b :: .long a :: rest)) rfl (a := a) (rest := rest) (by rw [h0]) (by rw [hb]; exact d) t st, q⟩
theorem vx_ialdZ {D : va_G} {cl : List vw_C} {ws : va_W} {tys : List (ClassId × FieldType)} {a : Nat} (hexec : p.tables.exec = Jvm.exec) (hb : c.code = cc) (hK : va_K D cl tys s) (hP : va_P D cl ws H) (q0 t0 : Nat) {cA : ClassId} {n : Nat} {f : Nat → Int32} (ha : ws[q0]? = some (a, .inl (cA, n, .inl f))) (ht : tys[t0]? = some (cA, .int)) {i : Int32} (hout : ¬ vp_in i n) (hdg : decode cc pc = .ok (.iaload, 1))
    (k : ∀ tx : String, tx = (toString "Index " ++ toString i ++ toString " out of bounds for length " ++ toString n : String) → vx_Note p l e R s m args below meth c H locs cells slots Q (F0 m pc ls rest) "java/lang/ArrayIndexOutOfBoundsException" tx) : W p l e R s m args below meth c H locs cells slots Q (F0 m pc ls (.int i :: .ref a :: rest)) := by
  intro T hT X
  obtain ⟨t, st, q⟩ := k _ rfl T hT X
  refine ⟨t, ?_, q⟩
  have h1 := X.ialoadOut hexec (by rw [hT]; exact hP q0 _ ha) ((hK.2 t0 _ ht).1 n (fun j => .int (f j))) (j := i) (by show (i < 0 ∨ (arrV _ _ _).slots.size ≤ _); rw [arrV_size]; exact Classical.byContradiction hout) (g := F0 m pc ls (.int i :: .ref a :: rest)) rfl (rest := rest) rfl (by rw [hb]; exact hdg) t
  simp only [arrV_size] at h1
  exact h1 st
theorem vx_iastZ {D : va_G} {cl : List vw_C} {ws : va_W} {tys : List (ClassId × FieldType)} {a : Nat} (hexec : p.tables.exec = Jvm.exec) (hb : c.code = cc) (hK : va_K D cl tys s) (hP : va_P D cl ws H) (q0 t0 : Nat) {cA : ClassId} {n : Nat} {f : Nat → Int32} (ha : ws[q0]? = some (a, .inl (cA, n, .inl f))) (ht : tys[t0]? = some (cA, .int)) {i : Int32} {x : Int32} (hout : ¬ vp_in i n) (hdg : decode cc pc = .ok (.iastore, 1))
    (k : ∀ tx : String, tx = (toString "Index " ++ toString i ++ toString " out of bounds for length " ++ toString n : String) → vx_Note p l e R s m args below meth c H locs cells slots Q (F0 m pc ls rest) "java/lang/ArrayIndexOutOfBoundsException" tx) : W p l e R s m args below meth c H locs cells slots Q (F0 m pc ls (.int x :: .int i :: .ref a :: rest)) := by
  intro T hT X
  obtain ⟨t, st, q⟩ := k _ rfl T hT X
  refine ⟨t, ?_, q⟩
  have h1 := X.iastoreOut hexec (by rw [hT]; exact hP q0 _ ha) ((hK.2 t0 _ ht).1 n (fun j => .int (f j))) (j := i) (by show (i < 0 ∨ (arrV _ _ _).slots.size ≤ _); rw [arrV_size]; exact Classical.byContradiction hout) (g := F0 m pc ls (.int x :: .int i :: .ref a :: rest)) rfl (rest := rest) rfl (by rw [hb]; exact hdg) t
  simp only [arrV_size] at h1
  exact h1 st
theorem vx_baldZ {D : va_G} {cl : List vw_C} {ws : va_W} {tys : List (ClassId × FieldType)} {a : Nat} (hexec : p.tables.exec = Jvm.exec) (hb : c.code = cc) (hK : va_K D cl tys s) (hP : va_P D cl ws H) (q0 t0 : Nat) {cA : ClassId} {n : Nat} {f : Nat → Int32} (ha : ws[q0]? = some (a, .inl (cA, n, .inl f))) (ht : tys[t0]? = some (cA, .byte)) {i : Int32} (hout : ¬ vp_in i n) (hdg : decode cc pc = .ok (.baload, 1))
    (k : ∀ tx : String, tx = (toString "Index " ++ toString i ++ toString " out of bounds for length " ++ toString n : String) → vx_Note p l e R s m args below meth c H locs cells slots Q (F0 m pc ls rest) "java/lang/ArrayIndexOutOfBoundsException" tx) : W p l e R s m args below meth c H locs cells slots Q (F0 m pc ls (.int i :: .ref a :: rest)) := by
  intro T hT X
  obtain ⟨t, st, q⟩ := k _ rfl T hT X
  refine ⟨t, ?_, q⟩
  have h1 := X.baloadOut hexec (by rw [hT]; exact hP q0 _ ha) ((hK.2 t0 _ ht).1 n (fun j => .int (f j))) (j := i) (by show (i < 0 ∨ (arrV _ _ _).slots.size ≤ _); rw [arrV_size]; exact Classical.byContradiction hout) (g := F0 m pc ls (.int i :: .ref a :: rest)) rfl (rest := rest) rfl (by rw [hb]; exact hdg) t
  simp only [arrV_size] at h1
  exact h1 st
theorem vx_bastZ {D : va_G} {cl : List vw_C} {ws : va_W} {tys : List (ClassId × FieldType)} {a : Nat} (hexec : p.tables.exec = Jvm.exec) (hb : c.code = cc) (hK : va_K D cl tys s) (hP : va_P D cl ws H) (q0 t0 : Nat) {cA : ClassId} {n : Nat} {f : Nat → Int32} (ha : ws[q0]? = some (a, .inl (cA, n, .inl f))) (ht : tys[t0]? = some (cA, .byte)) {i : Int32} {x : Int32} (hout : ¬ vp_in i n) (hdg : decode cc pc = .ok (.bastore, 1))
    (k : ∀ tx : String, tx = (toString "Index " ++ toString i ++ toString " out of bounds for length " ++ toString n : String) → vx_Note p l e R s m args below meth c H locs cells slots Q (F0 m pc ls rest) "java/lang/ArrayIndexOutOfBoundsException" tx) : W p l e R s m args below meth c H locs cells slots Q (F0 m pc ls (.int x :: .int i :: .ref a :: rest)) := by
  intro T hT X
  obtain ⟨t, st, q⟩ := k _ rfl T hT X
  refine ⟨t, ?_, q⟩
  have h1 := X.bastoreOut hexec (by rw [hT]; exact hP q0 _ ha) ((hK.2 t0 _ ht).1 n (fun j => .int (f j))) (j := i) (by show (i < 0 ∨ (arrV _ _ _).slots.size ≤ _); rw [arrV_size]; exact Classical.byContradiction hout) (g := F0 m pc ls (.int x :: .int i :: .ref a :: rest)) rfl (rest := rest) rfl (by rw [hb]; exact hdg) t
  simp only [arrV_size] at h1
  exact h1 st
theorem vx_zaldZ {D : va_G} {cl : List vw_C} {ws : va_W} {tys : List (ClassId × FieldType)} {a : Nat} (hexec : p.tables.exec = Jvm.exec) (hb : c.code = cc) (hK : va_K D cl tys s) (hP : va_P D cl ws H) (q0 t0 : Nat) {cA : ClassId} {n : Nat} {f : Nat → Int32} (ha : ws[q0]? = some (a, .inl (cA, n, .inl f))) (ht : tys[t0]? = some (cA, .boolean)) {i : Int32} (hout : ¬ vp_in i n) (hdg : decode cc pc = .ok (.baload, 1))
    (k : ∀ tx : String, tx = (toString "Index " ++ toString i ++ toString " out of bounds for length " ++ toString n : String) → vx_Note p l e R s m args below meth c H locs cells slots Q (F0 m pc ls rest) "java/lang/ArrayIndexOutOfBoundsException" tx) : W p l e R s m args below meth c H locs cells slots Q (F0 m pc ls (.int i :: .ref a :: rest)) := by
  intro T hT X
  obtain ⟨t, st, q⟩ := k _ rfl T hT X
  refine ⟨t, ?_, q⟩
  have h1 := X.baloadOut hexec (by rw [hT]; exact hP q0 _ ha) ((hK.2 t0 _ ht).1 n (fun j => .int (f j))) (j := i) (by show (i < 0 ∨ (arrV _ _ _).slots.size ≤ _); rw [arrV_size]; exact Classical.byContradiction hout) (g := F0 m pc ls (.int i :: .ref a :: rest)) rfl (rest := rest) rfl (by rw [hb]; exact hdg) t
  simp only [arrV_size] at h1
  exact h1 st
theorem vx_zastZ {D : va_G} {cl : List vw_C} {ws : va_W} {tys : List (ClassId × FieldType)} {a : Nat} (hexec : p.tables.exec = Jvm.exec) (hb : c.code = cc) (hK : va_K D cl tys s) (hP : va_P D cl ws H) (q0 t0 : Nat) {cA : ClassId} {n : Nat} {f : Nat → Int32} (ha : ws[q0]? = some (a, .inl (cA, n, .inl f))) (ht : tys[t0]? = some (cA, .boolean)) {i : Int32} {x : Int32} (hout : ¬ vp_in i n) (hdg : decode cc pc = .ok (.bastore, 1))
    (k : ∀ tx : String, tx = (toString "Index " ++ toString i ++ toString " out of bounds for length " ++ toString n : String) → vx_Note p l e R s m args below meth c H locs cells slots Q (F0 m pc ls rest) "java/lang/ArrayIndexOutOfBoundsException" tx) : W p l e R s m args below meth c H locs cells slots Q (F0 m pc ls (.int x :: .int i :: .ref a :: rest)) := by
  intro T hT X
  obtain ⟨t, st, q⟩ := k _ rfl T hT X
  refine ⟨t, ?_, q⟩
  have h1 := X.bastoreOut hexec (by rw [hT]; exact hP q0 _ ha) ((hK.2 t0 _ ht).1 n (fun j => .int (f j))) (j := i) (by show (i < 0 ∨ (arrV _ _ _).slots.size ≤ _); rw [arrV_size]; exact Classical.byContradiction hout) (g := F0 m pc ls (.int x :: .int i :: .ref a :: rest)) rfl (rest := rest) rfl (by rw [hb]; exact hdg) t
  simp only [arrV_size] at h1
  exact h1 st
theorem vx_caldZ {D : va_G} {cl : List vw_C} {ws : va_W} {tys : List (ClassId × FieldType)} {a : Nat} (hexec : p.tables.exec = Jvm.exec) (hb : c.code = cc) (hK : va_K D cl tys s) (hP : va_P D cl ws H) (q0 t0 : Nat) {cA : ClassId} {n : Nat} {f : Nat → Int32} (ha : ws[q0]? = some (a, .inl (cA, n, .inl f))) (ht : tys[t0]? = some (cA, .char)) {i : Int32} (hout : ¬ vp_in i n) (hdg : decode cc pc = .ok (.caload, 1))
    (k : ∀ tx : String, tx = (toString "Index " ++ toString i ++ toString " out of bounds for length " ++ toString n : String) → vx_Note p l e R s m args below meth c H locs cells slots Q (F0 m pc ls rest) "java/lang/ArrayIndexOutOfBoundsException" tx) : W p l e R s m args below meth c H locs cells slots Q (F0 m pc ls (.int i :: .ref a :: rest)) := by
  intro T hT X
  obtain ⟨t, st, q⟩ := k _ rfl T hT X
  refine ⟨t, ?_, q⟩
  have h1 := X.caloadOut hexec (by rw [hT]; exact hP q0 _ ha) ((hK.2 t0 _ ht).1 n (fun j => .int (f j))) (j := i) (by show (i < 0 ∨ (arrV _ _ _).slots.size ≤ _); rw [arrV_size]; exact Classical.byContradiction hout) (g := F0 m pc ls (.int i :: .ref a :: rest)) rfl (rest := rest) rfl (by rw [hb]; exact hdg) t
  simp only [arrV_size] at h1
  exact h1 st
theorem vx_castZ {D : va_G} {cl : List vw_C} {ws : va_W} {tys : List (ClassId × FieldType)} {a : Nat} (hexec : p.tables.exec = Jvm.exec) (hb : c.code = cc) (hK : va_K D cl tys s) (hP : va_P D cl ws H) (q0 t0 : Nat) {cA : ClassId} {n : Nat} {f : Nat → Int32} (ha : ws[q0]? = some (a, .inl (cA, n, .inl f))) (ht : tys[t0]? = some (cA, .char)) {i : Int32} {x : Int32} (hout : ¬ vp_in i n) (hdg : decode cc pc = .ok (.castore, 1))
    (k : ∀ tx : String, tx = (toString "Index " ++ toString i ++ toString " out of bounds for length " ++ toString n : String) → vx_Note p l e R s m args below meth c H locs cells slots Q (F0 m pc ls rest) "java/lang/ArrayIndexOutOfBoundsException" tx) : W p l e R s m args below meth c H locs cells slots Q (F0 m pc ls (.int x :: .int i :: .ref a :: rest)) := by
  intro T hT X
  obtain ⟨t, st, q⟩ := k _ rfl T hT X
  refine ⟨t, ?_, q⟩
  have h1 := X.castoreOut hexec (by rw [hT]; exact hP q0 _ ha) ((hK.2 t0 _ ht).1 n (fun j => .int (f j))) (j := i) (by show (i < 0 ∨ (arrV _ _ _).slots.size ≤ _); rw [arrV_size]; exact Classical.byContradiction hout) (g := F0 m pc ls (.int x :: .int i :: .ref a :: rest)) rfl (rest := rest) rfl (by rw [hb]; exact hdg) t
  simp only [arrV_size] at h1
  exact h1 st
theorem vx_saldZ {D : va_G} {cl : List vw_C} {ws : va_W} {tys : List (ClassId × FieldType)} {a : Nat} (hexec : p.tables.exec = Jvm.exec) (hb : c.code = cc) (hK : va_K D cl tys s) (hP : va_P D cl ws H) (q0 t0 : Nat) {cA : ClassId} {n : Nat} {f : Nat → Int32} (ha : ws[q0]? = some (a, .inl (cA, n, .inl f))) (ht : tys[t0]? = some (cA, .short)) {i : Int32} (hout : ¬ vp_in i n) (hdg : decode cc pc = .ok (.saload, 1))
    (k : ∀ tx : String, tx = (toString "Index " ++ toString i ++ toString " out of bounds for length " ++ toString n : String) → vx_Note p l e R s m args below meth c H locs cells slots Q (F0 m pc ls rest) "java/lang/ArrayIndexOutOfBoundsException" tx) : W p l e R s m args below meth c H locs cells slots Q (F0 m pc ls (.int i :: .ref a :: rest)) := by
  intro T hT X
  obtain ⟨t, st, q⟩ := k _ rfl T hT X
  refine ⟨t, ?_, q⟩
  have h1 := X.saloadOut hexec (by rw [hT]; exact hP q0 _ ha) ((hK.2 t0 _ ht).1 n (fun j => .int (f j))) (j := i) (by show (i < 0 ∨ (arrV _ _ _).slots.size ≤ _); rw [arrV_size]; exact Classical.byContradiction hout) (g := F0 m pc ls (.int i :: .ref a :: rest)) rfl (rest := rest) rfl (by rw [hb]; exact hdg) t
  simp only [arrV_size] at h1
  exact h1 st
theorem vx_sastZ {D : va_G} {cl : List vw_C} {ws : va_W} {tys : List (ClassId × FieldType)} {a : Nat} (hexec : p.tables.exec = Jvm.exec) (hb : c.code = cc) (hK : va_K D cl tys s) (hP : va_P D cl ws H) (q0 t0 : Nat) {cA : ClassId} {n : Nat} {f : Nat → Int32} (ha : ws[q0]? = some (a, .inl (cA, n, .inl f))) (ht : tys[t0]? = some (cA, .short)) {i : Int32} {x : Int32} (hout : ¬ vp_in i n) (hdg : decode cc pc = .ok (.sastore, 1))
    (k : ∀ tx : String, tx = (toString "Index " ++ toString i ++ toString " out of bounds for length " ++ toString n : String) → vx_Note p l e R s m args below meth c H locs cells slots Q (F0 m pc ls rest) "java/lang/ArrayIndexOutOfBoundsException" tx) : W p l e R s m args below meth c H locs cells slots Q (F0 m pc ls (.int x :: .int i :: .ref a :: rest)) := by
  intro T hT X
  obtain ⟨t, st, q⟩ := k _ rfl T hT X
  refine ⟨t, ?_, q⟩
  have h1 := X.sastoreOut hexec (by rw [hT]; exact hP q0 _ ha) ((hK.2 t0 _ ht).1 n (fun j => .int (f j))) (j := i) (by show (i < 0 ∨ (arrV _ _ _).slots.size ≤ _); rw [arrV_size]; exact Classical.byContradiction hout) (g := F0 m pc ls (.int x :: .int i :: .ref a :: rest)) rfl (rest := rest) rfl (by rw [hb]; exact hdg) t
  simp only [arrV_size] at h1
  exact h1 st
theorem vx_laldZ {D : va_G} {cl : List vw_C} {ws : va_W} {tys : List (ClassId × FieldType)} {a : Nat} (hexec : p.tables.exec = Jvm.exec) (hb : c.code = cc) (hK : va_K D cl tys s) (hP : va_P D cl ws H) (q0 t0 : Nat) {cA : ClassId} {n : Nat} {f : Nat → Int64} (ha : ws[q0]? = some (a, .inl (cA, n, .inr (.inl f)))) (ht : tys[t0]? = some (cA, .long)) {i : Int32} (hout : ¬ vp_in i n) (hdg : decode cc pc = .ok (.laload, 1))
    (k : ∀ tx : String, tx = (toString "Index " ++ toString i ++ toString " out of bounds for length " ++ toString n : String) → vx_Note p l e R s m args below meth c H locs cells slots Q (F0 m pc ls rest) "java/lang/ArrayIndexOutOfBoundsException" tx) : W p l e R s m args below meth c H locs cells slots Q (F0 m pc ls (.int i :: .ref a :: rest)) := by
  intro T hT X
  obtain ⟨t, st, q⟩ := k _ rfl T hT X
  refine ⟨t, ?_, q⟩
  have h1 := X.laloadOut hexec (by rw [hT]; exact hP q0 _ ha) ((hK.2 t0 _ ht).1 n (fun j => .long (f j))) (j := i) (by show (i < 0 ∨ (arrV _ _ _).slots.size ≤ _); rw [arrV_size]; exact Classical.byContradiction hout) (g := F0 m pc ls (.int i :: .ref a :: rest)) rfl (rest := rest) rfl (by rw [hb]; exact hdg) t
  simp only [arrV_size] at h1
  exact h1 st
theorem vx_lastZ {D : va_G} {cl : List vw_C} {ws : va_W} {tys : List (ClassId × FieldType)} {a : Nat} (hexec : p.tables.exec = Jvm.exec) (hb : c.code = cc) (hK : va_K D cl tys s) (hP : va_P D cl ws H) (q0 t0 : Nat) {cA : ClassId} {n : Nat} {f : Nat → Int64} (ha : ws[q0]? = some (a, .inl (cA, n, .inr (.inl f)))) (ht : tys[t0]? = some (cA, .long)) {i : Int32} {x : Int64} (hout : ¬ vp_in i n) (hdg : decode cc pc = .ok (.lastore, 1))
    (k : ∀ tx : String, tx = (toString "Index " ++ toString i ++ toString " out of bounds for length " ++ toString n : String) → vx_Note p l e R s m args below meth c H locs cells slots Q (F0 m pc ls rest) "java/lang/ArrayIndexOutOfBoundsException" tx) : W p l e R s m args below meth c H locs cells slots Q (F0 m pc ls (.long x :: .int i :: .ref a :: rest)) := by
  intro T hT X
  obtain ⟨t, st, q⟩ := k _ rfl T hT X
  refine ⟨t, ?_, q⟩
  have h1 := X.lastoreOut hexec (by rw [hT]; exact hP q0 _ ha) ((hK.2 t0 _ ht).1 n (fun j => .long (f j))) (j := i) (by show (i < 0 ∨ (arrV _ _ _).slots.size ≤ _); rw [arrV_size]; exact Classical.byContradiction hout) (g := F0 m pc ls (.long x :: .int i :: .ref a :: rest)) rfl (rest := rest) rfl (by rw [hb]; exact hdg) t
  simp only [arrV_size] at h1
  exact h1 st
theorem vx_faldZ {D : va_G} {cl : List vw_C} {ws : va_W} {tys : List (ClassId × FieldType)} {a : Nat} (hexec : p.tables.exec = Jvm.exec) (hb : c.code = cc) (hK : va_K D cl tys s) (hP : va_P D cl ws H) (q0 t0 : Nat) {cA : ClassId} {n : Nat} {f : Nat → UInt32} (ha : ws[q0]? = some (a, .inl (cA, n, .inr (.inr (.inl f))))) (ht : tys[t0]? = some (cA, .float)) {i : Int32} (hout : ¬ vp_in i n) (hdg : decode cc pc = .ok (.faload, 1))
    (k : ∀ tx : String, tx = (toString "Index " ++ toString i ++ toString " out of bounds for length " ++ toString n : String) → vx_Note p l e R s m args below meth c H locs cells slots Q (F0 m pc ls rest) "java/lang/ArrayIndexOutOfBoundsException" tx) : W p l e R s m args below meth c H locs cells slots Q (F0 m pc ls (.int i :: .ref a :: rest)) := by
  intro T hT X
  obtain ⟨t, st, q⟩ := k _ rfl T hT X
  refine ⟨t, ?_, q⟩
  have h1 := X.faloadOut hexec (by rw [hT]; exact hP q0 _ ha) ((hK.2 t0 _ ht).1 n (fun j => .float (f j))) (j := i) (by show (i < 0 ∨ (arrV _ _ _).slots.size ≤ _); rw [arrV_size]; exact Classical.byContradiction hout) (g := F0 m pc ls (.int i :: .ref a :: rest)) rfl (rest := rest) rfl (by rw [hb]; exact hdg) t
  simp only [arrV_size] at h1
  exact h1 st
theorem vx_fastZ {D : va_G} {cl : List vw_C} {ws : va_W} {tys : List (ClassId × FieldType)} {a : Nat} (hexec : p.tables.exec = Jvm.exec) (hb : c.code = cc) (hK : va_K D cl tys s) (hP : va_P D cl ws H) (q0 t0 : Nat) {cA : ClassId} {n : Nat} {f : Nat → UInt32} (ha : ws[q0]? = some (a, .inl (cA, n, .inr (.inr (.inl f))))) (ht : tys[t0]? = some (cA, .float)) {i : Int32} {x : UInt32} (hout : ¬ vp_in i n) (hdg : decode cc pc = .ok (.fastore, 1))
    (k : ∀ tx : String, tx = (toString "Index " ++ toString i ++ toString " out of bounds for length " ++ toString n : String) → vx_Note p l e R s m args below meth c H locs cells slots Q (F0 m pc ls rest) "java/lang/ArrayIndexOutOfBoundsException" tx) : W p l e R s m args below meth c H locs cells slots Q (F0 m pc ls (.float x :: .int i :: .ref a :: rest)) := by
  intro T hT X
  obtain ⟨t, st, q⟩ := k _ rfl T hT X
  refine ⟨t, ?_, q⟩
  have h1 := X.fastoreOut hexec (by rw [hT]; exact hP q0 _ ha) ((hK.2 t0 _ ht).1 n (fun j => .float (f j))) (j := i) (by show (i < 0 ∨ (arrV _ _ _).slots.size ≤ _); rw [arrV_size]; exact Classical.byContradiction hout) (g := F0 m pc ls (.float x :: .int i :: .ref a :: rest)) rfl (rest := rest) rfl (by rw [hb]; exact hdg) t
  simp only [arrV_size] at h1
  exact h1 st
theorem vx_daldZ {D : va_G} {cl : List vw_C} {ws : va_W} {tys : List (ClassId × FieldType)} {a : Nat} (hexec : p.tables.exec = Jvm.exec) (hb : c.code = cc) (hK : va_K D cl tys s) (hP : va_P D cl ws H) (q0 t0 : Nat) {cA : ClassId} {n : Nat} {f : Nat → UInt64} (ha : ws[q0]? = some (a, .inl (cA, n, .inr (.inr (.inr (.inl f)))))) (ht : tys[t0]? = some (cA, .double)) {i : Int32} (hout : ¬ vp_in i n) (hdg : decode cc pc = .ok (.daload, 1))
    (k : ∀ tx : String, tx = (toString "Index " ++ toString i ++ toString " out of bounds for length " ++ toString n : String) → vx_Note p l e R s m args below meth c H locs cells slots Q (F0 m pc ls rest) "java/lang/ArrayIndexOutOfBoundsException" tx) : W p l e R s m args below meth c H locs cells slots Q (F0 m pc ls (.int i :: .ref a :: rest)) := by
  intro T hT X
  obtain ⟨t, st, q⟩ := k _ rfl T hT X
  refine ⟨t, ?_, q⟩
  have h1 := X.daloadOut hexec (by rw [hT]; exact hP q0 _ ha) ((hK.2 t0 _ ht).1 n (fun j => .double (f j))) (j := i) (by show (i < 0 ∨ (arrV _ _ _).slots.size ≤ _); rw [arrV_size]; exact Classical.byContradiction hout) (g := F0 m pc ls (.int i :: .ref a :: rest)) rfl (rest := rest) rfl (by rw [hb]; exact hdg) t
  simp only [arrV_size] at h1
  exact h1 st
theorem vx_dastZ {D : va_G} {cl : List vw_C} {ws : va_W} {tys : List (ClassId × FieldType)} {a : Nat} (hexec : p.tables.exec = Jvm.exec) (hb : c.code = cc) (hK : va_K D cl tys s) (hP : va_P D cl ws H) (q0 t0 : Nat) {cA : ClassId} {n : Nat} {f : Nat → UInt64} (ha : ws[q0]? = some (a, .inl (cA, n, .inr (.inr (.inr (.inl f)))))) (ht : tys[t0]? = some (cA, .double)) {i : Int32} {x : UInt64} (hout : ¬ vp_in i n) (hdg : decode cc pc = .ok (.dastore, 1))
    (k : ∀ tx : String, tx = (toString "Index " ++ toString i ++ toString " out of bounds for length " ++ toString n : String) → vx_Note p l e R s m args below meth c H locs cells slots Q (F0 m pc ls rest) "java/lang/ArrayIndexOutOfBoundsException" tx) : W p l e R s m args below meth c H locs cells slots Q (F0 m pc ls (.double x :: .int i :: .ref a :: rest)) := by
  intro T hT X
  obtain ⟨t, st, q⟩ := k _ rfl T hT X
  refine ⟨t, ?_, q⟩
  have h1 := X.dastoreOut hexec (by rw [hT]; exact hP q0 _ ha) ((hK.2 t0 _ ht).1 n (fun j => .double (f j))) (j := i) (by show (i < 0 ∨ (arrV _ _ _).slots.size ≤ _); rw [arrV_size]; exact Classical.byContradiction hout) (g := F0 m pc ls (.double x :: .int i :: .ref a :: rest)) rfl (rest := rest) rfl (by rw [hb]; exact hdg) t
  simp only [arrV_size] at h1
  exact h1 st
theorem vx_arraylengthN (hexec : p.tables.exec = Jvm.exec) (hb : c.code = cc) (hdg : decode cc pc = .ok (.arraylength, 1)) (k : vx_NoteN p l e R s m args below meth c H locs cells slots Q (F0 m pc ls rest)) : W p l e R s m args below meth c H locs cells slots Q (F0 m pc ls (.null :: rest)) := by
  intro T hT X
  obtain ⟨t, st, q⟩ := k T hT X
  exact ⟨t, X.arraylengthNull hexec (g := F0 m pc ls (.null :: rest)) rfl (rest := rest) rfl (by rw [hb]; exact hdg) t st, q⟩
theorem vx_ialoadN (hexec : p.tables.exec = Jvm.exec) (hb : c.code = cc) {i : Int32} (hdg : decode cc pc = .ok (.iaload, 1)) (k : vx_NoteN p l e R s m args below meth c H locs cells slots Q (F0 m pc ls rest)) : W p l e R s m args below meth c H locs cells slots Q (F0 m pc ls (.int i :: .null :: rest)) := by
  intro T hT X
  obtain ⟨t, st, q⟩ := k T hT X
  exact ⟨t, X.ialoadNull hexec (g := F0 m pc ls (.int i :: .null :: rest)) rfl (rest := rest) rfl (by rw [hb]; exact hdg) t st, q⟩
theorem vx_laloadN (hexec : p.tables.exec = Jvm.exec) (hb : c.code = cc) {i : Int32} (hdg : decode cc pc = .ok (.laload, 1)) (k : vx_NoteN p l e R s m args below meth c H locs cells slots Q (F0 m pc ls rest)) : W p l e R s m args below meth c H locs cells slots Q (F0 m pc ls (.int i :: .null :: rest)) := by
  intro T hT X
  obtain ⟨t, st, q⟩ := k T hT X
  exact ⟨t, X.laloadNull hexec (g := F0 m pc ls (.int i :: .null :: rest)) rfl (rest := rest) rfl (by rw [hb]; exact hdg) t st, q⟩
theorem vx_faloadN (hexec : p.tables.exec = Jvm.exec) (hb : c.code = cc) {i : Int32} (hdg : decode cc pc = .ok (.faload, 1)) (k : vx_NoteN p l e R s m args below meth c H locs cells slots Q (F0 m pc ls rest)) : W p l e R s m args below meth c H locs cells slots Q (F0 m pc ls (.int i :: .null :: rest)) := by
  intro T hT X
  obtain ⟨t, st, q⟩ := k T hT X
  exact ⟨t, X.faloadNull hexec (g := F0 m pc ls (.int i :: .null :: rest)) rfl (rest := rest) rfl (by rw [hb]; exact hdg) t st, q⟩
theorem vx_daloadN (hexec : p.tables.exec = Jvm.exec) (hb : c.code = cc) {i : Int32} (hdg : decode cc pc = .ok (.daload, 1)) (k : vx_NoteN p l e R s m args below meth c H locs cells slots Q (F0 m pc ls rest)) : W p l e R s m args below meth c H locs cells slots Q (F0 m pc ls (.int i :: .null :: rest)) := by
  intro T hT X
  obtain ⟨t, st, q⟩ := k T hT X
  exact ⟨t, X.daloadNull hexec (g := F0 m pc ls (.int i :: .null :: rest)) rfl (rest := rest) rfl (by rw [hb]; exact hdg) t st, q⟩
theorem vx_aaloadN (hexec : p.tables.exec = Jvm.exec) (hb : c.code = cc) {i : Int32} (hdg : decode cc pc = .ok (.aaload, 1)) (k : vx_NoteN p l e R s m args below meth c H locs cells slots Q (F0 m pc ls rest)) : W p l e R s m args below meth c H locs cells slots Q (F0 m pc ls (.int i :: .null :: rest)) := by
  intro T hT X
  obtain ⟨t, st, q⟩ := k T hT X
  exact ⟨t, X.aaloadNull hexec (g := F0 m pc ls (.int i :: .null :: rest)) rfl (rest := rest) rfl (by rw [hb]; exact hdg) t st, q⟩
theorem vx_baloadN (hexec : p.tables.exec = Jvm.exec) (hb : c.code = cc) {i : Int32} (hdg : decode cc pc = .ok (.baload, 1)) (k : vx_NoteN p l e R s m args below meth c H locs cells slots Q (F0 m pc ls rest)) : W p l e R s m args below meth c H locs cells slots Q (F0 m pc ls (.int i :: .null :: rest)) := by
  intro T hT X
  obtain ⟨t, st, q⟩ := k T hT X
  exact ⟨t, X.baloadNull hexec (g := F0 m pc ls (.int i :: .null :: rest)) rfl (rest := rest) rfl (by rw [hb]; exact hdg) t st, q⟩
theorem vx_caloadN (hexec : p.tables.exec = Jvm.exec) (hb : c.code = cc) {i : Int32} (hdg : decode cc pc = .ok (.caload, 1)) (k : vx_NoteN p l e R s m args below meth c H locs cells slots Q (F0 m pc ls rest)) : W p l e R s m args below meth c H locs cells slots Q (F0 m pc ls (.int i :: .null :: rest)) := by
  intro T hT X
  obtain ⟨t, st, q⟩ := k T hT X
  exact ⟨t, X.caloadNull hexec (g := F0 m pc ls (.int i :: .null :: rest)) rfl (rest := rest) rfl (by rw [hb]; exact hdg) t st, q⟩
theorem vx_saloadN (hexec : p.tables.exec = Jvm.exec) (hb : c.code = cc) {i : Int32} (hdg : decode cc pc = .ok (.saload, 1)) (k : vx_NoteN p l e R s m args below meth c H locs cells slots Q (F0 m pc ls rest)) : W p l e R s m args below meth c H locs cells slots Q (F0 m pc ls (.int i :: .null :: rest)) := by
  intro T hT X
  obtain ⟨t, st, q⟩ := k T hT X
  exact ⟨t, X.saloadNull hexec (g := F0 m pc ls (.int i :: .null :: rest)) rfl (rest := rest) rfl (by rw [hb]; exact hdg) t st, q⟩
theorem vx_iastoreN (hexec : p.tables.exec = Jvm.exec) (hb : c.code = cc) {x : Int32} {i : Int32} (hdg : decode cc pc = .ok (.iastore, 1)) (k : vx_NoteN p l e R s m args below meth c H locs cells slots Q (F0 m pc ls rest)) : W p l e R s m args below meth c H locs cells slots Q (F0 m pc ls (.int x :: .int i :: .null :: rest)) := by
  intro T hT X
  obtain ⟨t, st, q⟩ := k T hT X
  exact ⟨t, X.iastoreNull hexec (g := F0 m pc ls (.int x :: .int i :: .null :: rest)) rfl (rest := rest) rfl (by rw [hb]; exact hdg) t st, q⟩
theorem vx_lastoreN (hexec : p.tables.exec = Jvm.exec) (hb : c.code = cc) {x : Int64} {i : Int32} (hdg : decode cc pc = .ok (.lastore, 1)) (k : vx_NoteN p l e R s m args below meth c H locs cells slots Q (F0 m pc ls rest)) : W p l e R s m args below meth c H locs cells slots Q (F0 m pc ls (.long x :: .int i :: .null :: rest)) := by
  intro T hT X
  obtain ⟨t, st, q⟩ := k T hT X
  exact ⟨t, X.lastoreNull hexec (g := F0 m pc ls (.long x :: .int i :: .null :: rest)) rfl (rest := rest) rfl (by rw [hb]; exact hdg) t st, q⟩
theorem vx_fastoreN (hexec : p.tables.exec = Jvm.exec) (hb : c.code = cc) {x : UInt32} {i : Int32} (hdg : decode cc pc = .ok (.fastore, 1)) (k : vx_NoteN p l e R s m args below meth c H locs cells slots Q (F0 m pc ls rest)) : W p l e R s m args below meth c H locs cells slots Q (F0 m pc ls (.float x :: .int i :: .null :: rest)) := by
  intro T hT X
  obtain ⟨t, st, q⟩ := k T hT X
  exact ⟨t, X.fastoreNull hexec (g := F0 m pc ls (.float x :: .int i :: .null :: rest)) rfl (rest := rest) rfl (by rw [hb]; exact hdg) t st, q⟩
theorem vx_dastoreN (hexec : p.tables.exec = Jvm.exec) (hb : c.code = cc) {x : UInt64} {i : Int32} (hdg : decode cc pc = .ok (.dastore, 1)) (k : vx_NoteN p l e R s m args below meth c H locs cells slots Q (F0 m pc ls rest)) : W p l e R s m args below meth c H locs cells slots Q (F0 m pc ls (.double x :: .int i :: .null :: rest)) := by
  intro T hT X
  obtain ⟨t, st, q⟩ := k T hT X
  exact ⟨t, X.dastoreNull hexec (g := F0 m pc ls (.double x :: .int i :: .null :: rest)) rfl (rest := rest) rfl (by rw [hb]; exact hdg) t st, q⟩
theorem vx_bastoreN (hexec : p.tables.exec = Jvm.exec) (hb : c.code = cc) {x : Int32} {i : Int32} (hdg : decode cc pc = .ok (.bastore, 1)) (k : vx_NoteN p l e R s m args below meth c H locs cells slots Q (F0 m pc ls rest)) : W p l e R s m args below meth c H locs cells slots Q (F0 m pc ls (.int x :: .int i :: .null :: rest)) := by
  intro T hT X
  obtain ⟨t, st, q⟩ := k T hT X
  exact ⟨t, X.bastoreNull hexec (g := F0 m pc ls (.int x :: .int i :: .null :: rest)) rfl (rest := rest) rfl (by rw [hb]; exact hdg) t st, q⟩
theorem vx_castoreN (hexec : p.tables.exec = Jvm.exec) (hb : c.code = cc) {x : Int32} {i : Int32} (hdg : decode cc pc = .ok (.castore, 1)) (k : vx_NoteN p l e R s m args below meth c H locs cells slots Q (F0 m pc ls rest)) : W p l e R s m args below meth c H locs cells slots Q (F0 m pc ls (.int x :: .int i :: .null :: rest)) := by
  intro T hT X
  obtain ⟨t, st, q⟩ := k T hT X
  exact ⟨t, X.castoreNull hexec (g := F0 m pc ls (.int x :: .int i :: .null :: rest)) rfl (rest := rest) rfl (by rw [hb]; exact hdg) t st, q⟩
theorem vx_sastoreN (hexec : p.tables.exec = Jvm.exec) (hb : c.code = cc) {x : Int32} {i : Int32} (hdg : decode cc pc = .ok (.sastore, 1)) (k : vx_NoteN p l e R s m args below meth c H locs cells slots Q (F0 m pc ls rest)) : W p l e R s m args below meth c H locs cells slots Q (F0 m pc ls (.int x :: .int i :: .null :: rest)) := by
  intro T hT X
  obtain ⟨t, st, q⟩ := k T hT X
  exact ⟨t, X.sastoreNull hexec (g := F0 m pc ls (.int x :: .int i :: .null :: rest)) rfl (rest := rest) rfl (by rw [hb]; exact hdg) t st, q⟩
theorem vx_invokeN {own C : String} {index maxL : Nat} {y : MethodName} {bytes : ByteArray} {ret : Option FieldType} (hexec : p.tables.exec = Jvm.exec) (hb : c.code = cc) (hown : s.vm.findClass own = some m.cls) (hlink : (Cond.methodLink own index y).before args s = true) (hinst : (Cond.instanceMethod y).before args s = true) (hcode : (Cond.code y bytes maxL ret).before args s = true) (hsel : (Cond.selects C y y).before args s = true)
    (hx : y.cls ≠ "java/lang/invoke/MethodHandle" ∧ y.cls ≠ "java/lang/invoke/VarHandle") {As : List Value} (hlen : (parseMethodDescriptor y.desc).map (fun d => d.parameters.length) = some As.length) (hdg : decode cc pc = .ok (.invokevirtual index, 3))
    (k : vx_NoteN p l e R s m args below meth c H locs cells slots Q (F0 m pc ls rest)) {st0 : List Value} (hst : st0 = As.reverse ++ .null :: rest) : W p l e R s m args below meth c H locs cells slots Q (F0 m pc ls st0) := by
  intro T hT X
  obtain ⟨r0, r, hn, hrm, hstR, hsigR⟩ := va_Decl.of hinst hcode
  obtain ⟨c2, r2, m2, q1, q2, q3, q4, kP, hkP, hkPi⟩ := Cond.selects_spec hsel
  cases hn.symm.trans q3
  have hl9 : As.length = r.sig.parameters.length := by
    rw [hsigR] at hlen
    exact (Option.some.inj hlen).symm
  obtain ⟨vm', X1, st1⟩ := X.invokevirtualNull hexec hown hlink hn hrm hstR hkP hkPi hx (g := F0 m pc ls st0) rfl (argsL := As) (rest := rest) hl9 hst (by rw [hb]; exact hdg)
  obtain ⟨t, st, q⟩ := k (T.setVm vm') hT X1
  exact ⟨t, st1 t st, q⟩
theorem vx_newarrayZ {atype : ArrayType} (hexec : p.tables.exec = Jvm.exec) (hb : c.code = cc) {n : Int32} (h0 : n < 0) (hdg : decode cc pc = .ok (.newarray atype, 2)) (k : ∀ tx : String, tx = toString n → vx_Note p l e R s m args below meth c H locs cells slots Q (F0 m pc ls rest) "java/lang/NegativeArraySizeException" tx) : W p l e R s m args below meth c H locs cells slots Q (F0 m pc ls (.int n :: rest)) := by
  intro T hT X
  obtain ⟨t, st, q⟩ := k _ rfl T hT X
  exact ⟨t, X.newarrayNegative hexec (g := F0 m pc ls (.int n :: rest)) rfl h0 (rest := rest) rfl (by rw [hb]; exact hdg) t st, q⟩
end
end VXM
/-! ===== END ===== -/
/-! ===== BEGIN an exception as an object: made, kept, thrown later (no traces kept) ===== -/
section VXK
variable {p : Program} {l : Launch} {e : Env} {R : Room} {s : State} {m₀ : MethodId} {args : Array Value} {below : List Frame} {meth : Method} {c : Code} {W : State} {locs : List Loc} {cells slots : Nat}
set_option maxHeartbeats 1000000 in
theorem vx_ctorMadeS (X : Stand p l e R s m₀ args below meth c W locs cells slots) (hexec : p.tables.exec = Jvm.exec) (htr : e.platform.stackTraces = false) {own cls : String} {names : List String} {ic : Nat}
    (hown : s.vm.findClass own = some m₀.cls) (hcls : Bundle.fit cls = true) (hnames : ∀ n ∈ names, Bundle.fit n = true)
    (h : ∀ a ∈ Bundle.ownAtoms own ic cls names, a.before args s = true)
    (hlocs : ∀ x ∈ locs, ∀ cell, s.heap[x.base]? = some cell → cell.vm.isStatics = false)
    {a : Addr} {cX : ClassId} {kX : Class} (hfoundX : s.vm.findClass cls = some cX) (hkX : s.vm.classes[cX]? = some kX) (hcell : W.heap[a]? = some (freshCell cX kX)) (hnew : s.heap.size ≤ a)
    {msg : Value} (hmsg : msg.isRef = true)
    {g : JFrame} (hg : g.method = m₀) (hsize : g.locals.size = c.maxLocals) {rest : List Value} (hstack : g.stack = msg :: .ref a :: .ref a :: rest)
    (hd6 : decode c.code g.pc = .ok (.invokespecial ic, 3))
    (hRframes : names.length + 3 < R.frames) (hRlocals : 2 * g.monitorRoom + ((Value.ref a :: rest).map fun v => v.category).sum + (13 * (names.length + 1) + 42) ≤ R.locals) :
    ∃ (V : State) (ce : Cell) (L : List Loc), Stand p l e R s m₀ args below meth c (V.setCell a ce) (locs ++ L) cells slots ∧ (∀ y ∈ L, y.base = a) ∧ a < V.heap.size ∧ ce.cls = cX ∧ ce.vm = .none ∧
      ∀ target, Steps p.tables e below ((V.setCell a ce).setTop { g with stack := .ref a :: rest, pc := g.pc + 3 }) target → Steps p.tables e below (W.setTop g) target := by
  have howns : e.platform.frameOwnsMonitors = true := by rw [X.admits.platform]
  have hfin : e.platform.finalization = false := by rw [X.admits.platform]
  have hpl : e.platform.magicAccessors = ({} : Platform).magicAccessors := by rw [X.admits.platform]
  have a' : ∀ x, x ∈ Bundle.ownAtoms own ic cls names → x.holds args s none s [] = true := fun x hx => h x hx
  obtain ⟨T, Z0, L, -, Y⟩ := ThrowableC.of_atoms (args := args) howns hfin hpl (fun x hx => h x (by simp [Bundle.ownAtoms, hx]))
  obtain ⟨Z, M, LZ, LM, hnZ⟩ := Init0T.ofS_atoms (args := args) hpl L Y (fun x hx => h x (by simp [Bundle.ownAtoms, hx]))
  obtain ⟨P1, Ps, hlen, L1, hL, hP1m, hlink1, hlink⟩ := Bundle.chainS (args := args) hpl hnZ names cls hcls hnames (fun x hx => h x (by simp [Bundle.ownAtoms, hx]))
  have hfound : s.vm.findClass cls = some P1.m.cls := findClass_of_methodNamed hP1m
  cases Option.some.inj (hfoundX.symm.trans hfound)
  obtain ⟨c1, kX', hc1, hk, hord, -, -, hn6⟩ := Cond.instantiable_spec (a' (.instantiable cls 6) (by simp [Bundle.ownAtoms]))
  cases Option.some.inj (hc1.symm.trans hfound)
  cases Option.some.inj (hkX.symm.trans hk)
  have hsel0 : selectMethod e.platform s.vm P1.m.cls T.fill0 = .method T.fill0 := by
    obtain ⟨c2, r2, m2, q1, q2, q3, q4, -⟩ := Cond.selects_spec (a' (.selects cls Bundle.tFill0 Bundle.tFill0) (by simp [Bundle.ownAtoms]))
    cases Option.some.inj (q1.symm.trans hfound)
    cases Option.some.inj (q2.symm.trans (State.methodFound?_of_named Y.fill0 (by decide)))
    cases Option.some.inj (q3.symm.trans Y.fill0)
    rw [Launch.admits_selectMethod X.admits]; exact q4
  have hselF : selectMethod e.platform s.vm P1.m.cls T.fill = .method T.fill := by
    obtain ⟨c2, r2, m2, q1, q2, q3, q4, -⟩ := Cond.selects_spec (a' (.selects cls Bundle.tFill Bundle.tFill) (by simp [Bundle.ownAtoms]))
    cases Option.some.inj (q1.symm.trans hfound)
    cases Option.some.inj (q2.symm.trans (State.methodFound?_of_named Y.fill (by decide)))
    cases Option.some.inj (q3.symm.trans Y.fill)
    rw [Launch.admits_selectMethod X.admits]; exact q4
  obtain ⟨cellS0, hcS0, hiss⟩ := Y.statics
  obtain ⟨u0, hu0⟩ := Cond.staticRefV Y.unassigned L.unassignedStatic L.statics hcS0 hiss (a' (.isRef (.static Bundle.tN "UNASSIGNED_STACK" Bundle.steD)) (by simp [Bundle.ownAtoms]))
  obtain ⟨sen, hsen⟩ := Cond.staticRefV Y.sentinel L.sentinelStatic L.statics hcS0 hiss (a' (.isRef (.static Bundle.tN "SUPPRESSED_SENTINEL" Bundle.listD)) (by simp [Bundle.ownAtoms]))
  obtain ⟨ci198, i198, fB, hk198, hg198, ha198, hsB, -, hnB, htB, hffB⟩ := Cond.ownField (t := .object "java/lang/Object") Y.found L.cls (by decide +kernel) (a' (.fieldLink Bundle.tN 198 Bundle.tN "backtrace" "Ljava/lang/Object;") (by simp [Bundle.ownAtoms])) (a' (.lays Bundle.tN Bundle.tN "backtrace" "Ljava/lang/Object;") (by simp [Bundle.ownAtoms])) e.platform hpl
  obtain ⟨cellS, hcS', heS, -, hkeep⟩ := X.same.2.2.2.2.2 T.aS cellS0 hcS0
  have hcellS : W.heap[T.aS]? = some cellS := hcS'
  have hout' : ∀ i, (⟨T.aS, i⟩ : Loc) ∉ locs := fun i hmem => by
    have := hlocs _ hmem cellS0 hcS0
    rw [hiss] at this; cases this
  have hknownS : cellS.vm ≠ .unknown := by
    rw [heS]; intro hu
    rw [show cellS0.vm = .unknown from hu] at hiss
    cases hiss
  have hneS : T.aS ≠ a := Nat.ne_of_lt (Nat.lt_of_lt_of_le (Array.getElem?_eq_some_iff.mp hcS0).1 hnew)
  obtain ⟨iM, hffM⟩ := Y.msg
  obtain ⟨tyC, dC, hdC, hdnC⟩ := Cond.laysAt hfound hk Y.cause (a' (.lays cls Bundle.tN "cause" "Ljava/lang/Throwable;") (by simp [Bundle.ownAtoms]))
  obtain ⟨tyS, dS, hdS, hdnS⟩ := Cond.laysAt hfound hk Y.stack (a' (.lays cls Bundle.tN "stackTrace" Bundle.steD) (by simp [Bundle.ownAtoms]))
  obtain ⟨tyP, dP, hdP, hdnP⟩ := Cond.laysAt hfound hk Y.supp (a' (.lays cls Bundle.tN "suppressedExceptions" Bundle.listD) (by simp [Bundle.ownAtoms]))
  obtain ⟨tyM, dM, hdM, hdnM⟩ := Cond.laysAt hfound hk hffM (a' (.lays cls Bundle.tN "detailMessage" "Ljava/lang/String;") (by simp [Bundle.ownAtoms]))
  obtain ⟨tyB, dB, hdB, hdnB⟩ := Cond.laysAt hfound hk hffB (a' (.lays cls Bundle.tN "backtrace" "Ljava/lang/Object;") (by simp [Bundle.ownAtoms]))
  have bC := Cond.laysApart hdB hdC hdnB hdnC (by rw [hnB, Y.causeName]; decide)
  have bS := Cond.laysApart hdB hdS hdnB hdnS (by rw [hnB, Y.stackName]; decide)
  have bP := Cond.laysApart hdB hdP hdnB hdnP (by rw [hnB, Y.suppName]; decide)
  have hskip : SkipFacts T e.platform s (fun u => u) u0 ((preparedCellV T.toThrowableT (freshCell P1.m.cls kX) a u0 sen).withEntry W.cur) :=
    ⟨{ ci198 := ci198, i198 := i198, fBack := fB }, ⟨hk198, hg198, ha198, hsB⟩, by
      have := fresh_default (c := P1.m.cls) tyB
      rw [htB] at this
      simpa [preparedCellV, Cell.setSlot, Cell.withEntry, Array.getElem?_setIfInBounds, bC, bS, bP, bC.symm, bS.symm, bP.symm, defaultValue] using this, fun _ _ => rfl⟩
  obtain ⟨tm, methC, cdC, kC, vm₁, hnC, -, -, -, -, -, -, -, hW₁, st1⟩ := Steps.initColdS (tb := p.tables) (e := e) (below := below) (s := s) (U := W) X.here hexec X.warmed hpl hown (t := Bundle.initS cls) rfl rfl (Bundle.fit_spec hcls).2
    (a' (.methodLink own ic (Bundle.initS cls)) (by simp [Bundle.ownAtoms])) (h (.instanceMethod (Bundle.initS cls)) (by cases names <;> simp [Bundle.ownAtoms, Bundle.chainSAtoms, Bundle.passSAtoms])) (bytes := Bundle.six) (maxL := 2) (h (.code (Bundle.initS cls) Bundle.six 2 none) (by cases names <;> simp [Bundle.ownAtoms, Bundle.chainSAtoms, Bundle.passSAtoms]))
    (f := g) hg (a := a) (msg := msg) (rest := .ref a :: rest) hstack hd6
  cases Option.some.inj (hnC.symm.trans hP1m)
  have X₁ := X.noted hW₁
  obtain ⟨vm₂, X₂, st2⟩ := X₁.ctorMessageOffV hexec (g := { g with stack := .ref a :: rest }) hg hsize T L Z LZ M LM (P1 :: Ps)
    (fun P hP => by rcases List.mem_cons.mp hP with rfl | hP; exact L1; exact hL P hP) ⟨hlink1, hlink⟩ (u0 := u0) (sen := sen) (self := a) hmsg (cell := freshCell P1.m.cls kX) (cellS := cellS)
    hcell (fun _ => by simp) (by simp) rfl rfl hsel0 hselF hcellS hneS hknownS (by rw [hkeep _ (hout' _)]; exact hu0) (by rw [hkeep _ (hout' _)]; exact hsen)
    (Takes.of_laid hk hord tyC (by rw [Y.causeType]; rfl)) (Takes.of_laid hk hord tyS (by rw [Y.stackType]; exact fits_refV_array _ u0)) (Takes.of_laid hk hord tyP (by rw [Y.suppType]; exact fits_refV_object _ sen))
    (Takes.of_laid hk hord tyM (by rw [Y.msgType]; exact fits_refV_object _ ⟨msg, hmsg⟩)) Y.objLocals hskip htr [] hd6
    (by simp only [List.length_cons, hlen]; omega) (by simp only [List.length_cons, hlen]; exact hRlocals)
  have hlt : a < ((W.setVm vm₁).setVm vm₂).heap.size := (Array.getElem?_eq_some_iff.mp hcell).1
  refine ⟨(W.setVm vm₁).setVm vm₂, _, _, X₂, fun y hy => ?_, hlt, rfl, rfl, fun target hwalk => st1 _ (fun acts => ?_)⟩
  · simp only [List.mem_cons, List.not_mem_nil, or_false] at hy
    rcases hy with rfl | rfl | rfl | rfl | rfl <;> rfl
  · rw [doInvoke_state]
    exact st2 _ hwalk
set_option maxHeartbeats 1000000 in
theorem vx_ctorMade0 (X : Stand p l e R s m₀ args below meth c W locs cells slots) (hexec : p.tables.exec = Jvm.exec) (htr : e.platform.stackTraces = false) {own cls : String} {names : List String} {ic : Nat}
    (hown : s.vm.findClass own = some m₀.cls) (hcls : Bundle.fit cls = true) (hnames : ∀ n ∈ names, Bundle.fit n = true)
    (h : ∀ a ∈ Bundle.ownAtoms0 own ic cls names, a.before args s = true)
    (hlocs : ∀ x ∈ locs, ∀ cell, s.heap[x.base]? = some cell → cell.vm.isStatics = false)
    {a : Addr} {cX : ClassId} {kX : Class} (hfoundX : s.vm.findClass cls = some cX) (hkX : s.vm.classes[cX]? = some kX) (hcell : W.heap[a]? = some (freshCell cX kX)) (hnew : s.heap.size ≤ a)
    {g : JFrame} (hg : g.method = m₀) (hsize : g.locals.size = c.maxLocals) {rest : List Value} (hstack : g.stack = .ref a :: .ref a :: rest)
    (hd6 : decode c.code g.pc = .ok (.invokespecial ic, 3))
    (hRframes : names.length + 3 < R.frames) (hRlocals : 2 * g.monitorRoom + ((Value.ref a :: rest).map fun v => v.category).sum + (13 * (names.length + 1) + 41) ≤ R.locals) :
    ∃ (V : State) (ce : Cell) (L : List Loc), Stand p l e R s m₀ args below meth c (V.setCell a ce) (locs ++ L) cells slots ∧ (∀ y ∈ L, y.base = a) ∧ a < V.heap.size ∧ ce.cls = cX ∧ ce.vm = .none ∧
      ∀ target, Steps p.tables e below ((V.setCell a ce).setTop { g with stack := .ref a :: rest, pc := g.pc + 3 }) target → Steps p.tables e below (W.setTop g) target := by
  have howns : e.platform.frameOwnsMonitors = true := by rw [X.admits.platform]
  have hfin : e.platform.finalization = false := by rw [X.admits.platform]
  have hpl : e.platform.magicAccessors = ({} : Platform).magicAccessors := by rw [X.admits.platform]
  have a' : ∀ x, x ∈ Bundle.ownAtoms0 own ic cls names → x.holds args s none s [] = true := fun x hx => h x hx
  obtain ⟨T, Z, L, LZ, Y⟩ := ThrowableC.of_atoms (args := args) howns hfin hpl (fun x hx => h x (by simp [Bundle.ownAtoms0, hx]))
  obtain ⟨P1, Ps, hlen, L1, hL, hP1m, hlink1, hlink⟩ := Bundle.chain0 (args := args) hpl Y.init0 names cls hcls hnames (fun x hx => h x (by simp [Bundle.ownAtoms0, hx]))
  have hfound : s.vm.findClass cls = some P1.m.cls := findClass_of_methodNamed hP1m
  cases Option.some.inj (hfoundX.symm.trans hfound)
  obtain ⟨c1, kX', hc1, hk, hord, -, -, hn6⟩ := Cond.instantiable_spec (a' (.instantiable cls 6) (by simp [Bundle.ownAtoms0]))
  cases Option.some.inj (hc1.symm.trans hfound)
  cases Option.some.inj (hkX.symm.trans hk)
  have hsel0 : selectMethod e.platform s.vm P1.m.cls T.fill0 = .method T.fill0 := by
    obtain ⟨c2, r2, m2, q1, q2, q3, q4, -⟩ := Cond.selects_spec (a' (.selects cls Bundle.tFill0 Bundle.tFill0) (by simp [Bundle.ownAtoms0]))
    cases Option.some.inj (q1.symm.trans hfound)
    cases Option.some.inj (q2.symm.trans (State.methodFound?_of_named Y.fill0 (by decide)))
    cases Option.some.inj (q3.symm.trans Y.fill0)
    rw [Launch.admits_selectMethod X.admits]; exact q4
  have hselF : selectMethod e.platform s.vm P1.m.cls T.fill = .method T.fill := by
    obtain ⟨c2, r2, m2, q1, q2, q3, q4, -⟩ := Cond.selects_spec (a' (.selects cls Bundle.tFill Bundle.tFill) (by simp [Bundle.ownAtoms0]))
    cases Option.some.inj (q1.symm.trans hfound)
    cases Option.some.inj (q2.symm.trans (State.methodFound?_of_named Y.fill (by decide)))
    cases Option.some.inj (q3.symm.trans Y.fill)
    rw [Launch.admits_selectMethod X.admits]; exact q4
  obtain ⟨cellS0, hcS0, hiss⟩ := Y.statics
  obtain ⟨u0, hu0⟩ := Cond.staticRefV Y.unassigned L.unassignedStatic L.statics hcS0 hiss (a' (.isRef (.static Bundle.tN "UNASSIGNED_STACK" Bundle.steD)) (by simp [Bundle.ownAtoms0]))
  obtain ⟨sen, hsen⟩ := Cond.staticRefV Y.sentinel L.sentinelStatic L.statics hcS0 hiss (a' (.isRef (.static Bundle.tN "SUPPRESSED_SENTINEL" Bundle.listD)) (by simp [Bundle.ownAtoms0]))
  obtain ⟨ci198, i198, fB, hk198, hg198, ha198, hsB, -, hnB, htB, hffB⟩ := Cond.ownField (t := .object "java/lang/Object") Y.found L.cls (by decide +kernel) (a' (.fieldLink Bundle.tN 198 Bundle.tN "backtrace" "Ljava/lang/Object;") (by simp [Bundle.ownAtoms0])) (a' (.lays Bundle.tN Bundle.tN "backtrace" "Ljava/lang/Object;") (by simp [Bundle.ownAtoms0])) e.platform hpl
  obtain ⟨cellS, hcS', heS, -, hkeep⟩ := X.same.2.2.2.2.2 T.aS cellS0 hcS0
  have hcellS : W.heap[T.aS]? = some cellS := hcS'
  have hout' : ∀ i, (⟨T.aS, i⟩ : Loc) ∉ locs := fun i hmem => by
    have := hlocs _ hmem cellS0 hcS0
    rw [hiss] at this; cases this
  have hknownS : cellS.vm ≠ .unknown := by
    rw [heS]; intro hu
    rw [show cellS0.vm = .unknown from hu] at hiss
    cases hiss
  have hneS : T.aS ≠ a := Nat.ne_of_lt (Nat.lt_of_lt_of_le (Array.getElem?_eq_some_iff.mp hcS0).1 hnew)
  obtain ⟨iM, hffM⟩ := Y.msg
  obtain ⟨tyC, dC, hdC, hdnC⟩ := Cond.laysAt hfound hk Y.cause (a' (.lays cls Bundle.tN "cause" "Ljava/lang/Throwable;") (by simp [Bundle.ownAtoms0]))
  obtain ⟨tyS, dS, hdS, hdnS⟩ := Cond.laysAt hfound hk Y.stack (a' (.lays cls Bundle.tN "stackTrace" Bundle.steD) (by simp [Bundle.ownAtoms0]))
  obtain ⟨tyP, dP, hdP, hdnP⟩ := Cond.laysAt hfound hk Y.supp (a' (.lays cls Bundle.tN "suppressedExceptions" Bundle.listD) (by simp [Bundle.ownAtoms0]))
  obtain ⟨tyM, dM, hdM, hdnM⟩ := Cond.laysAt hfound hk hffM (a' (.lays cls Bundle.tN "detailMessage" "Ljava/lang/String;") (by simp [Bundle.ownAtoms0]))
  obtain ⟨tyB, dB, hdB, hdnB⟩ := Cond.laysAt hfound hk hffB (a' (.lays cls Bundle.tN "backtrace" "Ljava/lang/Object;") (by simp [Bundle.ownAtoms0]))
  have bC := Cond.laysApart hdB hdC hdnB hdnC (by rw [hnB, Y.causeName]; decide)
  have bS := Cond.laysApart hdB hdS hdnB hdnS (by rw [hnB, Y.stackName]; decide)
  have bP := Cond.laysApart hdB hdP hdnB hdnP (by rw [hnB, Y.suppName]; decide)
  have hskip : SkipFacts T e.platform s (fun u => u) u0 ((preparedCellV T.toThrowableT (freshCell P1.m.cls kX) a u0 sen).withEntry W.cur) :=
    ⟨{ ci198 := ci198, i198 := i198, fBack := fB }, ⟨hk198, hg198, ha198, hsB⟩, by
      have := fresh_default (c := P1.m.cls) tyB
      rw [htB] at this
      simpa [preparedCellV, Cell.setSlot, Cell.withEntry, Array.getElem?_setIfInBounds, bC, bS, bP, bC.symm, bS.symm, bP.symm, defaultValue] using this, fun _ _ => rfl⟩
  obtain ⟨tm, methC, cdC, kC, vm₁, hnC, -, -, -, -, -, -, -, hW₁, st1⟩ := Steps.initCold (tb := p.tables) (e := e) (below := below) (s := s) (U := W) X.here hexec X.warmed hpl hown (t := Bundle.init0 cls) rfl rfl (Bundle.fit_spec hcls).2
    (a' (.methodLink own ic (Bundle.init0 cls)) (by simp [Bundle.ownAtoms0])) (h (.instanceMethod (Bundle.init0 cls)) (by cases names <;> simp [Bundle.ownAtoms0, Bundle.chain0Atoms, Bundle.passAtoms])) (bytes := Bundle.five) (maxL := 1) (h (.code (Bundle.init0 cls) Bundle.five 1 none) (by cases names <;> simp [Bundle.ownAtoms0, Bundle.chain0Atoms, Bundle.passAtoms]))
    (f := g) hg (a := a) (rest := .ref a :: rest) hstack hd6
  cases Option.some.inj (hnC.symm.trans hP1m)
  have X₁ := X.noted hW₁
  obtain ⟨vm₂, X₂, st2⟩ := X₁.ctorPlainOffV hexec (g := { g with stack := .ref a :: rest }) hg hsize T L Z LZ (P1 :: Ps)
    (fun P hP => by rcases List.mem_cons.mp hP with rfl | hP; exact L1; exact hL P hP) ⟨hlink1, hlink⟩ (u0 := u0) (sen := sen) (self := a) (cell := freshCell P1.m.cls kX) (cellS := cellS)
    hcell (fun _ => by simp) (by simp) rfl rfl hsel0 hselF hcellS hneS hknownS (by rw [hkeep _ (hout' _)]; exact hu0) (by rw [hkeep _ (hout' _)]; exact hsen)
    (Takes.of_laid hk hord tyC (by rw [Y.causeType]; rfl)) (Takes.of_laid hk hord tyS (by rw [Y.stackType]; exact fits_refV_array _ u0)) (Takes.of_laid hk hord tyP (by rw [Y.suppType]; exact fits_refV_object _ sen)) Y.objLocals hskip htr [] hd6
    (by simp only [List.length_cons, hlen]; omega) (by simp only [List.length_cons, hlen]; exact hRlocals)
  have hlt : a < ((W.setVm vm₁).setVm vm₂).heap.size := (Array.getElem?_eq_some_iff.mp hcell).1
  refine ⟨(W.setVm vm₁).setVm vm₂, _, _, X₂, fun y hy => ?_, hlt, rfl, rfl, fun target hwalk => st1 _ (fun acts => ?_)⟩
  · simp only [List.mem_cons, List.not_mem_nil, or_false] at hy
    rcases hy with rfl | rfl | rfl | rfl <;> rfl
  · rw [doInvoke_state]
    exact st2 _ hwalk
end VXK
section VXK2
variable {p : Program} {l : Launch} {e : Env} {R : Room} {s : State} {m : MethodId} {args : Array Value} {below : List Frame} {meth : Method} {c : Code} {H : Heap} {locs : List Loc} {cells slots : Nat} {Q : State → Prop}
variable {ls : Array Slot} {rest : List Value} {D : va_G} {cl : List vw_C} {tys : List (ClassId × FieldType)} {ws : va_W}
/-- 'new E("text")' that isn't thrown at once: the object goes on the stack -/
theorem vx_makeS {cc : ByteArray} {pc : Nat} (hexec : p.tables.exec = Jvm.exec) (hb : c.code = cc) (hl : l.stackTraces = false) {own cls text : String} {names : List String} {ik is ic sa ci : Nat} {A : Nat → Prop} {T0 : u_T}
    (hown : s.vm.findClass own = some m.cls) (hcls : Bundle.fit cls = true) (hnames : ∀ n ∈ names, Bundle.fit n = true)
    (hk : (Cond.classLink own ik cls).before args s = true) (hini : (Cond.initialized cls).before args s = true) (hstr : vk_R own is text sa s) (hat : ∀ w ∈ vx_atS own ic cls names, w.before args s = true)
    (hgood : ∀ w ∈ Cond.classLink own ik cls :: Cond.initialized cls :: vx_atS own ic cls names, vx_ot w = true)
    (hU : vx_Zq Bundle.tN "UNASSIGNED_STACK" Bundle.steD A s s.heap) (hN : vx_Zq Bundle.tN "SUPPRESSED_SENTINEL" Bundle.listD A s s.heap) (hS : va_S A s.heap H locs) (hsize : ls.size = c.maxLocals)
    (d0 : decode cc pc = .ok (.new ik, 3)) (d3 : decode cc (pc + 3) = .ok (.dup, 1)) (d4 : decode cc (pc + 4) = .ok (.ldc is, 2)) (d6 : decode cc (pc + 6) = .ok (.invokespecial ic, 3))
    (hK : va_K D cl tys s) (hP : va_P D cl ws H) (hD : va_D A ws) (hA : ∀ q, s.heap.size ≤ q → A q) (hc : cl[ci]? = some (cls, T0, 0))
    (hRframes : names.length + 3 < R.frames) (hRlocals : (rest.map fun v => v.category).sum + (13 * (names.length + 1) + 43) ≤ R.locals) (hRcells : cells + 1 ≤ R.cells) (hRslots : slots + 6 ≤ R.slots)
    (kk : ∀ (q : Nat) (H1 : Heap), va_P D cl (ws ++ [(q, .inr (ci, []))]) H1 → va_D A (ws ++ [(q, .inr (ci, []))]) → va_S A s.heap H1 locs → W p l e R s m args below meth c H1 locs (cells + 1) (slots + 6) Q (F0 m (pc + 9) ls (.ref q :: rest))) :
    W p l e R s m args below meth c H locs cells slots Q (F0 m pc ls rest) := by
  intro T hT X
  subst hT
  have htr : e.platform.stackTraces = false := (show e.platform.stackTraces = l.stackTraces by rw [X.admits.platform]).trans hl
  have Y := vx_rebase X (R' := { frames := R.frames, locals := R.locals, cells := 1, slots := 6 }) (Nat.le_refl _) (Nat.le_refl _) hRcells hRslots
  obtain ⟨s', hA'⟩ : ∃ z, z = (T.setVm s.vm).setFrames (.invoking m args :: below) := ⟨_, rfl⟩
  rw [← hA'] at Y
  have hvm : s'.vm = s.vm := by rw [hA']; rfl
  have hhp : s'.heap = T.heap := by rw [hA']; rfl
  have hW0 : s.WarmedH s'.vm := by rw [hvm]; exact State.WarmedH.refl s
  have hat' : ∀ w ∈ vx_atS own ic cls names, w.before args s' = true := fun w hw => vx_ot_at hW0 hvm.symm (hgood w (List.mem_cons_of_mem _ (List.mem_cons_of_mem _ hw))) (hat w hw)
  have hk' : (Cond.classLink own ik cls).before args s' = true := vx_ot_at hW0 hvm.symm (hgood _ List.mem_cons_self) hk
  have hini' : (Cond.initialized cls).before args s' = true := vx_ot_at hW0 hvm.symm (hgood _ (List.mem_cons_of_mem _ List.mem_cons_self)) hini
  have hU' : vx_Zq Bundle.tN "UNASSIGNED_STACK" Bundle.steD A s' s'.heap := by rw [hhp]; exact vx_Zq.moved hW0.alike (hU.kept hS.2.1)
  have hN' : vx_Zq Bundle.tN "SUPPRESSED_SENTINEL" Bundle.listD A s' s'.heap := by rw [hhp]; exact vx_Zq.moved hW0.alike (hN.kept hS.2.1)
  have h : ∀ w ∈ Bundle.ownAtoms own ic cls names, w.before args s' = true := vx_own hat' (vx_isRefq hU'.1) (vx_isRefq hN'.1) hU'.2.word hN'.2.word
  have hown' : s'.vm.findClass own = some m.cls := by rw [hvm]; exact hown
  have hins : (Cond.instantiable cls 6).before args s' = true := h _ (by simp [Bundle.ownAtoms])
  obtain ⟨vm₁, cX, kX, hfX, hkX, -, -, X₁, st1⟩ := Y.newCold hexec (own := own) (C := cls) (index := ik) (n := 6) hown' hk' hins hini'
    (g := F0 m pc ls rest) rfl (by rw [hb]; exact d0) (Nat.le_refl _) (Nat.le_refl _)
  generalize hT1 : (T.setVm vm₁).pushCell { cls := cX, slots := kX.instanceTypes.map defaultValue, vm := .none } = T1 at X₁ st1
  have hcat : (Value.ref T.heap.size).category = 1 := rfl
  have hcellA : T1.heap[T.heap.size]? = some (freshCell cX kX) := by rw [← hT1]; exact State.heap_pushCell_size _ _
  have d3' : decode c.code (pc + 3) = .ok (.dup, 1) := by rw [hb]; exact d3
  have d4' : decode c.code (pc + 4) = .ok (.ldc is, 2) := by rw [hb]; exact d4
  have hstr' : vk_R own is text sa s' := vk_R.warm hW0 hstr
  obtain ⟨V, ce, L, Z, hL, hlt, hcl9, hvm9, st⟩ := vx_ctorMadeS X₁ hexec htr (own := own) (cls := cls) (names := names) (ic := ic) hown' hcls hnames h (fun x hx => nomatch hx) hfX hkX hcellA (by rw [hhp]; exact Nat.le_refl _) (msg := .ref sa) rfl
    (g := { method := m, pc := pc + 6, locals := ls, stack := .ref sa :: .ref T.heap.size :: .ref T.heap.size :: rest, locked := none }) rfl hsize (rest := rest) rfl
    (by rw [hb]; exact d6) hRframes (by simp only [List.map_cons, List.sum_cons, hcat]; omega)
  have Z0 := Stand.forget (locs := []) Z (fun y hy => by rw [hL y hy, hhp]; exact Nat.le_refl _)
  obtain ⟨f1, f2⟩ := vx_frame Z0.same
  rw [hhp] at f1 f2
  have hcid : ce.cls = D.1 ci := by
    rw [hcl9]
    have h1 := (hK.1 ci _ hc).2.1
    rw [hvm] at hfX
    exact Option.some.inj (hfX.symm.trans h1)
  have hh : (V.setCell T.heap.size ce).heap[T.heap.size]? = some ce := heapAt_setCell_self (s := V) ce hlt
  subst hA'
  have X5 := vx_back9 X Y Z0
  have X6 : Stand p l e R s m args below meth c (V.setCell T.heap.size ce) locs (cells + 1) (slots + 6) := { X5 with same := X5.same.mono (by omega) (by omega) }
  have hk9 : ∀ (k : Nat) (x : Nat × va_E), ws[k]? = some x → (V.setCell T.heap.size ce).heap[x.1]? = T.heap[x.1]? := fun k x hx => f2 x.1 ((hP k x hx).lt) (fun z hz => nomatch hz)
  obtain ⟨t, a1, b1⟩ := kk T.heap.size (V.setCell T.heap.size ce).heap ((hP.kept hk9).app (fun k x hx => by
      have hz : k < 1 := (List.getElem?_eq_some_iff.mp hx).1
      rw [show k = 0 by omega] at hx
      cases hx
      exact ⟨_, hc, ce, hh, hcid, hvm9, fun k hk => absurd hk (Nat.not_lt_zero k)⟩)) (hD.push hP rfl (hA _ hS.1)) ⟨Nat.le_trans hS.1 f1, fun q h1 h2 => (f2 q (Nat.lt_of_lt_of_le h1 hS.1) (fun z hz => nomatch hz)).trans (hS.2.1 q h1 h2), hS.2.2⟩ _ rfl X6
  refine ⟨t, st1 _ ?_, b1⟩
  show Steps p.tables e below (T1.setTop { method := m, pc := pc + 3, locals := ls, stack := .ref T.heap.size :: rest, locked := none }) _
  jvm_step X₁.here [X₁.here.top, hexec, d3', Value.category]
  exact X₁.ldcString hexec (own := own) (text := text) (index := is) (a := sa) hown' hstr'.1 hstr'.2
    (g := { method := m, pc := pc + 4, locals := ls, stack := .ref T.heap.size :: .ref T.heap.size :: rest, locked := none }) rfl d4' _ (st _ a1)
/-- 'new E()' that isn't thrown at once: the object goes on the stack -/
theorem vx_make0 {cc : ByteArray} {pc : Nat} (hexec : p.tables.exec = Jvm.exec) (hb : c.code = cc) (hl : l.stackTraces = false) {own cls : String} {names : List String} {ik ic ci : Nat} {A : Nat → Prop} {T0 : u_T}
    (hown : s.vm.findClass own = some m.cls) (hcls : Bundle.fit cls = true) (hnames : ∀ n ∈ names, Bundle.fit n = true)
    (hk : (Cond.classLink own ik cls).before args s = true) (hini : (Cond.initialized cls).before args s = true) (hat : ∀ w ∈ vx_at0 own ic cls names, w.before args s = true)
    (hgood : ∀ w ∈ Cond.classLink own ik cls :: Cond.initialized cls :: vx_at0 own ic cls names, vx_ot w = true)
    (hU : vx_Zq Bundle.tN "UNASSIGNED_STACK" Bundle.steD A s s.heap) (hN : vx_Zq Bundle.tN "SUPPRESSED_SENTINEL" Bundle.listD A s s.heap) (hS : va_S A s.heap H locs) (hsize : ls.size = c.maxLocals)
    (d0 : decode cc pc = .ok (.new ik, 3)) (d3 : decode cc (pc + 3) = .ok (.dup, 1)) (d4 : decode cc (pc + 4) = .ok (.invokespecial ic, 3))
    (hK : va_K D cl tys s) (hP : va_P D cl ws H) (hD : va_D A ws) (hA : ∀ q, s.heap.size ≤ q → A q) (hc : cl[ci]? = some (cls, T0, 0))
    (hRframes : names.length + 3 < R.frames) (hRlocals : (rest.map fun v => v.category).sum + (13 * (names.length + 1) + 42) ≤ R.locals) (hRcells : cells + 1 ≤ R.cells) (hRslots : slots + 6 ≤ R.slots)
    (kk : ∀ (q : Nat) (H1 : Heap), va_P D cl (ws ++ [(q, .inr (ci, []))]) H1 → va_D A (ws ++ [(q, .inr (ci, []))]) → va_S A s.heap H1 locs → W p l e R s m args below meth c H1 locs (cells + 1) (slots + 6) Q (F0 m (pc + 7) ls (.ref q :: rest))) :
    W p l e R s m args below meth c H locs cells slots Q (F0 m pc ls rest) := by
  intro T hT X
  subst hT
  have htr : e.platform.stackTraces = false := (show e.platform.stackTraces = l.stackTraces by rw [X.admits.platform]).trans hl
  have Y := vx_rebase X (R' := { frames := R.frames, locals := R.locals, cells := 1, slots := 6 }) (Nat.le_refl _) (Nat.le_refl _) hRcells hRslots
  obtain ⟨s', hA'⟩ : ∃ z, z = (T.setVm s.vm).setFrames (.invoking m args :: below) := ⟨_, rfl⟩
  rw [← hA'] at Y
  have hvm : s'.vm = s.vm := by rw [hA']; rfl
  have hhp : s'.heap = T.heap := by rw [hA']; rfl
  have hW0 : s.WarmedH s'.vm := by rw [hvm]; exact State.WarmedH.refl s
  have hat' : ∀ w ∈ vx_at0 own ic cls names, w.before args s' = true := fun w hw => vx_ot_at hW0 hvm.symm (hgood w (List.mem_cons_of_mem _ (List.mem_cons_of_mem _ hw))) (hat w hw)
  have hk' : (Cond.classLink own ik cls).before args s' = true := vx_ot_at hW0 hvm.symm (hgood _ List.mem_cons_self) hk
  have hini' : (Cond.initialized cls).before args s' = true := vx_ot_at hW0 hvm.symm (hgood _ (List.mem_cons_of_mem _ List.mem_cons_self)) hini
  have hU' : vx_Zq Bundle.tN "UNASSIGNED_STACK" Bundle.steD A s' s'.heap := by rw [hhp]; exact vx_Zq.moved hW0.alike (hU.kept hS.2.1)
  have hN' : vx_Zq Bundle.tN "SUPPRESSED_SENTINEL" Bundle.listD A s' s'.heap := by rw [hhp]; exact vx_Zq.moved hW0.alike (hN.kept hS.2.1)
  have h : ∀ w ∈ Bundle.ownAtoms0 own ic cls names, w.before args s' = true := vx_own hat' (vx_isRefq hU'.1) (vx_isRefq hN'.1) hU'.2.word hN'.2.word
  have hown' : s'.vm.findClass own = some m.cls := by rw [hvm]; exact hown
  have hins : (Cond.instantiable cls 6).before args s' = true := h _ (by simp [Bundle.ownAtoms0])
  obtain ⟨vm₁, cX, kX, hfX, hkX, -, -, X₁, st1⟩ := Y.newCold hexec (own := own) (C := cls) (index := ik) (n := 6) hown' hk' hins hini'
    (g := F0 m pc ls rest) rfl (by rw [hb]; exact d0) (Nat.le_refl _) (Nat.le_refl _)
  generalize hT1 : (T.setVm vm₁).pushCell { cls := cX, slots := kX.instanceTypes.map defaultValue, vm := .none } = T1 at X₁ st1
  have hcat : (Value.ref T.heap.size).category = 1 := rfl
  have hcellA : T1.heap[T.heap.size]? = some (freshCell cX kX) := by rw [← hT1]; exact State.heap_pushCell_size _ _
  have d3' : decode c.code (pc + 3) = .ok (.dup, 1) := by rw [hb]; exact d3
  obtain ⟨V, ce, L, Z, hL, hlt, hcl9, hvm9, st⟩ := vx_ctorMade0 X₁ hexec htr (own := own) (cls := cls) (names := names) (ic := ic) hown' hcls hnames h (fun x hx => nomatch hx) hfX hkX hcellA (by rw [hhp]; exact Nat.le_refl _)
    (g := { method := m, pc := pc + 4, locals := ls, stack := .ref T.heap.size :: .ref T.heap.size :: rest, locked := none }) rfl hsize (rest := rest) rfl
    (by rw [hb]; exact d4) hRframes (by simp only [List.map_cons, List.sum_cons, hcat]; omega)
  have Z0 := Stand.forget (locs := []) Z (fun y hy => by rw [hL y hy, hhp]; exact Nat.le_refl _)
  obtain ⟨f1, f2⟩ := vx_frame Z0.same
  rw [hhp] at f1 f2
  have hcid : ce.cls = D.1 ci := by
    rw [hcl9]
    have h1 := (hK.1 ci _ hc).2.1
    rw [hvm] at hfX
    exact Option.some.inj (hfX.symm.trans h1)
  have hh : (V.setCell T.heap.size ce).heap[T.heap.size]? = some ce := heapAt_setCell_self (s := V) ce hlt
  subst hA'
  have X5 := vx_back9 X Y Z0
  have X6 : Stand p l e R s m args below meth c (V.setCell T.heap.size ce) locs (cells + 1) (slots + 6) := { X5 with same := X5.same.mono (by omega) (by omega) }
  have hk9 : ∀ (k : Nat) (x : Nat × va_E), ws[k]? = some x → (V.setCell T.heap.size ce).heap[x.1]? = T.heap[x.1]? := fun k x hx => f2 x.1 ((hP k x hx).lt) (fun z hz => nomatch hz)
  obtain ⟨t, a1, b1⟩ := kk T.heap.size (V.setCell T.heap.size ce).heap ((hP.kept hk9).app (fun k x hx => by
      have hz : k < 1 := (List.getElem?_eq_some_iff.mp hx).1
      rw [show k = 0 by omega] at hx
      cases hx
      exact ⟨_, hc, ce, hh, hcid, hvm9, fun k hk => absurd hk (Nat.not_lt_zero k)⟩)) (hD.push hP rfl (hA _ hS.1)) ⟨Nat.le_trans hS.1 f1, fun q h1 h2 => (f2 q (Nat.lt_of_lt_of_le h1 hS.1) (fun z hz => nomatch hz)).trans (hS.2.1 q h1 h2), hS.2.2⟩ _ rfl X6
  refine ⟨t, st1 _ ?_, b1⟩
  show Steps p.tables e below (T1.setTop { method := m, pc := pc + 3, locals := ls, stack := .ref T.heap.size :: rest, locked := none }) _
  jvm_step X₁.here [X₁.here.top, hexec, d3', Value.category]
  exact st _ a1
/-- 'throw x' of an object that was made before -/
theorem vx_athrow {cc : ByteArray} {pc : Nat} (hexec : p.tables.exec = Jvm.exec) (hb : c.code = cc) {q : Addr} (hdg : decode cc pc = .ok (.athrow, 1)) (k : vx_W p l e R s m args below meth c H locs cells slots Q (F0 m pc ls rest) q) : W p l e R s m args below meth c H locs cells slots Q (F0 m pc ls (.ref q :: rest)) := by
  intro T hT X
  obtain ⟨t, st, hq⟩ := k T hT X
  refine ⟨t, ?_, hq⟩
  have hdg' : decode c.code pc = .ok (.athrow, 1) := by rw [hb]; exact hdg
  jvm_step X.here [X.here.top, hexec, hdg', athrow.wp_sem]
  exact st
end VXK2
/-! ===== END ===== -/
/-! ===== BEGIN a constructor that throws (launches without stack traces) ===== -/
section VXIA
variable {p : Program} {l : Launch} {e : Env} {R : Room} {s : State} {m : MethodId} {args : Array Value} {below : List Frame} {meth : Method} {c : Code} {T : State} {locs : List Loc} {cells slots : Nat}
theorem vx_callI (X : Stand p l e R s m args below meth c T locs cells slots) (hexec : p.tables.exec = Jvm.exec) {own : String} {index : Nat} {y : MethodName} {bytes : ByteArray} {maxL : Nat}
    (hown : s.vm.findClass own = some m.cls) (hy1 : y.name = "<init>") (hlink : (Cond.methodLink own index y).before args s = true) (hinst : (Cond.instanceMethod y).before args s = true)
    (hcode : (Cond.code y bytes maxL none).before args s = true) (hy : y.cls ≠ "java/lang/invoke/MethodHandle" ∧ y.cls ≠ "java/lang/invoke/VarHandle")
    {W9 : Nat} {Pre : Pt → Array Value → Prop} {Post : Pt → Array Value → Option Value → Pt → Prop} {PostX : Pt → Array Value → Addr → Pt → Prop} (hK : vx_Back l R p e below s args y 3 W9 Pre Post PostX)
    {g : JFrame} (hg : g.method = m) (hsize : g.locals.size = c.maxLocals) {a : Addr} {argsL rest : List Value} (hlen : ∀ sig, parseMethodDescriptor y.desc = some sig → argsL.length = sig.parameters.length)
    (hstack : g.stack = argsL.reverse ++ .ref a :: rest) (hW : 2 * g.monitorRoom + (rest.map fun v => v.category).sum ≤ W9) (hdg : decode c.code g.pc = .ok (.invokespecial index, 3))
    (hpre : ∀ vm₁, s.WarmedH vm₁ → Pre ⟨T.setVm vm₁, locs, cells, slots⟩ (Value.ref a :: argsL).toArray) :
    (∃ (v : Option Value) (vm₁ : Vm) (B : Pt), s.WarmedH vm₁ ∧ Stand p l e R s m args below meth c B.U B.locs B.cells B.slots ∧ Post ⟨T.setVm vm₁, locs, cells, slots⟩ (Value.ref a :: argsL).toArray v B ∧
      ∀ target, Steps p.tables e below (B.U.setTop { g with pc := g.pc + 3, stack := v.toList ++ rest }) target → Steps p.tables e below (T.setTop g) target) ∨
    (∃ (q : Addr) (vm₁ : Vm) (B : Pt), s.WarmedH vm₁ ∧ Stand p l e R s m args below meth c B.U B.locs B.cells B.slots ∧ PostX ⟨T.setVm vm₁, locs, cells, slots⟩ (Value.ref a :: argsL).toArray q B ∧
      Steps p.tables e below (T.setTop g) ((B.U.setTop { g with stack := rest }).pushFrame (.throwing q))) := by
  subst hg
  have hpl : e.platform.magicAccessors = ({} : Platform).magicAccessors := by rw [X.admits.platform]
  obtain ⟨mk, methM, cM, kP, vm₁, hnamed, hmethM, hcodeM, -, hlocalsM, -, hkP, -, hW₁, hstep₁⟩ := Steps.initColdArgs (e := e) X.here hexec X.warmed hpl hown hy1 hy hlink hinst hcode (f := g) rfl hlen hstack hdg
  have X₁ := X.noted hW₁
  rcases hK g.method meth c ⟨T.setVm vm₁, locs, cells, slots⟩ { g with stack := rest } (.invokespecial index) mk (Value.ref a :: argsL).toArray X₁ rfl hsize hdg hW (X₁.named hnamed) (hpre vm₁ X₁.warmed) with ⟨v, B, X', hpost, hsteps⟩ | ⟨q, B, X', hpost, hsteps⟩
  · exact Or.inl ⟨v, vm₁, B, X₁.warmed, X', hpost, fun target h => hstep₁ _ fun acts => by rw [doInvoke_state]; exact hsteps.trans h⟩
  · exact Or.inr ⟨q, vm₁, B, X₁.warmed, X', hpost, hstep₁ _ fun acts => by rw [doInvoke_state]; exact hsteps⟩
end VXIA
section VXIB
variable {p : Program} {l : Launch} {e : Env} {R : Room} {s : State} {m : MethodId} {args : Array Value} {below : List Frame} {meth : Method} {c : Code} {H : Heap} {locs : List Loc} {cells slots : Nat}
variable {y : MethodName} {bytes cc : ByteArray} {maxL nL mc ms n index : Nat} {ret : Option FieldType} {ws : List Cond} {rm : Room} {Pc : Array Value → State → Prop} {Qc : Array Value → State → Outcome → State → Prop} {XC : String → State → State → Prop} {free : Addr → Prop} {Ts : List Cond} {own C : String} {b : Addr} {As rest : List Value} {g : JFrame}
theorem vx_runI (S : CallFix p m c cc nL s args Ts own) (hM : vx_Met l y ws rm Pc Qc XC mc ms free) (cw : CallB R s args own index y bytes maxL none ws rm mc ms n ∧ y.name = "<init>" ∧ (Cond.instanceMethod y).before args s = true) (hp : PreS s H Pc (.ref b :: As))
    (hg : g.method = m) (hn : As.length = n) (hsize : g.locals.size = nL) (hstack : g.stack = As.reverse ++ .ref b :: rest) (hW : 2 * g.monitorRoom + (rest.map fun v => v.category).sum ≤ 8) (hdg : decode cc g.pc = .ok (.invokespecial index, 3)) (hf : cells + mc ≤ R.cells ∧ slots + ms ≤ R.slots) :
    vx_Run p l e R s m args below meth c H locs cells slots mc ms g rest (Qc (Value.ref b :: As).toArray) XC free := by
  have hK : vx_Back l R p e below s args y 3 8 (PreOf R mc ms Pc) (PostOf Qc mc ms free) (vx_Post XC mc ms free) := vx_callBack cw.1 hM hp.1
  obtain ⟨⟨-, -, -, -, -, -, hcode, -, hy, hlen, hl⟩, hy1, hin⟩ := cw
  obtain ⟨hx, hb, hml, ho, -⟩ := S
  have hPc := hp.2
  intro T hT X
  rcases vx_callI X hx (bytes := bytes) (maxL := maxL) ho hy1 hl hin hcode hy hK hg (hsize.trans hml.symm) (a := b) (argsL := As) (rest := rest) (fun sig h => hn.trans (hlen sig h)) hstack hW (by rw [hb]; exact hdg)
    (fun vm₁ hW₁ => ⟨hf.1, hf.2, hPc (T.setVm vm₁) hT hW₁⟩) with ⟨v, vm₁, ⟨U', l2, c2, s2⟩, hW₁, X', ⟨g', mk, t, L, e1, e2, hq, h1, hL, h2, h3⟩, st⟩ | ⟨q, vm₁, ⟨U', l2, c2, s2⟩, hW₁, X', ⟨g', mk, t, L, E, ce, e1, e2, hq, hce, hcv, hcl, h1, hL, h2, h3⟩, st⟩
  · dsimp only [Pt.U, Pt.locs, Pt.cells, Pt.slots] at X' e1 e2 h1 h2 h3 st
    subst h1; subst h2; subst h3
    exact Or.inl ⟨v, (T.setVm vm₁).calling g' mk (Value.ref b :: As).toArray, t, U', L, hT, X', hL, e1, e2, hq, st⟩
  · dsimp only [Pt.U, Pt.locs, Pt.cells, Pt.slots] at X' e1 e2 h1 h2 h3 st hcl
    subst h1; subst h2; subst h3
    exact Or.inr ⟨q, (T.setVm vm₁).calling g' mk (Value.ref b :: As).toArray, t, U', L, E, ce, hT, X', hL, e1, e2, hq, hce, hcv, vx_cls hW₁ hcl, st⟩
end VXIB
/-! ===== END ===== -/
/-! ===== BEGIN a private constructor of a nest mate that throws ===== -/
section VXIC
variable {p : Program} {l : Launch} {e : Env} {R : Room} {s : State} {m : MethodId} {args : Array Value} {below : List Frame} {meth : Method} {c : Code} {T : State} {locs : List Loc} {cells slots : Nat}
theorem vx_callIN (X : Stand p l e R s m args below meth c T locs cells slots) (hexec : p.tables.exec = Jvm.exec) {own : String} {index : Nat} {host : String} {y : MethodName} {bytes : ByteArray} {maxL : Nat}
    (hown : s.vm.findClass own = some m.cls) (hy1 : y.name = "<init>") (hlink : (Cond.methodLinkNest own index y host).before args s = true) (hinst : (Cond.instanceMethod y).before args s = true)
    (hcode : (Cond.code y bytes maxL none).before args s = true) (hy : y.cls ≠ "java/lang/invoke/MethodHandle" ∧ y.cls ≠ "java/lang/invoke/VarHandle")
    {W9 : Nat} {Pre : Pt → Array Value → Prop} {Post : Pt → Array Value → Option Value → Pt → Prop} {PostX : Pt → Array Value → Addr → Pt → Prop} (hK : vx_Back l R p e below s args y 3 W9 Pre Post PostX)
    {g : JFrame} (hg : g.method = m) (hsize : g.locals.size = c.maxLocals) {a : Addr} {argsL rest : List Value} (hlen : ∀ sig, parseMethodDescriptor y.desc = some sig → argsL.length = sig.parameters.length)
    (hstack : g.stack = argsL.reverse ++ .ref a :: rest) (hW : 2 * g.monitorRoom + (rest.map fun v => v.category).sum ≤ W9) (hdg : decode c.code g.pc = .ok (.invokespecial index, 3))
    (hpre : ∀ vm₁, s.WarmedH vm₁ → Pre ⟨T.setVm vm₁, locs, cells, slots⟩ (Value.ref a :: argsL).toArray) :
    (∃ (v : Option Value) (vm₁ : Vm) (B : Pt), s.WarmedH vm₁ ∧ Stand p l e R s m args below meth c B.U B.locs B.cells B.slots ∧ Post ⟨T.setVm vm₁, locs, cells, slots⟩ (Value.ref a :: argsL).toArray v B ∧
      ∀ target, Steps p.tables e below (B.U.setTop { g with pc := g.pc + 3, stack := v.toList ++ rest }) target → Steps p.tables e below (T.setTop g) target) ∨
    (∃ (q : Addr) (vm₁ : Vm) (B : Pt), s.WarmedH vm₁ ∧ Stand p l e R s m args below meth c B.U B.locs B.cells B.slots ∧ PostX ⟨T.setVm vm₁, locs, cells, slots⟩ (Value.ref a :: argsL).toArray q B ∧
      Steps p.tables e below (T.setTop g) ((B.U.setTop { g with stack := rest }).pushFrame (.throwing q))) := by
  subst hg
  have hpl : e.platform.magicAccessors = ({} : Platform).magicAccessors := by rw [X.admits.platform]
  obtain ⟨mk, methM, cM, kP, vm₁, hnamed, hmethM, hcodeM, -, hlocalsM, -, hkP, -, hW₁, hstep₁⟩ := Steps.initColdArgsNest (e := e) X.here hexec X.warmed hpl hown hy1 hy hlink hinst hcode (f := g) rfl hlen hstack hdg
  have X₁ := X.noted hW₁
  rcases hK g.method meth c ⟨T.setVm vm₁, locs, cells, slots⟩ { g with stack := rest } (.invokespecial index) mk (Value.ref a :: argsL).toArray X₁ rfl hsize hdg hW (X₁.named hnamed) (hpre vm₁ X₁.warmed) with ⟨v, B, X', hpost, hsteps⟩ | ⟨q, B, X', hpost, hsteps⟩
  · exact Or.inl ⟨v, vm₁, B, X₁.warmed, X', hpost, fun target h => hstep₁ _ fun acts => by rw [doInvoke_state]; exact hsteps.trans h⟩
  · exact Or.inr ⟨q, vm₁, B, X₁.warmed, X', hpost, hstep₁ _ fun acts => by rw [doInvoke_state]; exact hsteps⟩
end VXIC
section VXID
variable {p : Program} {l : Launch} {e : Env} {R : Room} {s : State} {m : MethodId} {args : Array Value} {below : List Frame} {meth : Method} {c : Code} {H : Heap} {locs : List Loc} {cells slots : Nat}
theorem vx_runIN {y : MethodName} {bytes cc : ByteArray} {maxL nL mc ms n index : Nat} {ws : List Cond} {rm : Room} {Pc : Array Value → State → Prop} {Qc : Array Value → State → Outcome → State → Prop} {XC : String → State → State → Prop} {free : Addr → Prop} {Ts : List Cond} {own host : String} {b : Addr} {As rest : List Value} {g : JFrame}
    (S : CallFix p m c cc nL s args Ts own) (hM : vx_Met l y ws rm Pc Qc XC mc ms free) (cw : va_CN R s args own index y host bytes maxL none ws rm mc ms n ∧ y.name = "<init>" ∧ (Cond.instanceMethod y).before args s = true) (hp : PreS s H Pc (.ref b :: As))
    (hg : g.method = m) (hn : As.length = n) (hsize : g.locals.size = nL) (hstack : g.stack = As.reverse ++ .ref b :: rest) (hW : 2 * g.monitorRoom + (rest.map fun v => v.category).sum ≤ 8) (hdg : decode cc g.pc = .ok (.invokespecial index, 3)) (hf : cells + mc ≤ R.cells ∧ slots + ms ≤ R.slots) :
    vx_Run p l e R s m args below meth c H locs cells slots mc ms g rest (Qc (Value.ref b :: As).toArray) XC free := by
  obtain ⟨⟨⟨hrc, hrs, hfr, hlo, hws, hcw⟩, hcode, hini, hy, hlen, hl⟩, hx1, hx2⟩ := cw
  have hK : vx_Back l R p e below s args y 3 8 (PreOf R mc ms Pc) (PostOf Qc mc ms free) (vx_Post XC mc ms free) := vx_back (bytes := bytes) (maxL := maxL) (ret := none) hM hp.1 hrc hrs hfr hlo hws hcw (fun a' U hW => word_at hW (Or.inl (by first | rfl | simp [Cond.onTables, Cond.keeps, Cond.steady])) hini)
  obtain ⟨hx, hb, hml, ho, -⟩ := S
  have hPc := hp.2
  intro T hT X
  rcases vx_callIN X hx (bytes := bytes) (maxL := maxL) ho hx1 hl hx2 hcode hy hK hg (hsize.trans hml.symm) (a := b) (argsL := As) (rest := rest) (fun sig h => hn.trans (hlen sig h)) hstack hW (by rw [hb]; exact hdg)
    (fun vm₁ hW₁ => ⟨hf.1, hf.2, hPc (T.setVm vm₁) hT hW₁⟩) with ⟨v, vm₁, ⟨U', l2, c2, s2⟩, hW₁, X', ⟨g', mk, t, L, e1, e2, hq, h1, hL, h2, h3⟩, st⟩ | ⟨q, vm₁, ⟨U', l2, c2, s2⟩, hW₁, X', ⟨g', mk, t, L, E, ce, e1, e2, hq, hce, hcv, hcl, h1, hL, h2, h3⟩, st⟩
  · dsimp only [Pt.U, Pt.locs, Pt.cells, Pt.slots] at X' e1 e2 h1 h2 h3 st
    subst h1; subst h2; subst h3
    exact Or.inl ⟨v, (T.setVm vm₁).calling g' mk (Value.ref b :: As).toArray, t, U', L, hT, X', hL, e1, e2, hq, st⟩
  · dsimp only [Pt.U, Pt.locs, Pt.cells, Pt.slots] at X' e1 e2 h1 h2 h3 st hcl
    subst h1; subst h2; subst h3
    exact Or.inr ⟨q, (T.setVm vm₁).calling g' mk (Value.ref b :: As).toArray, t, U', L, E, ce, hT, X', hL, e1, e2, hq, hce, hcv, vx_cls hW₁ hcl, st⟩
end VXID
/-! ===== END ===== -/
/-! ===== BEGIN a method of a class above, found by the receiver, that may throw (follows va_callVU, va_runU of this kit) ===== -/
section
variable {p : Program} {l : Launch} {e : Env} {R : Room} {s : State} {m : MethodId} {args : Array Value} {below : List Frame} {meth : Method} {c : Code} {H : Heap} {locs : List Loc} {cells slots : Nat}
theorem vx_callVU {T : State} {locs : List Loc} {cells slots : Nat} (X : Stand p l e R s m args below meth c T locs cells slots) (hexec : p.tables.exec = Jvm.exec) {own C owner : String} {index : Nat} {x y : MethodName} {bytes : ByteArray} {maxL : Nat} {ret : Option FieldType}
    (hown : s.vm.findClass own = some m.cls) (hlink : (Cond.methodLink own index x).before args s = true) (hsame : (Cond.sameMethod x.cls owner x.name x.desc).before args s = true)
    (hd0 : va_Decl s ⟨owner, x.name, x.desc⟩) (howner : owner ≠ "java/lang/invoke/MethodHandle" ∧ owner ≠ "java/lang/invoke/VarHandle")
    (hsel : (Cond.selects C x y).before args s = true) (hinst : (Cond.instanceMethod y).before args s = true) (hcode : (Cond.code y bytes maxL ret).before args s = true)
    {W : Nat} {Pre : Pt → Array Value → Prop} {Post : Pt → Array Value → Option Value → Pt → Prop} {PostX : Pt → Array Value → Addr → Pt → Prop} (hK : vx_Back l R p e below s args y 3 W Pre Post PostX)
    {b : Addr} {cellB : Cell} (hcell : T.heap[b]? = some cellB) (hobj : cellB.vm.isStatics = false) (hcls : s.vm.findClass C = some cellB.cls)
    {g : JFrame} (hg : g.method = m) (hsize : g.locals.size = c.maxLocals) {argsL rest : List Value} (hlen : ∀ sig, parseMethodDescriptor x.desc = some sig → argsL.length = sig.parameters.length)
    (hstack : g.stack = argsL.reverse ++ .ref b :: rest) (hW : 2 * g.monitorRoom + (rest.map fun v => v.category).sum ≤ W) (hdg : decode c.code g.pc = .ok (.invokevirtual index, 3))
    (hpre : ∀ vm₁, s.WarmedH vm₁ → Pre ⟨T.setVm vm₁, locs, cells, slots⟩ (Value.ref b :: argsL).toArray) :
    (∃ (v : Option Value) (vm₁ : Vm) (B : Pt), s.WarmedH vm₁ ∧ Stand p l e R s m args below meth c B.U B.locs B.cells B.slots ∧ Post ⟨T.setVm vm₁, locs, cells, slots⟩ (Value.ref b :: argsL).toArray v B ∧
      ∀ target, Steps p.tables e below (B.U.setTop { g with pc := g.pc + 3, stack := v.toList ++ rest }) target → Steps p.tables e below (T.setTop g) target) ∨
    (∃ (q : Addr) (vm₁ : Vm) (B : Pt), s.WarmedH vm₁ ∧ Stand p l e R s m args below meth c B.U B.locs B.cells B.slots ∧ PostX ⟨T.setVm vm₁, locs, cells, slots⟩ (Value.ref b :: argsL).toArray q B ∧
      Steps p.tables e below (T.setTop g) ((B.U.setTop { g with stack := rest }).pushFrame (.throwing q))) := by
  obtain ⟨r0, r, hn, hrm, hstR, hsigR⟩ := hd0
  obtain ⟨cn, ck, r1, hcn, hck, hni, hf, hn1⟩ := Cond.sameMethod_found hsame
  cases hn.symm.trans hn1
  obtain ⟨mk, methM, hnamed, hmethM, -, habM⟩ := Cond.instanceMethod_spec hinst
  obtain ⟨c2, r2, m2, q1, q2, q3, q4, kP, hkP, hkPi⟩ := Cond.selects_spec hsel
  cases hcls.symm.trans q1
  cases hf.symm.trans q2
  cases hnamed.symm.trans q3
  have hselP : selectMethod e.platform s.vm cellB.cls r0 = .method mk := by rw [Launch.admits_selectMethod X.admits]; exact q4
  obtain ⟨vm₁, X₁, hstep₁⟩ := X.invokevirtualUp hexec hown hlink hsame howner hn hrm hstR (a := b) (cell := cellB) hcell
    (fun z h => by rw [h] at hobj; cases hobj) hselP hmethM habM hkP hkPi (g := g) hg (argsL := argsL) (rest := rest) (hlen _ hsigR) hstack hdg
  rcases hK m meth c ⟨T.setVm vm₁, locs, cells, slots⟩ { g with stack := rest } (.invokevirtual index) mk (Value.ref b :: argsL).toArray X₁ hg hsize hdg hW (X₁.named hnamed) (hpre vm₁ X₁.warmed) with ⟨v, B, X', hpost, hsteps⟩ | ⟨q, B, X', hpost, hsteps⟩
  · exact Or.inl ⟨v, vm₁, B, X₁.warmed, X', hpost, fun target h => hstep₁ _ fun acts => by rw [doInvoke_state]; exact hsteps.trans h⟩
  · exact Or.inr ⟨q, vm₁, B, X₁.warmed, X', hpost, hstep₁ _ fun acts => by rw [doInvoke_state]; exact hsteps⟩
theorem vx_runU {x y : MethodName} {bytes cc : ByteArray} {maxL nL mc ms n index : Nat} {ret : Option FieldType} {ws : List Cond} {rm : Room} {Pc : Array Value → State → Prop} {Qc : Array Value → State → Outcome → State → Prop} {XC : String → State → State → Prop} {free : Addr → Prop} {Ts : List Cond} {own C owner : String} {b : Addr} {As rest : List Value} {g : JFrame}
    (S : CallFix p m c cc nL s args Ts own) (hM : vx_Met l y ws rm Pc Qc XC mc ms free) (cw : va_CU R s args own C owner index x y bytes maxL ret ws rm mc ms n) (hp : PreV s H C b Pc As)
    (hg : g.method = m) (hn : As.length = n) (hsize : g.locals.size = nL) (hstack : g.stack = As.reverse ++ .ref b :: rest) (hW : 2 * g.monitorRoom + (rest.map fun v => v.category).sum ≤ 8) (hdg : decode cc g.pc = .ok (.invokevirtual index, 3)) (hf : cells + mc ≤ R.cells ∧ slots + ms ≤ R.slots) :
    vx_Run p l e R s m args below meth c H locs cells slots mc ms g rest (Qc (Value.ref b :: As).toArray) XC free := by
  obtain ⟨hrc, hrs, hfr, hlo, hws, hcw⟩ := cw.back
  have hini := cw.init
  have hK : vx_Back l R p e below s args y 3 8 (PreOf R mc ms Pc) (PostOf Qc mc ms free) (vx_Post XC mc ms free) := vx_back (bytes := bytes) (maxL := maxL) (ret := ret) hM hp.1 hrc hrs hfr hlo hws hcw (fun a' U hW => word_at hW (Or.inl (by first | rfl | simp [Cond.onTables, Cond.keeps, Cond.steady])) hini)
  obtain ⟨hx, hb, hml, ho, -⟩ := S
  obtain ⟨-, ⟨cellB, hcB, hoB, hclB⟩, hPc⟩ := hp
  intro T hT X
  rcases vx_callVU X hx (C := C) (owner := owner) (bytes := bytes) (maxL := maxL) (ret := ret) ho cw.link cw.same cw.decl cw.notMH cw.sel cw.inst cw.code hK (by rw [hT]; exact hcB) hoB hclB hg (hsize.trans hml.symm) (argsL := As) (rest := rest) (fun sig h => hn.trans (cw.len sig h)) hstack hW (by rw [hb]; exact hdg)
    (fun vm₁ hW₁ => ⟨hf.1, hf.2, hPc (T.setVm vm₁) hT hW₁⟩) with ⟨v, vm₁, ⟨U', l2, c2, s2⟩, hW₁, X', ⟨g', mk, t, L, e1, e2, hq, h1, hL, h2, h3⟩, st⟩ | ⟨q, vm₁, ⟨U', l2, c2, s2⟩, hW₁, X', ⟨g', mk, t, L, E, ce, e1, e2, hq, hce, hcv, hcl, h1, hL, h2, h3⟩, st⟩
  · dsimp only [Pt.U, Pt.locs, Pt.cells, Pt.slots] at X' e1 e2 h1 h2 h3 st
    subst h1; subst h2; subst h3
    exact Or.inl ⟨v, (T.setVm vm₁).calling g' mk (Value.ref b :: As).toArray, t, U', L, hT, X', hL, e1, e2, hq, st⟩
  · dsimp only [Pt.U, Pt.locs, Pt.cells, Pt.slots] at X' e1 e2 h1 h2 h3 st hcl
    subst h1; subst h2; subst h3
    exact Or.inr ⟨q, (T.setVm vm₁).calling g' mk (Value.ref b :: As).toArray, t, U', L, E, ce, hT, X', hL, e1, e2, hq, hce, hcv, vx_cls hW₁ hcl, st⟩
end
/-! ===== END ===== -/
/-! ===== BEGIN super.m(..) that may throw (follows va_callSU, va_runSU) ===== -/
section
variable {p : Program} {l : Launch} {e : Env} {R : Room} {s : State} {m : MethodId} {args : Array Value} {below : List Frame} {meth : Method} {c : Code} {H : Heap} {locs : List Loc} {cells slots : Nat}
theorem vx_callSU {T : State} {locs : List Loc} {cells slots : Nat} (X : Stand p l e R s m args below meth c T locs cells slots) (hexec : p.tables.exec = Jvm.exec) {own : String} {index : Nat} {y : MethodName} {bytes : ByteArray} {maxL : Nat} {ret : Option FieldType}
    (hown : s.vm.findClass own = some m.cls) (hlink : (Cond.methodLink own index y).before args s = true) (hsame : (Cond.sameMethod y.cls y.cls y.name y.desc).before args s = true) (hsup : (Cond.superclass own y.cls).before args s = true)
    (hinst : (Cond.instanceMethod y).before args s = true) (hcode : (Cond.code y bytes maxL ret).before args s = true) (hno : y.name ≠ "<init>")
    {W : Nat} {Pre : Pt → Array Value → Prop} {Post : Pt → Array Value → Option Value → Pt → Prop} {PostX : Pt → Array Value → Addr → Pt → Prop} (hK : vx_Back l R p e below s args y 3 W Pre Post PostX)
    {b : Addr} {cellB : Cell} {kB : Class} (hcell : T.heap[b]? = some cellB) (hobj : cellB.vm.isStatics = false) (hkB : s.vm.classes[cellB.cls]? = some kB)
    {g : JFrame} (hg : g.method = m) (hsize : g.locals.size = c.maxLocals) {argsL rest : List Value} (hlen : ∀ sig, parseMethodDescriptor y.desc = some sig → argsL.length = sig.parameters.length)
    (hstack : g.stack = argsL.reverse ++ .ref b :: rest) (hW : 2 * g.monitorRoom + (rest.map fun v => v.category).sum ≤ W) (hdg : decode c.code g.pc = .ok (.invokespecial index, 3))
    (hpre : ∀ vm₁, s.WarmedH vm₁ → Pre ⟨T.setVm vm₁, locs, cells, slots⟩ (Value.ref b :: argsL).toArray) :
    (∃ (v : Option Value) (vm₁ : Vm) (B : Pt), s.WarmedH vm₁ ∧ Stand p l e R s m args below meth c B.U B.locs B.cells B.slots ∧ Post ⟨T.setVm vm₁, locs, cells, slots⟩ (Value.ref b :: argsL).toArray v B ∧
      ∀ target, Steps p.tables e below (B.U.setTop { g with pc := g.pc + 3, stack := v.toList ++ rest }) target → Steps p.tables e below (T.setTop g) target) ∨
    (∃ (q : Addr) (vm₁ : Vm) (B : Pt), s.WarmedH vm₁ ∧ Stand p l e R s m args below meth c B.U B.locs B.cells B.slots ∧ PostX ⟨T.setVm vm₁, locs, cells, slots⟩ (Value.ref b :: argsL).toArray q B ∧
      Steps p.tables e below (T.setTop g) ((B.U.setTop { g with stack := rest }).pushFrame (.throwing q))) := by
  obtain ⟨mk, methM, hnamed, hmethM, hstM, habM⟩ := Cond.instanceMethod_spec hinst
  obtain ⟨methM', cM, hmethM', -, -, -, -, -, -, hsigM⟩ := Cond.code_spec hnamed hcode
  cases hmethM.symm.trans hmethM'
  obtain ⟨ps, dk, kp, hps, hdk, hkp, hsuper, -, -, hnid⟩ := Cond.superclass_spec hown hsup
  have hn : s.methodNamed? ⟨y.cls, y.name, y.desc⟩ = some mk := hnamed
  have hpm : ps = mk.cls := Option.some.inj (hps.symm.trans (findClass_of_methodNamed hnamed))
  have hsub : s.vm.isSubclass ps mk.cls = true := by rw [hpm]; simp [Vm.isSubclass, Vm.isSubclassAux]
  obtain ⟨vm₁, X₁, hstep₁⟩ := X.invokespecialUp hexec hown hlink hsame hn hmethM hstM habM hno hdk hnid hps hsuper hsub (a := b) (cell := cellB) hcell
    (fun z h => by rw [h] at hobj; cases hobj) hkB (g := g) hg (argsL := argsL) (rest := rest) (hlen _ hsigM) hstack hdg
  rcases hK m meth c ⟨T.setVm vm₁, locs, cells, slots⟩ { g with stack := rest } (.invokespecial index) mk (Value.ref b :: argsL).toArray X₁ hg hsize hdg hW (X₁.named hnamed) (hpre vm₁ X₁.warmed) with ⟨v, B, X', hpost, hsteps⟩ | ⟨q, B, X', hpost, hsteps⟩
  · exact Or.inl ⟨v, vm₁, B, X₁.warmed, X', hpost, fun target h => hstep₁ _ (by rw [doInvoke_state]; exact hsteps.trans h)⟩
  · exact Or.inr ⟨q, vm₁, B, X₁.warmed, X', hpost, hstep₁ _ (by rw [doInvoke_state]; exact hsteps)⟩
theorem vx_runSU {y : MethodName} {bytes cc : ByteArray} {maxL nL mc ms n index : Nat} {ret : Option FieldType} {ws : List Cond} {rm : Room} {Pc : Array Value → State → Prop} {Qc : Array Value → State → Outcome → State → Prop} {XC : String → State → State → Prop} {free : Addr → Prop} {Ts : List Cond} {own C : String} {cC : ClassId} {b : Addr} {As rest : List Value} {g : JFrame}
    (hat : ClassAt s C cC) (S : CallFix p m c cc nL s args Ts own) (hM : vx_Met l y ws rm Pc Qc XC mc ms free) (cw : va_CS R s args own index y bytes maxL ret ws rm mc ms n) (hp : PreV s H C b Pc As)
    (hg : g.method = m) (hn : As.length = n) (hsize : g.locals.size = nL) (hstack : g.stack = As.reverse ++ .ref b :: rest) (hW : 2 * g.monitorRoom + (rest.map fun v => v.category).sum ≤ 8) (hdg : decode cc g.pc = .ok (.invokespecial index, 3)) (hf : cells + mc ≤ R.cells ∧ slots + ms ≤ R.slots) :
    vx_Run p l e R s m args below meth c H locs cells slots mc ms g rest (Qc (Value.ref b :: As).toArray) XC free := by
  obtain ⟨⟨hrc, hrs, hfr, hlo, hws, hcw⟩, hl1, hl2, hl3, hl4, hini, hcode, hno, hlen⟩ := cw
  have hK : vx_Back l R p e below s args y 3 8 (PreOf R mc ms Pc) (PostOf Qc mc ms free) (vx_Post XC mc ms free) := vx_back (bytes := bytes) (maxL := maxL) (ret := ret) hM hp.1 hrc hrs hfr hlo hws hcw (fun a' U hW => word_at hW (Or.inl (by first | rfl | simp [Cond.onTables, Cond.keeps, Cond.steady])) hini)
  obtain ⟨hx, hb, hml, ho, -⟩ := S
  obtain ⟨-, ⟨cellB, hcB, hoB, hclB⟩, hPc⟩ := hp
  obtain ⟨hfc, kB, hkB, -⟩ := hat
  cases hfc.symm.trans hclB
  intro T hT X
  rcases vx_callSU X hx (bytes := bytes) (maxL := maxL) (ret := ret) ho hl1 hl2 hl3 hl4 hcode hno hK (by rw [hT]; exact hcB) hoB hkB hg (hsize.trans hml.symm) (argsL := As) (rest := rest) (fun sig h => hn.trans (hlen sig h)) hstack hW (by rw [hb]; exact hdg)
    (fun vm₁ hW₁ => ⟨hf.1, hf.2, hPc (T.setVm vm₁) hT hW₁⟩) with ⟨v, vm₁, ⟨U', l2, c2, s2⟩, hW₁, X', ⟨g', mk, t, L, e1, e2, hq, h1, hL, h2, h3⟩, st⟩ | ⟨q, vm₁, ⟨U', l2, c2, s2⟩, hW₁, X', ⟨g', mk, t, L, E, ce, e1, e2, hq, hce, hcv, hcl, h1, hL, h2, h3⟩, st⟩
  · dsimp only [Pt.U, Pt.locs, Pt.cells, Pt.slots] at X' e1 e2 h1 h2 h3 st
    subst h1; subst h2; subst h3
    exact Or.inl ⟨v, (T.setVm vm₁).calling g' mk (Value.ref b :: As).toArray, t, U', L, hT, X', hL, e1, e2, hq, st⟩
  · dsimp only [Pt.U, Pt.locs, Pt.cells, Pt.slots] at X' e1 e2 h1 h2 h3 st hcl
    subst h1; subst h2; subst h3
    exact Or.inr ⟨q, (T.setVm vm₁).calling g' mk (Value.ref b :: As).toArray, t, U', L, E, ce, hT, X', hL, e1, e2, hq, hce, hcv, vx_cls hW₁ hcl, st⟩
end
/-! ===== END ===== -/
/-! ===== BEGIN a private method of a nest mate that may throw (follows va_callVN, va_callSN, va_runVN, va_runSN) ===== -/
section
variable {p : Program} {l : Launch} {e : Env} {R : Room} {s : State} {m : MethodId} {args : Array Value} {below : List Frame} {meth : Method} {c : Code} {H : Heap} {locs : List Loc} {cells slots : Nat}
variable {T : State}
theorem vx_callVN (X : Stand p l e R s m args below meth c T locs cells slots) (hexec : p.tables.exec = Jvm.exec) {own C : String} {index : Nat} {host : String} {y : MethodName} {bytes : ByteArray} {maxL : Nat} {ret : Option FieldType}
    (hown : s.vm.findClass own = some m.cls) (hlink : (Cond.methodLinkNest own index y host).before args s = true) (hinst : (Cond.instanceMethod y).before args s = true) (hsel : (Cond.selects C y y).before args s = true)
    (hcode : (Cond.code y bytes maxL ret).before args s = true) (hy : y.cls ≠ "java/lang/invoke/MethodHandle" ∧ y.cls ≠ "java/lang/invoke/VarHandle")
    {W : Nat} {Pre : Pt → Array Value → Prop} {Post : Pt → Array Value → Option Value → Pt → Prop} {PostX : Pt → Array Value → Addr → Pt → Prop} (hK : vx_Back l R p e below s args y 3 W Pre Post PostX)
    {b : Addr} {cellB : Cell} (hcell : T.heap[b]? = some cellB) (hobj : cellB.vm.isStatics = false) (hcls : s.vm.findClass C = some cellB.cls)
    {g : JFrame} (hg : g.method = m) (hsize : g.locals.size = c.maxLocals) {argsL rest : List Value} (hlen : ∀ sig, parseMethodDescriptor y.desc = some sig → argsL.length = sig.parameters.length)
    (hstack : g.stack = argsL.reverse ++ .ref b :: rest) (hW : 2 * g.monitorRoom + (rest.map fun v => v.category).sum ≤ W) (hdg : decode c.code g.pc = .ok (.invokevirtual index, 3))
    (hpre : ∀ vm₁, s.WarmedH vm₁ → Pre ⟨T.setVm vm₁, locs, cells, slots⟩ (Value.ref b :: argsL).toArray) :
    (∃ (v : Option Value) (vm₁ : Vm) (B : Pt), s.WarmedH vm₁ ∧ Stand p l e R s m args below meth c B.U B.locs B.cells B.slots ∧ Post ⟨T.setVm vm₁, locs, cells, slots⟩ (Value.ref b :: argsL).toArray v B ∧
      ∀ target, Steps p.tables e below (B.U.setTop { g with pc := g.pc + 3, stack := v.toList ++ rest }) target → Steps p.tables e below (T.setTop g) target) ∨
    (∃ (q : Addr) (vm₁ : Vm) (B : Pt), s.WarmedH vm₁ ∧ Stand p l e R s m args below meth c B.U B.locs B.cells B.slots ∧ PostX ⟨T.setVm vm₁, locs, cells, slots⟩ (Value.ref b :: argsL).toArray q B ∧
      Steps p.tables e below (T.setTop g) ((B.U.setTop { g with stack := rest }).pushFrame (.throwing q))) := by
  obtain ⟨mk, methM, hnamed, hmethM, hstM, habM⟩ := Cond.instanceMethod_spec hinst
  obtain ⟨methM', cM, hmethM', -, -, -, -, -, -, hsigM⟩ := Cond.code_spec hnamed hcode
  cases hmethM.symm.trans hmethM'
  obtain ⟨c2, r2, m2, q1, q2, q3, q4, kP, hkP, hkPi⟩ := Cond.selects_spec hsel
  cases hcls.symm.trans q1
  cases (State.methodFound?_of_named hnamed hy).symm.trans q2
  cases hnamed.symm.trans q3
  have hselP : selectMethod e.platform s.vm cellB.cls mk = .method mk := by rw [Launch.admits_selectMethod X.admits]; exact q4
  obtain ⟨vm₁, X₁, hstep₁⟩ := X.invokevirtualNest hexec hown hlink hnamed hmethM hstM hkP hkPi hy (a := b) (cell := cellB) hcell
    (fun z h => by rw [h] at hobj; cases hobj) hselP hmethM habM hkP hkPi (g := g) hg (argsL := argsL) (rest := rest) (hlen _ hsigM) hstack hdg
  rcases hK m meth c ⟨T.setVm vm₁, locs, cells, slots⟩ { g with stack := rest } (.invokevirtual index) mk (Value.ref b :: argsL).toArray X₁ hg hsize hdg hW (X₁.named hnamed) (hpre vm₁ X₁.warmed) with ⟨v, B, X', hpost, hsteps⟩ | ⟨q, B, X', hpost, hsteps⟩
  · exact Or.inl ⟨v, vm₁, B, X₁.warmed, X', hpost, fun target h => hstep₁ _ fun acts => by rw [doInvoke_state]; exact hsteps.trans h⟩
  · exact Or.inr ⟨q, vm₁, B, X₁.warmed, X', hpost, hstep₁ _ fun acts => by rw [doInvoke_state]; exact hsteps⟩
theorem vx_callSN (X : Stand p l e R s m args below meth c T locs cells slots) (hexec : p.tables.exec = Jvm.exec) {own : String} {index : Nat} {host : String} {y : MethodName} {bytes : ByteArray} {maxL : Nat} {ret : Option FieldType}
    (hown : s.vm.findClass own = some m.cls) (hlink : (Cond.methodLinkNest own index y host).before args s = true) (hstat : (Cond.static y).before args s = true) (hinit : (Cond.initialized y.cls).before args s = true)
    (hcode : (Cond.code y bytes maxL ret).before args s = true) (hy : y.cls ≠ "java/lang/invoke/MethodHandle" ∧ y.cls ≠ "java/lang/invoke/VarHandle")
    {W : Nat} {Pre : Pt → Array Value → Prop} {Post : Pt → Array Value → Option Value → Pt → Prop} {PostX : Pt → Array Value → Addr → Pt → Prop} (hK : vx_Back l R p e below s args y 3 W Pre Post PostX)
    {g : JFrame} (hg : g.method = m) (hsize : g.locals.size = c.maxLocals) {argsL rest : List Value} (hlen : ∀ sig, parseMethodDescriptor y.desc = some sig → argsL.length = sig.parameters.length)
    (hstack : g.stack = argsL.reverse ++ rest) (hW : 2 * g.monitorRoom + (rest.map fun v => v.category).sum ≤ W) (hdg : decode c.code g.pc = .ok (.invokestatic index, 3))
    (hpre : ∀ vm₁, s.WarmedH vm₁ → Pre ⟨T.setVm vm₁, locs, cells, slots⟩ argsL.toArray) :
    (∃ (v : Option Value) (vm₁ : Vm) (B : Pt), s.WarmedH vm₁ ∧ Stand p l e R s m args below meth c B.U B.locs B.cells B.slots ∧ Post ⟨T.setVm vm₁, locs, cells, slots⟩ argsL.toArray v B ∧
      ∀ target, Steps p.tables e below (B.U.setTop { g with pc := g.pc + 3, stack := v.toList ++ rest }) target → Steps p.tables e below (T.setTop g) target) ∨
    (∃ (q : Addr) (vm₁ : Vm) (B : Pt), s.WarmedH vm₁ ∧ Stand p l e R s m args below meth c B.U B.locs B.cells B.slots ∧ PostX ⟨T.setVm vm₁, locs, cells, slots⟩ argsL.toArray q B ∧
      Steps p.tables e below (T.setTop g) ((B.U.setTop { g with stack := rest }).pushFrame (.throwing q))) := by
  obtain ⟨mk, hnamed⟩ := Cond.code_named hcode
  obtain ⟨methM, cM, hmethM, -, -, -, -, -, -, hsigM⟩ := Cond.code_spec hnamed hcode
  have hstatic : methM.isStatic = true := Cond.static_spec hnamed hmethM hstat
  obtain ⟨kP, hkP, -⟩ := className_of_methodNamed hnamed
  have hinitP : kP.init = .initialized := Cond.initialized_spec (findClass_of_methodNamed hnamed) hkP hinit
  obtain ⟨vm₁, X₁, hstep₁⟩ := X.invokestaticNest hexec hown hlink hnamed hmethM hstatic hkP hinitP hy (g := g) hg (argsL := argsL) (rest := rest) (hlen _ hsigM) hstack hdg
  rcases hK m meth c ⟨T.setVm vm₁, locs, cells, slots⟩ { g with stack := rest } (.invokestatic index) mk argsL.toArray X₁ hg hsize hdg hW (X₁.named hnamed) (hpre vm₁ X₁.warmed) with ⟨v, B, X', hpost, hsteps⟩ | ⟨q, B, X', hpost, hsteps⟩
  · exact Or.inl ⟨v, vm₁, B, X₁.warmed, X', hpost, fun target h => hstep₁ _ fun acts => by rw [doInvoke_state]; exact hsteps.trans h⟩
  · exact Or.inr ⟨q, vm₁, B, X₁.warmed, X', hpost, hstep₁ _ fun acts => by rw [doInvoke_state]; exact hsteps⟩
theorem vx_runVN {y : MethodName} {bytes cc : ByteArray} {maxL nL mc ms n index : Nat} {ret : Option FieldType} {ws : List Cond} {rm : Room} {Pc : Array Value → State → Prop} {Qc : Array Value → State → Outcome → State → Prop} {XC : String → State → State → Prop} {free : Addr → Prop} {Ts : List Cond} {own C host : String} {b : Addr} {As rest : List Value} {g : JFrame}
    (S : CallFix p m c cc nL s args Ts own) (hM : vx_Met l y ws rm Pc Qc XC mc ms free) (cw : va_CN R s args own index y host bytes maxL ret ws rm mc ms n ∧ (Cond.instanceMethod y).before args s = true ∧ (Cond.selects C y y).before args s = true) (hp : PreV s H C b Pc As)
    (hg : g.method = m) (hn : As.length = n) (hsize : g.locals.size = nL) (hstack : g.stack = As.reverse ++ .ref b :: rest) (hW : 2 * g.monitorRoom + (rest.map fun v => v.category).sum ≤ 8) (hdg : decode cc g.pc = .ok (.invokevirtual index, 3)) (hf : cells + mc ≤ R.cells ∧ slots + ms ≤ R.slots) :
    vx_Run p l e R s m args below meth c H locs cells slots mc ms g rest (Qc (Value.ref b :: As).toArray) XC free := by
  obtain ⟨⟨⟨hrc, hrs, hfr, hlo, hws, hcw⟩, hcode, hini, hy, hlen, hl⟩, hx1, hx2⟩ := cw
  have hK : vx_Back l R p e below s args y 3 8 (PreOf R mc ms Pc) (PostOf Qc mc ms free) (vx_Post XC mc ms free) := vx_back (bytes := bytes) (maxL := maxL) (ret := ret) hM hp.1 hrc hrs hfr hlo hws hcw (fun a' U hW => word_at hW (Or.inl (by first | rfl | simp [Cond.onTables, Cond.keeps, Cond.steady])) hini)
  obtain ⟨hx, hb, hml, ho, -⟩ := S
  obtain ⟨-, ⟨cellB, hcB, hoB, hclB⟩, hPc⟩ := hp
  intro T hT X
  rcases vx_callVN X hx (C := C) (bytes := bytes) (maxL := maxL) (ret := ret) ho hl hx1 hx2 hcode hy hK (by rw [hT]; exact hcB) hoB hclB hg (hsize.trans hml.symm) (argsL := As) (rest := rest) (fun sig h => hn.trans (hlen sig h)) hstack hW (by rw [hb]; exact hdg)
    (fun vm₁ hW₁ => ⟨hf.1, hf.2, hPc (T.setVm vm₁) hT hW₁⟩) with ⟨v, vm₁, ⟨U', l2, c2, s2⟩, hW₁, X', ⟨g', mk, t, L, e1, e2, hq, h1, hL, h2, h3⟩, st⟩ | ⟨q, vm₁, ⟨U', l2, c2, s2⟩, hW₁, X', ⟨g', mk, t, L, E, ce, e1, e2, hq, hce, hcv, hcl, h1, hL, h2, h3⟩, st⟩
  · dsimp only [Pt.U, Pt.locs, Pt.cells, Pt.slots] at X' e1 e2 h1 h2 h3 st
    subst h1; subst h2; subst h3
    exact Or.inl ⟨v, (T.setVm vm₁).calling g' mk (Value.ref b :: As).toArray, t, U', L, hT, X', hL, e1, e2, hq, st⟩
  · dsimp only [Pt.U, Pt.locs, Pt.cells, Pt.slots] at X' e1 e2 h1 h2 h3 st hcl
    subst h1; subst h2; subst h3
    exact Or.inr ⟨q, (T.setVm vm₁).calling g' mk (Value.ref b :: As).toArray, t, U', L, E, ce, hT, X', hL, e1, e2, hq, hce, hcv, vx_cls hW₁ hcl, st⟩
theorem vx_runSN {y : MethodName} {bytes cc : ByteArray} {maxL nL mc ms n index : Nat} {ret : Option FieldType} {ws : List Cond} {rm : Room} {Pc : Array Value → State → Prop} {Qc : Array Value → State → Outcome → State → Prop} {XC : String → State → State → Prop} {free : Addr → Prop} {Ts : List Cond} {own host : String} {As rest : List Value} {g : JFrame}
    (S : CallFix p m c cc nL s args Ts own) (hM : vx_Met l y ws rm Pc Qc XC mc ms free) (cw : va_CN R s args own index y host bytes maxL ret ws rm mc ms n ∧ (Cond.static y).before args s = true ∧ True) (hp : PreS s H Pc As)
    (hg : g.method = m) (hn : As.length = n) (hsize : g.locals.size = nL) (hstack : g.stack = As.reverse ++ rest) (hW : 2 * g.monitorRoom + (rest.map fun v => v.category).sum ≤ 8) (hdg : decode cc g.pc = .ok (.invokestatic index, 3)) (hf : cells + mc ≤ R.cells ∧ slots + ms ≤ R.slots) :
    vx_Run p l e R s m args below meth c H locs cells slots mc ms g rest (Qc As.toArray) XC free := by
  obtain ⟨⟨⟨hrc, hrs, hfr, hlo, hws, hcw⟩, hcode, hini, hy, hlen, hl⟩, hx1, hx2⟩ := cw
  have hK : vx_Back l R p e below s args y 3 8 (PreOf R mc ms Pc) (PostOf Qc mc ms free) (vx_Post XC mc ms free) := vx_back (bytes := bytes) (maxL := maxL) (ret := ret) hM hp.1 hrc hrs hfr hlo hws hcw (fun a' U hW => word_at hW (Or.inl (by first | rfl | simp [Cond.onTables, Cond.keeps, Cond.steady])) hini)
  obtain ⟨hx, hb, hml, ho, -⟩ := S
  have hPc := hp.2
  intro T hT X
  rcases vx_callSN X hx (bytes := bytes) (maxL := maxL) (ret := ret) ho hl hx1 hini hcode hy hK hg (hsize.trans hml.symm) (argsL := As) (rest := rest) (fun sig h => hn.trans (hlen sig h)) hstack hW (by rw [hb]; exact hdg)
    (fun vm₁ hW₁ => ⟨hf.1, hf.2, hPc (T.setVm vm₁) hT hW₁⟩) with ⟨v, vm₁, ⟨U', l2, c2, s2⟩, hW₁, X', ⟨g', mk, t, L, e1, e2, hq, h1, hL, h2, h3⟩, st⟩ | ⟨q, vm₁, ⟨U', l2, c2, s2⟩, hW₁, X', ⟨g', mk, t, L, E, ce, e1, e2, hq, hce, hcv, hcl, h1, hL, h2, h3⟩, st⟩
  · dsimp only [Pt.U, Pt.locs, Pt.cells, Pt.slots] at X' e1 e2 h1 h2 h3 st
    subst h1; subst h2; subst h3
    exact Or.inl ⟨v, (T.setVm vm₁).calling g' mk As.toArray, t, U', L, hT, X', hL, e1, e2, hq, st⟩
  · dsimp only [Pt.U, Pt.locs, Pt.cells, Pt.slots] at X' e1 e2 h1 h2 h3 st hcl
    subst h1; subst h2; subst h3
    exact Or.inr ⟨q, (T.setVm vm₁).calling g' mk As.toArray, t, U', L, E, ce, hT, X', hL, e1, e2, hq, hce, hcv, vx_cls hW₁ hcl, st⟩
end
/-! ===== END ===== -/
/-! ===== BEGIN calls by an interface of methods that may throw (vx_callIF, vx_runF follow va_callIF, va_runF of this kit) ===== -/
section
variable {p : Program} {l : Launch} {e : Env} {R : Room} {s : State} {m : MethodId} {args : Array Value} {below : List Frame} {meth : Method} {c : Code} {H : Heap} {locs : List Loc} {cells slots : Nat} {Q : State → Prop}
variable {mc ms : Nat} {free : Addr → Prop} {A0 A1 : Nat → Prop} {H0 : Heap} {a : Array Value} {pc : Nat} {ls : Array Slot} {st0 rest : List Value}
def vx_Run5 (p : Program) (l : Launch) (e : Env) (R : Room) (s : State) (m : MethodId) (args : Array Value) (below : List Frame) (meth : Method) (c : Code) (H : Heap) (locs : List Loc) (cells slots mc ms : Nat) (g : JFrame) (rest : List Value) (Qa : State → Outcome → State → Prop) (XC : String → State → State → Prop) (free : Addr → Prop) : Prop :=
  ∀ T : State, T.heap = H → Stand p l e R s m args below meth c T locs cells slots →
    (∃ (v : Option Value) (st₀ t T' : State) (L : List Loc), st₀.heap = H ∧ Stand p l e R s m args below meth c T' (locs ++ L) (cells + mc) (slots + ms) ∧ (∀ q ∈ L, free q.base) ∧ T'.heap = t.heap ∧ T'.vm = t.vm ∧ Qa st₀ (.returned v) t ∧
      Goes p e below T g T' { g with pc := g.pc + 5, stack := v.toList ++ rest }) ∨
    (∃ (q : Addr) (st₀ t T' : State) (L : List Loc) (E : String) (ce : Cell), st₀.heap = H ∧ Stand p l e R s m args below meth c T' (locs ++ L) (cells + mc) (slots + ms) ∧ (∀ z ∈ L, free z.base) ∧ T'.heap = t.heap ∧ T'.vm = t.vm ∧ XC E st₀ t ∧ t.heap[q]? = some ce ∧ ce.vm = .none ∧ s.vm.findClass E = some ce.cls ∧
      Steps p.tables e below (T.setTop g) ((T'.setTop { g with stack := rest }).pushFrame (.throwing q)))
theorem vx_callIF {T : State} (X : Stand p l e R s m args below meth c T locs cells slots) (hexec : p.tables.exec = Jvm.exec) {own C : String} {index count : Nat} {x y : MethodName} {bytes : ByteArray} {maxL : Nat} {ret : Option FieldType}
    (hown : s.vm.findClass own = some m.cls) (hlink : (Cond.methodLink own index x).before args s = true) (hdecl : (Cond.declares x).before args s = true) (hface : (Cond.interfaceMethod x.cls x.cls x.name x.desc).before args s = true)
    (hsel : (Cond.selects C x y).before args s = true) (hinst : (Cond.instanceMethod y).before args s = true) (hpub : (Cond.publicMethod y).before args s = true) (hunh : (Cond.unhidden C x.name x.desc).before args s = true)
    (hcast : (Cond.castable C x.cls).before args s = true) (hcode : (Cond.code y bytes maxL ret).before args s = true) (hx : x.cls ≠ "java/lang/invoke/MethodHandle" ∧ x.cls ≠ "java/lang/invoke/VarHandle")
    {W9 : Nat} {Pre : Pt → Array Value → Prop} {Post : Pt → Array Value → Option Value → Pt → Prop} {PostX : Pt → Array Value → Addr → Pt → Prop} (hK : vx_Back l R p e below s args y 5 W9 Pre Post PostX)
    {b : Addr} {cellB : Cell} {kB : Class} (hcell : T.heap[b]? = some cellB) (hobj : cellB.vm.isStatics = false) (hcls : s.vm.findClass C = some cellB.cls) (hkB : s.vm.classes[cellB.cls]? = some kB)
    {g : JFrame} (hg : g.method = m) (hsize : g.locals.size = c.maxLocals) {argsL rest : List Value} (hlen : ∀ sig, parseMethodDescriptor x.desc = some sig → argsL.length = sig.parameters.length)
    (hstack : g.stack = argsL.reverse ++ .ref b :: rest) (hW : 2 * g.monitorRoom + (rest.map fun v => v.category).sum ≤ W9) (hdg : decode c.code g.pc = .ok (.invokeinterface index count, 5))
    (hpre : ∀ vm₁, s.WarmedH vm₁ → Pre ⟨T.setVm vm₁, locs, cells, slots⟩ (Value.ref b :: argsL).toArray) :
    (∃ (v : Option Value) (vm₁ : Vm) (B : Pt), s.WarmedH vm₁ ∧ Stand p l e R s m args below meth c B.U B.locs B.cells B.slots ∧ Post ⟨T.setVm vm₁, locs, cells, slots⟩ (Value.ref b :: argsL).toArray v B ∧
      ∀ target, Steps p.tables e below (B.U.setTop { g with pc := g.pc + 5, stack := v.toList ++ rest }) target → Steps p.tables e below (T.setTop g) target) ∨
    (∃ (q : Addr) (vm₁ : Vm) (B : Pt), s.WarmedH vm₁ ∧ Stand p l e R s m args below meth c B.U B.locs B.cells B.slots ∧ PostX ⟨T.setVm vm₁, locs, cells, slots⟩ (Value.ref b :: argsL).toArray q B ∧
      Steps p.tables e below (T.setTop g) ((B.U.setTop { g with stack := rest }).pushFrame (.throwing q))) := by
  obtain ⟨r0, r, hn, hrm, hstR, hsigR⟩ := Cond.declares_spec hdecl
  obtain ⟨cL, kL, r1, hcL, hkL, hiL, hfoundL, hn1⟩ := Cond.interfaceMethod_spec hface
  cases hn.symm.trans hn1
  have hr0cls : r0.cls = cL := Option.some.inj ((findClass_of_methodNamed hn).symm.trans hcL)
  obtain ⟨hnameR, hdescR⟩ := name_of_methodNamed hn hrm
  obtain ⟨mk, methM, hnamed, hmethM, -, habM⟩ := Cond.instanceMethod_spec hinst
  obtain ⟨c2, r2, m2, q1, q2, q3, q4, -⟩ := Cond.selects_spec hsel
  cases hcls.symm.trans q1
  cases hfoundL.symm.trans q2
  cases hnamed.symm.trans q3
  have hselP : selectMethod e.platform s.vm cellB.cls r0 = .method mk := by rw [Launch.admits_selectMethod X.admits]; exact q4
  have hpubM : hasFlag methM.accessFlags Acc.public_ = true := Cond.publicMethod_spec hnamed hmethM hpub
  have hway : ((cellB.cls :: s.vm.superclasses cellB.cls).any fun k => (declaredIn s.vm r.name r.desc k).any fun (_, z) => z.isPrivate || z.isStatic) = false := by
    rw [hnameR, hdescR]; exact Cond.unhidden_spec hcls hunh
  obtain ⟨c3, t3, w1, w2, w3⟩ := Cond.castable_spec hcast
  cases hcls.symm.trans w1
  cases hcL.symm.trans w2
  obtain ⟨vm₁, X₁, hstep₁⟩ := X.invokeinterface hexec hown hlink hn hrm hstR (by rw [hr0cls]; exact hkL) hiL hx (a := b) (cell := cellB) (kcell := kB) hcell
    (fun z h => by rw [h] at hobj; cases hobj) hkB (by rw [hr0cls]; exact w3) hselP hmethM hway hpubM habM (g := g) hg (argsL := argsL) (rest := rest) (hlen _ hsigR) hstack hdg
  rcases hK m meth c ⟨T.setVm vm₁, locs, cells, slots⟩ { g with stack := rest } (.invokeinterface index count) mk (Value.ref b :: argsL).toArray X₁ hg hsize hdg hW (X₁.named hnamed) (hpre vm₁ X₁.warmed) with ⟨v, B, X', hpost, hsteps⟩ | ⟨q, B, X', hpost, hsteps⟩
  · exact Or.inl ⟨v, vm₁, B, X₁.warmed, X', hpost, fun target h => hstep₁ _ fun acts => by rw [doInvoke_state]; exact hsteps.trans h⟩
  · exact Or.inr ⟨q, vm₁, B, X₁.warmed, X', hpost, hstep₁ _ fun acts => by rw [doInvoke_state]; exact hsteps⟩
theorem vx_runF {x y : MethodName} {bytes cc : ByteArray} {maxL nL mc ms n index count : Nat} {ret : Option FieldType} {ws : List Cond} {rm : Room} {Pc : Array Value → State → Prop} {Qc : Array Value → State → Outcome → State → Prop} {XC : String → State → State → Prop} {free : Addr → Prop} {Ts : List Cond} {own C : String} {cC : ClassId} {b : Addr} {As rest : List Value} {g : JFrame}
    (hat : ClassAt s C cC) (S : CallFix p m c cc nL s args Ts own) (hM : vx_Met l y ws rm Pc Qc XC mc ms free) (cw : va_CI R s args own C index x y bytes maxL ret ws rm mc ms n) (hp : PreV s H C b Pc As)
    (hg : g.method = m) (hn : As.length = n) (hsize : g.locals.size = nL) (hstack : g.stack = As.reverse ++ .ref b :: rest) (hW : 2 * g.monitorRoom + (rest.map fun v => v.category).sum ≤ 8) (hdg : decode cc g.pc = .ok (.invokeinterface index count, 5)) (hf : cells + mc ≤ R.cells ∧ slots + ms ≤ R.slots) :
    vx_Run5 p l e R s m args below meth c H locs cells slots mc ms g rest (Qc (Value.ref b :: As).toArray) XC free := by
  obtain ⟨hrc, hrs, hfr, hlo, hws, hcw⟩ := cw.back
  have hini := cw.init
  have hK : vx_Back l R p e below s args y 5 8 (PreOf R mc ms Pc) (PostOf Qc mc ms free) (vx_Post XC mc ms free) := vx_back (bytes := bytes) (maxL := maxL) (ret := ret) hM hp.1 hrc hrs hfr hlo hws hcw (fun a' U hW => word_at hW (Or.inl (by first | rfl | simp [Cond.onTables, Cond.keeps, Cond.steady])) hini)
  obtain ⟨hx, hb, hml, ho, -⟩ := S
  obtain ⟨-, ⟨cellB, hcB, hoB, hclB⟩, hPc⟩ := hp
  obtain ⟨hfc, kB, hkB, -⟩ := hat
  cases hfc.symm.trans hclB
  intro T hT X
  rcases vx_callIF X hx (C := C) (bytes := bytes) (maxL := maxL) (ret := ret) ho cw.link cw.decl cw.face cw.sel cw.inst cw.pub cw.unh cw.cast cw.code cw.notMH hK (by rw [hT]; exact hcB) hoB hclB hkB hg (hsize.trans hml.symm) (argsL := As) (rest := rest) (fun sig h => hn.trans (cw.len sig h)) hstack hW (by rw [hb]; exact hdg)
    (fun vm₁ hW₁ => ⟨hf.1, hf.2, hPc (T.setVm vm₁) hT hW₁⟩) with ⟨v, vm₁, ⟨U', l2, c2, s2⟩, hW₁, X', ⟨g', mk, t, L, e1, e2, hq, h1, hL, h2, h3⟩, st⟩ | ⟨q, vm₁, ⟨U', l2, c2, s2⟩, hW₁, X', ⟨g', mk, t, L, E, ce, e1, e2, hq, hce, hcv, hcl, h1, hL, h2, h3⟩, st⟩
  · dsimp only [Pt.U, Pt.locs, Pt.cells, Pt.slots] at X' e1 e2 h1 h2 h3 st
    subst h1; subst h2; subst h3
    exact Or.inl ⟨v, (T.setVm vm₁).calling g' mk (Value.ref b :: As).toArray, t, U', L, hT, X', hL, e1, e2, hq, st⟩
  · dsimp only [Pt.U, Pt.locs, Pt.cells, Pt.slots] at X' e1 e2 h1 h2 h3 st hcl
    subst h1; subst h2; subst h3
    exact Or.inr ⟨q, (T.setVm vm₁).calling g' mk (Value.ref b :: As).toArray, t, U', L, E, ce, hT, X', hL, e1, e2, hq, hce, hcv, vx_cls hW₁ hcl, st⟩
theorem vx_callFv {S SX : Type} {post : S → Prop} {px : SX → Prop} {B : S → State → Prop} {BX : String → SX → State → Prop} {AX : Nat → Prop} (hr : vx_Run5 p l e R s m args below meth c H locs cells slots mc ms (F0 m pc ls st0) rest (va_Qv post B A1 a) (vx_X px BX AX) free) (hS : va_S A0 H0 H locs) (hA : ∀ q, q < H.size → A1 q → A0 q) (hf : ∀ q, free q → A0 q) (hAX : ∀ q, q < H.size → AX q → A0 q)
    (kx : ∀ (E : String) (ce : Cell) (q9 : Addr) (u : SX) (t : State) (H1 : Heap) (locs1 : List Loc), t.heap = H1 → s.vm.Alike t.vm → px u → BX E u t → H.size ≤ H1.size → (∀ q : Nat, q < H.size → ¬ AX q → H1[q]? = H[q]?) → va_S A0 H0 H1 locs1 → H1[q9]? = some ce → ce.vm = .none → s.vm.findClass E = some ce.cls → vx_W p l e R s m args below meth c H1 locs1 (cells + mc) (slots + ms) Q (F0 m pc ls rest) q9)
    (kk : ∀ (u : S) (t : State) (H1 : Heap) (locs1 : List Loc), t.heap = H1 → s.vm.Alike t.vm → post u → B u t → H.size ≤ H1.size → (∀ q : Nat, q < H.size → ¬ A1 q → H1[q]? = H[q]?) → va_S A0 H0 H1 locs1 → W p l e R s m args below meth c H1 locs1 (cells + mc) (slots + ms) Q (F0 m (pc + 5) ls (rest))) : W p l e R s m args below meth c H locs cells slots Q (F0 m pc ls st0) := by
  intro T hT X
  rcases hr T hT X with ⟨v, st₀, t, T', L, h0, X', hL, e1, e2, ⟨⟨u, hv, hp, hb⟩, hF⟩, st⟩ | ⟨q, st₀, t, T', L, E, ce, h0, X', hL, e1, e2, ⟨u, hp, hb, hF⟩, hce, hcv, hcl, st⟩
  · cases hv
    obtain ⟨k1, k2, k3⟩ := vx_keep h0 e1 hS hA hf hL hF
    obtain ⟨t2, a1, b1⟩ := kk u t T'.heap (locs ++ L) e1.symm (by rw [← e2]; exact X'.warmed.alike) hp hb k1 k2 k3 T' rfl X'
    exact ⟨t2, st t2 a1, b1⟩
  · obtain ⟨k1, k2, k3⟩ := vx_keep h0 e1 hS hAX hf hL hF
    obtain ⟨t2, a1, b1⟩ := kx E ce q u t T'.heap (locs ++ L) e1.symm (by rw [← e2]; exact X'.warmed.alike) hp hb k1 k2 k3 (by rw [e1]; exact hce) hcv hcl T' rfl X'
    exact ⟨t2, st.trans a1, b1⟩
theorem vx_callFi {S SX : Type} {post : Int32 → S → Prop} {px : SX → Prop} {B : S → State → Prop} {BX : String → SX → State → Prop} {AX : Nat → Prop} (hr : vx_Run5 p l e R s m args below meth c H locs cells slots mc ms (F0 m pc ls st0) rest (va_Qi post B A1 a) (vx_X px BX AX) free) (hS : va_S A0 H0 H locs) (hA : ∀ q, q < H.size → A1 q → A0 q) (hf : ∀ q, free q → A0 q) (hAX : ∀ q, q < H.size → AX q → A0 q)
    (kx : ∀ (E : String) (ce : Cell) (q9 : Addr) (u : SX) (t : State) (H1 : Heap) (locs1 : List Loc), t.heap = H1 → s.vm.Alike t.vm → px u → BX E u t → H.size ≤ H1.size → (∀ q : Nat, q < H.size → ¬ AX q → H1[q]? = H[q]?) → va_S A0 H0 H1 locs1 → H1[q9]? = some ce → ce.vm = .none → s.vm.findClass E = some ce.cls → vx_W p l e R s m args below meth c H1 locs1 (cells + mc) (slots + ms) Q (F0 m pc ls rest) q9)
    (kk : ∀ (r : Int32) (u : S) (t : State) (H1 : Heap) (locs1 : List Loc), t.heap = H1 → s.vm.Alike t.vm → post r u → B u t → H.size ≤ H1.size → (∀ q : Nat, q < H.size → ¬ A1 q → H1[q]? = H[q]?) → va_S A0 H0 H1 locs1 → W p l e R s m args below meth c H1 locs1 (cells + mc) (slots + ms) Q (F0 m (pc + 5) ls (.int r :: rest))) : W p l e R s m args below meth c H locs cells slots Q (F0 m pc ls st0) := by
  intro T hT X
  rcases hr T hT X with ⟨v, st₀, t, T', L, h0, X', hL, e1, e2, ⟨⟨r, u, hv, hp, hb⟩, hF⟩, st⟩ | ⟨q, st₀, t, T', L, E, ce, h0, X', hL, e1, e2, ⟨u, hp, hb, hF⟩, hce, hcv, hcl, st⟩
  · cases hv
    obtain ⟨k1, k2, k3⟩ := vx_keep h0 e1 hS hA hf hL hF
    obtain ⟨t2, a1, b1⟩ := kk r u t T'.heap (locs ++ L) e1.symm (by rw [← e2]; exact X'.warmed.alike) hp hb k1 k2 k3 T' rfl X'
    exact ⟨t2, st t2 a1, b1⟩
  · obtain ⟨k1, k2, k3⟩ := vx_keep h0 e1 hS hAX hf hL hF
    obtain ⟨t2, a1, b1⟩ := kx E ce q u t T'.heap (locs ++ L) e1.symm (by rw [← e2]; exact X'.warmed.alike) hp hb k1 k2 k3 (by rw [e1]; exact hce) hcv hcl T' rfl X'
    exact ⟨t2, st.trans a1, b1⟩
theorem vx_callFl {S SX : Type} {post : Int64 → S → Prop} {px : SX → Prop} {B : S → State → Prop} {BX : String → SX → State → Prop} {AX : Nat → Prop} (hr : vx_Run5 p l e R s m args below meth c H locs cells slots mc ms (F0 m pc ls st0) rest (va_Ql post B A1 a) (vx_X px BX AX) free) (hS : va_S A0 H0 H locs) (hA : ∀ q, q < H.size → A1 q → A0 q) (hf : ∀ q, free q → A0 q) (hAX : ∀ q, q < H.size → AX q → A0 q)
    (kx : ∀ (E : String) (ce : Cell) (q9 : Addr) (u : SX) (t : State) (H1 : Heap) (locs1 : List Loc), t.heap = H1 → s.vm.Alike t.vm → px u → BX E u t → H.size ≤ H1.size → (∀ q : Nat, q < H.size → ¬ AX q → H1[q]? = H[q]?) → va_S A0 H0 H1 locs1 → H1[q9]? = some ce → ce.vm = .none → s.vm.findClass E = some ce.cls → vx_W p l e R s m args below meth c H1 locs1 (cells + mc) (slots + ms) Q (F0 m pc ls rest) q9)
    (kk : ∀ (r : Int64) (u : S) (t : State) (H1 : Heap) (locs1 : List Loc), t.heap = H1 → s.vm.Alike t.vm → post r u → B u t → H.size ≤ H1.size → (∀ q : Nat, q < H.size → ¬ A1 q → H1[q]? = H[q]?) → va_S A0 H0 H1 locs1 → W p l e R s m args below meth c H1 locs1 (cells + mc) (slots + ms) Q (F0 m (pc + 5) ls (.long r :: rest))) : W p l e R s m args below meth c H locs cells slots Q (F0 m pc ls st0) := by
  intro T hT X
  rcases hr T hT X with ⟨v, st₀, t, T', L, h0, X', hL, e1, e2, ⟨⟨r, u, hv, hp, hb⟩, hF⟩, st⟩ | ⟨q, st₀, t, T', L, E, ce, h0, X', hL, e1, e2, ⟨u, hp, hb, hF⟩, hce, hcv, hcl, st⟩
  · cases hv
    obtain ⟨k1, k2, k3⟩ := vx_keep h0 e1 hS hA hf hL hF
    obtain ⟨t2, a1, b1⟩ := kk r u t T'.heap (locs ++ L) e1.symm (by rw [← e2]; exact X'.warmed.alike) hp hb k1 k2 k3 T' rfl X'
    exact ⟨t2, st t2 a1, b1⟩
  · obtain ⟨k1, k2, k3⟩ := vx_keep h0 e1 hS hAX hf hL hF
    obtain ⟨t2, a1, b1⟩ := kx E ce q u t T'.heap (locs ++ L) e1.symm (by rw [← e2]; exact X'.warmed.alike) hp hb k1 k2 k3 (by rw [e1]; exact hce) hcv hcl T' rfl X'
    exact ⟨t2, st.trans a1, b1⟩
theorem vx_callFf {S SX : Type} {post : UInt32 → S → Prop} {px : SX → Prop} {B : S → State → Prop} {BX : String → SX → State → Prop} {AX : Nat → Prop} (hr : vx_Run5 p l e R s m args below meth c H locs cells slots mc ms (F0 m pc ls st0) rest (va_Qf post B A1 a) (vx_X px BX AX) free) (hS : va_S A0 H0 H locs) (hA : ∀ q, q < H.size → A1 q → A0 q) (hf : ∀ q, free q → A0 q) (hAX : ∀ q, q < H.size → AX q → A0 q)
    (kx : ∀ (E : String) (ce : Cell) (q9 : Addr) (u : SX) (t : State) (H1 : Heap) (locs1 : List Loc), t.heap = H1 → s.vm.Alike t.vm → px u → BX E u t → H.size ≤ H1.size → (∀ q : Nat, q < H.size → ¬ AX q → H1[q]? = H[q]?) → va_S A0 H0 H1 locs1 → H1[q9]? = some ce → ce.vm = .none → s.vm.findClass E = some ce.cls → vx_W p l e R s m args below meth c H1 locs1 (cells + mc) (slots + ms) Q (F0 m pc ls rest) q9)
    (kk : ∀ (r : UInt32) (u : S) (t : State) (H1 : Heap) (locs1 : List Loc), t.heap = H1 → s.vm.Alike t.vm → post r u → B u t → H.size ≤ H1.size → (∀ q : Nat, q < H.size → ¬ A1 q → H1[q]? = H[q]?) → va_S A0 H0 H1 locs1 → W p l e R s m args below meth c H1 locs1 (cells + mc) (slots + ms) Q (F0 m (pc + 5) ls (.float r :: rest))) : W p l e R s m args below meth c H locs cells slots Q (F0 m pc ls st0) := by
  intro T hT X
  rcases hr T hT X with ⟨v, st₀, t, T', L, h0, X', hL, e1, e2, ⟨⟨r, u, hv, hp, hb⟩, hF⟩, st⟩ | ⟨q, st₀, t, T', L, E, ce, h0, X', hL, e1, e2, ⟨u, hp, hb, hF⟩, hce, hcv, hcl, st⟩
  · cases hv
    obtain ⟨k1, k2, k3⟩ := vx_keep h0 e1 hS hA hf hL hF
    obtain ⟨t2, a1, b1⟩ := kk r u t T'.heap (locs ++ L) e1.symm (by rw [← e2]; exact X'.warmed.alike) hp hb k1 k2 k3 T' rfl X'
    exact ⟨t2, st t2 a1, b1⟩
  · obtain ⟨k1, k2, k3⟩ := vx_keep h0 e1 hS hAX hf hL hF
    obtain ⟨t2, a1, b1⟩ := kx E ce q u t T'.heap (locs ++ L) e1.symm (by rw [← e2]; exact X'.warmed.alike) hp hb k1 k2 k3 (by rw [e1]; exact hce) hcv hcl T' rfl X'
    exact ⟨t2, st.trans a1, b1⟩
theorem vx_callFd {S SX : Type} {post : UInt64 → S → Prop} {px : SX → Prop} {B : S → State → Prop} {BX : String → SX → State → Prop} {AX : Nat → Prop} (hr : vx_Run5 p l e R s m args below meth c H locs cells slots mc ms (F0 m pc ls st0) rest (va_Qd post B A1 a) (vx_X px BX AX) free) (hS : va_S A0 H0 H locs) (hA : ∀ q, q < H.size → A1 q → A0 q) (hf : ∀ q, free q → A0 q) (hAX : ∀ q, q < H.size → AX q → A0 q)
    (kx : ∀ (E : String) (ce : Cell) (q9 : Addr) (u : SX) (t : State) (H1 : Heap) (locs1 : List Loc), t.heap = H1 → s.vm.Alike t.vm → px u → BX E u t → H.size ≤ H1.size → (∀ q : Nat, q < H.size → ¬ AX q → H1[q]? = H[q]?) → va_S A0 H0 H1 locs1 → H1[q9]? = some ce → ce.vm = .none → s.vm.findClass E = some ce.cls → vx_W p l e R s m args below meth c H1 locs1 (cells + mc) (slots + ms) Q (F0 m pc ls rest) q9)
    (kk : ∀ (r : UInt64) (u : S) (t : State) (H1 : Heap) (locs1 : List Loc), t.heap = H1 → s.vm.Alike t.vm → post r u → B u t → H.size ≤ H1.size → (∀ q : Nat, q < H.size → ¬ A1 q → H1[q]? = H[q]?) → va_S A0 H0 H1 locs1 → W p l e R s m args below meth c H1 locs1 (cells + mc) (slots + ms) Q (F0 m (pc + 5) ls (.double r :: rest))) : W p l e R s m args below meth c H locs cells slots Q (F0 m pc ls st0) := by
  intro T hT X
  rcases hr T hT X with ⟨v, st₀, t, T', L, h0, X', hL, e1, e2, ⟨⟨r, u, hv, hp, hb⟩, hF⟩, st⟩ | ⟨q, st₀, t, T', L, E, ce, h0, X', hL, e1, e2, ⟨u, hp, hb, hF⟩, hce, hcv, hcl, st⟩
  · cases hv
    obtain ⟨k1, k2, k3⟩ := vx_keep h0 e1 hS hA hf hL hF
    obtain ⟨t2, a1, b1⟩ := kk r u t T'.heap (locs ++ L) e1.symm (by rw [← e2]; exact X'.warmed.alike) hp hb k1 k2 k3 T' rfl X'
    exact ⟨t2, st t2 a1, b1⟩
  · obtain ⟨k1, k2, k3⟩ := vx_keep h0 e1 hS hAX hf hL hF
    obtain ⟨t2, a1, b1⟩ := kx E ce q u t T'.heap (locs ++ L) e1.symm (by rw [← e2]; exact X'.warmed.alike) hp hb k1 k2 k3 (by rw [e1]; exact hce) hcv hcl T' rfl X'
    exact ⟨t2, st.trans a1, b1⟩
end
/-! ===== END ===== -/
/-! ===== BEGIN by an interface, a method with a table of its own that may throw (follows va_callIFW, va_runFW) ===== -/
section
variable {p : Program} {l : Launch} {e : Env} {R : Room} {s : State} {m : MethodId} {args : Array Value} {below : List Frame} {meth : Method} {c : Code} {H : Heap} {locs : List Loc} {cells slots : Nat}
theorem vx_callIFW {T : State} (X : Stand p l e R s m args below meth c T locs cells slots) (hexec : p.tables.exec = Jvm.exec) {own C : String} {index count : Nat} {x y : MethodName} {bytes : ByteArray} {maxL : Nat} {ret : Option FieldType} {hh : List (Nat × Nat × Nat × Nat)}
    (hown : s.vm.findClass own = some m.cls) (hlink : (Cond.methodLink own index x).before args s = true) (hdecl : (Cond.declares x).before args s = true) (hface : (Cond.interfaceMethod x.cls x.cls x.name x.desc).before args s = true)
    (hsel : (Cond.selects C x y).before args s = true) (hinst : (Cond.instanceMethod y).before args s = true) (hpub : (Cond.publicMethod y).before args s = true) (hunh : (Cond.unhidden C x.name x.desc).before args s = true)
    (hcast : (Cond.castable C x.cls).before args s = true) (hcode : (Cond.codeWith y bytes maxL ret hh).before args s = true) (hx : x.cls ≠ "java/lang/invoke/MethodHandle" ∧ x.cls ≠ "java/lang/invoke/VarHandle")
    {W : Nat} {Pre : Pt → Array Value → Prop} {Post : Pt → Array Value → Option Value → Pt → Prop} {PostX : Pt → Array Value → Addr → Pt → Prop} (hK : vx_Back l R p e below s args y 5 W Pre Post PostX)
    {b : Addr} {cellB : Cell} {kB : Class} (hcell : T.heap[b]? = some cellB) (hobj : cellB.vm.isStatics = false) (hcls : s.vm.findClass C = some cellB.cls) (hkB : s.vm.classes[cellB.cls]? = some kB)
    {g : JFrame} (hg : g.method = m) (hsize : g.locals.size = c.maxLocals) {argsL rest : List Value} (hlen : ∀ sig, parseMethodDescriptor x.desc = some sig → argsL.length = sig.parameters.length)
    (hstack : g.stack = argsL.reverse ++ .ref b :: rest) (hW : 2 * g.monitorRoom + (rest.map fun v => v.category).sum ≤ W) (hdg : decode c.code g.pc = .ok (.invokeinterface index count, 5))
    (hpre : ∀ vm₁, s.WarmedH vm₁ → Pre ⟨T.setVm vm₁, locs, cells, slots⟩ (Value.ref b :: argsL).toArray) :
    (∃ (v : Option Value) (vm₁ : Vm) (B : Pt), s.WarmedH vm₁ ∧ Stand p l e R s m args below meth c B.U B.locs B.cells B.slots ∧ Post ⟨T.setVm vm₁, locs, cells, slots⟩ (Value.ref b :: argsL).toArray v B ∧
      ∀ target, Steps p.tables e below (B.U.setTop { g with pc := g.pc + 5, stack := v.toList ++ rest }) target → Steps p.tables e below (T.setTop g) target) ∨
    (∃ (q : Addr) (vm₁ : Vm) (B : Pt), s.WarmedH vm₁ ∧ Stand p l e R s m args below meth c B.U B.locs B.cells B.slots ∧ PostX ⟨T.setVm vm₁, locs, cells, slots⟩ (Value.ref b :: argsL).toArray q B ∧
      Steps p.tables e below (T.setTop g) ((B.U.setTop { g with stack := rest }).pushFrame (.throwing q))) := by
  obtain ⟨r0, r, hn, hrm, hstR, hsigR⟩ := Cond.declares_spec hdecl
  obtain ⟨cL, kL, r1, hcL, hkL, hiL, hfoundL, hn1⟩ := Cond.interfaceMethod_spec hface
  cases hn.symm.trans hn1
  have hr0cls : r0.cls = cL := Option.some.inj ((findClass_of_methodNamed hn).symm.trans hcL)
  obtain ⟨hnameR, hdescR⟩ := name_of_methodNamed hn hrm
  obtain ⟨mk, methM, hnamed, hmethM, -, habM⟩ := Cond.instanceMethod_spec hinst
  obtain ⟨c2, r2, m2, q1, q2, q3, q4, -⟩ := Cond.selects_spec hsel
  cases hcls.symm.trans q1
  cases hfoundL.symm.trans q2
  cases hnamed.symm.trans q3
  have hselP : selectMethod e.platform s.vm cellB.cls r0 = .method mk := by rw [Launch.admits_selectMethod X.admits]; exact q4
  have hpubM : hasFlag methM.accessFlags Acc.public_ = true := Cond.publicMethod_spec hnamed hmethM hpub
  have hway : ((cellB.cls :: s.vm.superclasses cellB.cls).any fun k => (declaredIn s.vm r.name r.desc k).any fun (_, z) => z.isPrivate || z.isStatic) = false := by
    rw [hnameR, hdescR]; exact Cond.unhidden_spec hcls hunh
  obtain ⟨c3, t3, w1, w2, w3⟩ := Cond.castable_spec hcast
  cases hcls.symm.trans w1
  cases hcL.symm.trans w2
  obtain ⟨vm₁, X₁, hstep₁⟩ := X.invokeinterface hexec hown hlink hn hrm hstR (by rw [hr0cls]; exact hkL) hiL hx (a := b) (cell := cellB) (kcell := kB) hcell
    (fun z h => by rw [h] at hobj; cases hobj) hkB (by rw [hr0cls]; exact w3) hselP hmethM hway hpubM habM (g := g) hg (argsL := argsL) (rest := rest) (hlen _ hsigR) hstack hdg
  rcases hK m meth c ⟨T.setVm vm₁, locs, cells, slots⟩ { g with stack := rest } (.invokeinterface index count) mk (Value.ref b :: argsL).toArray X₁ hg hsize hdg hW (X₁.named hnamed) (hpre vm₁ X₁.warmed) with ⟨v, B, X', hpost, hsteps⟩ | ⟨q, B, X', hpost, hsteps⟩
  · exact Or.inl ⟨v, vm₁, B, X₁.warmed, X', hpost, fun target h => hstep₁ _ fun acts => by rw [doInvoke_state]; exact hsteps.trans h⟩
  · exact Or.inr ⟨q, vm₁, B, X₁.warmed, X', hpost, hstep₁ _ fun acts => by rw [doInvoke_state]; exact hsteps⟩
theorem vx_runFW {x y : MethodName} {bytes cc : ByteArray} {maxL nL mc ms n index count : Nat} {ret : Option FieldType} {hh : List (Nat × Nat × Nat × Nat)} {ws : List Cond} {rm : Room} {Pc : Array Value → State → Prop} {Qc : Array Value → State → Outcome → State → Prop} {XC : String → State → State → Prop} {free : Addr → Prop} {Ts : List Cond} {own C : String} {cC : ClassId} {b : Addr} {As rest : List Value} {g : JFrame}
    (hat : ClassAt s C cC) (S : CallFix p m c cc nL s args Ts own) (hM : vx_Met l y ws rm Pc Qc XC mc ms free) (cw : va_CIW R s args own C index x y bytes maxL ret hh ws rm mc ms n) (hp : PreV s H C b Pc As)
    (hg : g.method = m) (hn : As.length = n) (hsize : g.locals.size = nL) (hstack : g.stack = As.reverse ++ .ref b :: rest) (hW : 2 * g.monitorRoom + (rest.map fun v => v.category).sum ≤ 8) (hdg : decode cc g.pc = .ok (.invokeinterface index count, 5)) (hf : cells + mc ≤ R.cells ∧ slots + ms ≤ R.slots) :
    vx_Run5 p l e R s m args below meth c H locs cells slots mc ms g rest (Qc (Value.ref b :: As).toArray) XC free := by
  obtain ⟨hrc, hrs, hfr, hlo, hws, hcw⟩ := cw.back
  have hini := cw.init
  have hK : vx_Back l R p e below s args y 5 8 (PreOf R mc ms Pc) (PostOf Qc mc ms free) (vx_Post XC mc ms free) := vx_backW (hh := hh) (bytes := bytes) (maxL := maxL) (ret := ret) hM hp.1 hrc hrs hfr hlo hws hcw (fun a' U hW => word_at hW (Or.inl (by first | rfl | simp [Cond.onTables, Cond.keeps, Cond.steady])) hini)
  obtain ⟨hx, hb, hml, ho, -⟩ := S
  obtain ⟨-, ⟨cellB, hcB, hoB, hclB⟩, hPc⟩ := hp
  obtain ⟨hfc, kB, hkB, -⟩ := hat
  cases hfc.symm.trans hclB
  intro T hT X
  rcases vx_callIFW X hx (C := C) (hh := hh) (bytes := bytes) (maxL := maxL) (ret := ret) ho cw.link cw.decl cw.face cw.sel cw.inst cw.pub cw.unh cw.cast cw.code cw.notMH hK (by rw [hT]; exact hcB) hoB hclB hkB hg (hsize.trans hml.symm) (argsL := As) (rest := rest) (fun sig h => hn.trans (cw.len sig h)) hstack hW (by rw [hb]; exact hdg)
    (fun vm₁ hW₁ => ⟨hf.1, hf.2, hPc (T.setVm vm₁) hT hW₁⟩) with ⟨v, vm₁, ⟨U', l2, c2, s2⟩, hW₁, X', ⟨g', mk, t, L, e1, e2, hq, h1, hL, h2, h3⟩, st⟩ | ⟨q, vm₁, ⟨U', l2, c2, s2⟩, hW₁, X', ⟨g', mk, t, L, E, ce, e1, e2, hq, hce, hcv, hcl, h1, hL, h2, h3⟩, st⟩
  · dsimp only [Pt.U, Pt.locs, Pt.cells, Pt.slots] at X' e1 e2 h1 h2 h3 st
    subst h1; subst h2; subst h3
    exact Or.inl ⟨v, (T.setVm vm₁).calling g' mk (Value.ref b :: As).toArray, t, U', L, hT, X', hL, e1, e2, hq, st⟩
  · dsimp only [Pt.U, Pt.locs, Pt.cells, Pt.slots] at X' e1 e2 h1 h2 h3 st hcl
    subst h1; subst h2; subst h3
    exact Or.inr ⟨q, (T.setVm vm₁).calling g' mk (Value.ref b :: As).toArray, t, U', L, E, ce, hT, X', hL, e1, e2, hq, hce, hcv, vx_cls hW₁ hcl, st⟩
end
/-! ===== END ===== -/
/-! ===== BEGIN .. of methods that hand back an object of the pool ===== -/
section
variable {p : Program} {l : Launch} {e : Env} {R : Room} {s : State} {m : MethodId} {args : Array Value} {below : List Frame} {meth : Method} {c : Code} {H : Heap} {locs : List Loc} {cells slots : Nat} {Q : State → Prop}
variable {mc ms : Nat} {free : Addr → Prop} {A0 A1 : Nat → Prop} {H0 : Heap} {a : Array Value} {pc : Nat} {ls : Array Slot} {st0 rest : List Value}
theorem vx_callq {S SX : Type} {post : Option Nat → S → Prop} {px : SX → Prop} {B : S → State → Prop} {BX : String → SX → State → Prop} {AX : Nat → Prop} (hr : vx_Run p l e R s m args below meth c H locs cells slots mc ms (F0 m pc ls st0) rest (va_Qq post B A1 a) (vx_X px BX AX) free) (hS : va_S A0 H0 H locs) (hA : ∀ q, q < H.size → A1 q → A0 q) (hf : ∀ q, free q → A0 q) (hAX : ∀ q, q < H.size → AX q → A0 q)
    (kx : ∀ (E : String) (ce : Cell) (q9 : Addr) (u : SX) (t : State) (H1 : Heap) (locs1 : List Loc), t.heap = H1 → s.vm.Alike t.vm → px u → BX E u t → H.size ≤ H1.size → (∀ q : Nat, q < H.size → ¬ AX q → H1[q]? = H[q]?) → va_S A0 H0 H1 locs1 → H1[q9]? = some ce → ce.vm = .none → s.vm.findClass E = some ce.cls → vx_W p l e R s m args below meth c H1 locs1 (cells + mc) (slots + ms) Q (F0 m pc ls rest) q9)
    (kk : ∀ (r : Option Nat) (u : S) (t : State) (H1 : Heap) (locs1 : List Loc), t.heap = H1 → s.vm.Alike t.vm → post r u → B u t → H.size ≤ H1.size → (∀ q : Nat, q < H.size → ¬ A1 q → H1[q]? = H[q]?) → va_S A0 H0 H1 locs1 → W p l e R s m args below meth c H1 locs1 (cells + mc) (slots + ms) Q (F0 m (pc + 3) ls (va_rf r :: rest))) : W p l e R s m args below meth c H locs cells slots Q (F0 m pc ls st0) := by
  intro T hT X
  rcases hr T hT X with ⟨v, st₀, t, T', L, h0, X', hL, e1, e2, ⟨⟨r, u, hv, hp, hb⟩, hF⟩, st⟩ | ⟨q, st₀, t, T', L, E, ce, h0, X', hL, e1, e2, ⟨u, hp, hb, hF⟩, hce, hcv, hcl, st⟩
  · cases hv
    obtain ⟨k1, k2, k3⟩ := vx_keep h0 e1 hS hA hf hL hF
    obtain ⟨t2, a1, b1⟩ := kk r u t T'.heap (locs ++ L) e1.symm (by rw [← e2]; exact X'.warmed.alike) hp hb k1 k2 k3 T' rfl X'
    exact ⟨t2, st t2 a1, b1⟩
  · obtain ⟨k1, k2, k3⟩ := vx_keep h0 e1 hS hAX hf hL hF
    obtain ⟨t2, a1, b1⟩ := kx E ce q u t T'.heap (locs ++ L) e1.symm (by rw [← e2]; exact X'.warmed.alike) hp hb k1 k2 k3 (by rw [e1]; exact hce) hcv hcl T' rfl X'
    exact ⟨t2, st.trans a1, b1⟩
end
/-! ===== END ===== -/
/-! ===== BEGIN .. a constant ===== -/
section
variable {p : Program} {l : Launch} {e : Env} {R : Room} {s : State} {m : MethodId} {args : Array Value} {below : List Frame} {meth : Method} {c : Code} {H : Heap} {locs : List Loc} {cells slots : Nat} {Q : State → Prop}
variable {mc ms : Nat} {free : Addr → Prop} {A0 A1 : Nat → Prop} {H0 : Heap} {a : Array Value} {pc : Nat} {ls : Array Slot} {st0 rest : List Value}
theorem vx_calle {ad : Nat → Nat} {S SX : Type} {post : Option Nat → S → Prop} {px : SX → Prop} {B : S → State → Prop} {BX : String → SX → State → Prop} {AX : Nat → Prop} (hr : vx_Run p l e R s m args below meth c H locs cells slots mc ms (F0 m pc ls st0) rest (va_Qe ad post B A1 a) (vx_X px BX AX) free) (hS : va_S A0 H0 H locs) (hA : ∀ q, q < H.size → A1 q → A0 q) (hf : ∀ q, free q → A0 q) (hAX : ∀ q, q < H.size → AX q → A0 q)
    (kx : ∀ (E : String) (ce : Cell) (q9 : Addr) (u : SX) (t : State) (H1 : Heap) (locs1 : List Loc), t.heap = H1 → s.vm.Alike t.vm → px u → BX E u t → H.size ≤ H1.size → (∀ q : Nat, q < H.size → ¬ AX q → H1[q]? = H[q]?) → va_S A0 H0 H1 locs1 → H1[q9]? = some ce → ce.vm = .none → s.vm.findClass E = some ce.cls → vx_W p l e R s m args below meth c H1 locs1 (cells + mc) (slots + ms) Q (F0 m pc ls rest) q9)
    (kk : ∀ (r : Option Nat) (u : S) (t : State) (H1 : Heap) (locs1 : List Loc), t.heap = H1 → s.vm.Alike t.vm → post r u → B u t → H.size ≤ H1.size → (∀ q : Nat, q < H.size → ¬ A1 q → H1[q]? = H[q]?) → va_S A0 H0 H1 locs1 → W p l e R s m args below meth c H1 locs1 (cells + mc) (slots + ms) Q (F0 m (pc + 3) ls (va_re ad r :: rest))) : W p l e R s m args below meth c H locs cells slots Q (F0 m pc ls st0) := by
  intro T hT X
  rcases hr T hT X with ⟨v, st₀, t, T', L, h0, X', hL, e1, e2, ⟨⟨r, u, hv, hp, hb⟩, hF⟩, st⟩ | ⟨q, st₀, t, T', L, E, ce, h0, X', hL, e1, e2, ⟨u, hp, hb, hF⟩, hce, hcv, hcl, st⟩
  · cases hv
    obtain ⟨k1, k2, k3⟩ := vx_keep h0 e1 hS hA hf hL hF
    obtain ⟨t2, a1, b1⟩ := kk r u t T'.heap (locs ++ L) e1.symm (by rw [← e2]; exact X'.warmed.alike) hp hb k1 k2 k3 T' rfl X'
    exact ⟨t2, st t2 a1, b1⟩
  · obtain ⟨k1, k2, k3⟩ := vx_keep h0 e1 hS hAX hf hL hF
    obtain ⟨t2, a1, b1⟩ := kx E ce q u t T'.heap (locs ++ L) e1.symm (by rw [← e2]; exact X'.warmed.alike) hp hb k1 k2 k3 (by rw [e1]; exact hce) hcv hcl T' rfl X'
    exact ⟨t2, st.trans a1, b1⟩
end
/-! ===== END ===== -/
/-! ===== BEGIN .. by an interface, an object ===== -/
section
variable {p : Program} {l : Launch} {e : Env} {R : Room} {s : State} {m : MethodId} {args : Array Value} {below : List Frame} {meth : Method} {c : Code} {H : Heap} {locs : List Loc} {cells slots : Nat} {Q : State → Prop}
variable {mc ms : Nat} {free : Addr → Prop} {A0 A1 : Nat → Prop} {H0 : Heap} {a : Array Value} {pc : Nat} {ls : Array Slot} {st0 rest : List Value}
theorem vx_callFq {S SX : Type} {post : Option Nat → S → Prop} {px : SX → Prop} {B : S → State → Prop} {BX : String → SX → State → Prop} {AX : Nat → Prop} (hr : vx_Run5 p l e R s m args below meth c H locs cells slots mc ms (F0 m pc ls st0) rest (va_Qq post B A1 a) (vx_X px BX AX) free) (hS : va_S A0 H0 H locs) (hA : ∀ q, q < H.size → A1 q → A0 q) (hf : ∀ q, free q → A0 q) (hAX : ∀ q, q < H.size → AX q → A0 q)
    (kx : ∀ (E : String) (ce : Cell) (q9 : Addr) (u : SX) (t : State) (H1 : Heap) (locs1 : List Loc), t.heap = H1 → s.vm.Alike t.vm → px u → BX E u t → H.size ≤ H1.size → (∀ q : Nat, q < H.size → ¬ AX q → H1[q]? = H[q]?) → va_S A0 H0 H1 locs1 → H1[q9]? = some ce → ce.vm = .none → s.vm.findClass E = some ce.cls → vx_W p l e R s m args below meth c H1 locs1 (cells + mc) (slots + ms) Q (F0 m pc ls rest) q9)
    (kk : ∀ (r : Option Nat) (u : S) (t : State) (H1 : Heap) (locs1 : List Loc), t.heap = H1 → s.vm.Alike t.vm → post r u → B u t → H.size ≤ H1.size → (∀ q : Nat, q < H.size → ¬ A1 q → H1[q]? = H[q]?) → va_S A0 H0 H1 locs1 → W p l e R s m args below meth c H1 locs1 (cells + mc) (slots + ms) Q (F0 m (pc + 5) ls (va_rf r :: rest))) : W p l e R s m args below meth c H locs cells slots Q (F0 m pc ls st0) := by
  intro T hT X
  rcases hr T hT X with ⟨v, st₀, t, T', L, h0, X', hL, e1, e2, ⟨⟨r, u, hv, hp, hb⟩, hF⟩, st⟩ | ⟨q, st₀, t, T', L, E, ce, h0, X', hL, e1, e2, ⟨u, hp, hb, hF⟩, hce, hcv, hcl, st⟩
  · cases hv
    obtain ⟨k1, k2, k3⟩ := vx_keep h0 e1 hS hA hf hL hF
    obtain ⟨t2, a1, b1⟩ := kk r u t T'.heap (locs ++ L) e1.symm (by rw [← e2]; exact X'.warmed.alike) hp hb k1 k2 k3 T' rfl X'
    exact ⟨t2, st t2 a1, b1⟩
  · obtain ⟨k1, k2, k3⟩ := vx_keep h0 e1 hS hAX hf hL hF
    obtain ⟨t2, a1, b1⟩ := kx E ce q u t T'.heap (locs ++ L) e1.symm (by rw [← e2]; exact X'.warmed.alike) hp hb k1 k2 k3 (by rw [e1]; exact hce) hcv hcl T' rfl X'
    exact ⟨t2, st.trans a1, b1⟩
end
/-! ===== END ===== -/
/-! ===== BEGIN .. by an interface, a constant ===== -/
section
variable {p : Program} {l : Launch} {e : Env} {R : Room} {s : State} {m : MethodId} {args : Array Value} {below : List Frame} {meth : Method} {c : Code} {H : Heap} {locs : List Loc} {cells slots : Nat} {Q : State → Prop}
variable {mc ms : Nat} {free : Addr → Prop} {A0 A1 : Nat → Prop} {H0 : Heap} {a : Array Value} {pc : Nat} {ls : Array Slot} {st0 rest : List Value}
theorem vx_callFe {ad : Nat → Nat} {S SX : Type} {post : Option Nat → S → Prop} {px : SX → Prop} {B : S → State → Prop} {BX : String → SX → State → Prop} {AX : Nat → Prop} (hr : vx_Run5 p l e R s m args below meth c H locs cells slots mc ms (F0 m pc ls st0) rest (va_Qe ad post B A1 a) (vx_X px BX AX) free) (hS : va_S A0 H0 H locs) (hA : ∀ q, q < H.size → A1 q → A0 q) (hf : ∀ q, free q → A0 q) (hAX : ∀ q, q < H.size → AX q → A0 q)
    (kx : ∀ (E : String) (ce : Cell) (q9 : Addr) (u : SX) (t : State) (H1 : Heap) (locs1 : List Loc), t.heap = H1 → s.vm.Alike t.vm → px u → BX E u t → H.size ≤ H1.size → (∀ q : Nat, q < H.size → ¬ AX q → H1[q]? = H[q]?) → va_S A0 H0 H1 locs1 → H1[q9]? = some ce → ce.vm = .none → s.vm.findClass E = some ce.cls → vx_W p l e R s m args below meth c H1 locs1 (cells + mc) (slots + ms) Q (F0 m pc ls rest) q9)
    (kk : ∀ (r : Option Nat) (u : S) (t : State) (H1 : Heap) (locs1 : List Loc), t.heap = H1 → s.vm.Alike t.vm → post r u → B u t → H.size ≤ H1.size → (∀ q : Nat, q < H.size → ¬ A1 q → H1[q]? = H[q]?) → va_S A0 H0 H1 locs1 → W p l e R s m args below meth c H1 locs1 (cells + mc) (slots + ms) Q (F0 m (pc + 5) ls (va_re ad r :: rest))) : W p l e R s m args below meth c H locs cells slots Q (F0 m pc ls st0) := by
  intro T hT X
  rcases hr T hT X with ⟨v, st₀, t, T', L, h0, X', hL, e1, e2, ⟨⟨r, u, hv, hp, hb⟩, hF⟩, st⟩ | ⟨q, st₀, t, T', L, E, ce, h0, X', hL, e1, e2, ⟨u, hp, hb, hF⟩, hce, hcv, hcl, st⟩
  · cases hv
    obtain ⟨k1, k2, k3⟩ := vx_keep h0 e1 hS hA hf hL hF
    obtain ⟨t2, a1, b1⟩ := kk r u t T'.heap (locs ++ L) e1.symm (by rw [← e2]; exact X'.warmed.alike) hp hb k1 k2 k3 T' rfl X'
    exact ⟨t2, st t2 a1, b1⟩
  · obtain ⟨k1, k2, k3⟩ := vx_keep h0 e1 hS hAX hf hL hF
    obtain ⟨t2, a1, b1⟩ := kx E ce q u t T'.heap (locs ++ L) e1.symm (by rw [← e2]; exact X'.warmed.alike) hp hb k1 k2 k3 (by rw [e1]; exact hce) hcv hcl T' rfl X'
    exact ⟨t2, st.trans a1, b1⟩
end
/-! ===== END ===== -/
/-! ===== BEGIN what the machine throws by itself: null at a field, at athrow ===== -/
section VXM2
variable {p : Program} {l : Launch} {e : Env} {R : Room} {s : State} {m : MethodId} {args : Array Value} {below : List Frame} {meth : Method} {c : Code} {H : Heap} {locs : List Loc} {cells slots : Nat}
variable {Q : State → Prop} {cc : ByteArray} {pc : Nat} {ls : Array Slot} {rest : List Value}
theorem vx_getfN {D cl tys} {own ref C : String} {T : u_T} {N ci index : Nat} {Ts : List Cond} (hexec : p.tables.exec = Jvm.exec) (hb : c.code = cc) (hts : ∀ w ∈ Ts, w.before args s = true) (hin : ∀ w ∈ u_ws C T N, w ∈ Ts) (hown : s.vm.findClass own = some m.cls) (hK : va_K D cl tys s) (hc : cl[ci]? = some (C, T, N)) (k : Nat) (hk : k < N) (hlink : (Cond.fieldLink own index ref (T k).2.1 (T k).2.2.1).before args s = true) (hsame : ∀ x, s.fieldFound? (T k).1 (T k).2.1 (T k).2.2.1 = some x → s.fieldFound? ref (T k).2.1 (T k).2.2.1 = some x) (hdg : decode cc pc = .ok (.getfield index, 3)) (kk : vx_NoteN p l e R s m args below meth c H locs cells slots Q (F0 m pc ls rest)) : W p l e R s m args below meth c H locs cells slots Q (F0 m pc ls (.null :: rest)) := by
  obtain ⟨hS, hfc, kC, hkC, -⟩ := hK.1 ci _ hc
  obtain ⟨cf, kf, fi, f, hi, -⟩ := hS k hk
  intro U hU X
  obtain ⟨vm', X1, st1⟩ := X.getfieldNull hexec hown hlink (hsame _ hi) (u_facts hfc hkC (u_lays hts hin hk) hi).1 (g := F0 m pc ls (.null :: rest)) rfl (rest := rest) rfl (by rw [hb]; exact hdg)
  obtain ⟨t, st, q⟩ := kk (U.setVm vm') hU X1
  exact ⟨t, st1 t st, q⟩
theorem vx_getfNN {D cl tys} {own ref C host : String} {T : u_T} {N ci index : Nat} {Ts : List Cond} (hexec : p.tables.exec = Jvm.exec) (hb : c.code = cc) (hts : ∀ w ∈ Ts, w.before args s = true) (hin : ∀ w ∈ u_ws C T N, w ∈ Ts) (hown : s.vm.findClass own = some m.cls) (hK : va_K D cl tys s) (hc : cl[ci]? = some (C, T, N)) (k : Nat) (hk : k < N) (hlink : (Cond.fieldLinkNest own index ref (T k).2.1 (T k).2.2.1 host).before args s = true) (hsame : ∀ x, s.fieldFound? (T k).1 (T k).2.1 (T k).2.2.1 = some x → s.fieldFound? ref (T k).2.1 (T k).2.2.1 = some x) (hdg : decode cc pc = .ok (.getfield index, 3)) (kk : vx_NoteN p l e R s m args below meth c H locs cells slots Q (F0 m pc ls rest)) : W p l e R s m args below meth c H locs cells slots Q (F0 m pc ls (.null :: rest)) := by
  obtain ⟨hS, hfc, kC, hkC, -⟩ := hK.1 ci _ hc
  obtain ⟨cf, kf, fi, f, hi, -⟩ := hS k hk
  intro U hU X
  obtain ⟨vm', X1, st1⟩ := X.getfieldNullNest hexec hown hlink (hsame _ hi) (u_facts hfc hkC (u_lays hts hin hk) hi).1 (g := F0 m pc ls (.null :: rest)) rfl (rest := rest) rfl (by rw [hb]; exact hdg)
  obtain ⟨t, st, q⟩ := kk (U.setVm vm') hU X1
  exact ⟨t, st1 t st, q⟩
theorem vx_putfN {D cl tys} {own ref C : String} {T : u_T} {N ci index : Nat} {Ts : List Cond} (hexec : p.tables.exec = Jvm.exec) (hb : c.code = cc) (hts : ∀ w ∈ Ts, w.before args s = true) (hin : ∀ w ∈ u_ws C T N, w ∈ Ts) (hown : s.vm.findClass own = some m.cls) (hK : va_K D cl tys s) (hc : cl[ci]? = some (C, T, N)) (k : Nat) (hk : k < N) (hlink : (Cond.fieldLink own index ref (T k).2.1 (T k).2.2.1).before args s = true) (hsame : ∀ x, s.fieldFound? (T k).1 (T k).2.1 (T k).2.2.1 = some x → s.fieldFound? ref (T k).2.1 (T k).2.2.1 = some x) (hfin : (T k).2.2.2 = false) {v : Value} (hdg : decode cc pc = .ok (.putfield index, 3)) (kk : vx_NoteN p l e R s m args below meth c H locs cells slots Q (F0 m pc ls rest)) : W p l e R s m args below meth c H locs cells slots Q (F0 m pc ls (v :: .null :: rest)) := by
  obtain ⟨hS, hfc, kC, hkC, -⟩ := hK.1 ci _ hc
  obtain ⟨cf, kf, fi, f, hi, -⟩ := hS k hk
  have hlay := hts _ (hin _ (u_in_lay hk))
  unfold u_lay at hlay
  rw [if_neg (by rw [hfin]; decide)] at hlay
  obtain ⟨c9, k9, cf9, kf9, fi9, f9, -, -, hi9, hst9, hnf9, -⟩ := Cond.lays_spec hlay
  cases hi.symm.trans hi9
  intro U hU X
  obtain ⟨vm', X1, st1⟩ := X.putfieldNull hexec hown hlink (hsame _ hi) hst9 hnf9 (g := F0 m pc ls (v :: .null :: rest)) rfl (v := v) (rest := rest) rfl (by rw [hb]; exact hdg)
  obtain ⟨t, st, q⟩ := kk (U.setVm vm') hU X1
  exact ⟨t, st1 t st, q⟩
theorem vx_putfNN {D cl tys} {own ref C host : String} {T : u_T} {N ci index : Nat} {Ts : List Cond} (hexec : p.tables.exec = Jvm.exec) (hb : c.code = cc) (hts : ∀ w ∈ Ts, w.before args s = true) (hin : ∀ w ∈ u_ws C T N, w ∈ Ts) (hown : s.vm.findClass own = some m.cls) (hK : va_K D cl tys s) (hc : cl[ci]? = some (C, T, N)) (k : Nat) (hk : k < N) (hlink : (Cond.fieldLinkNest own index ref (T k).2.1 (T k).2.2.1 host).before args s = true) (hsame : ∀ x, s.fieldFound? (T k).1 (T k).2.1 (T k).2.2.1 = some x → s.fieldFound? ref (T k).2.1 (T k).2.2.1 = some x) (hfin : (T k).2.2.2 = false) {v : Value} (hdg : decode cc pc = .ok (.putfield index, 3)) (kk : vx_NoteN p l e R s m args below meth c H locs cells slots Q (F0 m pc ls rest)) : W p l e R s m args below meth c H locs cells slots Q (F0 m pc ls (v :: .null :: rest)) := by
  obtain ⟨hS, hfc, kC, hkC, -⟩ := hK.1 ci _ hc
  obtain ⟨cf, kf, fi, f, hi, -⟩ := hS k hk
  have hlay := hts _ (hin _ (u_in_lay hk))
  unfold u_lay at hlay
  rw [if_neg (by rw [hfin]; decide)] at hlay
  obtain ⟨c9, k9, cf9, kf9, fi9, f9, -, -, hi9, hst9, hnf9, -⟩ := Cond.lays_spec hlay
  cases hi.symm.trans hi9
  intro U hU X
  obtain ⟨vm', X1, st1⟩ := X.putfieldNullNest hexec hown hlink (hsame _ hi) hst9 hnf9 (g := F0 m pc ls (v :: .null :: rest)) rfl (v := v) (rest := rest) rfl (by rw [hb]; exact hdg)
  obtain ⟨t, st, q⟩ := kk (U.setVm vm') hU X1
  exact ⟨t, st1 t st, q⟩
theorem vx_athrowN (hexec : p.tables.exec = Jvm.exec) (hb : c.code = cc) (hdg : decode cc pc = .ok (.athrow, 1)) (k : vx_NoteN p l e R s m args below meth c H locs cells slots Q (F0 m pc ls rest)) : W p l e R s m args below meth c H locs cells slots Q (F0 m pc ls (.null :: rest)) := by
  intro T hT X
  obtain ⟨t, st, q⟩ := k T hT X
  exact ⟨t, X.athrowNull hexec (g := F0 m pc ls (.null :: rest)) rfl (rest := rest) rfl (by rw [hb]; exact hdg) t st, q⟩
end VXM2
/-! ===== END ===== -/
end
section
/-! the world as rows by codes: 0 the object, 1 house, 2 commissions, 3 owed; 4 to 10 the law's arrays n l v b w c d; 4*i+11 .. lot i, its offers, their buyers, their amounts -/
def up2 (f : Nat → Nat → Int32) (a k : Nat) (v : Int32) : Nat → Nat → Int32 := fun x => if x = a then upd (f x) k v else f x
def up2L (f : Nat → Nat → Int64) (a k : Nat) (v : Int64) : Nat → Nat → Int64 := fun x => if x = a then vp_updL (f x) k v else f x
theorem up2_row {f : Nat → Nat → Int32} {a k : Nat} {v : Int32} : up2 f a k v a = upd (f a) k v := if_pos rfl
theorem up2_same {f : Nat → Nat → Int32} {a k : Nat} {v : Int32} : up2 f a k v a k = v := by simp [up2, upd]
theorem up2_ne {f : Nat → Nat → Int32} {a k : Nat} {v : Int32} {b : Nat} (h : b ≠ a) : up2 f a k v b = f b := if_neg h
theorem up2L_row {f : Nat → Nat → Int64} {a k : Nat} {v : Int64} : up2L f a k v a = vp_updL (f a) k v := if_pos rfl
theorem up2L_ne {f : Nat → Nat → Int64} {a k : Nat} {v : Int64} {b : Nat} (h : b ≠ a) : up2L f a k v b = f b := if_neg h
def xfs (ad : Nat → Nat) (lr : Nat → Int64) (r : Nat → Int32) : List Value := [.ref (ad 1), .ref (ad 2), .ref (ad 3), .int (r 3), .int (r 4), .int (r 5), .long (lr 6), .long (lr 7), .long (lr 8)]
def lfs (ad : Nat → Nat) (k : Nat) (r : Nat → Int32) : List Value := [.int (r 0), .int (r 1), .ref (ad (k + 1)), .int (r 3), .int (r 4), .int (r 5), .int (r 6), .int (r 7), .int (r 8), .int (r 9), .int (r 10), .int (r 11), .int (r 12)]
def ofs (ad : Nat → Nat) (k : Nat) (r : Nat → Int32) : List Value := [.ref (ad (k + 1)), .ref (ad (k + 2)), .int (r 2)]
def hof (ad : Nat → Nat) (n : Nat) : Nat → Option Nat := fun j => if j < n then some (ad (4 * j + 11)) else none
def mlen : Nat → Nat := fun k => if k = 4 then 5 else if k = 6 then 18 else if k = 9 then 6 else if k = 10 then 10 else 60
/-- what lies at the code k -/
def gr (ad : Nat → Nat) (tI tJ tL : ClassId) (n : Nat) (lr : Nat → Int64) (r : Nat → Int32) (k : Nat) : va_E :=
  if k = 0 then .inr (0, xfs ad lr r) else if k = 1 then .inl (tL, 30, .inr (.inr (.inr (.inr (hof ad n))))) else if k = 2 then .inl (tI, 6, .inl r) else if k = 3 then .inl (tI, 10, .inl r)
  else if k < 11 then .inl (tI, mlen k, .inl r)
  else if (k - 11) % 4 = 0 then .inr (1, lfs ad k r) else if (k - 11) % 4 = 1 then .inr (2, ofs ad k r) else .inl (tI, 10, .inl r)
def wv (ad : Nat → Nat) (tI tJ tL : ClassId) (n : Nat) (sL : Nat → Nat → Int64) (sA : Nat → Nat → Int32) : va_W := (List.range (4 * n + 11)).map (fun k => (ad k, gr ad tI tJ tL n (sL k) (sA k) k))
theorem wv_get {ad : Nat → Nat} {tI tJ tL : ClassId} {n : Nat} {sL : Nat → Nat → Int64} {sA : Nat → Nat → Int32} {k : Nat} (h : k < 4 * n + 11) : (wv ad tI tJ tL n sL sA)[k]? = some (ad k, gr ad tI tJ tL n (sL k) (sA k) k) := by
  simp [wv, List.getElem?_map, List.getElem?_range h]
theorem wv_set {ad : Nat → Nat} {tI tJ tL : ClassId} {n : Nat} {sL sL' : Nat → Nat → Int64} {sA sA' : Nat → Nat → Int32} {k : Nat} {e : va_E} (he : e = gr ad tI tJ tL n (sL' k) (sA' k) k) (hL : ∀ j, j ≠ k → sL' j = sL j) (hA : ∀ j, j ≠ k → sA' j = sA j) :
    (wv ad tI tJ tL n sL sA).set k (ad k, e) = wv ad tI tJ tL n sL' sA' := by
  apply List.ext_getElem?
  intro j
  by_cases hj : j = k
  · subst hj
    by_cases hl : j < 4 * n + 11
    · rw [List.getElem?_set_self (by simp [wv]; exact hl), wv_get hl, he]
    · rw [List.getElem?_eq_none (by simp [wv]; omega), List.getElem?_eq_none (by simp [wv]; omega)]
  · rw [List.getElem?_set_ne (Ne.symm hj)]
    by_cases hl : j < 4 * n + 11
    · rw [wv_get hl, wv_get hl, hL j hj, hA j hj]
    · rw [List.getElem?_eq_none (by simp [wv]; omega), List.getElem?_eq_none (by simp [wv]; omega)]
theorem gr_L {ad : Nat → Nat} {tI tJ tL : ClassId} {n : Nat} {lr : Nat → Int64} {r : Nat → Int32} (i : Nat) : gr ad tI tJ tL n lr r (4 * i + 11) = .inr (1, lfs ad (4 * i + 11) r) := by
  unfold gr
  rw [if_neg (by omega), if_neg (by omega), if_neg (by omega), if_neg (by omega), if_neg (by omega), if_pos (by omega)]
theorem gr_O {ad : Nat → Nat} {tI tJ tL : ClassId} {n : Nat} {lr : Nat → Int64} {r : Nat → Int32} (i : Nat) : gr ad tI tJ tL n lr r (4 * i + 12) = .inr (2, ofs ad (4 * i + 12) r) := by
  unfold gr
  rw [if_neg (by omega), if_neg (by omega), if_neg (by omega), if_neg (by omega), if_neg (by omega), if_neg (by omega), if_pos (by omega)]
theorem gr_B {ad : Nat → Nat} {tI tJ tL : ClassId} {n : Nat} {lr : Nat → Int64} {r : Nat → Int32} (i : Nat) : gr ad tI tJ tL n lr r (4 * i + 13) = .inl (tI, 10, .inl r) := by
  unfold gr
  rw [if_neg (by omega), if_neg (by omega), if_neg (by omega), if_neg (by omega), if_neg (by omega), if_neg (by omega), if_neg (by omega)]
theorem gr_Am {ad : Nat → Nat} {tI tJ tL : ClassId} {n : Nat} {lr : Nat → Int64} {r : Nat → Int32} (i : Nat) : gr ad tI tJ tL n lr r (4 * i + 14) = .inl (tI, 10, .inl r) := by
  unfold gr
  rw [if_neg (by omega), if_neg (by omega), if_neg (by omega), if_neg (by omega), if_neg (by omega), if_neg (by omega), if_neg (by omega)]
theorem gr_M {ad : Nat → Nat} {tI tJ tL : ClassId} {n : Nat} {lr : Nat → Int64} {r : Nat → Int32} {k : Nat} (h1 : 4 ≤ k) (h2 : k < 11) : gr ad tI tJ tL n lr r k = .inl (tI, mlen k, .inl r) := by
  unfold gr
  rw [if_neg (by omega), if_neg (by omega), if_neg (by omega), if_neg (by omega), if_pos h2]
abbrev tys3 (tI tJ tL : ClassId) : List (ClassId × FieldType) := [(tI, .int), (tL, .object "DroitLine$Lot")]
def GW (D : va_G) (tI tJ tL : ClassId) (A : Nat → Prop) (ad : Nat → Nat) (n : Nat) (sL : Nat → Nat → Int64) (sA : Nat → Nat → Int32) (H : Heap) : Prop := va_P D classes (wv ad tI tJ tL n sL sA) H ∧ va_D A (wv ad tI tJ tL n sL sA)
theorem GW.kept {D : va_G} {tI tJ tL : ClassId} {A : Nat → Prop} {ad : Nat → Nat} {n : Nat} {sL : Nat → Nat → Int64} {sA : Nat → Nat → Int32} {H H1 : Heap} (h : GW D tI tJ tL A ad n sL sA H) (hq : ∀ q : Nat, q < H.size → H1[q]? = H[q]?) : GW D tI tJ tL A ad n sL sA H1 := ⟨h.1.kept (fun k q hk => hq q.1 (h.1 k q hk).lt), h.2⟩
def badKind : Cond → Bool
  | .declares _ | .castable .. | .fieldLinkNest .. | .methodLinkNest .. => true
  | _ => false
def wBad : List Cond := lw_tbl.filter badKind
theorem bad_warm {w : Cond} (h : badKind w = true) {s U : State} (hW : s.WarmedH U.vm) (hZ : va_Nw w s) : va_Nw w U := by
  cases w <;> first | (simp [badKind] at h; done) | exact va_Nw.warmD hW hZ | exact va_Nw.warmC hW hZ | exact va_Nw.warmF hW hZ | exact va_Nw.warmM hW hZ
theorem bad_same {w : Cond} (h : badKind w = true) {u U : State} (hv : u.vm = U.vm) (hZ : va_Nw w u) : va_Nw w U := by
  cases w <;> first | (simp [badKind] at h; done) | exact va_Nw.same rfl hv hZ
abbrev XI : String := "java/lang/IndexOutOfBoundsException"
abbrev XG : String := "java/lang/IllegalArgumentException"
abbrev XS : String := "java/lang/IllegalStateException"
def strs : List (Nat × String) := [(181, "no such seller"), (187, "out of its range"), (43, "no room for another lot"), (178, "no such lot"), (183, "no such buyer"), (190, "the lot is in another state"), (139, "nothing is owed"), (147, "no advance for this lot any more"), (171, "the last day would be behind")]
def ncs : List (String × String) := [(XI, XG), (XI, XS), (XG, XI), (XG, XS), (XS, XI), (XS, XG)]
/-- what throwing wants of the start, kept by all -/
def GE (sg : Nat → Nat) (A : Nat → Prop) (U : State) (H : Heap) : Prop := vx_Zq Bundle.tN "UNASSIGNED_STACK" Bundle.steD A U H ∧ vx_Zq Bundle.tN "SUPPRESSED_SENTINEL" Bundle.listD A U H ∧ (∀ q ∈ strs, vk_R "DroitLine" q.1 q.2 (sg q.1) U) ∧ (∀ w ∈ wBad, va_Nw w U) ∧ (∀ q ∈ ncs, va_Nc q.1 q.2 U)
theorem GE.warm {sg : Nat → Nat} {A : Nat → Prop} {s U : State} {H H1 : Heap} (h : GE sg A s H) (hW : s.WarmedH U.vm) (hq : ∀ a : Nat, a < H.size → ¬ A a → H1[a]? = H[a]?) : GE sg A U H1 :=
  ⟨(h.1.moved hW.alike).kept hq, (h.2.1.moved hW.alike).kept hq, fun q hq => (h.2.2.1 q hq).warm hW, fun w hw => bad_warm (List.mem_filter.mp hw).2 hW (h.2.2.2.1 w hw), fun q hq => (h.2.2.2.2 q hq).moved hW.alike⟩
theorem GE.same {sg : Nat → Nat} {A : Nat → Prop} {s U : State} {H : Heap} (h : GE sg A s H) (hv : s.vm = U.vm) : GE sg A U H := by
  have ha : s.vm.Alike U.vm := by rw [hv]; exact Vm.Alike.refl _
  exact ⟨h.1.moved ha, h.2.1.moved ha, fun q hq => (h.2.2.1 q hq).same hv.symm, fun w hw => bad_same (List.mem_filter.mp hw).2 hv (h.2.2.2.1 w hw), fun q hq => (h.2.2.2.2 q hq).moved ha⟩
/-- what holds of a method's start and stays: fresh cells are free, the tables, what throwing wants -/
def GC (D : va_G) (tI tJ tL : ClassId) (A : Nat → Prop) (sg : Nat → Nat) (s : State) : Prop := (∀ q, s.heap.size ≤ q → A q) ∧ va_K D classes (tys3 tI tJ tL) s ∧ GE sg A s s.heap
def GP (D : va_G) (tI tJ tL : ClassId) (A : Nat → Prop) (sg : Nat → Nat) (ad : Nat → Nat) (n : Nat) (sL : Nat → Nat → Int64) (sA : Nat → Nat → Int32) (U : State) : Prop := GW D tI tJ tL A ad n sL sA U.heap ∧ GC D tI tJ tL A sg U
section G1
variable {D : va_G} {tI tJ tL : ClassId} {A : Nat → Prop} {sg ad : Nat → Nat} {n : Nat} {sL : Nat → Nat → Int64} {sA : Nat → Nat → Int32}
theorem GC.same {u U : State} (h : GC D tI tJ tL A sg u) (hv : u.vm = U.vm) (hh : U.heap = u.heap) : GC D tI tJ tL A sg U := by
  have ha : u.vm.Alike U.vm := by rw [hv]; exact Vm.Alike.refl _
  exact ⟨fun q hq => h.1 q (by rw [← hh]; exact hq), h.2.1.moved ha, by rw [hh]; exact h.2.2.same hv⟩
theorem GP.blind {av : List Value} : FrameBlind (va_Pc av (GP D tI tJ tL A sg ad n sL sA)) := fun a U g mk q => ⟨q.1, by exact q.2.1, by exact q.2.2.same rfl rfl⟩
theorem GC.call {s U : State} {H : Heap} {locs : List Loc} (h : GC D tI tJ tL A sg s) (hS : va_S A s.heap H locs) (hU : U.heap = H) (hW : s.WarmedH U.vm) : GC D tI tJ tL A sg U :=
  ⟨fun q hq => h.1 q (Nat.le_trans hS.1 (by rw [← hU]; exact hq)), h.2.1.moved hW.alike, by rw [hU]; exact h.2.2.warm hW (fun a h1 h2 => hS.2.1 a h1 h2)⟩
theorem GP.call {s U : State} {H : Heap} {locs : List Loc} (h : GC D tI tJ tL A sg s) (hG : GW D tI tJ tL A ad n sL sA H) (hS : va_S A s.heap H locs) (hU : U.heap = H) (hW : s.WarmedH U.vm) : GP D tI tJ tL A sg ad n sL sA U := ⟨by rw [hU]; exact hG, h.call hS hU hW⟩
end G1
end
section
theorem F_X1 : ∀ k, (F_X k).1 = "DroitLine" := by intro k; unfold F_X; split <;> rfl
theorem F_L1 : ∀ k, (F_L k).1 = "DroitLine$Lot" := by intro k; unfold F_L; split <;> rfl
theorem F_O1 : ∀ k, (F_O k).1 = "DroitLine$Offers" := by intro k; unfold F_O; split <;> rfl
theorem hsm {s : State} {a b n d : String} (h : a = b) : ∀ x, s.fieldFound? a n d = some x → s.fieldFound? b n d = some x := fun x hx => h ▸ hx
def XE (E : String) (k : Nat) : Prop := (E = XI ∧ k = 1) ∨ (E = XG ∧ k = 2) ∨ (E = XS ∧ k = 3)
theorem XE.ne {E : String} {k : Nat} (h : XE E k) : k ≠ 0 := by
  rcases h with ⟨-, h⟩ | ⟨-, h⟩ | ⟨-, h⟩ <;> omega
abbrev NL : Type := Nat → Nat → Int64
abbrev NA : Type := Nat → Nat → Int32
abbrev XQ (D : va_G) (tI tJ tL : ClassId) (A : Nat → Prop) (ad : Nat → Nat) (n : Nat) (sL : NL) (sA : NA) (code : Nat) : String → State → State → Prop := vx_X (fun _ : Unit => True) (fun E _ t => XE E code ∧ GW D tI tJ tL A ad n sL sA t.heap) A
section G2
variable {p : Program} {l : Launch} {e : Env} {R : Room} {s : State} {m : MethodId} {args : Array Value} {below : List Frame} {meth : Method} {c : Code} {H : Heap} {locs : List Loc} {cells slots : Nat} {Q : State → Prop}
variable {D : va_G} {tI tJ tL : ClassId} {A : Nat → Prop} {sg ad : Nat → Nat} {n : Nat} {sL : NL} {sA : NA}
variable {cc : ByteArray} {pc : Nat} {ls : Array Slot} {rest : List Value}
theorem rx_get (hx : p.tables.exec = Jvm.exec) (hb : c.code = cc) (hts : ∀ w ∈ wNeed, w.before args s = true) (hown : s.vm.findClass "DroitLine" = some m.cls) (hC : GC D tI tJ tL A sg s) (hG : GW D tI tJ tL A ad n sL sA H) (k : Nat) {idx : Nat} {v : Value} (hk : k < 9) (hw : Cond.fieldLink "DroitLine" idx "DroitLine" (F_X k).2.1 (F_X k).2.2.1 ∈ wNeed) (hv : (xfs ad (sL 0) (sA 0))[k]? = some v) (hdg : decode cc pc = .ok (.getfield idx, 3))
    (kk : W p l e R s m args below meth c H locs cells slots Q (F0 m (pc + 3) ls (v :: rest))) : W p l e R s m args below meth c H locs cells slots Q (F0 m pc ls (.ref (ad 0) :: rest)) :=
  va_get (C := "DroitLine") (T := F_X) (N := 9) (ci := 0) hx hb hts i_X hown hC.2.1 hG.1 0 (by rw [wv_get (by omega)]; rfl) rfl k hk (hts _ hw) (hsm (F_X1 k)) hv hdg kk
theorem rl_get (hx : p.tables.exec = Jvm.exec) (hb : c.code = cc) (hts : ∀ w ∈ wNeed, w.before args s = true) (hown : s.vm.findClass "DroitLine$Lot" = some m.cls) (hC : GC D tI tJ tL A sg s) (hG : GW D tI tJ tL A ad n sL sA H) (k : Nat) {i : Nat} (hi : i < n) {idx : Nat} {v : Value} (hk : k < 13) (hw : Cond.fieldLink "DroitLine$Lot" idx "DroitLine$Lot" (F_L k).2.1 (F_L k).2.2.1 ∈ wNeed) (hv : (lfs ad (4 * i + 11) (sA (4 * i + 11)))[k]? = some v) (hdg : decode cc pc = .ok (.getfield idx, 3))
    (kk : W p l e R s m args below meth c H locs cells slots Q (F0 m (pc + 3) ls (v :: rest))) : W p l e R s m args below meth c H locs cells slots Q (F0 m pc ls (.ref (ad (4 * i + 11)) :: rest)) :=
  va_get (C := "DroitLine$Lot") (T := F_L) (N := 13) (ci := 1) hx hb hts i_L hown hC.2.1 hG.1 (4 * i + 11) (by rw [wv_get (by omega), gr_L]) rfl k hk (hts _ hw) (hsm (F_L1 k)) hv hdg kk
theorem rl_getN (hx : p.tables.exec = Jvm.exec) (hb : c.code = cc) (hts : ∀ w ∈ wNeed, w.before args s = true) (hown : s.vm.findClass "DroitLine" = some m.cls) (hC : GC D tI tJ tL A sg s) (hG : GW D tI tJ tL A ad n sL sA H) (k : Nat) {i : Nat} (hi : i < n) {idx : Nat} {v : Value} (hk : k < 13) (hw : Cond.fieldLinkNest "DroitLine" idx "DroitLine$Lot" (F_L k).2.1 (F_L k).2.2.1 "DroitLine" ∈ wBad) (hv : (lfs ad (4 * i + 11) (sA (4 * i + 11)))[k]? = some v) (hdg : decode cc pc = .ok (.getfield idx, 3))
    (kk : W p l e R s m args below meth c H locs cells slots Q (F0 m (pc + 3) ls (v :: rest))) : W p l e R s m args below meth c H locs cells slots Q (F0 m pc ls (.ref (ad (4 * i + 11)) :: rest)) :=
  va_getN (C := "DroitLine$Lot") (T := F_L) (N := 13) (ci := 1) hx hb hts i_L hown hC.2.1 hG.1 (4 * i + 11) (by rw [wv_get (by omega), gr_L]) rfl k hk (va_Nw.use rfl (hC.2.2.2.2.2.1 _ hw)) (hsm (F_L1 k)) hv hdg kk
theorem ro_get (hx : p.tables.exec = Jvm.exec) (hb : c.code = cc) (hts : ∀ w ∈ wNeed, w.before args s = true) (hown : s.vm.findClass "DroitLine$Offers" = some m.cls) (hC : GC D tI tJ tL A sg s) (hG : GW D tI tJ tL A ad n sL sA H) (k : Nat) {i : Nat} (hi : i < n) {idx : Nat} {v : Value} (hk : k < 3) (hw : Cond.fieldLink "DroitLine$Offers" idx "DroitLine$Offers" (F_O k).2.1 (F_O k).2.2.1 ∈ wNeed) (hv : (ofs ad (4 * i + 12) (sA (4 * i + 12)))[k]? = some v) (hdg : decode cc pc = .ok (.getfield idx, 3))
    (kk : W p l e R s m args below meth c H locs cells slots Q (F0 m (pc + 3) ls (v :: rest))) : W p l e R s m args below meth c H locs cells slots Q (F0 m pc ls (.ref (ad (4 * i + 12)) :: rest)) :=
  va_get (C := "DroitLine$Offers") (T := F_O) (N := 3) (ci := 2) hx hb hts i_O hown hC.2.1 hG.1 (4 * i + 12) (by rw [wv_get (by omega), gr_O]) rfl k hk (hts _ hw) (hsm (F_O1 k)) hv hdg kk
theorem ro_getN {own : String} (hx : p.tables.exec = Jvm.exec) (hb : c.code = cc) (hts : ∀ w ∈ wNeed, w.before args s = true) (hown : s.vm.findClass own = some m.cls) (hC : GC D tI tJ tL A sg s) (hG : GW D tI tJ tL A ad n sL sA H) (k : Nat) {i : Nat} (hi : i < n) {idx : Nat} {v : Value} (hk : k < 3) (hw : Cond.fieldLinkNest own idx "DroitLine$Offers" (F_O k).2.1 (F_O k).2.2.1 "DroitLine" ∈ wBad) (hv : (ofs ad (4 * i + 12) (sA (4 * i + 12)))[k]? = some v) (hdg : decode cc pc = .ok (.getfield idx, 3))
    (kk : W p l e R s m args below meth c H locs cells slots Q (F0 m (pc + 3) ls (v :: rest))) : W p l e R s m args below meth c H locs cells slots Q (F0 m pc ls (.ref (ad (4 * i + 12)) :: rest)) :=
  va_getN (C := "DroitLine$Offers") (T := F_O) (N := 3) (ci := 2) hx hb hts i_O hown hC.2.1 hG.1 (4 * i + 12) (by rw [wv_get (by omega), gr_O]) rfl k hk (va_Nw.use rfl (hC.2.2.2.2.2.1 _ hw)) (hsm (F_O1 k)) hv hdg kk
theorem rx_puti (hx : p.tables.exec = Jvm.exec) (hb : c.code = cc) (hts : ∀ w ∈ wNeed, w.before args s = true) (hown : s.vm.findClass "DroitLine" = some m.cls) (hC : GC D tI tJ tL A sg s) (hG : GW D tI tJ tL A ad n sL sA H) (hS : va_S A s.heap H locs) (k : Nat) {idx : Nat} {v : Int32} (h3 : k = 3 ∨ k = 4 ∨ k = 5) (hw : Cond.fieldLink "DroitLine" idx "DroitLine" (F_X k).2.1 (F_X k).2.2.1 ∈ wNeed) (hdg : decode cc pc = .ok (.putfield idx, 3))
    (kk : ∀ (H1 : Heap) (locs1 : List Loc), GW D tI tJ tL A ad n sL (up2 sA 0 k v) H1 → va_S A s.heap H1 locs1 → W p l e R s m args below meth c H1 locs1 cells slots Q (F0 m (pc + 3) ls rest)) : W p l e R s m args below meth c H locs cells slots Q (F0 m pc ls (.int v :: .ref (ad 0) :: rest)) := by
  have e : (wv ad tI tJ tL n sL sA).set 0 (ad 0, .inr (0, (xfs ad (sL 0) (sA 0)).set k (.int v))) = wv ad tI tJ tL n sL (up2 sA 0 k v) := by
    refine wv_set ?_ (fun _ _ => rfl) (fun j hj => up2_ne hj)
    rw [up2_row]
    rcases h3 with rfl | rfl | rfl <;> rfl
  refine va_put (C := "DroitLine") (T := F_X) (N := 9) (ci := 0) (ty := .int) hx hb hts i_X t_X t_X_ok n_X hown hC.2.1 hG.1 hG.2 hS 0 (by rw [wv_get (by omega)]; rfl) rfl k (by omega) (hts _ hw) (hsm (F_X1 k)) (by rcases h3 with rfl | rfl | rfl <;> rfl) (by rcases h3 with rfl | rfl | rfl <;> decide +kernel) rfl rfl (by show k < 9; omega) hdg fun H1 locs1 hP hD hS1 => ?_
  rw [e] at hP hD
  exact kk H1 locs1 ⟨hP, hD⟩ hS1
theorem rx_putl (hx : p.tables.exec = Jvm.exec) (hb : c.code = cc) (hts : ∀ w ∈ wNeed, w.before args s = true) (hown : s.vm.findClass "DroitLine" = some m.cls) (hC : GC D tI tJ tL A sg s) (hG : GW D tI tJ tL A ad n sL sA H) (hS : va_S A s.heap H locs) (k : Nat) {idx : Nat} {v : Int64} (h3 : k = 6 ∨ k = 7 ∨ k = 8) (hw : Cond.fieldLink "DroitLine" idx "DroitLine" (F_X k).2.1 (F_X k).2.2.1 ∈ wNeed) (hdg : decode cc pc = .ok (.putfield idx, 3))
    (kk : ∀ (H1 : Heap) (locs1 : List Loc), GW D tI tJ tL A ad n (up2L sL 0 k v) sA H1 → va_S A s.heap H1 locs1 → W p l e R s m args below meth c H1 locs1 cells slots Q (F0 m (pc + 3) ls rest)) : W p l e R s m args below meth c H locs cells slots Q (F0 m pc ls (.long v :: .ref (ad 0) :: rest)) := by
  have e : (wv ad tI tJ tL n sL sA).set 0 (ad 0, .inr (0, (xfs ad (sL 0) (sA 0)).set k (.long v))) = wv ad tI tJ tL n (up2L sL 0 k v) sA := by
    refine wv_set ?_ (fun j hj => up2L_ne hj) (fun _ _ => rfl)
    rw [up2L_row]
    rcases h3 with rfl | rfl | rfl <;> rfl
  refine va_put (C := "DroitLine") (T := F_X) (N := 9) (ci := 0) (ty := .long) hx hb hts i_X t_X t_X_ok n_X hown hC.2.1 hG.1 hG.2 hS 0 (by rw [wv_get (by omega)]; rfl) rfl k (by omega) (hts _ hw) (hsm (F_X1 k)) (by rcases h3 with rfl | rfl | rfl <;> rfl) (by rcases h3 with rfl | rfl | rfl <;> decide +kernel) rfl rfl (by show k < 9; omega) hdg fun H1 locs1 hP hD hS1 => ?_
  rw [e] at hP hD
  exact kk H1 locs1 ⟨hP, hD⟩ hS1
theorem lot_put {k i : Nat} {v : Int32} (h3 : 3 ≤ k) (h4 : k < 13) : (wv ad tI tJ tL n sL sA).set (4 * i + 11) (ad (4 * i + 11), .inr (1, (lfs ad (4 * i + 11) (sA (4 * i + 11))).set k (.int v))) = wv ad tI tJ tL n sL (up2 sA (4 * i + 11) k v) := by
  refine wv_set ?_ (fun _ _ => rfl) (fun j hj => up2_ne hj)
  rw [up2_row, gr_L]
  rcases (show k = 3 ∨ k = 4 ∨ k = 5 ∨ k = 6 ∨ k = 7 ∨ k = 8 ∨ k = 9 ∨ k = 10 ∨ k = 11 ∨ k = 12 by omega) with rfl | rfl | rfl | rfl | rfl | rfl | rfl | rfl | rfl | rfl <;> rfl
theorem lot_fin {k : Nat} (h3 : 3 ≤ k) (h4 : k < 13) : (F_L k).2.2.2 = false ∧ parseFieldDescriptor (F_L k).2.2.1 = some .int := by
  rcases (show k = 3 ∨ k = 4 ∨ k = 5 ∨ k = 6 ∨ k = 7 ∨ k = 8 ∨ k = 9 ∨ k = 10 ∨ k = 11 ∨ k = 12 by omega) with rfl | rfl | rfl | rfl | rfl | rfl | rfl | rfl | rfl | rfl <;> exact ⟨rfl, by decide +kernel⟩
theorem rl_put (hx : p.tables.exec = Jvm.exec) (hb : c.code = cc) (hts : ∀ w ∈ wNeed, w.before args s = true) (hown : s.vm.findClass "DroitLine$Lot" = some m.cls) (hC : GC D tI tJ tL A sg s) (hG : GW D tI tJ tL A ad n sL sA H) (hS : va_S A s.heap H locs) (k : Nat) {i : Nat} (hi : i < n) {idx : Nat} {v : Int32} (h3 : 3 ≤ k) (h4 : k < 13) (hw : Cond.fieldLink "DroitLine$Lot" idx "DroitLine$Lot" (F_L k).2.1 (F_L k).2.2.1 ∈ wNeed) (hdg : decode cc pc = .ok (.putfield idx, 3))
    (kk : ∀ (H1 : Heap) (locs1 : List Loc), GW D tI tJ tL A ad n sL (up2 sA (4 * i + 11) k v) H1 → va_S A s.heap H1 locs1 → W p l e R s m args below meth c H1 locs1 cells slots Q (F0 m (pc + 3) ls rest)) : W p l e R s m args below meth c H locs cells slots Q (F0 m pc ls (.int v :: .ref (ad (4 * i + 11)) :: rest)) := by
  refine va_put (C := "DroitLine$Lot") (T := F_L) (N := 13) (ci := 1) (ty := .int) hx hb hts i_L t_L t_L_ok n_L hown hC.2.1 hG.1 hG.2 hS (4 * i + 11) (by rw [wv_get (by omega), gr_L]) rfl k h4 (hts _ hw) (hsm (F_L1 k)) (lot_fin h3 h4).1 (lot_fin h3 h4).2 rfl rfl (by show k < 13; exact h4) hdg fun H1 locs1 hP hD hS1 => ?_
  rw [lot_put h3 h4] at hP hD
  exact kk H1 locs1 ⟨hP, hD⟩ hS1
theorem rl_putN (hx : p.tables.exec = Jvm.exec) (hb : c.code = cc) (hts : ∀ w ∈ wNeed, w.before args s = true) (hown : s.vm.findClass "DroitLine" = some m.cls) (hC : GC D tI tJ tL A sg s) (hG : GW D tI tJ tL A ad n sL sA H) (hS : va_S A s.heap H locs) (k : Nat) {i : Nat} (hi : i < n) {idx : Nat} {v : Int32} (h3 : 3 ≤ k) (h4 : k < 13) (hw : Cond.fieldLinkNest "DroitLine" idx "DroitLine$Lot" (F_L k).2.1 (F_L k).2.2.1 "DroitLine" ∈ wBad) (hdg : decode cc pc = .ok (.putfield idx, 3))
    (kk : ∀ (H1 : Heap) (locs1 : List Loc), GW D tI tJ tL A ad n sL (up2 sA (4 * i + 11) k v) H1 → va_S A s.heap H1 locs1 → W p l e R s m args below meth c H1 locs1 cells slots Q (F0 m (pc + 3) ls rest)) : W p l e R s m args below meth c H locs cells slots Q (F0 m pc ls (.int v :: .ref (ad (4 * i + 11)) :: rest)) := by
  refine va_putN (C := "DroitLine$Lot") (T := F_L) (N := 13) (ci := 1) (ty := .int) hx hb hts i_L t_L t_L_ok n_L hown hC.2.1 hG.1 hG.2 hS (4 * i + 11) (by rw [wv_get (by omega), gr_L]) rfl k h4 (va_Nw.use rfl (hC.2.2.2.2.2.1 _ hw)) (hsm (F_L1 k)) (lot_fin h3 h4).1 (lot_fin h3 h4).2 rfl rfl (by show k < 13; exact h4) hdg fun H1 locs1 hP hD hS1 => ?_
  rw [lot_put h3 h4] at hP hD
  exact kk H1 locs1 ⟨hP, hD⟩ hS1
theorem off_put {i : Nat} {v : Int32} : (wv ad tI tJ tL n sL sA).set (4 * i + 12) (ad (4 * i + 12), .inr (2, (ofs ad (4 * i + 12) (sA (4 * i + 12))).set 2 (.int v))) = wv ad tI tJ tL n sL (up2 sA (4 * i + 12) 2 v) := by
  refine wv_set ?_ (fun _ _ => rfl) (fun j hj => up2_ne hj)
  rw [up2_row, gr_O]
  rfl
theorem ro_put (hx : p.tables.exec = Jvm.exec) (hb : c.code = cc) (hts : ∀ w ∈ wNeed, w.before args s = true) (hown : s.vm.findClass "DroitLine$Offers" = some m.cls) (hC : GC D tI tJ tL A sg s) (hG : GW D tI tJ tL A ad n sL sA H) (hS : va_S A s.heap H locs) {i : Nat} (hi : i < n) {idx : Nat} {v : Int32} (hw : Cond.fieldLink "DroitLine$Offers" idx "DroitLine$Offers" "count" "I" ∈ wNeed) (hdg : decode cc pc = .ok (.putfield idx, 3))
    (kk : ∀ (H1 : Heap) (locs1 : List Loc), GW D tI tJ tL A ad n sL (up2 sA (4 * i + 12) 2 v) H1 → va_S A s.heap H1 locs1 → W p l e R s m args below meth c H1 locs1 cells slots Q (F0 m (pc + 3) ls rest)) : W p l e R s m args below meth c H locs cells slots Q (F0 m pc ls (.int v :: .ref (ad (4 * i + 12)) :: rest)) := by
  refine va_put (C := "DroitLine$Offers") (T := F_O) (N := 3) (ci := 2) (ty := .int) hx hb hts i_O t_O t_O_ok n_O hown hC.2.1 hG.1 hG.2 hS (4 * i + 12) (by rw [wv_get (by omega), gr_O]) rfl 2 (by omega) (hts _ hw) (hsm (F_O1 2)) rfl (by decide +kernel) rfl rfl (by show 2 < 3; omega) hdg fun H1 locs1 hP hD hS1 => ?_
  rw [off_put] at hP hD
  exact kk H1 locs1 ⟨hP, hD⟩ hS1
theorem ro_putN {own : String} (hx : p.tables.exec = Jvm.exec) (hb : c.code = cc) (hts : ∀ w ∈ wNeed, w.before args s = true) (hown : s.vm.findClass own = some m.cls) (hC : GC D tI tJ tL A sg s) (hG : GW D tI tJ tL A ad n sL sA H) (hS : va_S A s.heap H locs) {i : Nat} (hi : i < n) {idx : Nat} {v : Int32} (hw : Cond.fieldLinkNest own idx "DroitLine$Offers" "count" "I" "DroitLine" ∈ wBad) (hdg : decode cc pc = .ok (.putfield idx, 3))
    (kk : ∀ (H1 : Heap) (locs1 : List Loc), GW D tI tJ tL A ad n sL (up2 sA (4 * i + 12) 2 v) H1 → va_S A s.heap H1 locs1 → W p l e R s m args below meth c H1 locs1 cells slots Q (F0 m (pc + 3) ls rest)) : W p l e R s m args below meth c H locs cells slots Q (F0 m pc ls (.int v :: .ref (ad (4 * i + 12)) :: rest)) := by
  refine va_putN (C := "DroitLine$Offers") (T := F_O) (N := 3) (ci := 2) (ty := .int) hx hb hts i_O t_O t_O_ok n_O hown hC.2.1 hG.1 hG.2 hS (4 * i + 12) (by rw [wv_get (by omega), gr_O]) rfl 2 (by omega) (va_Nw.use rfl (hC.2.2.2.2.2.1 _ hw)) (hsm (F_O1 2)) rfl (by decide +kernel) rfl rfl (by show 2 < 3; omega) hdg fun H1 locs1 hP hD hS1 => ?_
  rw [off_put] at hP hD
  exact kk H1 locs1 ⟨hP, hD⟩ hS1
theorem ra_ld (hx : p.tables.exec = Jvm.exec) (hb : c.code = cc) (hC : GC D tI tJ tL A sg s) (hG : GW D tI tJ tL A ad n sL sA H) (k len : Nat) (hk : k < 4 * n + 11) (hg : ∀ lr r, gr ad tI tJ tL n lr r k = .inl (tI, len, .inl r)) {i : Int32} (hin : vp_in i len) (hdg : decode cc pc = .ok (.iaload, 1))
    (kk : W p l e R s m args below meth c H locs cells slots Q (F0 m (pc + 1) ls (.int (sA k i.toNatClampNeg) :: rest))) : W p l e R s m args below meth c H locs cells slots Q (F0 m pc ls (.int i :: .ref (ad k) :: rest)) :=
  va_iald hx hb hC.2.1 hG.1 k 0 (by rw [wv_get hk, hg]) rfl hin hdg kk
theorem ra_st (hx : p.tables.exec = Jvm.exec) (hb : c.code = cc) (hC : GC D tI tJ tL A sg s) (hG : GW D tI tJ tL A ad n sL sA H) (hS : va_S A s.heap H locs) (k len : Nat) (hk : k < 4 * n + 11) (hg : ∀ lr r, gr ad tI tJ tL n lr r k = .inl (tI, len, .inl r)) {i x : Int32} (hin : vp_in i len) (hdg : decode cc pc = .ok (.iastore, 1))
    (kk : ∀ (H1 : Heap) (locs1 : List Loc), GW D tI tJ tL A ad n sL (up2 sA k i.toNatClampNeg x) H1 → va_S A s.heap H1 locs1 → W p l e R s m args below meth c H1 locs1 cells slots Q (F0 m (pc + 1) ls rest)) : W p l e R s m args below meth c H locs cells slots Q (F0 m pc ls (.int x :: .int i :: .ref (ad k) :: rest)) := by
  refine va_iast hx hb hC.2.1 hG.1 hG.2 hS k 0 (by rw [wv_get hk, hg]) rfl hin hdg fun H1 locs1 hP hD hS1 => ?_
  have e : (wv ad tI tJ tL n sL sA).set k (ad k, .inl (tI, len, .inl (upd (sA k) i.toNatClampNeg x))) = wv ad tI tJ tL n sL (up2 sA k i.toNatClampNeg x) :=
    wv_set (by rw [hg, up2_row]) (fun _ _ => rfl) (fun j hj => up2_ne hj)
  rw [e] at hP hD
  exact kk H1 locs1 ⟨hP, hD⟩ hS1
theorem ra_len (hx : p.tables.exec = Jvm.exec) (hb : c.code = cc) (hC : GC D tI tJ tL A sg s) (hG : GW D tI tJ tL A ad n sL sA H) (k len : Nat) (hk : k < 4 * n + 11) (hg : ∀ lr r, gr ad tI tJ tL n lr r k = .inl (tI, len, .inl r)) {v : Int32} (hv : Int32.ofNat len = v) (hdg : decode cc pc = .ok (.arraylength, 1))
    (kk : W p l e R s m args below meth c H locs cells slots Q (F0 m (pc + 1) ls (.int v :: rest))) : W p l e R s m args below meth c H locs cells slots Q (F0 m pc ls (.ref (ad k) :: rest)) :=
  va_alen hx hb hC.2.1 hG.1 k 0 (by rw [wv_get hk, hg]) rfl hv hdg kk
theorem rh_len (hx : p.tables.exec = Jvm.exec) (hb : c.code = cc) (hC : GC D tI tJ tL A sg s) (hG : GW D tI tJ tL A ad n sL sA H) {v : Int32} (hv : 30 = v) (hdg : decode cc pc = .ok (.arraylength, 1))
    (kk : W p l e R s m args below meth c H locs cells slots Q (F0 m (pc + 1) ls (.int v :: rest))) : W p l e R s m args below meth c H locs cells slots Q (F0 m pc ls (.ref (ad 1) :: rest)) :=
  va_alen hx hb hC.2.1 hG.1 1 1 (x := (30, .inr (.inr (.inr (.inr (hof ad n)))))) (by rw [wv_get (by omega)]; rfl) rfl (by rw [← hv]; rfl) hdg kk
theorem rh_ld (hx : p.tables.exec = Jvm.exec) (hb : c.code = cc) (hC : GC D tI tJ tL A sg s) (hG : GW D tI tJ tL A ad n sL sA H) {i : Int32} (hin : vp_in i 30) (hdg : decode cc pc = .ok (.aaload, 1))
    (kk : W p l e R s m args below meth c H locs cells slots Q (F0 m (pc + 1) ls (va_rf (hof ad n i.toNatClampNeg) :: rest))) : W p l e R s m args below meth c H locs cells slots Q (F0 m pc ls (.int i :: .ref (ad 1) :: rest)) :=
  va_aldq hx hb hC.2.1 hG.1 1 1 (by rw [wv_get (by omega)]; rfl) rfl hin hdg kk
theorem recX (hC : GC D tI tJ tL A sg s) (hG : GW D tI tJ tL A ad n sL sA H) : ∃ cell : Cell, H[ad 0]? = some cell ∧ cell.vm.isStatics = false ∧ s.vm.findClass "DroitLine" = some cell.cls := va_recv hC.2.1 hG.1 (ci := 0) (q0 := 0) rfl (by rw [wv_get (by omega)]; rfl)
theorem recL {i : Nat} (hi : i < n) (hC : GC D tI tJ tL A sg s) (hG : GW D tI tJ tL A ad n sL sA H) : ∃ cell : Cell, H[ad (4 * i + 11)]? = some cell ∧ cell.vm.isStatics = false ∧ s.vm.findClass "DroitLine$Lot" = some cell.cls := va_recv hC.2.1 hG.1 (ci := 1) (q0 := 4 * i + 11) rfl (by rw [wv_get (by omega), gr_L])
theorem recO {i : Nat} (hi : i < n) (hC : GC D tI tJ tL A sg s) (hG : GW D tI tJ tL A ad n sL sA H) : ∃ cell : Cell, H[ad (4 * i + 12)]? = some cell ∧ cell.vm.isStatics = false ∧ s.vm.findClass "DroitLine$Offers" = some cell.cls := va_recv hC.2.1 hG.1 (ci := 2) (q0 := 4 * i + 12) rfl (by rw [wv_get (by omega), gr_O])
end G2
end
section
abbrev xnames : List String := ["java/lang/RuntimeException", "java/lang/Exception"]
set_option maxRecDepth 20000 in
theorem at_I : (∀ w ∈ (vx_atS "DroitLine" 180 XI xnames).filter goodWord, w ∈ lw_tbl) ∧ (∀ w ∈ (vx_atS "DroitLine" 180 XI xnames).filter (fun w => !goodWord w), w ∈ wBad) ∧ ∀ w ∈ Cond.classLink "DroitLine" 176 XI :: Cond.initialized XI :: vx_atS "DroitLine" 180 XI xnames, vx_ot w = true := by decide +kernel
set_option maxRecDepth 20000 in
theorem at_G : (∀ w ∈ (vx_atS "DroitLine" 189 XG xnames).filter goodWord, w ∈ lw_tbl) ∧ (∀ w ∈ (vx_atS "DroitLine" 189 XG xnames).filter (fun w => !goodWord w), w ∈ wBad) ∧ ∀ w ∈ Cond.classLink "DroitLine" 185 XG :: Cond.initialized XG :: vx_atS "DroitLine" 189 XG xnames, vx_ot w = true := by decide +kernel
set_option maxRecDepth 20000 in
theorem at_S : (∀ w ∈ (vx_atS "DroitLine" 45 XS xnames).filter goodWord, w ∈ lw_tbl) ∧ (∀ w ∈ (vx_atS "DroitLine" 45 XS xnames).filter (fun w => !goodWord w), w ∈ wBad) ∧ ∀ w ∈ Cond.classLink "DroitLine" 41 XS :: Cond.initialized XS :: vx_atS "DroitLine" 45 XS xnames, vx_ot w = true := by decide +kernel
section G3
variable {p : Program} {l : Launch} {e : Env} {R : Room} {s : State} {m : MethodId} {args : Array Value} {below : List Frame} {meth : Method} {c : Code} {H : Heap} {locs : List Loc} {cells slots : Nat} {Q : State → Prop}
variable {D : va_G} {tI tJ tL : ClassId} {A : Nat → Prop} {sg ad : Nat → Nat} {n : Nat} {sL : NL} {sA : NA}
variable {cc : ByteArray} {pc : Nat} {ls : Array Slot} {rest st0 : List Value}
/-- throw new E("text") in DroitLine, the world as it was at the start -/
theorem rc_throw {Qc : Array Value → State → Outcome → State → Prop} {mc ms : Nat} (hx : p.tables.exec = Jvm.exec) (hb : c.code = cc) (hts : ∀ w ∈ wNeed, w.before args s = true) (hown : s.vm.findClass "DroitLine" = some m.cls) (hC : GC D tI tJ tL A sg s) (hG : GW D tI tJ tL A ad n sL sA H) (hS : va_S A s.heap H locs) (hl : l.stackTraces = false) (hlocks : meth.locks = false) (hT : ∀ x ∈ c.exceptionTable.toList, False)
    {E text : String} {ik is ic code : Nat} (hE : XE E code) (hcls : Bundle.fit E = true) (hk : Cond.classLink "DroitLine" ik E ∈ wNeed) (hini : Cond.initialized E ∈ wNeed) (hstr : (is, text) ∈ strs)
    (hat : (∀ w ∈ (vx_atS "DroitLine" ic E xnames).filter goodWord, w ∈ lw_tbl) ∧ (∀ w ∈ (vx_atS "DroitLine" ic E xnames).filter (fun w => !goodWord w), w ∈ wBad) ∧ ∀ w ∈ Cond.classLink "DroitLine" ik E :: Cond.initialized E :: vx_atS "DroitLine" ic E xnames, vx_ot w = true)
    (hsz : ls.size = c.maxLocals) (d0 : decode cc pc = .ok (.new ik, 3)) (d3 : decode cc (pc + 3) = .ok (.dup, 1)) (d4 : decode cc (pc + 4) = .ok (.ldc is, 2)) (d6 : decode cc (pc + 6) = .ok (.invokespecial ic, 3)) (d9 : decode cc (pc + 9) = .ok (.athrow, 1))
    (hRf : 5 < R.frames) (hRl : (rest.map fun v => v.category).sum + 82 ≤ R.locals) (hRc : cells + 1 ≤ R.cells) (hRs : slots + 6 ≤ R.slots) (hc : cells + 1 ≤ mc) (hs : slots + 6 ≤ ms) :
    W p l e R s m args below meth c H locs cells slots (vx_MQ below Qc (XQ D tI tJ tL A ad n sL sA code) args s mc ms A) (F0 m pc ls rest) := by
  refine vx_throwS (own := "DroitLine") (cls := E) (text := text) (names := xnames) (sa := sg is) (A := A) hx hb hl hown hcls (by decide +kernel) (hts _ hk) (hts _ hini) (hC.2.2.2.2.1 _ hstr) ?_ hat.2.2 hC.2.2.1 hC.2.2.2.1 hS hsz d0 d3 d4 d6 d9 (fun x hx => (hT x hx).elim) hRf hRl hRc hRs hlocks ?_ hS.2.2 hc hs
  · refine vx_hat (B := wBad) (fun w hw => hts _ (List.mem_filter.mpr ⟨hat.1 w hw, (List.mem_filter.mp hw).2⟩)) hat.2.1 (fun w hw => ?_)
    have h1 := hC.2.2.2.2.2.1 w hw
    have h2 : w.onTables = true := by
      have h3 := (List.mem_filter.mp hw).2
      cases w <;> first | rfl | (simp [badKind] at h3; done)
    exact va_Nw.use h2 h1
  · intro t ht hz hq
    refine ⟨(), trivial, ⟨hE, hG.kept hq⟩, Nat.le_trans hS.1 hz, fun q h1 h2 => ?_⟩
    rw [hq q (Nat.lt_of_lt_of_le h1 hS.1)]
    exact hS.2.1 q h1 h2
/-- a static method of numbers alone -/
theorem rcS1 {y : MethodName} {bytes : ByteArray} {maxL nL index : Nat} {ret : Option FieldType} {rm : Room} {own : String} {As : List Value} {v : Int32} (hx : p.tables.exec = Jvm.exec) (hb : c.code = cc) (hml : c.maxLocals = nL) (hown : s.vm.findClass own = some m.cls) (hts : ∀ w ∈ wNeed, w.before args s = true)
    (hM : Met l y (Cond.code y bytes maxL ret :: wNeed) rm (fun v _ => v = As.toArray) (vp_Si fun r => r = v) 0 0 (fun _ => False)) (hg : GoodIn wNeed (wsS own index y (Cond.code y bytes maxL ret :: wNeed))) (hrc : rm.cells = 0) (hrs : rm.slots = 0)
    (hd : y.cls = own ∧ y.cls ≠ "java/lang/invoke/MethodHandle" ∧ y.cls ≠ "java/lang/invoke/VarHandle" ∧ (parseMethodDescriptor y.desc).map (fun d => d.parameters.length) = some As.length) (hR : rm.frames + 1 ≤ R.frames ∧ 8 + (maxL + 11) + rm.locals ≤ R.locals)
    (hsz : ls.size = nL) (hst : st0 = As.reverse ++ rest) (hr8 : (rest.map fun v => v.category).sum ≤ 8) (hdg : decode cc pc = .ok (.invokestatic index, 3)) (hf : cells + 0 ≤ R.cells ∧ slots + 0 ≤ R.slots)
    (kk : W p l e R s m args below meth c H locs cells slots Q (F0 m (pc + 3) ls (.int v :: rest))) : W p l e R s m args below meth c H locs cells slots Q (F0 m pc ls st0) := by
  refine vp_callSi (rest := rest) (W.runS (As := As) ⟨hx, hb, hml, hown, hts⟩ hM (cwS As.length hts hg rfl hrc hrs hd hR) preEq rfl rfl hsz hst (lv_room hr8) hdg hf) fun r hr => ?_
  rw [hr]
  exact kk
/-- a static method that reads the world -/
theorem rcS2 {y : MethodName} {bytes : ByteArray} {maxL nL index : Nat} {ret : Option FieldType} {rm : Room} {own : String} {As : List Value} {v : Int32} (hx : p.tables.exec = Jvm.exec) (hb : c.code = cc) (hml : c.maxLocals = nL) (hown : s.vm.findClass own = some m.cls) (hts : ∀ w ∈ wNeed, w.before args s = true) (hC : GC D tI tJ tL A sg s) (hG : GW D tI tJ tL A ad n sL sA H) (hS : va_S A s.heap H locs)
    (hM : Met l y (Cond.code y bytes maxL ret :: wNeed) rm (va_Pc As (GP D tI tJ tL A sg ad n sL sA)) (vp_Si fun r => r = v) 0 0 (fun _ => False)) (hg : GoodIn wNeed (wsS own index y (Cond.code y bytes maxL ret :: wNeed))) (hrc : rm.cells = 0) (hrs : rm.slots = 0)
    (hd : y.cls = own ∧ y.cls ≠ "java/lang/invoke/MethodHandle" ∧ y.cls ≠ "java/lang/invoke/VarHandle" ∧ (parseMethodDescriptor y.desc).map (fun d => d.parameters.length) = some As.length) (hR : rm.frames + 1 ≤ R.frames ∧ 8 + (maxL + 11) + rm.locals ≤ R.locals)
    (hsz : ls.size = nL) (hst : st0 = As.reverse ++ rest) (hr8 : (rest.map fun v => v.category).sum ≤ 8) (hdg : decode cc pc = .ok (.invokestatic index, 3)) (hf : cells + 0 ≤ R.cells ∧ slots + 0 ≤ R.slots)
    (kk : W p l e R s m args below meth c H locs cells slots Q (F0 m (pc + 3) ls (.int v :: rest))) : W p l e R s m args below meth c H locs cells slots Q (F0 m pc ls st0) := by
  refine vp_callSi (rest := rest) (W.runS (As := As) ⟨hx, hb, hml, hown, hts⟩ hM (cwS As.length hts hg rfl hrc hrs hd hR) ⟨GP.blind, fun U hU hW => ⟨rfl, GP.call hC hG hS hU hW⟩⟩ rfl rfl hsz hst (lv_room hr8) hdg hf) fun r hr => ?_
  rw [hr]
  exact kk
/-- a method that reads the world: int -/
theorem rcV2 {y : MethodName} {bytes : ByteArray} {maxL nL index b : Nat} {ret : Option FieldType} {rm : Room} {own : String} {As : List Value} {v : Int32} (hx : p.tables.exec = Jvm.exec) (hb : c.code = cc) (hml : c.maxLocals = nL) (hown : s.vm.findClass own = some m.cls) (hts : ∀ w ∈ wNeed, w.before args s = true) (hC : GC D tI tJ tL A sg s) (hG : GW D tI tJ tL A ad n sL sA H) (hS : va_S A s.heap H locs)
    (hM : Met l y (Cond.code y bytes maxL ret :: wNeed) rm (va_Pc (.ref b :: As) (GP D tI tJ tL A sg ad n sL sA)) (vp_Si fun r => r = v) 0 0 (fun _ => False)) (hrec : ∃ cell : Cell, H[b]? = some cell ∧ cell.vm.isStatics = false ∧ s.vm.findClass y.cls = some cell.cls) (hg : GoodIn wNeed (wsV own index y.cls y (Cond.code y bytes maxL ret :: wNeed))) (hrc : rm.cells = 0) (hrs : rm.slots = 0)
    (hd : y.cls = y.cls ∧ y.cls ≠ "java/lang/invoke/MethodHandle" ∧ y.cls ≠ "java/lang/invoke/VarHandle" ∧ (parseMethodDescriptor y.desc).map (fun d => d.parameters.length) = some As.length) (hR : rm.frames + 1 ≤ R.frames ∧ 8 + (maxL + 11) + rm.locals ≤ R.locals)
    (hsz : ls.size = nL) (hst : st0 = As.reverse ++ .ref b :: rest) (hr8 : (rest.map fun v => v.category).sum ≤ 8) (hdg : decode cc pc = .ok (.invokevirtual index, 3)) (hf : cells + 0 ≤ R.cells ∧ slots + 0 ≤ R.slots)
    (kk : W p l e R s m args below meth c H locs cells slots Q (F0 m (pc + 3) ls (.int v :: rest))) : W p l e R s m args below meth c H locs cells slots Q (F0 m pc ls st0) := by
  refine vp_callSi (rest := rest) (W.runV (As := As) (b := b) ⟨hx, hb, hml, hown, hts⟩ hM (cwV As.length hts hg rfl hrc hrs hd hR) ⟨GP.blind, hrec, fun U hU hW => ⟨rfl, GP.call hC hG hS hU hW⟩⟩ rfl rfl hsz hst (lv_room hr8) hdg hf) fun r hr => ?_
  rw [hr]
  exact kk
/-- .. long -/
theorem rcV2l {y : MethodName} {bytes : ByteArray} {maxL nL index b : Nat} {ret : Option FieldType} {rm : Room} {own : String} {As : List Value} {v : Int64} (hx : p.tables.exec = Jvm.exec) (hb : c.code = cc) (hml : c.maxLocals = nL) (hown : s.vm.findClass own = some m.cls) (hts : ∀ w ∈ wNeed, w.before args s = true) (hC : GC D tI tJ tL A sg s) (hG : GW D tI tJ tL A ad n sL sA H) (hS : va_S A s.heap H locs)
    (hM : Met l y (Cond.code y bytes maxL ret :: wNeed) rm (va_Pc (.ref b :: As) (GP D tI tJ tL A sg ad n sL sA)) (vp_Sl fun r => r = v) 0 0 (fun _ => False)) (hrec : ∃ cell : Cell, H[b]? = some cell ∧ cell.vm.isStatics = false ∧ s.vm.findClass y.cls = some cell.cls) (hg : GoodIn wNeed (wsV own index y.cls y (Cond.code y bytes maxL ret :: wNeed))) (hrc : rm.cells = 0) (hrs : rm.slots = 0)
    (hd : y.cls = y.cls ∧ y.cls ≠ "java/lang/invoke/MethodHandle" ∧ y.cls ≠ "java/lang/invoke/VarHandle" ∧ (parseMethodDescriptor y.desc).map (fun d => d.parameters.length) = some As.length) (hR : rm.frames + 1 ≤ R.frames ∧ 8 + (maxL + 11) + rm.locals ≤ R.locals)
    (hsz : ls.size = nL) (hst : st0 = As.reverse ++ .ref b :: rest) (hr8 : (rest.map fun v => v.category).sum ≤ 8) (hdg : decode cc pc = .ok (.invokevirtual index, 3)) (hf : cells + 0 ≤ R.cells ∧ slots + 0 ≤ R.slots)
    (kk : W p l e R s m args below meth c H locs cells slots Q (F0 m (pc + 3) ls (.long v :: rest))) : W p l e R s m args below meth c H locs cells slots Q (F0 m pc ls st0) := by
  refine vp_callSl (rest := rest) (W.runV (As := As) (b := b) ⟨hx, hb, hml, hown, hts⟩ hM (cwV As.length hts hg rfl hrc hrs hd hR) ⟨GP.blind, hrec, fun U hU hW => ⟨rfl, GP.call hC hG hS hU hW⟩⟩ rfl rfl hsz hst (lv_room hr8) hdg hf) fun r hr => ?_
  rw [hr]
  exact kk
/-- a method that changes the world: int, long, nothing -/
theorem rcV3 {y : MethodName} {bytes : ByteArray} {maxL nL index b mc ms : Nat} {ret : Option FieldType} {rm : Room} {own : String} {As : List Value} {F : Int32 × NL × NA} (hx : p.tables.exec = Jvm.exec) (hb : c.code = cc) (hml : c.maxLocals = nL) (hown : s.vm.findClass own = some m.cls) (hts : ∀ w ∈ wNeed, w.before args s = true) (hC : GC D tI tJ tL A sg s) (hG : GW D tI tJ tL A ad n sL sA H) (hS : va_S A s.heap H locs)
    (hM : Met l y (Cond.code y bytes maxL ret :: wNeed) rm (va_Pc (.ref b :: As) (GP D tI tJ tL A sg ad n sL sA)) (va_Qi (fun r (u : NL × NA) => F = (r, u.1, u.2)) (fun u t => GW D tI tJ tL A ad n u.1 u.2 t.heap) A) mc ms A) (hrec : ∃ cell : Cell, H[b]? = some cell ∧ cell.vm.isStatics = false ∧ s.vm.findClass y.cls = some cell.cls) (hg : GoodIn wNeed (wsV own index y.cls y (Cond.code y bytes maxL ret :: wNeed))) (hrc : rm.cells = mc) (hrs : rm.slots = ms)
    (hd : y.cls = y.cls ∧ y.cls ≠ "java/lang/invoke/MethodHandle" ∧ y.cls ≠ "java/lang/invoke/VarHandle" ∧ (parseMethodDescriptor y.desc).map (fun d => d.parameters.length) = some As.length) (hR : rm.frames + 1 ≤ R.frames ∧ 8 + (maxL + 11) + rm.locals ≤ R.locals)
    (hsz : ls.size = nL) (hst : st0 = As.reverse ++ .ref b :: rest) (hr8 : (rest.map fun v => v.category).sum ≤ 8) (hdg : decode cc pc = .ok (.invokevirtual index, 3)) (hf : cells + mc ≤ R.cells ∧ slots + ms ≤ R.slots)
    (kk : ∀ (H1 : Heap) (locs1 : List Loc), GW D tI tJ tL A ad n F.2.1 F.2.2 H1 → va_S A s.heap H1 locs1 → W p l e R s m args below meth c H1 locs1 (cells + mc) (slots + ms) Q (F0 m (pc + 3) ls (.int F.1 :: rest))) : W p l e R s m args below meth c H locs cells slots Q (F0 m pc ls st0) := by
  refine va_calli (rest := rest) (va_runV (As := As) (b := b) ⟨hx, hb, hml, hown, hts⟩ hM (cwV As.length hts hg rfl hrc hrs hd hR) ⟨GP.blind, hrec, fun U hU hW => ⟨rfl, GP.call hC hG hS hU hW⟩⟩ rfl rfl hsz hst (lv_room hr8) hdg hf) hS (fun _ _ h => h) (fun _ h => h) fun r u t H1 locs1 ht hvm hw hB hz1 hk1 hS1 => ?_
  subst hw; subst ht
  exact kk _ _ hB hS1
theorem rcV3l {y : MethodName} {bytes : ByteArray} {maxL nL index b mc ms : Nat} {ret : Option FieldType} {rm : Room} {own : String} {As : List Value} {F : Int64 × NL × NA} (hx : p.tables.exec = Jvm.exec) (hb : c.code = cc) (hml : c.maxLocals = nL) (hown : s.vm.findClass own = some m.cls) (hts : ∀ w ∈ wNeed, w.before args s = true) (hC : GC D tI tJ tL A sg s) (hG : GW D tI tJ tL A ad n sL sA H) (hS : va_S A s.heap H locs)
    (hM : Met l y (Cond.code y bytes maxL ret :: wNeed) rm (va_Pc (.ref b :: As) (GP D tI tJ tL A sg ad n sL sA)) (va_Ql (fun r (u : NL × NA) => F = (r, u.1, u.2)) (fun u t => GW D tI tJ tL A ad n u.1 u.2 t.heap) A) mc ms A) (hrec : ∃ cell : Cell, H[b]? = some cell ∧ cell.vm.isStatics = false ∧ s.vm.findClass y.cls = some cell.cls) (hg : GoodIn wNeed (wsV own index y.cls y (Cond.code y bytes maxL ret :: wNeed))) (hrc : rm.cells = mc) (hrs : rm.slots = ms)
    (hd : y.cls = y.cls ∧ y.cls ≠ "java/lang/invoke/MethodHandle" ∧ y.cls ≠ "java/lang/invoke/VarHandle" ∧ (parseMethodDescriptor y.desc).map (fun d => d.parameters.length) = some As.length) (hR : rm.frames + 1 ≤ R.frames ∧ 8 + (maxL + 11) + rm.locals ≤ R.locals)
    (hsz : ls.size = nL) (hst : st0 = As.reverse ++ .ref b :: rest) (hr8 : (rest.map fun v => v.category).sum ≤ 8) (hdg : decode cc pc = .ok (.invokevirtual index, 3)) (hf : cells + mc ≤ R.cells ∧ slots + ms ≤ R.slots)
    (kk : ∀ (H1 : Heap) (locs1 : List Loc), GW D tI tJ tL A ad n F.2.1 F.2.2 H1 → va_S A s.heap H1 locs1 → W p l e R s m args below meth c H1 locs1 (cells + mc) (slots + ms) Q (F0 m (pc + 3) ls (.long F.1 :: rest))) : W p l e R s m args below meth c H locs cells slots Q (F0 m pc ls st0) := by
  refine va_calll (rest := rest) (va_runV (As := As) (b := b) ⟨hx, hb, hml, hown, hts⟩ hM (cwV As.length hts hg rfl hrc hrs hd hR) ⟨GP.blind, hrec, fun U hU hW => ⟨rfl, GP.call hC hG hS hU hW⟩⟩ rfl rfl hsz hst (lv_room hr8) hdg hf) hS (fun _ _ h => h) (fun _ h => h) fun r u t H1 locs1 ht hvm hw hB hz1 hk1 hS1 => ?_
  subst hw; subst ht
  exact kk _ _ hB hS1
theorem rcV3v {y : MethodName} {bytes : ByteArray} {maxL nL index b mc ms : Nat} {ret : Option FieldType} {rm : Room} {own : String} {As : List Value} {F : NL × NA} (hx : p.tables.exec = Jvm.exec) (hb : c.code = cc) (hml : c.maxLocals = nL) (hown : s.vm.findClass own = some m.cls) (hts : ∀ w ∈ wNeed, w.before args s = true) (hC : GC D tI tJ tL A sg s) (hG : GW D tI tJ tL A ad n sL sA H) (hS : va_S A s.heap H locs)
    (hM : Met l y (Cond.code y bytes maxL ret :: wNeed) rm (va_Pc (.ref b :: As) (GP D tI tJ tL A sg ad n sL sA)) (va_Qv (fun u : NL × NA => F = u) (fun u t => GW D tI tJ tL A ad n u.1 u.2 t.heap) A) mc ms A) (hrec : ∃ cell : Cell, H[b]? = some cell ∧ cell.vm.isStatics = false ∧ s.vm.findClass y.cls = some cell.cls) (hg : GoodIn wNeed (wsV own index y.cls y (Cond.code y bytes maxL ret :: wNeed))) (hrc : rm.cells = mc) (hrs : rm.slots = ms)
    (hd : y.cls = y.cls ∧ y.cls ≠ "java/lang/invoke/MethodHandle" ∧ y.cls ≠ "java/lang/invoke/VarHandle" ∧ (parseMethodDescriptor y.desc).map (fun d => d.parameters.length) = some As.length) (hR : rm.frames + 1 ≤ R.frames ∧ 8 + (maxL + 11) + rm.locals ≤ R.locals)
    (hsz : ls.size = nL) (hst : st0 = As.reverse ++ .ref b :: rest) (hr8 : (rest.map fun v => v.category).sum ≤ 8) (hdg : decode cc pc = .ok (.invokevirtual index, 3)) (hf : cells + mc ≤ R.cells ∧ slots + ms ≤ R.slots)
    (kk : ∀ (H1 : Heap) (locs1 : List Loc), GW D tI tJ tL A ad n F.1 F.2 H1 → va_S A s.heap H1 locs1 → W p l e R s m args below meth c H1 locs1 (cells + mc) (slots + ms) Q (F0 m (pc + 3) ls rest)) : W p l e R s m args below meth c H locs cells slots Q (F0 m pc ls st0) := by
  refine va_callv (rest := rest) (va_runV (As := As) (b := b) ⟨hx, hb, hml, hown, hts⟩ hM (cwV As.length hts hg rfl hrc hrs hd hR) ⟨GP.blind, hrec, fun U hU hW => ⟨rfl, GP.call hC hG hS hU hW⟩⟩ rfl rfl hsz hst (lv_room hr8) hdg hf) hS (fun _ _ h => h) (fun _ h => h) fun u t H1 locs1 ht hvm hw hB hz1 hk1 hS1 => ?_
  subst hw; subst ht
  exact kk _ _ hB hS1
/-- what comes out of a callee that throws goes on to the caller, the world as it was -/
theorem rc_pass {Qc : Array Value → State → Outcome → State → Prop} {mc ms k code : Nat} {E : String} {ce : Cell} {q9 : Addr} {st : List Value} (hlocks : meth.locks = false) (hT : ∀ x ∈ c.exceptionTable.toList, False) (hG : GW D tI tJ tL A ad n sL sA H) (hS : va_S A s.heap H locs) (hE : XE E k) (hpx : k ≠ 0 → code = k) (h1 : H[q9]? = some ce) (h2 : ce.vm = .none) (h3 : s.vm.findClass E = some ce.cls) (hc : cells ≤ mc) (hs : slots ≤ ms) :
    vx_W p l e R s m args below meth c H locs cells slots (vx_MQ below Qc (XQ D tI tJ tL A ad n sL sA code) args s mc ms A) (F0 m pc ls st) q9 := by
  refine vx_out (E := E) (ce := ce) (fun x hx => (hT x hx).elim) hlocks h1 h2 h3 (fun t ht hW => ⟨(), trivial, ⟨by rw [hpx hE.ne]; exact hE, by rw [ht]; exact hG⟩, hS.F ht⟩) hS.2.2 hc hs
/-- a static check that throws, or returns nothing -/
theorem rcS4 {y : MethodName} {bytes : ByteArray} {maxL nL index mc ms Mc Ms k code : Nat} {ret : Option FieldType} {rm : Room} {own : String} {As : List Value} {Qc : Array Value → State → Outcome → State → Prop} (hx : p.tables.exec = Jvm.exec) (hb : c.code = cc) (hml : c.maxLocals = nL) (hown : s.vm.findClass own = some m.cls) (hts : ∀ w ∈ wNeed, w.before args s = true) (hC : GC D tI tJ tL A sg s) (hG : GW D tI tJ tL A ad n sL sA H) (hS : va_S A s.heap H locs) (hlocks : meth.locks = false) (hT : ∀ x ∈ c.exceptionTable.toList, False)
    (hM : vx_Met l y (Cond.code y bytes maxL ret :: wNeed) rm (va_Pc As (GP D tI tJ tL A sg ad n sL sA)) (va_Qv (fun _ : Unit => k = 0) (fun _ t => GW D tI tJ tL A ad n sL sA t.heap) A) (XQ D tI tJ tL A ad n sL sA k) mc ms A) (hg : GoodIn wNeed (wsS own index y (Cond.code y bytes maxL ret :: wNeed))) (hrc : rm.cells = mc) (hrs : rm.slots = ms)
    (hd : y.cls = own ∧ y.cls ≠ "java/lang/invoke/MethodHandle" ∧ y.cls ≠ "java/lang/invoke/VarHandle" ∧ (parseMethodDescriptor y.desc).map (fun d => d.parameters.length) = some As.length) (hR : rm.frames + 1 ≤ R.frames ∧ 8 + (maxL + 11) + rm.locals ≤ R.locals)
    (hsz : ls.size = nL) (hst : st0 = As.reverse ++ rest) (hr8 : (rest.map fun v => v.category).sum ≤ 8) (hdg : decode cc pc = .ok (.invokestatic index, 3)) (hf : cells + mc ≤ R.cells ∧ slots + ms ≤ R.slots) (hM1 : cells + mc ≤ Mc ∧ slots + ms ≤ Ms) (hpx : k ≠ 0 → code = k)
    (kk : k = 0 → ∀ (H1 : Heap) (locs1 : List Loc), GW D tI tJ tL A ad n sL sA H1 → va_S A s.heap H1 locs1 → W p l e R s m args below meth c H1 locs1 (cells + mc) (slots + ms) (vx_MQ below Qc (XQ D tI tJ tL A ad n sL sA code) args s Mc Ms A) (F0 m (pc + 3) ls rest)) : W p l e R s m args below meth c H locs cells slots (vx_MQ below Qc (XQ D tI tJ tL A ad n sL sA code) args s Mc Ms A) (F0 m pc ls st0) := by
  refine vx_callv (rest := rest) (vx_runS (As := As) ⟨hx, hb, hml, hown, hts⟩ hM (cwS As.length hts hg rfl hrc hrs hd hR) ⟨GP.blind, fun U hU hW => ⟨rfl, GP.call hC hG hS hU hW⟩⟩ rfl rfl hsz hst (lv_room hr8) hdg hf) hS (fun _ _ h => h) (fun _ h => h) (fun _ _ h => h) ?_ ?_
  · intro E ce q9 u t H1 locs1 ht hvm hp hB hz1 hk1 hS1 g1 g2 g3
    subst ht
    exact rc_pass hlocks hT hB.2 hS1 hB.1 hpx g1 g2 g3 hM1.1 hM1.2
  · intro u t H1 locs1 ht hvm hp hB hz1 hk1 hS1
    subst ht
    exact kk hp _ _ hB hS1
/-- an instance method that throws, or answers a number, the world as it was -/
theorem rcV5r {y : MethodName} {bytes : ByteArray} {maxL nL index b mc ms Mc Ms code : Nat} {ret : Option FieldType} {rm : Room} {own : String} {As : List Value} {F : Nat × Int32} {Qc : Array Value → State → Outcome → State → Prop} (hx : p.tables.exec = Jvm.exec) (hb : c.code = cc) (hml : c.maxLocals = nL) (hown : s.vm.findClass own = some m.cls) (hts : ∀ w ∈ wNeed, w.before args s = true) (hC : GC D tI tJ tL A sg s) (hG : GW D tI tJ tL A ad n sL sA H) (hS : va_S A s.heap H locs) (hlocks : meth.locks = false) (hT : ∀ x ∈ c.exceptionTable.toList, False)
    (hM : vx_Met l y (Cond.code y bytes maxL ret :: wNeed) rm (va_Pc (.ref b :: As) (GP D tI tJ tL A sg ad n sL sA)) (va_Qi (fun r (_ : Unit) => F = (0, r)) (fun _ t => GW D tI tJ tL A ad n sL sA t.heap) A) (XQ D tI tJ tL A ad n sL sA F.1) mc ms A) (hrec : ∃ cell : Cell, H[b]? = some cell ∧ cell.vm.isStatics = false ∧ s.vm.findClass y.cls = some cell.cls) (hg : GoodIn wNeed (wsV own index y.cls y (Cond.code y bytes maxL ret :: wNeed))) (hrc : rm.cells = mc) (hrs : rm.slots = ms)
    (hd : y.cls = y.cls ∧ y.cls ≠ "java/lang/invoke/MethodHandle" ∧ y.cls ≠ "java/lang/invoke/VarHandle" ∧ (parseMethodDescriptor y.desc).map (fun d => d.parameters.length) = some As.length) (hR : rm.frames + 1 ≤ R.frames ∧ 8 + (maxL + 11) + rm.locals ≤ R.locals)
    (hsz : ls.size = nL) (hst : st0 = As.reverse ++ .ref b :: rest) (hr8 : (rest.map fun v => v.category).sum ≤ 8) (hdg : decode cc pc = .ok (.invokevirtual index, 3)) (hf : cells + mc ≤ R.cells ∧ slots + ms ≤ R.slots) (hM1 : cells + mc ≤ Mc ∧ slots + ms ≤ Ms) (hpx : F.1 ≠ 0 → code = F.1)
    (kk : F.1 = 0 → ∀ (H1 : Heap) (locs1 : List Loc), GW D tI tJ tL A ad n sL sA H1 → va_S A s.heap H1 locs1 → W p l e R s m args below meth c H1 locs1 (cells + mc) (slots + ms) (vx_MQ below Qc (XQ D tI tJ tL A ad n sL sA code) args s Mc Ms A) (F0 m (pc + 3) ls (.int F.2 :: rest))) : W p l e R s m args below meth c H locs cells slots (vx_MQ below Qc (XQ D tI tJ tL A ad n sL sA code) args s Mc Ms A) (F0 m pc ls st0) := by
  refine vx_calli (rest := rest) (vx_runV (As := As) (b := b) ⟨hx, hb, hml, hown, hts⟩ hM (cwV As.length hts hg rfl hrc hrs hd hR) ⟨GP.blind, hrec, fun U hU hW => ⟨rfl, GP.call hC hG hS hU hW⟩⟩ rfl rfl hsz hst (lv_room hr8) hdg hf) hS (fun _ _ h => h) (fun _ h => h) (fun _ _ h => h) ?_ ?_
  · intro E ce q9 u t H1 locs1 ht hvm hp hB hz1 hk1 hS1 g1 g2 g3
    subst ht
    exact rc_pass hlocks hT hB.2 hS1 hB.1 hpx g1 g2 g3 hM1.1 hM1.2
  · intro r u t H1 locs1 ht hvm hp hB hz1 hk1 hS1
    subst ht
    subst hp
    exact kk rfl _ _ hB hS1
/-- .. or changes the world and answers nothing -/
theorem rcV5v {y : MethodName} {bytes : ByteArray} {maxL nL index b mc ms Mc Ms code : Nat} {ret : Option FieldType} {rm : Room} {own : String} {As : List Value} {sL1 : NL} {sA1 : NA} {F : Nat × NL × NA} {Qc : Array Value → State → Outcome → State → Prop} (hx : p.tables.exec = Jvm.exec) (hb : c.code = cc) (hml : c.maxLocals = nL) (hown : s.vm.findClass own = some m.cls) (hts : ∀ w ∈ wNeed, w.before args s = true) (hC : GC D tI tJ tL A sg s) (hG : GW D tI tJ tL A ad n sL1 sA1 H) (hS : va_S A s.heap H locs) (hlocks : meth.locks = false) (hT : ∀ x ∈ c.exceptionTable.toList, False)
    (hM : vx_Met l y (Cond.code y bytes maxL ret :: wNeed) rm (va_Pc (.ref b :: As) (GP D tI tJ tL A sg ad n sL1 sA1)) (va_Qv (fun u : NL × NA => F = (0, u.1, u.2)) (fun u t => GW D tI tJ tL A ad n u.1 u.2 t.heap) A) (XQ D tI tJ tL A ad n sL1 sA1 F.1) mc ms A) (hrec : ∃ cell : Cell, H[b]? = some cell ∧ cell.vm.isStatics = false ∧ s.vm.findClass y.cls = some cell.cls) (hg : GoodIn wNeed (wsV own index y.cls y (Cond.code y bytes maxL ret :: wNeed))) (hrc : rm.cells = mc) (hrs : rm.slots = ms)
    (hd : y.cls = y.cls ∧ y.cls ≠ "java/lang/invoke/MethodHandle" ∧ y.cls ≠ "java/lang/invoke/VarHandle" ∧ (parseMethodDescriptor y.desc).map (fun d => d.parameters.length) = some As.length) (hR : rm.frames + 1 ≤ R.frames ∧ 8 + (maxL + 11) + rm.locals ≤ R.locals)
    (hsz : ls.size = nL) (hst : st0 = As.reverse ++ .ref b :: rest) (hr8 : (rest.map fun v => v.category).sum ≤ 8) (hdg : decode cc pc = .ok (.invokevirtual index, 3)) (hf : cells + mc ≤ R.cells ∧ slots + ms ≤ R.slots) (hM1 : cells + mc ≤ Mc ∧ slots + ms ≤ Ms) (hpx : F.1 = 0)
    (kk : ∀ (H1 : Heap) (locs1 : List Loc), GW D tI tJ tL A ad n F.2.1 F.2.2 H1 → va_S A s.heap H1 locs1 → W p l e R s m args below meth c H1 locs1 (cells + mc) (slots + ms) (vx_MQ below Qc (XQ D tI tJ tL A ad n sL sA code) args s Mc Ms A) (F0 m (pc + 3) ls rest)) : W p l e R s m args below meth c H locs cells slots (vx_MQ below Qc (XQ D tI tJ tL A ad n sL sA code) args s Mc Ms A) (F0 m pc ls st0) := by
  refine vx_callv (rest := rest) (vx_runV (As := As) (b := b) ⟨hx, hb, hml, hown, hts⟩ hM (cwV As.length hts hg rfl hrc hrs hd hR) ⟨GP.blind, hrec, fun U hU hW => ⟨rfl, GP.call hC hG hS hU hW⟩⟩ rfl rfl hsz hst (lv_room hr8) hdg hf) hS (fun _ _ h => h) (fun _ h => h) (fun _ _ h => h) ?_ ?_
  · intro E ce q9 u t H1 locs1 ht hvm hp hB hz1 hk1 hS1 g1 g2 g3
    exact absurd hpx hB.1.ne
  · intro u t H1 locs1 ht hvm hp hB hz1 hk1 hS1
    subst ht
    subst hp
    exact kk _ _ hB hS1
end G3
end
section
section G4
variable {p : Program} {l : Launch} {e : Env} {R : Room} {s : State} {m : MethodId} {args : Array Value} {below : List Frame} {meth : Method} {c : Code} {H : Heap} {locs : List Loc} {cells slots : Nat} {Q : State → Prop}
variable {D : va_G} {tI tJ tL : ClassId} {A : Nat → Prop} {sg ad : Nat → Nat} {n : Nat} {sL : NL} {sA : NA}
variable {cc : ByteArray} {pc : Nat} {ls : Array Slot} {rest st0 : List Value}
/-- a static check that is known not to throw here -/
theorem rcS4n {y : MethodName} {bytes : ByteArray} {maxL nL index mc ms k : Nat} {ret : Option FieldType} {rm : Room} {own : String} {As : List Value} (hx : p.tables.exec = Jvm.exec) (hb : c.code = cc) (hml : c.maxLocals = nL) (hown : s.vm.findClass own = some m.cls) (hts : ∀ w ∈ wNeed, w.before args s = true) (hC : GC D tI tJ tL A sg s) (hG : GW D tI tJ tL A ad n sL sA H) (hS : va_S A s.heap H locs)
    (hM : vx_Met l y (Cond.code y bytes maxL ret :: wNeed) rm (va_Pc As (GP D tI tJ tL A sg ad n sL sA)) (va_Qv (fun _ : Unit => k = 0) (fun _ t => GW D tI tJ tL A ad n sL sA t.heap) A) (XQ D tI tJ tL A ad n sL sA k) mc ms A) (hg : GoodIn wNeed (wsS own index y (Cond.code y bytes maxL ret :: wNeed))) (hrc : rm.cells = mc) (hrs : rm.slots = ms)
    (hd : y.cls = own ∧ y.cls ≠ "java/lang/invoke/MethodHandle" ∧ y.cls ≠ "java/lang/invoke/VarHandle" ∧ (parseMethodDescriptor y.desc).map (fun d => d.parameters.length) = some As.length) (hR : rm.frames + 1 ≤ R.frames ∧ 8 + (maxL + 11) + rm.locals ≤ R.locals)
    (hsz : ls.size = nL) (hst : st0 = As.reverse ++ rest) (hr8 : (rest.map fun v => v.category).sum ≤ 8) (hdg : decode cc pc = .ok (.invokestatic index, 3)) (hf : cells + mc ≤ R.cells ∧ slots + ms ≤ R.slots) (hk0 : k = 0)
    (kk : ∀ (H1 : Heap) (locs1 : List Loc), GW D tI tJ tL A ad n sL sA H1 → va_S A s.heap H1 locs1 → W p l e R s m args below meth c H1 locs1 (cells + mc) (slots + ms) Q (F0 m (pc + 3) ls rest)) : W p l e R s m args below meth c H locs cells slots Q (F0 m pc ls st0) := by
  refine vx_callv (rest := rest) (vx_runS (As := As) ⟨hx, hb, hml, hown, hts⟩ hM (cwS As.length hts hg rfl hrc hrs hd hR) ⟨GP.blind, fun U hU hW => ⟨rfl, GP.call hC hG hS hU hW⟩⟩ rfl rfl hsz hst (lv_room hr8) hdg hf) hS (fun _ _ h => h) (fun _ h => h) (fun _ _ h => h) ?_ ?_
  · intro E ce q9 u t H1 locs1 ht hvm hp hB hz1 hk1 hS1 g1 g2 g3
    exact absurd hk0 hB.1.ne
  · intro u t H1 locs1 ht hvm hp hB hz1 hk1 hS1
    subst ht
    exact kk _ _ hB hS1
/-- findLot: throws, or answers the lot of that number -/
theorem rcV5q {y : MethodName} {bytes : ByteArray} {maxL nL index b mc ms Mc Ms code : Nat} {ret : Option FieldType} {rm : Room} {own : String} {As : List Value} {p0 : Int32} {F : Option Nat} {Qc : Array Value → State → Outcome → State → Prop} (hx : p.tables.exec = Jvm.exec) (hb : c.code = cc) (hml : c.maxLocals = nL) (hown : s.vm.findClass own = some m.cls) (hts : ∀ w ∈ wNeed, w.before args s = true) (hC : GC D tI tJ tL A sg s) (hG : GW D tI tJ tL A ad n sL sA H) (hS : va_S A s.heap H locs) (hlocks : meth.locks = false) (hT : ∀ x ∈ c.exceptionTable.toList, False)
    (hM : vx_Met l y (Cond.code y bytes maxL ret :: wNeed) rm (va_Pc (.ref b :: As) (GP D tI tJ tL A sg ad n sL sA)) (va_Qq (fun r (i : Nat) => F = some i ∧ i < n ∧ p0 = nI i ∧ r = some (ad (4 * i + 11))) (fun _ t => GW D tI tJ tL A ad n sL sA t.heap) A) (XQ D tI tJ tL A ad n sL sA (if F = none then 1 else 0)) mc ms A) (hrec : ∃ cell : Cell, H[b]? = some cell ∧ cell.vm.isStatics = false ∧ s.vm.findClass y.cls = some cell.cls) (hg : GoodIn wNeed (wsV own index y.cls y (Cond.code y bytes maxL ret :: wNeed))) (hrc : rm.cells = mc) (hrs : rm.slots = ms)
    (hd : y.cls = y.cls ∧ y.cls ≠ "java/lang/invoke/MethodHandle" ∧ y.cls ≠ "java/lang/invoke/VarHandle" ∧ (parseMethodDescriptor y.desc).map (fun d => d.parameters.length) = some As.length) (hR : rm.frames + 1 ≤ R.frames ∧ 8 + (maxL + 11) + rm.locals ≤ R.locals)
    (hsz : ls.size = nL) (hst : st0 = As.reverse ++ .ref b :: rest) (hr8 : (rest.map fun v => v.category).sum ≤ 8) (hdg : decode cc pc = .ok (.invokevirtual index, 3)) (hf : cells + mc ≤ R.cells ∧ slots + ms ≤ R.slots) (hM1 : cells + mc ≤ Mc ∧ slots + ms ≤ Ms) (hpx : F = none → code = 1)
    (kk : ∀ (i : Nat), F = some i → i < n → p0 = nI i → ∀ (H1 : Heap) (locs1 : List Loc), GW D tI tJ tL A ad n sL sA H1 → va_S A s.heap H1 locs1 → W p l e R s m args below meth c H1 locs1 (cells + mc) (slots + ms) (vx_MQ below Qc (XQ D tI tJ tL A ad n sL sA code) args s Mc Ms A) (F0 m (pc + 3) ls (.ref (ad (4 * i + 11)) :: rest))) : W p l e R s m args below meth c H locs cells slots (vx_MQ below Qc (XQ D tI tJ tL A ad n sL sA code) args s Mc Ms A) (F0 m pc ls st0) := by
  refine vx_callq (rest := rest) (vx_runV (As := As) (b := b) ⟨hx, hb, hml, hown, hts⟩ hM (cwV As.length hts hg rfl hrc hrs hd hR) ⟨GP.blind, hrec, fun U hU hW => ⟨rfl, GP.call hC hG hS hU hW⟩⟩ rfl rfl hsz hst (lv_room hr8) hdg hf) hS (fun _ _ h => h) (fun _ h => h) (fun _ _ h => h) ?_ ?_
  · intro E ce q9 u t H1 locs1 ht hvm hp hB hz1 hk1 hS1 g1 g2 g3
    subst ht
    refine rc_pass hlocks hT hB.2 hS1 hB.1 (fun hk => ?_) g1 g2 g3 hM1.1 hM1.2
    by_cases hF : F = none
    · rw [if_pos hF]
      exact hpx hF
    · rw [if_neg hF] at hk
      exact absurd rfl hk
  · intro r i t H1 locs1 ht hvm hp hB hz1 hk1 hS1
    subst ht
    obtain ⟨h1, h2, h3, rfl⟩ := hp
    exact kk i h1 h2 h3 _ _ hB hS1
end G4
/-- a contract out of its body -/
theorem en_M {l : Launch} {y : MethodName} {rm : Room} {av : List Value} {P : State → Prop} {Qc : Array Value → State → Outcome → State → Prop} {mc ms : Nat} {free : Addr → Prop} {cc : ByteArray} {maxL : Nat} {ret : Option FieldType} (hy : plainName y.cls = true) (hle : (lg_sl av).length ≤ maxL)
    (body : ∀ (p : Program) (e : Env) (s : State) (m : MethodId) (below : List Frame) (meth : Method) (c : Code), p.tables.exec = Jvm.exec → c.code = cc → c.maxLocals = maxL → s.vm.findClass y.cls = some m.cls → (∀ w ∈ wNeed, w.before av.toArray s = true) → meth.sig.returnType = ret → meth.locks = false → meth.name = y.name → P s → ∀ ls : Array Slot, lv_has ls maxL (lv_args 0 av) →
      W p l e rm s m av.toArray below meth c s.heap [] 0 0 (MQ below Qc av.toArray s mc ms free) (F0 m 0 ls [])) : Met l y (Cond.code y cc maxL ret :: wNeed) rm (va_Pc av P) Qc mc ms free := by
  refine Met.ofW (cc := cc) (maxL := maxL) (ret := ret) hy rfl ?_
  intro p e s m args below meth c s₁ B hml hv
  obtain ⟨rfl, hP⟩ := hv
  have hts := atoms_spec (ws := Cond.code y cc maxL ret :: wNeed) B.pre
  rw [lg_entry_eq]
  exact body p e s m below meth c B.exec B.bytes hml (findClass_of_methodNamed B.named) (fun w hw => hts w (List.mem_cons_of_mem _ hw)) B.returns B.notSynchronized (name_of_methodNamed B.named B.method).1 hP _ (lv_entry av hle)
/-- .. of numbers alone -/
theorem en_N {l : Launch} {y : MethodName} {rm : Room} {av : List Value} {Qc : Array Value → State → Outcome → State → Prop} {mc ms : Nat} {free : Addr → Prop} {cc : ByteArray} {maxL : Nat} {ret : Option FieldType} (hy : plainName y.cls = true) (hle : (lg_sl av).length ≤ maxL)
    (body : ∀ (p : Program) (e : Env) (s : State) (m : MethodId) (below : List Frame) (meth : Method) (c : Code), p.tables.exec = Jvm.exec → c.code = cc → c.maxLocals = maxL → s.vm.findClass y.cls = some m.cls → (∀ w ∈ wNeed, w.before av.toArray s = true) → meth.sig.returnType = ret → meth.locks = false → ∀ ls : Array Slot, lv_has ls maxL (lv_args 0 av) →
      W p l e rm s m av.toArray below meth c s.heap [] 0 0 (MQ below Qc av.toArray s mc ms free) (F0 m 0 ls [])) : Met l y (Cond.code y cc maxL ret :: wNeed) rm (fun v _ => v = av.toArray) Qc mc ms free := by
  refine Met.ofW (cc := cc) (maxL := maxL) (ret := ret) hy rfl ?_
  intro p e s m args below meth c s₁ B hml hv
  subst hv
  have hts := atoms_spec (ws := Cond.code y cc maxL ret :: wNeed) B.pre
  rw [lg_entry_eq]
  exact body p e s m below meth c B.exec B.bytes hml (findClass_of_methodNamed B.named) (fun w hw => hts w (List.mem_cons_of_mem _ hw)) B.returns B.notSynchronized _ (lv_entry av hle)
/-- a contract of one that throws -/
theorem en_X {l : Launch} {y : MethodName} {rm : Room} {av : List Value} {P : State → Prop} {Qc : Array Value → State → Outcome → State → Prop} {XC : String → State → State → Prop} {mc ms : Nat} {free : Addr → Prop} {cc : ByteArray} {maxL : Nat} {ret : Option FieldType} (hy : plainName y.cls = true) (hle : (lg_sl av).length ≤ maxL)
    (body : ∀ (p : Program) (e : Env) (s : State) (m : MethodId) (below : List Frame) (meth : Method) (c : Code), p.tables.exec = Jvm.exec → c.code = cc → c.maxLocals = maxL → s.vm.findClass y.cls = some m.cls → (∀ w ∈ wNeed, w.before av.toArray s = true) → meth.sig.returnType = ret → meth.locks = false → (∀ x ∈ c.exceptionTable.toList, False) → P s → ∀ ls : Array Slot, lv_has ls maxL (lv_args 0 av) →
      W p l e rm s m av.toArray below meth c s.heap [] 0 0 (vx_MQ below Qc XC av.toArray s mc ms free) (F0 m 0 ls [])) : vx_Met l y (Cond.code y cc maxL ret :: wNeed) rm (va_Pc av P) Qc XC mc ms free := by
  refine vx_ofW (cc := cc) (maxL := maxL) (ret := ret) hy rfl ?_
  intro p e s m args below meth c s₁ B hml hT hv
  obtain ⟨rfl, hP⟩ := hv
  have hts := atoms_spec (ws := Cond.code y cc maxL ret :: wNeed) B.pre
  rw [lg_entry_eq]
  exact body p e s m below meth c B.exec B.bytes hml (findClass_of_methodNamed B.named) (fun w hw => hts w (List.mem_cons_of_mem _ hw)) B.returns B.notSynchronized hT hP _ (lv_entry av hle)
/-- the codes' chain: a check's code, then the rest -/
def bnd (k : Nat) {α : Type} (r : Nat × α) (z : α) : Nat × α := if k = 0 then r else (k, z)
theorem bnd_0 {k : Nat} {α : Type} {r : Nat × α} {z : α} (h : k = 0) : bnd k r z = r := if_pos h
theorem bnd_n {k : Nat} {α : Type} {r : Nat × α} {z : α} (h : k ≠ 0) : bnd k r z = (k, z) := if_neg h
def bndq {α : Type} (k : Option Nat) (r : Nat → Nat × α) (z : α) : Nat × α := match k with
  | none => (1, z)
  | some i => r i
theorem bndq_s {α : Type} {k : Option Nat} {r : Nat → Nat × α} {z : α} {i : Nat} (h : k = some i) : bndq k r z = r i := by rw [h]; rfl
theorem bndq_n {α : Type} {k : Option Nat} {r : Nat → Nat × α} {z : α} (h : k = none) : bndq k r z = (1, z) := by rw [h]; rfl
end
section
theorem z_219 : (Jvm.Cond.methodLinkNest "DroitLine$Lot" (23 : Nat) ({ cls := "DroitLine$Offers", name := "<init>", desc := "()V" } : Jvm.MethodName) "DroitLine") ∈ wBad := List.mem_filter.mpr ⟨List.mem_of_getElem? (i := 226) (by decide +kernel), rfl⟩
theorem z_226 : (Jvm.Cond.fieldLinkNest "DroitLine$Lot" (40 : Nat) "DroitLine$Offers" "count" "I" "DroitLine") ∈ wBad := List.mem_filter.mpr ⟨List.mem_of_getElem? (i := 233) (by decide +kernel), rfl⟩
theorem z_227 : (Jvm.Cond.fieldLinkNest "DroitLine" (110 : Nat) "DroitLine$Offers" "count" "I" "DroitLine") ∈ wBad := List.mem_filter.mpr ⟨List.mem_of_getElem? (i := 234) (by decide +kernel), rfl⟩
theorem z_236 : (Jvm.Cond.fieldLinkNest "DroitLine" (155 : Nat) "DroitLine$Lot" "seller" "I" "DroitLine") ∈ wBad := List.mem_filter.mpr ⟨List.mem_of_getElem? (i := 243) (by decide +kernel), rfl⟩
theorem z_238 : (Jvm.Cond.fieldLinkNest "DroitLine" (209 : Nat) "DroitLine$Lot" "artist" "I" "DroitLine") ∈ wBad := List.mem_filter.mpr ⟨List.mem_of_getElem? (i := 245) (by decide +kernel), rfl⟩
theorem z_240 : (Jvm.Cond.fieldLinkNest "DroitLine" (65 : Nat) "DroitLine$Lot" "offers" "LDroitLine$Offers;" "DroitLine") ∈ wBad := List.mem_filter.mpr ⟨List.mem_of_getElem? (i := 247) (by decide +kernel), rfl⟩
theorem z_242 : (Jvm.Cond.fieldLinkNest "DroitLine" (82 : Nat) "DroitLine$Lot" "reserve" "I" "DroitLine") ∈ wBad := List.mem_filter.mpr ⟨List.mem_of_getElem? (i := 249) (by decide +kernel), rfl⟩
theorem z_244 : (Jvm.Cond.fieldLinkNest "DroitLine" (85 : Nat) "DroitLine$Lot" "state" "I" "DroitLine") ∈ wBad := List.mem_filter.mpr ⟨List.mem_of_getElem? (i := 251) (by decide +kernel), rfl⟩
theorem z_246 : (Jvm.Cond.fieldLinkNest "DroitLine" (91 : Nat) "DroitLine$Lot" "winner" "I" "DroitLine") ∈ wBad := List.mem_filter.mpr ⟨List.mem_of_getElem? (i := 253) (by decide +kernel), rfl⟩
theorem z_248 : (Jvm.Cond.fieldLinkNest "DroitLine" (101 : Nat) "DroitLine$Lot" "hammerPrice" "I" "DroitLine") ∈ wBad := List.mem_filter.mpr ⟨List.mem_of_getElem? (i := 255) (by decide +kernel), rfl⟩
theorem z_249 : (Jvm.Cond.fieldLinkNest "DroitLine" (107 : Nat) "DroitLine$Lot" "saleYear" "I" "DroitLine") ∈ wBad := List.mem_filter.mpr ⟨List.mem_of_getElem? (i := 256) (by decide +kernel), rfl⟩
theorem z_251 : (Jvm.Cond.fieldLinkNest "DroitLine" (130 : Nat) "DroitLine$Lot" "gapBuyer" "I" "DroitLine") ∈ wBad := List.mem_filter.mpr ⟨List.mem_of_getElem? (i := 258) (by decide +kernel), rfl⟩
theorem z_252 : (Jvm.Cond.fieldLinkNest "DroitLine" (133 : Nat) "DroitLine$Lot" "gapPrice" "I" "DroitLine") ∈ wBad := List.mem_filter.mpr ⟨List.mem_of_getElem? (i := 259) (by decide +kernel), rfl⟩
theorem z_254 : (Jvm.Cond.fieldLinkNest "DroitLine" (144 : Nat) "DroitLine$Lot" "advanced" "I" "DroitLine") ∈ wBad := List.mem_filter.mpr ⟨List.mem_of_getElem? (i := 261) (by decide +kernel), rfl⟩
theorem z_255 : (Jvm.Cond.fieldLinkNest "DroitLine" (149 : Nat) "DroitLine$Lot" "advanceDay" "I" "DroitLine") ∈ wBad := List.mem_filter.mpr ⟨List.mem_of_getElem? (i := 262) (by decide +kernel), rfl⟩
theorem z_256 : (Jvm.Cond.fieldLinkNest "DroitLine" (168 : Nat) "DroitLine$Lot" "interestAtSettling" "I" "DroitLine") ∈ wBad := List.mem_filter.mpr ⟨List.mem_of_getElem? (i := 263) (by decide +kernel), rfl⟩
/-- a contract over the world out of its body, the heap named -/
theorem en_G {l : Launch} {y : MethodName} {rm : Room} {av : List Value} {D : va_G} {tI tJ tL : ClassId} {A : Nat → Prop} {sg ad : Nat → Nat} {n : Nat} {sL : NL} {sA : NA} {Qc : Array Value → State → Outcome → State → Prop} {mc ms : Nat} {free : Addr → Prop} {cc : ByteArray} {maxL : Nat} {ret : Option FieldType} (hy : plainName y.cls = true) (hle : (lg_sl av).length ≤ maxL)
    (body : ∀ (p : Program) (e : Env) (s : State) (m : MethodId) (below : List Frame) (meth : Method) (c : Code), p.tables.exec = Jvm.exec → c.code = cc → c.maxLocals = maxL → s.vm.findClass y.cls = some m.cls → (∀ w ∈ wNeed, w.before av.toArray s = true) → meth.sig.returnType = ret → meth.locks = false → meth.name = y.name → GC D tI tJ tL A sg s → ∀ (H : Heap) (locs : List Loc), GW D tI tJ tL A ad n sL sA H → va_S A s.heap H locs → ∀ ls : Array Slot, lv_has ls maxL (lv_args 0 av) →
      W p l e rm s m av.toArray below meth c H locs 0 0 (MQ below Qc av.toArray s mc ms free) (F0 m 0 ls [])) : Met l y (Cond.code y cc maxL ret :: wNeed) rm (va_Pc av (GP D tI tJ tL A sg ad n sL sA)) Qc mc ms free :=
  en_M hy hle fun p e s m below meth c h1 h2 h3 h4 h5 h6 h7 h8 hP ls hl => body p e s m below meth c h1 h2 h3 h4 h5 h6 h7 h8 hP.2 s.heap [] hP.1 va_S.rf ls hl
theorem en_XG {l : Launch} {y : MethodName} {rm : Room} {av : List Value} {D : va_G} {tI tJ tL : ClassId} {A : Nat → Prop} {sg ad : Nat → Nat} {n : Nat} {sL : NL} {sA : NA} {Qc : Array Value → State → Outcome → State → Prop} {XC : String → State → State → Prop} {mc ms : Nat} {free : Addr → Prop} {cc : ByteArray} {maxL : Nat} {ret : Option FieldType} (hy : plainName y.cls = true) (hle : (lg_sl av).length ≤ maxL)
    (body : ∀ (p : Program) (e : Env) (s : State) (m : MethodId) (below : List Frame) (meth : Method) (c : Code), p.tables.exec = Jvm.exec → c.code = cc → c.maxLocals = maxL → s.vm.findClass y.cls = some m.cls → (∀ w ∈ wNeed, w.before av.toArray s = true) → meth.sig.returnType = ret → meth.locks = false → (∀ x ∈ c.exceptionTable.toList, False) → GC D tI tJ tL A sg s → ∀ (H : Heap) (locs : List Loc), GW D tI tJ tL A ad n sL sA H → va_S A s.heap H locs → ∀ ls : Array Slot, lv_has ls maxL (lv_args 0 av) →
      W p l e rm s m av.toArray below meth c H locs 0 0 (vx_MQ below Qc XC av.toArray s mc ms free) (F0 m 0 ls [])) : vx_Met l y (Cond.code y cc maxL ret :: wNeed) rm (va_Pc av (GP D tI tJ tL A sg ad n sL sA)) Qc XC mc ms free :=
  en_X hy hle fun p e s m below meth c h1 h2 h3 h4 h5 h6 h7 h8 hP ls hl => body p e s m below meth c h1 h2 h3 h4 h5 h6 h7 h8 hP.2 s.heap [] hP.1 va_S.rf ls hl
abbrev imax (x y : Int32) : Int32 := if x < y then y else x
abbrev imin (x y : Int32) : Int32 := if y < x then y else x
def bnd4 (k r : Nat) : Nat := if k = 0 then r else k
theorem bnd4_0 {k r : Nat} (h : k = 0) : bnd4 k r = r := if_pos h
theorem gw_at {D : va_G} {tI tJ tL : ClassId} {A : Nat → Prop} {ad : Nat → Nat} {n : Nat} {sL : NL} {sA : NA} {H : Heap} {t : State} (h : GW D tI tJ tL A ad n sL sA H) (ht : t.heap = H) : GW D tI tJ tL A ad n sL sA t.heap := by rw [ht]; exact h
theorem nar01 {v : Int32} (h : v = 0 ∨ v = 1) : narrow FieldType.boolean (.int v) = .int v := by
  rcases h with rfl | rfl <;> rfl
theorem bnd4_n {k r : Nat} (h : k ≠ 0) : bnd4 k r = k := if_neg h
def fX_stepOf (p0 : Int32) : Int32 := if 1000 ≤ p0 then (if 5000 ≤ p0 then (if 20000 ≤ p0 then 1000 else 500) else 100) else 50
theorem hdyX_stepOf : yX_stepOf.cls ≠ "java/lang/invoke/MethodHandle" ∧ yX_stepOf.cls ≠ "java/lang/invoke/VarHandle" ∧ (parseMethodDescriptor yX_stepOf.desc).map (fun d => d.parameters.length) = some 1 := by decide +kernel
theorem dX_stepOf_0 : decode bX_stepOf 0 = .ok (.iload_n 0, 1) := by decide +kernel
theorem dX_stepOf_1 : decode bX_stepOf 1 = .ok (.sipush 1000, 3) := by decide +kernel
theorem dX_stepOf_4 : decode bX_stepOf 4 = .ok (.if_icmp .ge 6, 3) := by decide +kernel
theorem dX_stepOf_7 : decode bX_stepOf 7 = .ok (.bipush 50, 2) := by decide +kernel
theorem dX_stepOf_9 : decode bX_stepOf 9 = .ok (.ireturn, 1) := by decide +kernel
theorem dX_stepOf_10 : decode bX_stepOf 10 = .ok (.iload_n 0, 1) := by decide +kernel
theorem dX_stepOf_11 : decode bX_stepOf 11 = .ok (.sipush 5000, 3) := by decide +kernel
theorem dX_stepOf_14 : decode bX_stepOf 14 = .ok (.if_icmp .ge 6, 3) := by decide +kernel
theorem dX_stepOf_17 : decode bX_stepOf 17 = .ok (.bipush 100, 2) := by decide +kernel
theorem dX_stepOf_19 : decode bX_stepOf 19 = .ok (.ireturn, 1) := by decide +kernel
theorem dX_stepOf_20 : decode bX_stepOf 20 = .ok (.iload_n 0, 1) := by decide +kernel
theorem dX_stepOf_21 : decode bX_stepOf 21 = .ok (.sipush 20000, 3) := by decide +kernel
theorem dX_stepOf_24 : decode bX_stepOf 24 = .ok (.if_icmp .ge 9, 3) := by decide +kernel
theorem dX_stepOf_27 : decode bX_stepOf 27 = .ok (.sipush 500, 3) := by decide +kernel
theorem dX_stepOf_30 : decode bX_stepOf 30 = .ok (.goto 6, 3) := by decide +kernel
theorem dX_stepOf_33 : decode bX_stepOf 33 = .ok (.sipush 1000, 3) := by decide +kernel
theorem dX_stepOf_36 : decode bX_stepOf 36 = .ok (.ireturn, 1) := by decide +kernel
set_option maxHeartbeats 4000000 in
set_option maxRecDepth 100000 in
theorem cX_stepOf (l : Launch) (p0 : Int32) : Met l yX_stepOf (Cond.code yX_stepOf bX_stepOf 1 (some FieldType.int) :: wNeed) { frames := 0, cells := 0, slots := 0, locals := 0 } (fun v _ => v = ([.int p0] : List Value).toArray) (vp_Si fun r => r = fX_stepOf p0) 0 0 (fun _ => False) := by
  refine en_N (av := [.int p0]) (by decide) (Nat.le_of_ble_eq_true rfl) ?_
  intro p e s m below meth c hx hb hml hown hts hr hlocks ls hl
  replace hl : lv_has ls 1 [(0, .int p0)] := hl
  refine lv_iload_n hx hb dX_stepOf_0 rfl (lv_at hl 0 rfl) ?_
  refine lv_sipush (v := 1000) hx hb dX_stepOf_1 (by decide) ?_
  refine lv_icmp_ge (tgt := 10) hx hb dX_stepOf_4 (by decide) (fun c_1 => ?_) (fun c_1 => ?_)
  · refine lv_iload_n hx hb dX_stepOf_10 rfl (lv_at hl 0 rfl) ?_
    refine lv_sipush (v := 5000) hx hb dX_stepOf_11 (by decide) ?_
    refine lv_icmp_ge (tgt := 20) hx hb dX_stepOf_14 (by decide) (fun c_2 => ?_) (fun c_2 => ?_)
    · refine lv_iload_n hx hb dX_stepOf_20 rfl (lv_at hl 0 rfl) ?_
      refine lv_sipush (v := 20000) hx hb dX_stepOf_21 (by decide) ?_
      refine lv_icmp_ge (tgt := 33) hx hb dX_stepOf_24 (by decide) (fun c_3 => ?_) (fun c_3 => ?_)
      · refine lv_sipush (v := 1000) hx hb dX_stepOf_33 (by decide) ?_
        exact W.iret (v := 1000) hx hb hr (fun t ht hW => ⟨_, rfl, (by rw [fX_stepOf, if_pos c_1, if_pos c_2, if_pos c_3] <;> rfl), ht⟩) (fun q h => nomatch h) dX_stepOf_36
      · refine lv_sipush (v := 500) hx hb dX_stepOf_27 (by decide) ?_
        refine lv_goto (tgt := 36) hx hb dX_stepOf_30 (by decide) ?_
        exact W.iret (v := 500) hx hb hr (fun t ht hW => ⟨_, rfl, (by rw [fX_stepOf, if_pos c_1, if_pos c_2, if_neg c_3] <;> rfl), ht⟩) (fun q h => nomatch h) dX_stepOf_36
    · refine lv_bipush (v := 100) hx hb dX_stepOf_17 (by decide) ?_
      exact W.iret (v := 100) hx hb hr (fun t ht hW => ⟨_, rfl, (by rw [fX_stepOf, if_pos c_1, if_neg c_2] <;> rfl), ht⟩) (fun q h => nomatch h) dX_stepOf_19
  · refine lv_bipush (v := 50) hx hb dX_stepOf_7 (by decide) ?_
    exact W.iret (v := 50) hx hb hr (fun t ht hW => ⟨_, rfl, (by rw [fX_stepOf, if_neg c_1] <;> rfl), ht⟩) (fun q h => nomatch h) dX_stepOf_9
theorem step_ne (p : Int32) : ¬ fX_stepOf p = 0 := by
  unfold fX_stepOf
  split
  · split
    · split <;> decide
    · decide
  · decide
def fX_calledAmount (p0 : Int32) : Int32 := if (fX_stepOf p0) ≤ 0 then p0 else (p0 / (fX_stepOf p0)) * (fX_stepOf p0)
theorem hdyX_calledAmount : yX_calledAmount.cls ≠ "java/lang/invoke/MethodHandle" ∧ yX_calledAmount.cls ≠ "java/lang/invoke/VarHandle" ∧ (parseMethodDescriptor yX_calledAmount.desc).map (fun d => d.parameters.length) = some 1 := by decide +kernel
theorem dX_calledAmount_0 : decode bX_calledAmount 0 = .ok (.iload_n 0, 1) := by decide +kernel
theorem dX_calledAmount_1 : decode bX_calledAmount 1 = .ok (.invokestatic 192, 3) := by decide +kernel
theorem dX_calledAmount_4 : decode bX_calledAmount 4 = .ok (.istore_n 1, 1) := by decide +kernel
theorem dX_calledAmount_5 : decode bX_calledAmount 5 = .ok (.iload_n 1, 1) := by decide +kernel
theorem dX_calledAmount_6 : decode bX_calledAmount 6 = .ok (.ifCond .le 11, 3) := by decide +kernel
theorem dX_calledAmount_9 : decode bX_calledAmount 9 = .ok (.iload_n 0, 1) := by decide +kernel
theorem dX_calledAmount_10 : decode bX_calledAmount 10 = .ok (.iload_n 1, 1) := by decide +kernel
theorem dX_calledAmount_11 : decode bX_calledAmount 11 = .ok (.idiv, 1) := by decide +kernel
theorem dX_calledAmount_12 : decode bX_calledAmount 12 = .ok (.iload_n 1, 1) := by decide +kernel
theorem dX_calledAmount_13 : decode bX_calledAmount 13 = .ok (.imul, 1) := by decide +kernel
theorem dX_calledAmount_14 : decode bX_calledAmount 14 = .ok (.goto 4, 3) := by decide +kernel
theorem dX_calledAmount_17 : decode bX_calledAmount 17 = .ok (.iload_n 0, 1) := by decide +kernel
theorem dX_calledAmount_18 : decode bX_calledAmount 18 = .ok (.ireturn, 1) := by decide +kernel
set_option maxHeartbeats 4000000 in
set_option maxRecDepth 100000 in
theorem cX_calledAmount (l : Launch) (p0 : Int32) : Met l yX_calledAmount (Cond.code yX_calledAmount bX_calledAmount 2 (some FieldType.int) :: wNeed) { frames := 1, cells := 0, slots := 0, locals := 20 } (fun v _ => v = ([.int p0] : List Value).toArray) (vp_Si fun r => r = fX_calledAmount p0) 0 0 (fun _ => False) := by
  refine en_N (av := [.int p0]) (by decide) (Nat.le_of_ble_eq_true rfl) ?_
  intro p e s m below meth c hx hb hml hown hts hr hlocks ls hl
  replace hl : lv_has ls 2 [(0, .int p0)] := hl
  refine lv_iload_n hx hb dX_calledAmount_0 rfl (lv_at hl 0 rfl) ?_
  refine rcS1 (rest := []) (As := [.int p0]) hx hb hml hown hts (cX_stepOf l p0) (gS q_210 q_211 q_1 q_212) rfl rfl ⟨rfl, hdyX_stepOf⟩ ⟨Nat.le_of_ble_eq_true rfl, Nat.le_of_ble_eq_true rfl⟩ hl.1 rfl (Nat.le_of_ble_eq_true rfl) dX_calledAmount_1 ⟨Nat.le_of_ble_eq_true rfl, Nat.le_of_ble_eq_true rfl⟩ ?_
  refine lv_istore_n (lv' := [(1, .int (fX_stepOf p0)), (0, .int p0)]) hx hb dX_calledAmount_4 rfl hl (by decide) rfl (fun ls hl => ?_)
  refine lv_iload_n hx hb dX_calledAmount_5 rfl (lv_at hl 0 rfl) ?_
  refine lv_if_le (tgt := 17) hx hb dX_calledAmount_6 (by decide) (fun c_1 => ?_) (fun c_1 => ?_)
  · refine lv_iload_n hx hb dX_calledAmount_17 rfl (lv_at hl 1 rfl) ?_
    exact W.iret (v := p0) hx hb hr (fun t ht hW => ⟨_, rfl, (by rw [fX_calledAmount, if_pos c_1] <;> rfl), ht⟩) (fun q h => nomatch h) dX_calledAmount_18
  · refine lv_iload_n hx hb dX_calledAmount_9 rfl (lv_at hl 1 rfl) ?_
    refine lv_iload_n hx hb dX_calledAmount_10 rfl (lv_at hl 0 rfl) ?_
    refine lv_idiv hx hb dX_calledAmount_11 (step_ne _) ?_
    refine lv_iload_n hx hb dX_calledAmount_12 rfl (lv_at hl 0 rfl) ?_
    refine lv_imul hx hb dX_calledAmount_13 ?_
    refine lv_goto (tgt := 18) hx hb dX_calledAmount_14 (by decide) ?_
    exact W.iret (v := (p0 / (fX_stepOf p0)) * (fX_stepOf p0)) hx hb hr (fun t ht hW => ⟨_, rfl, (by rw [fX_calledAmount, if_neg c_1] <;> rfl), ht⟩) (fun q h => nomatch h) dX_calledAmount_18
def fX_priceFor (p0 : Int32) (p1 : Int32) (p2 : Int32) : Int32 := if p2 = (-1) then (if p0 = 0 then imin 50 p1 else p0) else imin p1 (imax p0 (p2 + (fX_stepOf p2)))
theorem hdyX_priceFor : yX_priceFor.cls ≠ "java/lang/invoke/MethodHandle" ∧ yX_priceFor.cls ≠ "java/lang/invoke/VarHandle" ∧ (parseMethodDescriptor yX_priceFor.desc).map (fun d => d.parameters.length) = some 3 := by decide +kernel
theorem dX_priceFor_0 : decode bX_priceFor 0 = .ok (.iload_n 2, 1) := by decide +kernel
theorem dX_priceFor_1 : decode bX_priceFor 1 = .ok (.iconst (-1), 1) := by decide +kernel
theorem dX_priceFor_2 : decode bX_priceFor 2 = .ok (.if_icmp .ne 18, 3) := by decide +kernel
theorem dX_priceFor_5 : decode bX_priceFor 5 = .ok (.iload_n 0, 1) := by decide +kernel
theorem dX_priceFor_6 : decode bX_priceFor 6 = .ok (.ifCond .ne 12, 3) := by decide +kernel
theorem dX_priceFor_9 : decode bX_priceFor 9 = .ok (.bipush 50, 2) := by decide +kernel
theorem dX_priceFor_11 : decode bX_priceFor 11 = .ok (.iload_n 1, 1) := by decide +kernel
theorem dX_priceFor_12 : decode bX_priceFor 12 = .ok (.invokestatic 195, 3) := by decide +kernel
theorem dX_priceFor_15 : decode bX_priceFor 15 = .ok (.goto 4, 3) := by decide +kernel
theorem dX_priceFor_18 : decode bX_priceFor 18 = .ok (.iload_n 0, 1) := by decide +kernel
theorem dX_priceFor_19 : decode bX_priceFor 19 = .ok (.ireturn, 1) := by decide +kernel
theorem dX_priceFor_20 : decode bX_priceFor 20 = .ok (.iload_n 2, 1) := by decide +kernel
theorem dX_priceFor_21 : decode bX_priceFor 21 = .ok (.iload_n 2, 1) := by decide +kernel
theorem dX_priceFor_22 : decode bX_priceFor 22 = .ok (.invokestatic 192, 3) := by decide +kernel
theorem dX_priceFor_25 : decode bX_priceFor 25 = .ok (.iadd, 1) := by decide +kernel
theorem dX_priceFor_26 : decode bX_priceFor 26 = .ok (.istore_n 3, 1) := by decide +kernel
theorem dX_priceFor_27 : decode bX_priceFor 27 = .ok (.iload_n 1, 1) := by decide +kernel
theorem dX_priceFor_28 : decode bX_priceFor 28 = .ok (.iload_n 0, 1) := by decide +kernel
theorem dX_priceFor_29 : decode bX_priceFor 29 = .ok (.iload_n 3, 1) := by decide +kernel
theorem dX_priceFor_30 : decode bX_priceFor 30 = .ok (.invokestatic 201, 3) := by decide +kernel
theorem dX_priceFor_33 : decode bX_priceFor 33 = .ok (.invokestatic 195, 3) := by decide +kernel
theorem dX_priceFor_36 : decode bX_priceFor 36 = .ok (.ireturn, 1) := by decide +kernel
set_option maxHeartbeats 4000000 in
set_option maxRecDepth 100000 in
theorem cX_priceFor (l : Launch) (p0 : Int32) (p1 : Int32) (p2 : Int32) : Met l yX_priceFor (Cond.code yX_priceFor bX_priceFor 4 (some FieldType.int) :: wNeed) { frames := 1, cells := 0, slots := 0, locals := 21 } (fun v _ => v = ([.int p0, .int p1, .int p2] : List Value).toArray) (vp_Si fun r => r = fX_priceFor p0 p1 p2) 0 0 (fun _ => False) := by
  refine en_N (av := [.int p0, .int p1, .int p2]) (by decide) (Nat.le_of_ble_eq_true rfl) ?_
  intro p e s m below meth c hx hb hml hown hts hr hlocks ls hl
  replace hl : lv_has ls 4 [(0, .int p0), (1, .int p1), (2, .int p2)] := hl
  refine lv_iload_n hx hb dX_priceFor_0 rfl (lv_at hl 2 rfl) ?_
  refine lv_iconst (v := (-1)) hx hb dX_priceFor_1 (by decide) ?_
  refine lv_icmp_ne (tgt := 20) hx hb dX_priceFor_2 (by decide) (fun c_1 => ?_) (fun c_1 => ?_)
  · refine lv_iload_n hx hb dX_priceFor_20 rfl (lv_at hl 2 rfl) ?_
    refine lv_iload_n hx hb dX_priceFor_21 rfl (lv_at hl 2 rfl) ?_
    refine rcS1 (rest := [.int p2]) (As := [.int p2]) hx hb hml hown hts (cX_stepOf l p2) (gS q_210 q_211 q_1 q_212) rfl rfl ⟨rfl, hdyX_stepOf⟩ ⟨Nat.le_of_ble_eq_true rfl, Nat.le_of_ble_eq_true rfl⟩ hl.1 rfl (Nat.le_of_ble_eq_true rfl) dX_priceFor_22 ⟨Nat.le_of_ble_eq_true rfl, Nat.le_of_ble_eq_true rfl⟩ ?_
    refine lv_iadd hx hb dX_priceFor_25 ?_
    refine lv_istore_n (lv' := [(3, .int (p2 + (fX_stepOf p2))), (0, .int p0), (1, .int p1), (2, .int p2)]) hx hb dX_priceFor_26 rfl hl (by decide) rfl (fun ls hl => ?_)
    refine lv_iload_n hx hb dX_priceFor_27 rfl (lv_at hl 2 rfl) ?_
    refine lv_iload_n hx hb dX_priceFor_28 rfl (lv_at hl 1 rfl) ?_
    refine lv_iload_n hx hb dX_priceFor_29 rfl (lv_at hl 0 rfl) ?_
    refine va_mmax hx hb (by rw [hml]; exact hl.1.symm) hown (hts _ q_336) (hts _ q_310) (hts _ q_6) (hts _ q_311) (Nat.le_of_ble_eq_true rfl) (Nat.le_of_ble_eq_true rfl) (Nat.le_of_ble_eq_true rfl) (Nat.le_of_ble_eq_true rfl) dX_priceFor_30 ?_
    refine va_mmin hx hb (by rw [hml]; exact hl.1.symm) hown (hts _ q_333) (hts _ q_334) (hts _ q_6) (hts _ q_335) (Nat.le_of_ble_eq_true rfl) (Nat.le_of_ble_eq_true rfl) (Nat.le_of_ble_eq_true rfl) (Nat.le_of_ble_eq_true rfl) dX_priceFor_33 ?_
    exact W.iret (v := imin p1 (imax p0 (p2 + (fX_stepOf p2)))) hx hb hr (fun t ht hW => ⟨_, rfl, (by rw [fX_priceFor, if_neg c_1] <;> rfl), ht⟩) (fun q h => nomatch h) dX_priceFor_36
  · refine lv_iload_n hx hb dX_priceFor_5 rfl (lv_at hl 0 rfl) ?_
    refine lv_if_ne (tgt := 18) hx hb dX_priceFor_6 (by decide) (fun c_2 => ?_) (fun c_2 => ?_)
    · refine lv_iload_n hx hb dX_priceFor_18 rfl (lv_at hl 0 rfl) ?_
      exact W.iret (v := p0) hx hb hr (fun t ht hW => ⟨_, rfl, (by rw [fX_priceFor, if_pos c_1, if_neg c_2] <;> rfl), ht⟩) (fun q h => nomatch h) dX_priceFor_19
    · refine lv_bipush (v := 50) hx hb dX_priceFor_9 (by decide) ?_
      refine lv_iload_n hx hb dX_priceFor_11 rfl (lv_at hl 1 rfl) ?_
      refine va_mmin hx hb (by rw [hml]; exact hl.1.symm) hown (hts _ q_333) (hts _ q_334) (hts _ q_6) (hts _ q_335) (Nat.le_of_ble_eq_true rfl) (Nat.le_of_ble_eq_true rfl) (Nat.le_of_ble_eq_true rfl) (Nat.le_of_ble_eq_true rfl) dX_priceFor_12 ?_
      refine lv_goto (tgt := 19) hx hb dX_priceFor_15 (by decide) ?_
      exact W.iret (v := imin 50 p1) hx hb hr (fun t ht hW => ⟨_, rfl, (by rw [fX_priceFor, if_pos c_1, if_pos c_2] <;> rfl), ht⟩) (fun q h => nomatch h) dX_priceFor_19
def fX_ofBand (p0 : Int32) (p1 : Int32) (p2 : Int32) (p3 : Int32) : Int32 := ((imax 0 ((imin p0 p2) - p1)) * p3) / 100
theorem hdyX_ofBand : yX_ofBand.cls ≠ "java/lang/invoke/MethodHandle" ∧ yX_ofBand.cls ≠ "java/lang/invoke/VarHandle" ∧ (parseMethodDescriptor yX_ofBand.desc).map (fun d => d.parameters.length) = some 4 := by decide +kernel
theorem dX_ofBand_0 : decode bX_ofBand 0 = .ok (.iconst 0, 1) := by decide +kernel
theorem dX_ofBand_1 : decode bX_ofBand 1 = .ok (.iload_n 0, 1) := by decide +kernel
theorem dX_ofBand_2 : decode bX_ofBand 2 = .ok (.iload_n 2, 1) := by decide +kernel
theorem dX_ofBand_3 : decode bX_ofBand 3 = .ok (.invokestatic 195, 3) := by decide +kernel
theorem dX_ofBand_6 : decode bX_ofBand 6 = .ok (.iload_n 1, 1) := by decide +kernel
theorem dX_ofBand_7 : decode bX_ofBand 7 = .ok (.isub, 1) := by decide +kernel
theorem dX_ofBand_8 : decode bX_ofBand 8 = .ok (.invokestatic 201, 3) := by decide +kernel
theorem dX_ofBand_11 : decode bX_ofBand 11 = .ok (.iload_n 3, 1) := by decide +kernel
theorem dX_ofBand_12 : decode bX_ofBand 12 = .ok (.imul, 1) := by decide +kernel
theorem dX_ofBand_13 : decode bX_ofBand 13 = .ok (.bipush 100, 2) := by decide +kernel
theorem dX_ofBand_15 : decode bX_ofBand 15 = .ok (.idiv, 1) := by decide +kernel
theorem dX_ofBand_16 : decode bX_ofBand 16 = .ok (.ireturn, 1) := by decide +kernel
set_option maxHeartbeats 4000000 in
set_option maxRecDepth 100000 in
theorem cX_ofBand (l : Launch) (p0 : Int32) (p1 : Int32) (p2 : Int32) (p3 : Int32) : Met l yX_ofBand (Cond.code yX_ofBand bX_ofBand 4 (some FieldType.int) :: wNeed) { frames := 1, cells := 0, slots := 0, locals := 21 } (fun v _ => v = ([.int p0, .int p1, .int p2, .int p3] : List Value).toArray) (vp_Si fun r => r = fX_ofBand p0 p1 p2 p3) 0 0 (fun _ => False) := by
  refine en_N (av := [.int p0, .int p1, .int p2, .int p3]) (by decide) (Nat.le_of_ble_eq_true rfl) ?_
  intro p e s m below meth c hx hb hml hown hts hr hlocks ls hl
  replace hl : lv_has ls 4 [(0, .int p0), (1, .int p1), (2, .int p2), (3, .int p3)] := hl
  refine lv_iconst (v := 0) hx hb dX_ofBand_0 (by decide) ?_
  refine lv_iload_n hx hb dX_ofBand_1 rfl (lv_at hl 0 rfl) ?_
  refine lv_iload_n hx hb dX_ofBand_2 rfl (lv_at hl 2 rfl) ?_
  refine va_mmin hx hb (by rw [hml]; exact hl.1.symm) hown (hts _ q_333) (hts _ q_334) (hts _ q_6) (hts _ q_335) (Nat.le_of_ble_eq_true rfl) (Nat.le_of_ble_eq_true rfl) (Nat.le_of_ble_eq_true rfl) (Nat.le_of_ble_eq_true rfl) dX_ofBand_3 ?_
  refine lv_iload_n hx hb dX_ofBand_6 rfl (lv_at hl 1 rfl) ?_
  refine lv_isub hx hb dX_ofBand_7 ?_
  refine va_mmax hx hb (by rw [hml]; exact hl.1.symm) hown (hts _ q_336) (hts _ q_310) (hts _ q_6) (hts _ q_311) (Nat.le_of_ble_eq_true rfl) (Nat.le_of_ble_eq_true rfl) (Nat.le_of_ble_eq_true rfl) (Nat.le_of_ble_eq_true rfl) dX_ofBand_8 ?_
  refine lv_iload_n hx hb dX_ofBand_11 rfl (lv_at hl 3 rfl) ?_
  refine lv_imul hx hb dX_ofBand_12 ?_
  refine lv_bipush (v := 100) hx hb dX_ofBand_13 (by decide) ?_
  refine lv_idiv hx hb dX_ofBand_15 (by decide) ?_
  exact W.iret (v := ((imax 0 ((imin p0 p2) - p1)) * p3) / 100) hx hb hr (fun t ht hW => ⟨_, rfl, (by rw [fX_ofBand] <;> rfl), ht⟩) (fun q h => nomatch h) dX_ofBand_16
def fX_feeFor (p0 : Int32) : Int32 := ((fX_ofBand p0 0 10000 25) + (fX_ofBand p0 10000 50000 20)) + (fX_ofBand p0 50000 1000000 12)
theorem hdyX_feeFor : yX_feeFor.cls ≠ "java/lang/invoke/MethodHandle" ∧ yX_feeFor.cls ≠ "java/lang/invoke/VarHandle" ∧ (parseMethodDescriptor yX_feeFor.desc).map (fun d => d.parameters.length) = some 1 := by decide +kernel
theorem dX_feeFor_0 : decode bX_feeFor 0 = .ok (.iload_n 0, 1) := by decide +kernel
theorem dX_feeFor_1 : decode bX_feeFor 1 = .ok (.iconst 0, 1) := by decide +kernel
theorem dX_feeFor_2 : decode bX_feeFor 2 = .ok (.sipush 10000, 3) := by decide +kernel
theorem dX_feeFor_5 : decode bX_feeFor 5 = .ok (.bipush 25, 2) := by decide +kernel
theorem dX_feeFor_7 : decode bX_feeFor 7 = .ok (.invokestatic 204, 3) := by decide +kernel
theorem dX_feeFor_10 : decode bX_feeFor 10 = .ok (.iload_n 0, 1) := by decide +kernel
theorem dX_feeFor_11 : decode bX_feeFor 11 = .ok (.sipush 10000, 3) := by decide +kernel
theorem dX_feeFor_14 : decode bX_feeFor 14 = .ok (.ldc 208, 2) := by decide +kernel
theorem dX_feeFor_16 : decode bX_feeFor 16 = .ok (.bipush 20, 2) := by decide +kernel
theorem dX_feeFor_18 : decode bX_feeFor 18 = .ok (.invokestatic 204, 3) := by decide +kernel
theorem dX_feeFor_21 : decode bX_feeFor 21 = .ok (.iadd, 1) := by decide +kernel
theorem dX_feeFor_22 : decode bX_feeFor 22 = .ok (.iload_n 0, 1) := by decide +kernel
theorem dX_feeFor_23 : decode bX_feeFor 23 = .ok (.ldc 208, 2) := by decide +kernel
theorem dX_feeFor_25 : decode bX_feeFor 25 = .ok (.ldc 30, 2) := by decide +kernel
theorem dX_feeFor_27 : decode bX_feeFor 27 = .ok (.bipush 12, 2) := by decide +kernel
theorem dX_feeFor_29 : decode bX_feeFor 29 = .ok (.invokestatic 204, 3) := by decide +kernel
theorem dX_feeFor_32 : decode bX_feeFor 32 = .ok (.iadd, 1) := by decide +kernel
theorem dX_feeFor_33 : decode bX_feeFor 33 = .ok (.ireturn, 1) := by decide +kernel
set_option maxHeartbeats 4000000 in
set_option maxRecDepth 100000 in
theorem cX_feeFor (l : Launch) (p0 : Int32) : Met l yX_feeFor (Cond.code yX_feeFor bX_feeFor 1 (some FieldType.int) :: wNeed) { frames := 2, cells := 0, slots := 0, locals := 44 } (fun v _ => v = ([.int p0] : List Value).toArray) (vp_Si fun r => r = fX_feeFor p0) 0 0 (fun _ => False) := by
  refine en_N (av := [.int p0]) (by decide) (Nat.le_of_ble_eq_true rfl) ?_
  intro p e s m below meth c hx hb hml hown hts hr hlocks ls hl
  replace hl : lv_has ls 1 [(0, .int p0)] := hl
  refine lv_iload_n hx hb dX_feeFor_0 rfl (lv_at hl 0 rfl) ?_
  refine lv_iconst (v := 0) hx hb dX_feeFor_1 (by decide) ?_
  refine lv_sipush (v := 10000) hx hb dX_feeFor_2 (by decide) ?_
  refine lv_bipush (v := 25) hx hb dX_feeFor_5 (by decide) ?_
  refine rcS1 (rest := []) (As := [.int p0, .int 0, .int 10000, .int 25]) hx hb hml hown hts (cX_ofBand l p0 0 10000 25) (gS q_352 q_353 q_1 q_354) rfl rfl ⟨rfl, hdyX_ofBand⟩ ⟨Nat.le_of_ble_eq_true rfl, Nat.le_of_ble_eq_true rfl⟩ hl.1 rfl (Nat.le_of_ble_eq_true rfl) dX_feeFor_7 ⟨Nat.le_of_ble_eq_true rfl, Nat.le_of_ble_eq_true rfl⟩ ?_
  refine lv_iload_n hx hb dX_feeFor_10 rfl (lv_at hl 0 rfl) ?_
  refine lv_sipush (v := 10000) hx hb dX_feeFor_11 (by decide) ?_
  refine lv_ldc (v := 50000) hx hb hown (hts _ q_355) dX_feeFor_14 ?_
  refine lv_bipush (v := 20) hx hb dX_feeFor_16 (by decide) ?_
  refine rcS1 (rest := [.int (fX_ofBand p0 0 10000 25)]) (As := [.int p0, .int 10000, .int 50000, .int 20]) hx hb hml hown hts (cX_ofBand l p0 10000 50000 20) (gS q_352 q_353 q_1 q_354) rfl rfl ⟨rfl, hdyX_ofBand⟩ ⟨Nat.le_of_ble_eq_true rfl, Nat.le_of_ble_eq_true rfl⟩ hl.1 rfl (Nat.le_of_ble_eq_true rfl) dX_feeFor_18 ⟨Nat.le_of_ble_eq_true rfl, Nat.le_of_ble_eq_true rfl⟩ ?_
  refine lv_iadd hx hb dX_feeFor_21 ?_
  refine lv_iload_n hx hb dX_feeFor_22 rfl (lv_at hl 0 rfl) ?_
  refine lv_ldc (v := 50000) hx hb hown (hts _ q_355) dX_feeFor_23 ?_
  refine lv_ldc (v := 1000000) hx hb hown (hts _ q_186) dX_feeFor_25 ?_
  refine lv_bipush (v := 12) hx hb dX_feeFor_27 (by decide) ?_
  refine rcS1 (rest := [.int ((fX_ofBand p0 0 10000 25) + (fX_ofBand p0 10000 50000 20))]) (As := [.int p0, .int 50000, .int 1000000, .int 12]) hx hb hml hown hts (cX_ofBand l p0 50000 1000000 12) (gS q_352 q_353 q_1 q_354) rfl rfl ⟨rfl, hdyX_ofBand⟩ ⟨Nat.le_of_ble_eq_true rfl, Nat.le_of_ble_eq_true rfl⟩ hl.1 rfl (Nat.le_of_ble_eq_true rfl) dX_feeFor_29 ⟨Nat.le_of_ble_eq_true rfl, Nat.le_of_ble_eq_true rfl⟩ ?_
  refine lv_iadd hx hb dX_feeFor_32 ?_
  exact W.iret (v := ((fX_ofBand p0 0 10000 25) + (fX_ofBand p0 10000 50000 20)) + (fX_ofBand p0 50000 1000000 12)) hx hb hr (fun t ht hW => ⟨_, rfl, (by rw [fX_feeFor] <;> rfl), ht⟩) (fun q h => nomatch h) dX_feeFor_33
def fX_checkSeller (p0 : Int32) : Nat := if p0 < 0 then 1 else (if p0 < 6 then 0 else 1)
theorem hdyX_checkSeller : yX_checkSeller.cls ≠ "java/lang/invoke/MethodHandle" ∧ yX_checkSeller.cls ≠ "java/lang/invoke/VarHandle" ∧ (parseMethodDescriptor yX_checkSeller.desc).map (fun d => d.parameters.length) = some 1 := by decide +kernel
theorem dX_checkSeller_0 : decode bX_checkSeller 0 = .ok (.iload_n 0, 1) := by decide +kernel
theorem dX_checkSeller_1 : decode bX_checkSeller 1 = .ok (.ifCond .lt 9, 3) := by decide +kernel
theorem dX_checkSeller_4 : decode bX_checkSeller 4 = .ok (.iload_n 0, 1) := by decide +kernel
theorem dX_checkSeller_5 : decode bX_checkSeller 5 = .ok (.bipush 6, 2) := by decide +kernel
theorem dX_checkSeller_7 : decode bX_checkSeller 7 = .ok (.if_icmp .lt 13, 3) := by decide +kernel
theorem dX_checkSeller_10 : decode bX_checkSeller 10 = .ok (.new 176, 3) := by decide +kernel
theorem dX_checkSeller_13 : decode bX_checkSeller 13 = .ok (.dup, 1) := by decide +kernel
theorem dX_checkSeller_14 : decode bX_checkSeller 14 = .ok (.ldc 181, 2) := by decide +kernel
theorem dX_checkSeller_16 : decode bX_checkSeller 16 = .ok (.invokespecial 180, 3) := by decide +kernel
theorem dX_checkSeller_19 : decode bX_checkSeller 19 = .ok (.athrow, 1) := by decide +kernel
theorem dX_checkSeller_20 : decode bX_checkSeller 20 = .ok (.return_, 1) := by decide +kernel
set_option maxHeartbeats 4000000 in
set_option maxRecDepth 100000 in
theorem cX_checkSeller (l : Launch) (hl9 : l.stackTraces = false) (D : va_G) (tI tJ tL : ClassId) (A : Nat → Prop) (sg ad : Nat → Nat) (n : Nat) (sL : NL) (sA : NA) (p0 : Int32) : vx_Met l yX_checkSeller (Cond.code yX_checkSeller bX_checkSeller 1 none :: wNeed) { frames := 6, cells := 1, slots := 6, locals := 90 } (va_Pc [.int p0] (GP D tI tJ tL A sg ad n sL sA)) (va_Qv (fun _ : Unit => fX_checkSeller p0 = 0) (fun _ t => GW D tI tJ tL A ad n sL sA t.heap) A) (XQ D tI tJ tL A ad n sL sA (fX_checkSeller p0)) 1 6 A := by
  refine en_XG (av := [.int p0]) (by decide) (Nat.le_of_ble_eq_true rfl) ?_
  intro p e s m below meth c hx hb hml hown hts hr hlocks hT hC H locs hG hS ls hl
  replace hl : lv_has ls 1 [(0, .int p0)] := hl
  refine lv_iload_n hx hb dX_checkSeller_0 rfl (lv_at hl 0 rfl) ?_
  refine lv_if_lt (tgt := 10) hx hb dX_checkSeller_1 (by decide) (fun c_1 => ?_) (fun c_1 => ?_)
  · exact rc_throw (text := "no such seller") hx hb hts hown hC hG hS hl9 hlocks hT (Or.inl ⟨rfl, by rw [fX_checkSeller, if_pos c_1] <;> rfl⟩) (by decide +kernel) q_57 q_5 (by decide) at_I (hl.1.trans hml.symm) dX_checkSeller_10 dX_checkSeller_13 dX_checkSeller_14 dX_checkSeller_16 dX_checkSeller_19 (Nat.le_of_ble_eq_true rfl) (Nat.le_of_ble_eq_true rfl) (Nat.le_of_ble_eq_true rfl) (Nat.le_of_ble_eq_true rfl) (Nat.le_of_ble_eq_true rfl) (Nat.le_of_ble_eq_true rfl)
  · refine lv_iload_n hx hb dX_checkSeller_4 rfl (lv_at hl 0 rfl) ?_
    refine lv_bipush (v := 6) hx hb dX_checkSeller_5 (by decide) ?_
    refine lv_icmp_lt (tgt := 20) hx hb dX_checkSeller_7 (by decide) (fun c_2 => ?_) (fun c_2 => ?_)
    · refine vx_ret ?_
      refine W.widen (k := 1) (n := 6) (Nat.le_of_ble_eq_true rfl) (Nat.le_of_ble_eq_true rfl) ?_
      exact W.vret hx hb hr (fun t ht hW => ⟨⟨(), rfl, (by rw [fX_checkSeller, if_neg c_1, if_pos c_2] <;> rfl), gw_at hG ht⟩, hS.F ht⟩) hS.2.2 dX_checkSeller_20
    · exact rc_throw (text := "no such seller") hx hb hts hown hC hG hS hl9 hlocks hT (Or.inl ⟨rfl, by rw [fX_checkSeller, if_neg c_1, if_neg c_2] <;> rfl⟩) (by decide +kernel) q_57 q_5 (by decide) at_I (hl.1.trans hml.symm) dX_checkSeller_10 dX_checkSeller_13 dX_checkSeller_14 dX_checkSeller_16 dX_checkSeller_19 (Nat.le_of_ble_eq_true rfl) (Nat.le_of_ble_eq_true rfl) (Nat.le_of_ble_eq_true rfl) (Nat.le_of_ble_eq_true rfl) (Nat.le_of_ble_eq_true rfl) (Nat.le_of_ble_eq_true rfl)
def fX_checkBuyer (p0 : Int32) : Nat := if p0 < 0 then 1 else (if p0 < 10 then 0 else 1)
theorem hdyX_checkBuyer : yX_checkBuyer.cls ≠ "java/lang/invoke/MethodHandle" ∧ yX_checkBuyer.cls ≠ "java/lang/invoke/VarHandle" ∧ (parseMethodDescriptor yX_checkBuyer.desc).map (fun d => d.parameters.length) = some 1 := by decide +kernel
theorem dX_checkBuyer_0 : decode bX_checkBuyer 0 = .ok (.iload_n 0, 1) := by decide +kernel
theorem dX_checkBuyer_1 : decode bX_checkBuyer 1 = .ok (.ifCond .lt 9, 3) := by decide +kernel
theorem dX_checkBuyer_4 : decode bX_checkBuyer 4 = .ok (.iload_n 0, 1) := by decide +kernel
theorem dX_checkBuyer_5 : decode bX_checkBuyer 5 = .ok (.bipush 10, 2) := by decide +kernel
theorem dX_checkBuyer_7 : decode bX_checkBuyer 7 = .ok (.if_icmp .lt 13, 3) := by decide +kernel
theorem dX_checkBuyer_10 : decode bX_checkBuyer 10 = .ok (.new 176, 3) := by decide +kernel
theorem dX_checkBuyer_13 : decode bX_checkBuyer 13 = .ok (.dup, 1) := by decide +kernel
theorem dX_checkBuyer_14 : decode bX_checkBuyer 14 = .ok (.ldc 183, 2) := by decide +kernel
theorem dX_checkBuyer_16 : decode bX_checkBuyer 16 = .ok (.invokespecial 180, 3) := by decide +kernel
theorem dX_checkBuyer_19 : decode bX_checkBuyer 19 = .ok (.athrow, 1) := by decide +kernel
theorem dX_checkBuyer_20 : decode bX_checkBuyer 20 = .ok (.return_, 1) := by decide +kernel
set_option maxHeartbeats 4000000 in
set_option maxRecDepth 100000 in
theorem cX_checkBuyer (l : Launch) (hl9 : l.stackTraces = false) (D : va_G) (tI tJ tL : ClassId) (A : Nat → Prop) (sg ad : Nat → Nat) (n : Nat) (sL : NL) (sA : NA) (p0 : Int32) : vx_Met l yX_checkBuyer (Cond.code yX_checkBuyer bX_checkBuyer 1 none :: wNeed) { frames := 6, cells := 1, slots := 6, locals := 90 } (va_Pc [.int p0] (GP D tI tJ tL A sg ad n sL sA)) (va_Qv (fun _ : Unit => fX_checkBuyer p0 = 0) (fun _ t => GW D tI tJ tL A ad n sL sA t.heap) A) (XQ D tI tJ tL A ad n sL sA (fX_checkBuyer p0)) 1 6 A := by
  refine en_XG (av := [.int p0]) (by decide) (Nat.le_of_ble_eq_true rfl) ?_
  intro p e s m below meth c hx hb hml hown hts hr hlocks hT hC H locs hG hS ls hl
  replace hl : lv_has ls 1 [(0, .int p0)] := hl
  refine lv_iload_n hx hb dX_checkBuyer_0 rfl (lv_at hl 0 rfl) ?_
  refine lv_if_lt (tgt := 10) hx hb dX_checkBuyer_1 (by decide) (fun c_1 => ?_) (fun c_1 => ?_)
  · exact rc_throw (text := "no such buyer") hx hb hts hown hC hG hS hl9 hlocks hT (Or.inl ⟨rfl, by rw [fX_checkBuyer, if_pos c_1] <;> rfl⟩) (by decide +kernel) q_57 q_5 (by decide) at_I (hl.1.trans hml.symm) dX_checkBuyer_10 dX_checkBuyer_13 dX_checkBuyer_14 dX_checkBuyer_16 dX_checkBuyer_19 (Nat.le_of_ble_eq_true rfl) (Nat.le_of_ble_eq_true rfl) (Nat.le_of_ble_eq_true rfl) (Nat.le_of_ble_eq_true rfl) (Nat.le_of_ble_eq_true rfl) (Nat.le_of_ble_eq_true rfl)
  · refine lv_iload_n hx hb dX_checkBuyer_4 rfl (lv_at hl 0 rfl) ?_
    refine lv_bipush (v := 10) hx hb dX_checkBuyer_5 (by decide) ?_
    refine lv_icmp_lt (tgt := 20) hx hb dX_checkBuyer_7 (by decide) (fun c_2 => ?_) (fun c_2 => ?_)
    · refine vx_ret ?_
      refine W.widen (k := 1) (n := 6) (Nat.le_of_ble_eq_true rfl) (Nat.le_of_ble_eq_true rfl) ?_
      exact W.vret hx hb hr (fun t ht hW => ⟨⟨(), rfl, (by rw [fX_checkBuyer, if_neg c_1, if_pos c_2] <;> rfl), gw_at hG ht⟩, hS.F ht⟩) hS.2.2 dX_checkBuyer_20
    · exact rc_throw (text := "no such buyer") hx hb hts hown hC hG hS hl9 hlocks hT (Or.inl ⟨rfl, by rw [fX_checkBuyer, if_neg c_1, if_neg c_2] <;> rfl⟩) (by decide +kernel) q_57 q_5 (by decide) at_I (hl.1.trans hml.symm) dX_checkBuyer_10 dX_checkBuyer_13 dX_checkBuyer_14 dX_checkBuyer_16 dX_checkBuyer_19 (Nat.le_of_ble_eq_true rfl) (Nat.le_of_ble_eq_true rfl) (Nat.le_of_ble_eq_true rfl) (Nat.le_of_ble_eq_true rfl) (Nat.le_of_ble_eq_true rfl) (Nat.le_of_ble_eq_true rfl)
def fX_checkRange (p0 : Int32) (p1 : Int32) (p2 : Int32) : Nat := if p0 < p1 then 2 else (if p0 ≤ p2 then 0 else 2)
theorem hdyX_checkRange : yX_checkRange.cls ≠ "java/lang/invoke/MethodHandle" ∧ yX_checkRange.cls ≠ "java/lang/invoke/VarHandle" ∧ (parseMethodDescriptor yX_checkRange.desc).map (fun d => d.parameters.length) = some 3 := by decide +kernel
theorem dX_checkRange_0 : decode bX_checkRange 0 = .ok (.iload_n 0, 1) := by decide +kernel
theorem dX_checkRange_1 : decode bX_checkRange 1 = .ok (.iload_n 1, 1) := by decide +kernel
theorem dX_checkRange_2 : decode bX_checkRange 2 = .ok (.if_icmp .lt 8, 3) := by decide +kernel
theorem dX_checkRange_5 : decode bX_checkRange 5 = .ok (.iload_n 0, 1) := by decide +kernel
theorem dX_checkRange_6 : decode bX_checkRange 6 = .ok (.iload_n 2, 1) := by decide +kernel
theorem dX_checkRange_7 : decode bX_checkRange 7 = .ok (.if_icmp .le 13, 3) := by decide +kernel
theorem dX_checkRange_10 : decode bX_checkRange 10 = .ok (.new 185, 3) := by decide +kernel
theorem dX_checkRange_13 : decode bX_checkRange 13 = .ok (.dup, 1) := by decide +kernel
theorem dX_checkRange_14 : decode bX_checkRange 14 = .ok (.ldc 187, 2) := by decide +kernel
theorem dX_checkRange_16 : decode bX_checkRange 16 = .ok (.invokespecial 189, 3) := by decide +kernel
theorem dX_checkRange_19 : decode bX_checkRange 19 = .ok (.athrow, 1) := by decide +kernel
theorem dX_checkRange_20 : decode bX_checkRange 20 = .ok (.return_, 1) := by decide +kernel
set_option maxHeartbeats 4000000 in
set_option maxRecDepth 100000 in
theorem cX_checkRange (l : Launch) (hl9 : l.stackTraces = false) (D : va_G) (tI tJ tL : ClassId) (A : Nat → Prop) (sg ad : Nat → Nat) (n : Nat) (sL : NL) (sA : NA) (p0 : Int32) (p1 : Int32) (p2 : Int32) : vx_Met l yX_checkRange (Cond.code yX_checkRange bX_checkRange 3 none :: wNeed) { frames := 6, cells := 1, slots := 6, locals := 90 } (va_Pc [.int p0, .int p1, .int p2] (GP D tI tJ tL A sg ad n sL sA)) (va_Qv (fun _ : Unit => fX_checkRange p0 p1 p2 = 0) (fun _ t => GW D tI tJ tL A ad n sL sA t.heap) A) (XQ D tI tJ tL A ad n sL sA (fX_checkRange p0 p1 p2)) 1 6 A := by
  refine en_XG (av := [.int p0, .int p1, .int p2]) (by decide) (Nat.le_of_ble_eq_true rfl) ?_
  intro p e s m below meth c hx hb hml hown hts hr hlocks hT hC H locs hG hS ls hl
  replace hl : lv_has ls 3 [(0, .int p0), (1, .int p1), (2, .int p2)] := hl
  refine lv_iload_n hx hb dX_checkRange_0 rfl (lv_at hl 0 rfl) ?_
  refine lv_iload_n hx hb dX_checkRange_1 rfl (lv_at hl 1 rfl) ?_
  refine lv_icmp_lt (tgt := 10) hx hb dX_checkRange_2 (by decide) (fun c_1 => ?_) (fun c_1 => ?_)
  · exact rc_throw (text := "out of its range") hx hb hts hown hC hG hS hl9 hlocks hT (Or.inr (Or.inl ⟨rfl, by rw [fX_checkRange, if_pos c_1] <;> rfl⟩)) (by decide +kernel) q_128 q_7 (by decide) at_G (hl.1.trans hml.symm) dX_checkRange_10 dX_checkRange_13 dX_checkRange_14 dX_checkRange_16 dX_checkRange_19 (Nat.le_of_ble_eq_true rfl) (Nat.le_of_ble_eq_true rfl) (Nat.le_of_ble_eq_true rfl) (Nat.le_of_ble_eq_true rfl) (Nat.le_of_ble_eq_true rfl) (Nat.le_of_ble_eq_true rfl)
  · refine lv_iload_n hx hb dX_checkRange_5 rfl (lv_at hl 0 rfl) ?_
    refine lv_iload_n hx hb dX_checkRange_6 rfl (lv_at hl 2 rfl) ?_
    refine lv_icmp_le (tgt := 20) hx hb dX_checkRange_7 (by decide) (fun c_2 => ?_) (fun c_2 => ?_)
    · refine vx_ret ?_
      refine W.widen (k := 1) (n := 6) (Nat.le_of_ble_eq_true rfl) (Nat.le_of_ble_eq_true rfl) ?_
      exact W.vret hx hb hr (fun t ht hW => ⟨⟨(), rfl, (by rw [fX_checkRange, if_neg c_1, if_pos c_2] <;> rfl), gw_at hG ht⟩, hS.F ht⟩) hS.2.2 dX_checkRange_20
    · exact rc_throw (text := "out of its range") hx hb hts hown hC hG hS hl9 hlocks hT (Or.inr (Or.inl ⟨rfl, by rw [fX_checkRange, if_neg c_1, if_neg c_2] <;> rfl⟩)) (by decide +kernel) q_128 q_7 (by decide) at_G (hl.1.trans hml.symm) dX_checkRange_10 dX_checkRange_13 dX_checkRange_14 dX_checkRange_16 dX_checkRange_19 (Nat.le_of_ble_eq_true rfl) (Nat.le_of_ble_eq_true rfl) (Nat.le_of_ble_eq_true rfl) (Nat.le_of_ble_eq_true rfl) (Nat.le_of_ble_eq_true rfl) (Nat.le_of_ble_eq_true rfl)
def fX_checkArtist (p0 : Int32) : Nat := if p0 = (-1) then 0 else (if p0 = 0 then 0 else (bnd4 (fX_checkRange p0 1800 2000) (0)))
theorem hdyX_checkArtist : yX_checkArtist.cls ≠ "java/lang/invoke/MethodHandle" ∧ yX_checkArtist.cls ≠ "java/lang/invoke/VarHandle" ∧ (parseMethodDescriptor yX_checkArtist.desc).map (fun d => d.parameters.length) = some 1 := by decide +kernel
theorem dX_checkArtist_0 : decode bX_checkArtist 0 = .ok (.iload_n 0, 1) := by decide +kernel
theorem dX_checkArtist_1 : decode bX_checkArtist 1 = .ok (.iconst (-1), 1) := by decide +kernel
theorem dX_checkArtist_2 : decode bX_checkArtist 2 = .ok (.if_icmp .eq 17, 3) := by decide +kernel
theorem dX_checkArtist_5 : decode bX_checkArtist 5 = .ok (.iload_n 0, 1) := by decide +kernel
theorem dX_checkArtist_6 : decode bX_checkArtist 6 = .ok (.ifCond .eq 13, 3) := by decide +kernel
theorem dX_checkArtist_9 : decode bX_checkArtist 9 = .ok (.iload_n 0, 1) := by decide +kernel
theorem dX_checkArtist_10 : decode bX_checkArtist 10 = .ok (.sipush 1800, 3) := by decide +kernel
theorem dX_checkArtist_13 : decode bX_checkArtist 13 = .ok (.sipush 2000, 3) := by decide +kernel
theorem dX_checkArtist_16 : decode bX_checkArtist 16 = .ok (.invokestatic 31, 3) := by decide +kernel
theorem dX_checkArtist_19 : decode bX_checkArtist 19 = .ok (.return_, 1) := by decide +kernel
set_option maxHeartbeats 4000000 in
set_option maxRecDepth 100000 in
theorem cX_checkArtist (l : Launch) (hl9 : l.stackTraces = false) (D : va_G) (tI tJ tL : ClassId) (A : Nat → Prop) (sg ad : Nat → Nat) (n : Nat) (sL : NL) (sA : NA) (p0 : Int32) : vx_Met l yX_checkArtist (Cond.code yX_checkArtist bX_checkArtist 1 none :: wNeed) { frames := 7, cells := 1, slots := 6, locals := 112 } (va_Pc [.int p0] (GP D tI tJ tL A sg ad n sL sA)) (va_Qv (fun _ : Unit => fX_checkArtist p0 = 0) (fun _ t => GW D tI tJ tL A ad n sL sA t.heap) A) (XQ D tI tJ tL A ad n sL sA (fX_checkArtist p0)) 1 6 A := by
  refine en_XG (av := [.int p0]) (by decide) (Nat.le_of_ble_eq_true rfl) ?_
  intro p e s m below meth c hx hb hml hown hts hr hlocks hT hC H locs hG hS ls hl
  replace hl : lv_has ls 1 [(0, .int p0)] := hl
  refine lv_iload_n hx hb dX_checkArtist_0 rfl (lv_at hl 0 rfl) ?_
  refine lv_iconst (v := (-1)) hx hb dX_checkArtist_1 (by decide) ?_
  refine lv_icmp_eq (tgt := 19) hx hb dX_checkArtist_2 (by decide) (fun c_1 => ?_) (fun c_1 => ?_)
  · refine vx_ret ?_
    refine W.widen (k := 1) (n := 6) (Nat.le_of_ble_eq_true rfl) (Nat.le_of_ble_eq_true rfl) ?_
    exact W.vret hx hb hr (fun t ht hW => ⟨⟨(), rfl, (by rw [fX_checkArtist, if_pos c_1] <;> rfl), gw_at hG ht⟩, hS.F ht⟩) hS.2.2 dX_checkArtist_19
  · refine lv_iload_n hx hb dX_checkArtist_5 rfl (lv_at hl 0 rfl) ?_
    refine lv_if_eq (tgt := 19) hx hb dX_checkArtist_6 (by decide) (fun c_2 => ?_) (fun c_2 => ?_)
    · refine vx_ret ?_
      refine W.widen (k := 1) (n := 6) (Nat.le_of_ble_eq_true rfl) (Nat.le_of_ble_eq_true rfl) ?_
      exact W.vret hx hb hr (fun t ht hW => ⟨⟨(), rfl, (by rw [fX_checkArtist, if_neg c_1, if_pos c_2] <;> rfl), gw_at hG ht⟩, hS.F ht⟩) hS.2.2 dX_checkArtist_19
    · refine lv_iload_n hx hb dX_checkArtist_9 rfl (lv_at hl 0 rfl) ?_
      refine lv_sipush (v := 1800) hx hb dX_checkArtist_10 (by decide) ?_
      refine lv_sipush (v := 2000) hx hb dX_checkArtist_13 (by decide) ?_
      refine rcS4 (rest := []) (As := [.int p0, .int 1800, .int 2000]) (Mc := 1) (Ms := 6) hx hb hml hown hts hC hG hS hlocks hT (cX_checkRange l hl9 D tI tJ tL A sg ad n sL sA p0 1800 2000) (gS q_125 q_126 q_1 q_127) rfl rfl ⟨rfl, hdyX_checkRange⟩ ⟨Nat.le_of_ble_eq_true rfl, Nat.le_of_ble_eq_true rfl⟩ hl.1 rfl (Nat.le_of_ble_eq_true rfl) dX_checkArtist_16 ⟨Nat.le_of_ble_eq_true rfl, Nat.le_of_ble_eq_true rfl⟩ ⟨Nat.le_of_ble_eq_true rfl, Nat.le_of_ble_eq_true rfl⟩ (fun h => by rw [fX_checkArtist, if_neg c_1, if_neg c_2, bnd4_n h] <;> rfl) (fun h_3 H locs hG hS => ?_)
      refine vx_ret ?_
      refine W.widen (k := 1) (n := 6) (Nat.le_of_ble_eq_true rfl) (Nat.le_of_ble_eq_true rfl) ?_
      exact W.vret hx hb hr (fun t ht hW => ⟨⟨(), rfl, (by rw [fX_checkArtist, if_neg c_1, if_neg c_2, bnd4_0 h_3] <;> rfl), gw_at hG ht⟩, hS.F ht⟩) hS.2.2 dX_checkArtist_19
def fX_checkState (sL : NL) (sA : NA) (i : Nat) (p1 : Int32) : Nat := if (sA (4 * i + 11) 4) = p1 then 0 else 3
theorem hdyX_checkState : yX_checkState.cls ≠ "java/lang/invoke/MethodHandle" ∧ yX_checkState.cls ≠ "java/lang/invoke/VarHandle" ∧ (parseMethodDescriptor yX_checkState.desc).map (fun d => d.parameters.length) = some 2 := by decide +kernel
theorem dX_checkState_0 : decode bX_checkState 0 = .ok (.aload_n 0, 1) := by decide +kernel
theorem dX_checkState_1 : decode bX_checkState 1 = .ok (.getfield 85, 3) := by decide +kernel
theorem dX_checkState_4 : decode bX_checkState 4 = .ok (.iload_n 1, 1) := by decide +kernel
theorem dX_checkState_5 : decode bX_checkState 5 = .ok (.if_icmp .eq 13, 3) := by decide +kernel
theorem dX_checkState_8 : decode bX_checkState 8 = .ok (.new 41, 3) := by decide +kernel
theorem dX_checkState_11 : decode bX_checkState 11 = .ok (.dup, 1) := by decide +kernel
theorem dX_checkState_12 : decode bX_checkState 12 = .ok (.ldc 190, 2) := by decide +kernel
theorem dX_checkState_14 : decode bX_checkState 14 = .ok (.invokespecial 45, 3) := by decide +kernel
theorem dX_checkState_17 : decode bX_checkState 17 = .ok (.athrow, 1) := by decide +kernel
theorem dX_checkState_18 : decode bX_checkState 18 = .ok (.return_, 1) := by decide +kernel
set_option maxHeartbeats 4000000 in
set_option maxRecDepth 100000 in
theorem cX_checkState (l : Launch) (hl9 : l.stackTraces = false) (D : va_G) (tI tJ tL : ClassId) (A : Nat → Prop) (sg ad : Nat → Nat) (n : Nat) (sL : NL) (sA : NA) (i : Nat) (hi : i < n) (p1 : Int32) : vx_Met l yX_checkState (Cond.code yX_checkState bX_checkState 2 none :: wNeed) { frames := 6, cells := 1, slots := 6, locals := 90 } (va_Pc [.ref (ad (4 * i + 11)), .int p1] (GP D tI tJ tL A sg ad n sL sA)) (va_Qv (fun _ : Unit => fX_checkState sL sA i p1 = 0) (fun _ t => GW D tI tJ tL A ad n sL sA t.heap) A) (XQ D tI tJ tL A ad n sL sA (fX_checkState sL sA i p1)) 1 6 A := by
  refine en_XG (av := [.ref (ad (4 * i + 11)), .int p1]) (by decide) (Nat.le_of_ble_eq_true rfl) ?_
  intro p e s m below meth c hx hb hml hown hts hr hlocks hT hC H locs hG hS ls hl
  replace hl : lv_has ls 2 [(0, .ref (ad (4 * i + 11))), (1, .int p1)] := hl
  refine lv_aload_n hx hb dX_checkState_0 rfl (lv_at hl 0 rfl) ?_
  refine rl_getN (v := .int (sA (4 * i + 11) 4)) hx hb hts hown hC hG 4 hi (by decide) z_244 (rfl) dX_checkState_1 ?_
  refine lv_iload_n hx hb dX_checkState_4 rfl (lv_at hl 1 rfl) ?_
  refine lv_icmp_eq (tgt := 18) hx hb dX_checkState_5 (by decide) (fun c_1 => ?_) (fun c_1 => ?_)
  · refine vx_ret ?_
    refine W.widen (k := 1) (n := 6) (Nat.le_of_ble_eq_true rfl) (Nat.le_of_ble_eq_true rfl) ?_
    exact W.vret hx hb hr (fun t ht hW => ⟨⟨(), rfl, (by rw [fX_checkState, if_pos c_1] <;> rfl), gw_at hG ht⟩, hS.F ht⟩) hS.2.2 dX_checkState_18
  · exact rc_throw (text := "the lot is in another state") hx hb hts hown hC hG hS hl9 hlocks hT (Or.inr (Or.inr ⟨rfl, by rw [fX_checkState, if_neg c_1] <;> rfl⟩)) (by decide +kernel) q_190 q_8 (by decide) at_S (hl.1.trans hml.symm) dX_checkState_8 dX_checkState_11 dX_checkState_12 dX_checkState_14 dX_checkState_17 (Nat.le_of_ble_eq_true rfl) (Nat.le_of_ble_eq_true rfl) (Nat.le_of_ble_eq_true rfl) (Nat.le_of_ble_eq_true rfl) (Nat.le_of_ble_eq_true rfl) (Nat.le_of_ble_eq_true rfl)
end
section
theorem vin_a {x M : Int32} {N : Nat} (hN : N < 2 ^ 31) (hM : M.toInt = (N : Int)) (h0 : ¬ x < 0) (h1 : ¬ M ≤ x) : vp_in x N := by
  rw [vp_in_iff]
  rw [Int32.lt_iff_toInt_lt] at h0
  rw [Int32.le_iff_toInt_le] at h1
  have e0 : (0 : Int32).toInt = 0 := by decide
  omega
theorem nI_self {x : Int32} (h : ¬ x < 0) : x = nI x.toNatClampNeg := by
  obtain ⟨j, hj, rfl⟩ := nI_of h
  rw [nI_clamp hj]
theorem vin_seller {x : Int32} (h : fX_checkSeller x = 0) : vp_in x 6 := by
  unfold fX_checkSeller at h
  by_cases h0 : x < 0
  · rw [if_pos h0] at h; cases h
  · rw [if_neg h0] at h
    by_cases h1 : x < 6
    · exact vin_a (M := 6) (by decide) (by decide) h0 (by rw [Int32.not_le]; exact h1)
    · rw [if_neg h1] at h; cases h
theorem vin_buyer {x : Int32} (h : fX_checkBuyer x = 0) : vp_in x 10 := by
  unfold fX_checkBuyer at h
  by_cases h0 : x < 0
  · rw [if_pos h0] at h; cases h
  · rw [if_neg h0] at h
    by_cases h1 : x < 10
    · exact vin_a (M := 10) (by decide) (by decide) h0 (by rw [Int32.not_le]; exact h1)
    · rw [if_neg h1] at h; cases h
theorem bnd_eq0 {k : Nat} {α : Type} {r : Nat × α} {z : α} (h : (bnd k r z).1 = 0) : k = 0 := by
  unfold bnd at h
  by_cases hk : k = 0
  · exact hk
  · rw [if_neg hk] at h; exact h
def fX_findLot (n : Nat) (p0 : Int32) : Option Nat := if p0 < 0 then none else (if 30 ≤ p0 then none else (if p0.toNatClampNeg < n then some p0.toNatClampNeg else none))
theorem hdyX_findLot : yX_findLot.cls ≠ "java/lang/invoke/MethodHandle" ∧ yX_findLot.cls ≠ "java/lang/invoke/VarHandle" ∧ (parseMethodDescriptor yX_findLot.desc).map (fun d => d.parameters.length) = some 1 := by decide +kernel
theorem dX_findLot_0 : decode bX_findLot 0 = .ok (.iload_n 1, 1) := by decide +kernel
theorem dX_findLot_1 : decode bX_findLot 1 = .ok (.ifCond .lt 21, 3) := by decide +kernel
theorem dX_findLot_4 : decode bX_findLot 4 = .ok (.iload_n 1, 1) := by decide +kernel
theorem dX_findLot_5 : decode bX_findLot 5 = .ok (.aload_n 0, 1) := by decide +kernel
theorem dX_findLot_6 : decode bX_findLot 6 = .ok (.getfield 11, 3) := by decide +kernel
theorem dX_findLot_9 : decode bX_findLot 9 = .ok (.arraylength, 1) := by decide +kernel
theorem dX_findLot_10 : decode bX_findLot 10 = .ok (.if_icmp .ge 12, 3) := by decide +kernel
theorem dX_findLot_13 : decode bX_findLot 13 = .ok (.aload_n 0, 1) := by decide +kernel
theorem dX_findLot_14 : decode bX_findLot 14 = .ok (.getfield 11, 3) := by decide +kernel
theorem dX_findLot_17 : decode bX_findLot 17 = .ok (.iload_n 1, 1) := by decide +kernel
theorem dX_findLot_18 : decode bX_findLot 18 = .ok (.aaload, 1) := by decide +kernel
theorem dX_findLot_19 : decode bX_findLot 19 = .ok (.goto 4, 3) := by decide +kernel
theorem dX_findLot_22 : decode bX_findLot 22 = .ok (.aconst_null, 1) := by decide +kernel
theorem dX_findLot_23 : decode bX_findLot 23 = .ok (.astore_n 2, 1) := by decide +kernel
theorem dX_findLot_24 : decode bX_findLot 24 = .ok (.aload_n 2, 1) := by decide +kernel
theorem dX_findLot_25 : decode bX_findLot 25 = .ok (.ifnonnull 13, 3) := by decide +kernel
theorem dX_findLot_28 : decode bX_findLot 28 = .ok (.new 176, 3) := by decide +kernel
theorem dX_findLot_31 : decode bX_findLot 31 = .ok (.dup, 1) := by decide +kernel
theorem dX_findLot_32 : decode bX_findLot 32 = .ok (.ldc 178, 2) := by decide +kernel
theorem dX_findLot_34 : decode bX_findLot 34 = .ok (.invokespecial 180, 3) := by decide +kernel
theorem dX_findLot_37 : decode bX_findLot 37 = .ok (.athrow, 1) := by decide +kernel
theorem dX_findLot_38 : decode bX_findLot 38 = .ok (.aload_n 2, 1) := by decide +kernel
theorem dX_findLot_39 : decode bX_findLot 39 = .ok (.areturn, 1) := by decide +kernel
set_option maxHeartbeats 4000000 in
set_option maxRecDepth 100000 in
theorem cX_findLot (l : Launch) (hl9 : l.stackTraces = false) (D : va_G) (tI tJ tL : ClassId) (A : Nat → Prop) (sg ad : Nat → Nat) (n : Nat) (sL : NL) (sA : NA) (p0 : Int32) : vx_Met l yX_findLot (Cond.code yX_findLot bX_findLot 3 (some (FieldType.object "DroitLine$Lot")) :: wNeed) { frames := 6, cells := 1, slots := 6, locals := 90 } (va_Pc [.ref (ad 0), .int p0] (GP D tI tJ tL A sg ad n sL sA)) (va_Qq (fun r (i : Nat) => fX_findLot n p0 = some i ∧ i < n ∧ p0 = nI i ∧ r = some (ad (4 * i + 11))) (fun _ t => GW D tI tJ tL A ad n sL sA t.heap) A) (XQ D tI tJ tL A ad n sL sA (if fX_findLot n p0 = none then 1 else 0)) 1 6 A := by
  refine en_XG (av := [.ref (ad 0), .int p0]) (by decide) (Nat.le_of_ble_eq_true rfl) ?_
  intro p e s m below meth c hx hb hml hown hts hr hlocks hT hC H locs hG hS ls hl
  replace hl : lv_has ls 3 [(0, .ref (ad 0)), (1, .int p0)] := hl
  refine lv_iload_n hx hb dX_findLot_0 rfl (lv_at hl 1 rfl) ?_
  refine lv_if_lt (tgt := 22) hx hb dX_findLot_1 (by decide) (fun c_1 => ?_) (fun c_1 => ?_)
  · refine lv_null hx hb dX_findLot_22 ?_
    refine lv_astore_nN (lv' := [(2, .null), (0, .ref (ad 0)), (1, .int p0)]) hx hb dX_findLot_23 rfl hl (by decide) rfl (fun ls hl => ?_)
    refine lv_aload_nN hx hb dX_findLot_24 rfl (lv_at hl 0 rfl) ?_
    refine lv_ifnonnullN hx hb dX_findLot_25 ?_
    exact rc_throw (text := "no such lot") hx hb hts hown hC hG hS hl9 hlocks hT (Or.inl ⟨rfl, if_pos (by rw [fX_findLot, if_pos c_1] <;> rfl)⟩) (by decide +kernel) q_57 q_5 (by decide) at_I (hl.1.trans hml.symm) dX_findLot_28 dX_findLot_31 dX_findLot_32 dX_findLot_34 dX_findLot_37 (Nat.le_of_ble_eq_true rfl) (Nat.le_of_ble_eq_true rfl) (Nat.le_of_ble_eq_true rfl) (Nat.le_of_ble_eq_true rfl) (Nat.le_of_ble_eq_true rfl) (Nat.le_of_ble_eq_true rfl)
  · refine lv_iload_n hx hb dX_findLot_4 rfl (lv_at hl 1 rfl) ?_
    refine lv_aload_n hx hb dX_findLot_5 rfl (lv_at hl 0 rfl) ?_
    refine rx_get (v := .ref (ad 1)) hx hb hts hown hC hG 0 (by decide) q_21 (rfl) dX_findLot_6 ?_
    refine rh_len hx hb hC hG (v := 30) rfl dX_findLot_9 ?_
    refine lv_icmp_ge (tgt := 22) hx hb dX_findLot_10 (by decide) (fun c_2 => ?_) (fun c_2 => ?_)
    · refine lv_null hx hb dX_findLot_22 ?_
      refine lv_astore_nN (lv' := [(2, .null), (0, .ref (ad 0)), (1, .int p0)]) hx hb dX_findLot_23 rfl hl (by decide) rfl (fun ls hl => ?_)
      refine lv_aload_nN hx hb dX_findLot_24 rfl (lv_at hl 0 rfl) ?_
      refine lv_ifnonnullN hx hb dX_findLot_25 ?_
      exact rc_throw (text := "no such lot") hx hb hts hown hC hG hS hl9 hlocks hT (Or.inl ⟨rfl, if_pos (by rw [fX_findLot, if_neg c_1, if_pos c_2] <;> rfl)⟩) (by decide +kernel) q_57 q_5 (by decide) at_I (hl.1.trans hml.symm) dX_findLot_28 dX_findLot_31 dX_findLot_32 dX_findLot_34 dX_findLot_37 (Nat.le_of_ble_eq_true rfl) (Nat.le_of_ble_eq_true rfl) (Nat.le_of_ble_eq_true rfl) (Nat.le_of_ble_eq_true rfl) (Nat.le_of_ble_eq_true rfl) (Nat.le_of_ble_eq_true rfl)
    · refine lv_aload_n hx hb dX_findLot_13 rfl (lv_at hl 0 rfl) ?_
      refine rx_get (v := .ref (ad 1)) hx hb hts hown hC hG 0 (by decide) q_21 (rfl) dX_findLot_14 ?_
      refine lv_iload_n hx hb dX_findLot_17 rfl (lv_at hl 1 rfl) ?_
      refine rh_ld hx hb hC hG (vin_a (by decide) (by decide) c_1 c_2) dX_findLot_18 ?_
      by_cases h_3 : p0.toNatClampNeg < n
      · rw [show hof ad n p0.toNatClampNeg = some (ad (4 * p0.toNatClampNeg + 11)) from if_pos h_3]
        refine W.eq (g2 := F0 m 19 ls (.ref (ad (4 * p0.toNatClampNeg + 11)) :: [])) rfl ?_
        have hi := h_3
        refine lv_goto (tgt := 23) hx hb dX_findLot_19 (by decide) ?_
        refine lv_astore_n (lv' := [(2, .ref (ad (4 * p0.toNatClampNeg + 11))), (0, .ref (ad 0)), (1, .int p0)]) hx hb dX_findLot_23 rfl hl (by decide) rfl (fun ls hl => ?_)
        refine lv_aload_n hx hb dX_findLot_24 rfl (lv_at hl 0 rfl) ?_
        refine lv_ifnonnull (tgt := 38) hx hb dX_findLot_25 (by decide) ?_
        refine lv_aload_n hx hb dX_findLot_38 rfl (lv_at hl 0 rfl) ?_
        refine vx_ret ?_
        refine W.widen (k := 1) (n := 6) (Nat.le_of_ble_eq_true rfl) (Nat.le_of_ble_eq_true rfl) ?_
        exact W.aret (v := .ref (ad (4 * p0.toNatClampNeg + 11))) hx hb hr (Or.inl ⟨_, rfl⟩) (Or.inr ⟨_, rfl⟩) (fun t ht hW => ⟨⟨some (ad (4 * p0.toNatClampNeg + 11)), p0.toNatClampNeg, rfl, ⟨(by rw [fX_findLot, if_neg c_1, if_neg c_2, if_pos h_3] <;> rfl), h_3, nI_self c_1, rfl⟩, gw_at hG ht⟩, hS.F ht⟩) hS.2.2 dX_findLot_39
      · rw [show hof ad n p0.toNatClampNeg = none from if_neg h_3]
        refine W.eq (g2 := F0 m 19 ls (.null :: [])) rfl ?_
        refine lv_goto (tgt := 23) hx hb dX_findLot_19 (by decide) ?_
        refine lv_astore_nN (lv' := [(2, .null), (0, .ref (ad 0)), (1, .int p0)]) hx hb dX_findLot_23 rfl hl (by decide) rfl (fun ls hl => ?_)
        refine lv_aload_nN hx hb dX_findLot_24 rfl (lv_at hl 0 rfl) ?_
        refine lv_ifnonnullN hx hb dX_findLot_25 ?_
        exact rc_throw (text := "no such lot") hx hb hts hown hC hG hS hl9 hlocks hT (Or.inl ⟨rfl, if_pos (by rw [fX_findLot, if_neg c_1, if_neg c_2, if_neg h_3] <;> rfl)⟩) (by decide +kernel) q_57 q_5 (by decide) at_I (hl.1.trans hml.symm) dX_findLot_28 dX_findLot_31 dX_findLot_32 dX_findLot_34 dX_findLot_37 (Nat.le_of_ble_eq_true rfl) (Nat.le_of_ble_eq_true rfl) (Nat.le_of_ble_eq_true rfl) (Nat.le_of_ble_eq_true rfl) (Nat.le_of_ble_eq_true rfl) (Nat.le_of_ble_eq_true rfl)
def fO_buyerAt (sL : NL) (sA : NA) (i : Nat) (p0 : Int32) : Int32 := if p0 < 0 then (-1) else (if (sA (4 * i + 12) 2) ≤ p0 then (-1) else (if 10 ≤ p0 then (-1) else sA (4 * i + 13) p0.toNatClampNeg))
theorem hdyO_buyerAt : yO_buyerAt.cls ≠ "java/lang/invoke/MethodHandle" ∧ yO_buyerAt.cls ≠ "java/lang/invoke/VarHandle" ∧ (parseMethodDescriptor yO_buyerAt.desc).map (fun d => d.parameters.length) = some 1 := by decide +kernel
theorem dO_buyerAt_0 : decode bO_buyerAt 0 = .ok (.iload_n 1, 1) := by decide +kernel
theorem dO_buyerAt_1 : decode bO_buyerAt 1 = .ok (.ifCond .lt 29, 3) := by decide +kernel
theorem dO_buyerAt_4 : decode bO_buyerAt 4 = .ok (.iload_n 1, 1) := by decide +kernel
theorem dO_buyerAt_5 : decode bO_buyerAt 5 = .ok (.aload_n 0, 1) := by decide +kernel
theorem dO_buyerAt_6 : decode bO_buyerAt 6 = .ok (.getfield 18, 3) := by decide +kernel
theorem dO_buyerAt_9 : decode bO_buyerAt 9 = .ok (.if_icmp .ge 21, 3) := by decide +kernel
theorem dO_buyerAt_12 : decode bO_buyerAt 12 = .ok (.iload_n 1, 1) := by decide +kernel
theorem dO_buyerAt_13 : decode bO_buyerAt 13 = .ok (.aload_n 0, 1) := by decide +kernel
theorem dO_buyerAt_14 : decode bO_buyerAt 14 = .ok (.getfield 9, 3) := by decide +kernel
theorem dO_buyerAt_17 : decode bO_buyerAt 17 = .ok (.arraylength, 1) := by decide +kernel
theorem dO_buyerAt_18 : decode bO_buyerAt 18 = .ok (.if_icmp .ge 12, 3) := by decide +kernel
theorem dO_buyerAt_21 : decode bO_buyerAt 21 = .ok (.aload_n 0, 1) := by decide +kernel
theorem dO_buyerAt_22 : decode bO_buyerAt 22 = .ok (.getfield 9, 3) := by decide +kernel
theorem dO_buyerAt_25 : decode bO_buyerAt 25 = .ok (.iload_n 1, 1) := by decide +kernel
theorem dO_buyerAt_26 : decode bO_buyerAt 26 = .ok (.iaload, 1) := by decide +kernel
theorem dO_buyerAt_27 : decode bO_buyerAt 27 = .ok (.goto 4, 3) := by decide +kernel
theorem dO_buyerAt_30 : decode bO_buyerAt 30 = .ok (.iconst (-1), 1) := by decide +kernel
theorem dO_buyerAt_31 : decode bO_buyerAt 31 = .ok (.ireturn, 1) := by decide +kernel
set_option maxHeartbeats 4000000 in
set_option maxRecDepth 100000 in
theorem cO_buyerAt (l : Launch) (D : va_G) (tI tJ tL : ClassId) (A : Nat → Prop) (sg ad : Nat → Nat) (n : Nat) (sL : NL) (sA : NA) (i : Nat) (hi : i < n) (p0 : Int32) : Met l yO_buyerAt (Cond.code yO_buyerAt bO_buyerAt 2 (some FieldType.int) :: wNeed) { frames := 0, cells := 0, slots := 0, locals := 0 } (va_Pc [.ref (ad (4 * i + 12)), .int p0] (GP D tI tJ tL A sg ad n sL sA)) (vp_Si fun r => r = fO_buyerAt sL sA i p0) 0 0 (fun _ => False) := by
  refine en_M (av := [.ref (ad (4 * i + 12)), .int p0]) (by decide) (Nat.le_of_ble_eq_true rfl) ?_
  intro p e s m below meth c hx hb hml hown hts hr hlocks hmname hP ls hl
  obtain ⟨hG, hC⟩ := hP
  have hS : va_S A s.heap s.heap [] := va_S.rf
  replace hl : lv_has ls 2 [(0, .ref (ad (4 * i + 12))), (1, .int p0)] := hl
  refine lv_iload_n hx hb dO_buyerAt_0 rfl (lv_at hl 1 rfl) ?_
  refine lv_if_lt (tgt := 30) hx hb dO_buyerAt_1 (by decide) (fun c_1 => ?_) (fun c_1 => ?_)
  · refine lv_iconst (v := (-1)) hx hb dO_buyerAt_30 (by decide) ?_
    exact W.iret (v := (-1)) hx hb hr (fun t ht hW => ⟨_, rfl, (by rw [fO_buyerAt, if_pos c_1] <;> rfl), ht⟩) (fun q h => nomatch h) dO_buyerAt_31
  · refine lv_iload_n hx hb dO_buyerAt_4 rfl (lv_at hl 1 rfl) ?_
    refine lv_aload_n hx hb dO_buyerAt_5 rfl (lv_at hl 0 rfl) ?_
    refine ro_get (v := .int (sA (4 * i + 12) 2)) hx hb hts hown hC hG 2 hi (by decide) q_225 (rfl) dO_buyerAt_6 ?_
    refine lv_icmp_ge (tgt := 30) hx hb dO_buyerAt_9 (by decide) (fun c_2 => ?_) (fun c_2 => ?_)
    · refine lv_iconst (v := (-1)) hx hb dO_buyerAt_30 (by decide) ?_
      exact W.iret (v := (-1)) hx hb hr (fun t ht hW => ⟨_, rfl, (by rw [fO_buyerAt, if_neg c_1, if_pos c_2] <;> rfl), ht⟩) (fun q h => nomatch h) dO_buyerAt_31
    · refine lv_iload_n hx hb dO_buyerAt_12 rfl (lv_at hl 1 rfl) ?_
      refine lv_aload_n hx hb dO_buyerAt_13 rfl (lv_at hl 0 rfl) ?_
      refine ro_get (v := .ref (ad (4 * i + 13))) hx hb hts hown hC hG 0 hi (by decide) q_223 (rfl) dO_buyerAt_14 ?_
      refine ra_len hx hb hC hG (4 * i + 13) 10 (by omega) (fun _ _ => gr_B i) (v := 10) rfl dO_buyerAt_17 ?_
      refine lv_icmp_ge (tgt := 30) hx hb dO_buyerAt_18 (by decide) (fun c_3 => ?_) (fun c_3 => ?_)
      · refine lv_iconst (v := (-1)) hx hb dO_buyerAt_30 (by decide) ?_
        exact W.iret (v := (-1)) hx hb hr (fun t ht hW => ⟨_, rfl, (by rw [fO_buyerAt, if_neg c_1, if_neg c_2, if_pos c_3] <;> rfl), ht⟩) (fun q h => nomatch h) dO_buyerAt_31
      · refine lv_aload_n hx hb dO_buyerAt_21 rfl (lv_at hl 0 rfl) ?_
        refine ro_get (v := .ref (ad (4 * i + 13))) hx hb hts hown hC hG 0 hi (by decide) q_223 (rfl) dO_buyerAt_22 ?_
        refine lv_iload_n hx hb dO_buyerAt_25 rfl (lv_at hl 1 rfl) ?_
        refine ra_ld hx hb hC hG (4 * i + 13) 10 (by omega) (fun _ _ => gr_B i) (vin_a (by decide) (by decide) c_1 c_3) dO_buyerAt_26 ?_
        refine lv_goto (tgt := 31) hx hb dO_buyerAt_27 (by decide) ?_
        exact W.iret (v := sA (4 * i + 13) p0.toNatClampNeg) hx hb hr (fun t ht hW => ⟨_, rfl, (by rw [fO_buyerAt, if_neg c_1, if_neg c_2, if_neg c_3] <;> rfl), ht⟩) (fun q h => nomatch h) dO_buyerAt_31
def fO_amountAt (sL : NL) (sA : NA) (i : Nat) (p0 : Int32) : Int32 := if p0 < 0 then (-1) else (if (sA (4 * i + 12) 2) ≤ p0 then (-1) else (if 10 ≤ p0 then (-1) else sA (4 * i + 14) p0.toNatClampNeg))
theorem hdyO_amountAt : yO_amountAt.cls ≠ "java/lang/invoke/MethodHandle" ∧ yO_amountAt.cls ≠ "java/lang/invoke/VarHandle" ∧ (parseMethodDescriptor yO_amountAt.desc).map (fun d => d.parameters.length) = some 1 := by decide +kernel
theorem dO_amountAt_0 : decode bO_amountAt 0 = .ok (.iload_n 1, 1) := by decide +kernel
theorem dO_amountAt_1 : decode bO_amountAt 1 = .ok (.ifCond .lt 29, 3) := by decide +kernel
theorem dO_amountAt_4 : decode bO_amountAt 4 = .ok (.iload_n 1, 1) := by decide +kernel
theorem dO_amountAt_5 : decode bO_amountAt 5 = .ok (.aload_n 0, 1) := by decide +kernel
theorem dO_amountAt_6 : decode bO_amountAt 6 = .ok (.getfield 18, 3) := by decide +kernel
theorem dO_amountAt_9 : decode bO_amountAt 9 = .ok (.if_icmp .ge 21, 3) := by decide +kernel
theorem dO_amountAt_12 : decode bO_amountAt 12 = .ok (.iload_n 1, 1) := by decide +kernel
theorem dO_amountAt_13 : decode bO_amountAt 13 = .ok (.aload_n 0, 1) := by decide +kernel
theorem dO_amountAt_14 : decode bO_amountAt 14 = .ok (.getfield 15, 3) := by decide +kernel
theorem dO_amountAt_17 : decode bO_amountAt 17 = .ok (.arraylength, 1) := by decide +kernel
theorem dO_amountAt_18 : decode bO_amountAt 18 = .ok (.if_icmp .ge 12, 3) := by decide +kernel
theorem dO_amountAt_21 : decode bO_amountAt 21 = .ok (.aload_n 0, 1) := by decide +kernel
theorem dO_amountAt_22 : decode bO_amountAt 22 = .ok (.getfield 15, 3) := by decide +kernel
theorem dO_amountAt_25 : decode bO_amountAt 25 = .ok (.iload_n 1, 1) := by decide +kernel
theorem dO_amountAt_26 : decode bO_amountAt 26 = .ok (.iaload, 1) := by decide +kernel
theorem dO_amountAt_27 : decode bO_amountAt 27 = .ok (.goto 4, 3) := by decide +kernel
theorem dO_amountAt_30 : decode bO_amountAt 30 = .ok (.iconst (-1), 1) := by decide +kernel
theorem dO_amountAt_31 : decode bO_amountAt 31 = .ok (.ireturn, 1) := by decide +kernel
set_option maxHeartbeats 4000000 in
set_option maxRecDepth 100000 in
theorem cO_amountAt (l : Launch) (D : va_G) (tI tJ tL : ClassId) (A : Nat → Prop) (sg ad : Nat → Nat) (n : Nat) (sL : NL) (sA : NA) (i : Nat) (hi : i < n) (p0 : Int32) : Met l yO_amountAt (Cond.code yO_amountAt bO_amountAt 2 (some FieldType.int) :: wNeed) { frames := 0, cells := 0, slots := 0, locals := 0 } (va_Pc [.ref (ad (4 * i + 12)), .int p0] (GP D tI tJ tL A sg ad n sL sA)) (vp_Si fun r => r = fO_amountAt sL sA i p0) 0 0 (fun _ => False) := by
  refine en_M (av := [.ref (ad (4 * i + 12)), .int p0]) (by decide) (Nat.le_of_ble_eq_true rfl) ?_
  intro p e s m below meth c hx hb hml hown hts hr hlocks hmname hP ls hl
  obtain ⟨hG, hC⟩ := hP
  have hS : va_S A s.heap s.heap [] := va_S.rf
  replace hl : lv_has ls 2 [(0, .ref (ad (4 * i + 12))), (1, .int p0)] := hl
  refine lv_iload_n hx hb dO_amountAt_0 rfl (lv_at hl 1 rfl) ?_
  refine lv_if_lt (tgt := 30) hx hb dO_amountAt_1 (by decide) (fun c_1 => ?_) (fun c_1 => ?_)
  · refine lv_iconst (v := (-1)) hx hb dO_amountAt_30 (by decide) ?_
    exact W.iret (v := (-1)) hx hb hr (fun t ht hW => ⟨_, rfl, (by rw [fO_amountAt, if_pos c_1] <;> rfl), ht⟩) (fun q h => nomatch h) dO_amountAt_31
  · refine lv_iload_n hx hb dO_amountAt_4 rfl (lv_at hl 1 rfl) ?_
    refine lv_aload_n hx hb dO_amountAt_5 rfl (lv_at hl 0 rfl) ?_
    refine ro_get (v := .int (sA (4 * i + 12) 2)) hx hb hts hown hC hG 2 hi (by decide) q_225 (rfl) dO_amountAt_6 ?_
    refine lv_icmp_ge (tgt := 30) hx hb dO_amountAt_9 (by decide) (fun c_2 => ?_) (fun c_2 => ?_)
    · refine lv_iconst (v := (-1)) hx hb dO_amountAt_30 (by decide) ?_
      exact W.iret (v := (-1)) hx hb hr (fun t ht hW => ⟨_, rfl, (by rw [fO_amountAt, if_neg c_1, if_pos c_2] <;> rfl), ht⟩) (fun q h => nomatch h) dO_amountAt_31
    · refine lv_iload_n hx hb dO_amountAt_12 rfl (lv_at hl 1 rfl) ?_
      refine lv_aload_n hx hb dO_amountAt_13 rfl (lv_at hl 0 rfl) ?_
      refine ro_get (v := .ref (ad (4 * i + 14))) hx hb hts hown hC hG 1 hi (by decide) q_224 (rfl) dO_amountAt_14 ?_
      refine ra_len hx hb hC hG (4 * i + 14) 10 (by omega) (fun _ _ => gr_Am i) (v := 10) rfl dO_amountAt_17 ?_
      refine lv_icmp_ge (tgt := 30) hx hb dO_amountAt_18 (by decide) (fun c_3 => ?_) (fun c_3 => ?_)
      · refine lv_iconst (v := (-1)) hx hb dO_amountAt_30 (by decide) ?_
        exact W.iret (v := (-1)) hx hb hr (fun t ht hW => ⟨_, rfl, (by rw [fO_amountAt, if_neg c_1, if_neg c_2, if_pos c_3] <;> rfl), ht⟩) (fun q h => nomatch h) dO_amountAt_31
      · refine lv_aload_n hx hb dO_amountAt_21 rfl (lv_at hl 0 rfl) ?_
        refine ro_get (v := .ref (ad (4 * i + 14))) hx hb hts hown hC hG 1 hi (by decide) q_224 (rfl) dO_amountAt_22 ?_
        refine lv_iload_n hx hb dO_amountAt_25 rfl (lv_at hl 1 rfl) ?_
        refine ra_ld hx hb hC hG (4 * i + 14) 10 (by omega) (fun _ _ => gr_Am i) (vin_a (by decide) (by decide) c_1 c_3) dO_amountAt_26 ?_
        refine lv_goto (tgt := 31) hx hb dO_amountAt_27 (by decide) ?_
        exact W.iret (v := sA (4 * i + 14) p0.toNatClampNeg) hx hb hr (fun t ht hW => ⟨_, rfl, (by rw [fO_amountAt, if_neg c_1, if_neg c_2, if_neg c_3] <;> rfl), ht⟩) (fun q h => nomatch h) dO_amountAt_31
def fL_heldForIt (sL : NL) (sA : NA) (i : Nat) : Int32 := if (sA (4 * i + 11) 4) = 4 then 0 else (if (sA (4 * i + 11) 4) = 3 then (sA (4 * i + 11) 6) - (sA (4 * i + 11) 10) else 0 - (sA (4 * i + 11) 10))
theorem hdyL_heldForIt : yL_heldForIt.cls ≠ "java/lang/invoke/MethodHandle" ∧ yL_heldForIt.cls ≠ "java/lang/invoke/VarHandle" ∧ (parseMethodDescriptor yL_heldForIt.desc).map (fun d => d.parameters.length) = some 0 := by decide +kernel
theorem dL_heldForIt_0 : decode bL_heldForIt 0 = .ok (.aload_n 0, 1) := by decide +kernel
theorem dL_heldForIt_1 : decode bL_heldForIt 1 = .ok (.getfield 28, 3) := by decide +kernel
theorem dL_heldForIt_4 : decode bL_heldForIt 4 = .ok (.iconst 4, 1) := by decide +kernel
theorem dL_heldForIt_5 : decode bL_heldForIt 5 = .ok (.if_icmp .ne 5, 3) := by decide +kernel
theorem dL_heldForIt_8 : decode bL_heldForIt 8 = .ok (.iconst 0, 1) := by decide +kernel
theorem dL_heldForIt_9 : decode bL_heldForIt 9 = .ok (.ireturn, 1) := by decide +kernel
theorem dL_heldForIt_10 : decode bL_heldForIt 10 = .ok (.aload_n 0, 1) := by decide +kernel
theorem dL_heldForIt_11 : decode bL_heldForIt 11 = .ok (.getfield 28, 3) := by decide +kernel
theorem dL_heldForIt_14 : decode bL_heldForIt 14 = .ok (.iconst 3, 1) := by decide +kernel
theorem dL_heldForIt_15 : decode bL_heldForIt 15 = .ok (.if_icmp .ne 10, 3) := by decide +kernel
theorem dL_heldForIt_18 : decode bL_heldForIt 18 = .ok (.aload_n 0, 1) := by decide +kernel
theorem dL_heldForIt_19 : decode bL_heldForIt 19 = .ok (.getfield 34, 3) := by decide +kernel
theorem dL_heldForIt_22 : decode bL_heldForIt 22 = .ok (.goto 4, 3) := by decide +kernel
theorem dL_heldForIt_25 : decode bL_heldForIt 25 = .ok (.iconst 0, 1) := by decide +kernel
theorem dL_heldForIt_26 : decode bL_heldForIt 26 = .ok (.aload_n 0, 1) := by decide +kernel
theorem dL_heldForIt_27 : decode bL_heldForIt 27 = .ok (.getfield 43, 3) := by decide +kernel
theorem dL_heldForIt_30 : decode bL_heldForIt 30 = .ok (.isub, 1) := by decide +kernel
theorem dL_heldForIt_31 : decode bL_heldForIt 31 = .ok (.ireturn, 1) := by decide +kernel
set_option maxHeartbeats 4000000 in
set_option maxRecDepth 100000 in
theorem cL_heldForIt (l : Launch) (D : va_G) (tI tJ tL : ClassId) (A : Nat → Prop) (sg ad : Nat → Nat) (n : Nat) (sL : NL) (sA : NA) (i : Nat) (hi : i < n) : Met l yL_heldForIt (Cond.code yL_heldForIt bL_heldForIt 1 (some FieldType.int) :: wNeed) { frames := 0, cells := 0, slots := 0, locals := 0 } (va_Pc [.ref (ad (4 * i + 11))] (GP D tI tJ tL A sg ad n sL sA)) (vp_Si fun r => r = fL_heldForIt sL sA i) 0 0 (fun _ => False) := by
  refine en_M (av := [.ref (ad (4 * i + 11))]) (by decide) (Nat.le_of_ble_eq_true rfl) ?_
  intro p e s m below meth c hx hb hml hown hts hr hlocks hmname hP ls hl
  obtain ⟨hG, hC⟩ := hP
  have hS : va_S A s.heap s.heap [] := va_S.rf
  replace hl : lv_has ls 1 [(0, .ref (ad (4 * i + 11)))] := hl
  refine lv_aload_n hx hb dL_heldForIt_0 rfl (lv_at hl 0 rfl) ?_
  refine rl_get (v := .int (sA (4 * i + 11) 4)) hx hb hts hown hC hG 4 hi (by decide) q_243 (rfl) dL_heldForIt_1 ?_
  refine lv_iconst (v := 4) hx hb dL_heldForIt_4 (by decide) ?_
  refine lv_icmp_ne (tgt := 10) hx hb dL_heldForIt_5 (by decide) (fun c_1 => ?_) (fun c_1 => ?_)
  · refine lv_aload_n hx hb dL_heldForIt_10 rfl (lv_at hl 0 rfl) ?_
    refine rl_get (v := .int (sA (4 * i + 11) 4)) hx hb hts hown hC hG 4 hi (by decide) q_243 (rfl) dL_heldForIt_11 ?_
    refine lv_iconst (v := 3) hx hb dL_heldForIt_14 (by decide) ?_
    refine lv_icmp_ne (tgt := 25) hx hb dL_heldForIt_15 (by decide) (fun c_2 => ?_) (fun c_2 => ?_)
    · refine lv_iconst (v := 0) hx hb dL_heldForIt_25 (by decide) ?_
      refine lv_aload_n hx hb dL_heldForIt_26 rfl (lv_at hl 0 rfl) ?_
      refine rl_get (v := .int (sA (4 * i + 11) 10)) hx hb hts hown hC hG 10 hi (by decide) q_253 (rfl) dL_heldForIt_27 ?_
      refine lv_isub hx hb dL_heldForIt_30 ?_
      exact W.iret (v := 0 - (sA (4 * i + 11) 10)) hx hb hr (fun t ht hW => ⟨_, rfl, (by rw [fL_heldForIt, if_neg c_1, if_neg c_2] <;> rfl), ht⟩) (fun q h => nomatch h) dL_heldForIt_31
    · refine lv_aload_n hx hb dL_heldForIt_18 rfl (lv_at hl 0 rfl) ?_
      refine rl_get (v := .int (sA (4 * i + 11) 6)) hx hb hts hown hC hG 6 hi (by decide) q_247 (rfl) dL_heldForIt_19 ?_
      refine lv_goto (tgt := 26) hx hb dL_heldForIt_22 (by decide) ?_
      refine lv_aload_n hx hb dL_heldForIt_26 rfl (lv_at hl 0 rfl) ?_
      refine rl_get (v := .int (sA (4 * i + 11) 10)) hx hb hts hown hC hG 10 hi (by decide) q_253 (rfl) dL_heldForIt_27 ?_
      refine lv_isub hx hb dL_heldForIt_30 ?_
      exact W.iret (v := (sA (4 * i + 11) 6) - (sA (4 * i + 11) 10)) hx hb hr (fun t ht hW => ⟨_, rfl, (by rw [fL_heldForIt, if_neg c_1, if_pos c_2] <;> rfl), ht⟩) (fun q h => nomatch h) dL_heldForIt_31
  · refine lv_iconst (v := 0) hx hb dL_heldForIt_8 (by decide) ?_
    exact W.iret (v := 0) hx hb hr (fun t ht hW => ⟨_, rfl, (by rw [fL_heldForIt, if_pos c_1] <;> rfl), ht⟩) (fun q h => nomatch h) dL_heldForIt_9
def fL_open (sL : NL) (sA : NA) (i : Nat) (p0 : Int32) : NL × NA := (sL, (up2 (up2 (up2 (up2 (up2 sA (4 * i + 12) 2 0) (4 * i + 11) 3 p0) (4 * i + 11) 4 0) (4 * i + 11) 5 (-1)) (4 * i + 11) 6 (-1)))
theorem hdyL_open : yL_open.cls ≠ "java/lang/invoke/MethodHandle" ∧ yL_open.cls ≠ "java/lang/invoke/VarHandle" ∧ (parseMethodDescriptor yL_open.desc).map (fun d => d.parameters.length) = some 1 := by decide +kernel
theorem dL_open_0 : decode bL_open 0 = .ok (.aload_n 0, 1) := by decide +kernel
theorem dL_open_1 : decode bL_open 1 = .ok (.getfield 24, 3) := by decide +kernel
theorem dL_open_4 : decode bL_open 4 = .ok (.iconst 0, 1) := by decide +kernel
theorem dL_open_5 : decode bL_open 5 = .ok (.putfield 40, 3) := by decide +kernel
theorem dL_open_8 : decode bL_open 8 = .ok (.aload_n 0, 1) := by decide +kernel
theorem dL_open_9 : decode bL_open 9 = .ok (.iload_n 1, 1) := by decide +kernel
theorem dL_open_10 : decode bL_open 10 = .ok (.putfield 18, 3) := by decide +kernel
theorem dL_open_13 : decode bL_open 13 = .ok (.aload_n 0, 1) := by decide +kernel
theorem dL_open_14 : decode bL_open 14 = .ok (.iconst 0, 1) := by decide +kernel
theorem dL_open_15 : decode bL_open 15 = .ok (.putfield 28, 3) := by decide +kernel
theorem dL_open_18 : decode bL_open 18 = .ok (.aload_n 0, 1) := by decide +kernel
theorem dL_open_19 : decode bL_open 19 = .ok (.iconst (-1), 1) := by decide +kernel
theorem dL_open_20 : decode bL_open 20 = .ok (.putfield 31, 3) := by decide +kernel
theorem dL_open_23 : decode bL_open 23 = .ok (.aload_n 0, 1) := by decide +kernel
theorem dL_open_24 : decode bL_open 24 = .ok (.iconst (-1), 1) := by decide +kernel
theorem dL_open_25 : decode bL_open 25 = .ok (.putfield 34, 3) := by decide +kernel
theorem dL_open_28 : decode bL_open 28 = .ok (.return_, 1) := by decide +kernel
set_option maxHeartbeats 4000000 in
set_option maxRecDepth 100000 in
theorem cL_open (l : Launch) (D : va_G) (tI tJ tL : ClassId) (A : Nat → Prop) (sg ad : Nat → Nat) (n : Nat) (sL : NL) (sA : NA) (i : Nat) (hi : i < n) (p0 : Int32) : Met l yL_open (Cond.code yL_open bL_open 2 none :: wNeed) { frames := 0, cells := 0, slots := 0, locals := 0 } (va_Pc [.ref (ad (4 * i + 11)), .int p0] (GP D tI tJ tL A sg ad n sL sA)) (va_Qv (fun u : NL × NA => fL_open sL sA i p0 = u) (fun u t => GW D tI tJ tL A ad n u.1 u.2 t.heap) A) 0 0 A := by
  refine en_G (av := [.ref (ad (4 * i + 11)), .int p0]) (by decide) (Nat.le_of_ble_eq_true rfl) ?_
  intro p e s m below meth c hx hb hml hown hts hr hlocks hmname hC H locs hG hS ls hl
  replace hl : lv_has ls 2 [(0, .ref (ad (4 * i + 11))), (1, .int p0)] := hl
  refine lv_aload_n hx hb dL_open_0 rfl (lv_at hl 0 rfl) ?_
  refine rl_get (v := .ref (ad (4 * i + 12))) hx hb hts hown hC hG 2 hi (by decide) q_239 (rfl) dL_open_1 ?_
  refine lv_iconst (v := 0) hx hb dL_open_4 (by decide) ?_
  refine ro_putN hx hb hts hown hC hG hS hi z_226 dL_open_5 (fun H locs hG hS => ?_)
  refine lv_aload_n hx hb dL_open_8 rfl (lv_at hl 0 rfl) ?_
  refine lv_iload_n hx hb dL_open_9 rfl (lv_at hl 1 rfl) ?_
  refine rl_put hx hb hts hown hC hG hS 3 hi (by decide) (by decide) q_241 dL_open_10 (fun H locs hG hS => ?_)
  refine lv_aload_n hx hb dL_open_13 rfl (lv_at hl 0 rfl) ?_
  refine lv_iconst (v := 0) hx hb dL_open_14 (by decide) ?_
  refine rl_put hx hb hts hown hC hG hS 4 hi (by decide) (by decide) q_243 dL_open_15 (fun H locs hG hS => ?_)
  refine lv_aload_n hx hb dL_open_18 rfl (lv_at hl 0 rfl) ?_
  refine lv_iconst (v := (-1)) hx hb dL_open_19 (by decide) ?_
  refine rl_put hx hb hts hown hC hG hS 5 hi (by decide) (by decide) q_245 dL_open_20 (fun H locs hG hS => ?_)
  refine lv_aload_n hx hb dL_open_23 rfl (lv_at hl 0 rfl) ?_
  refine lv_iconst (v := (-1)) hx hb dL_open_24 (by decide) ?_
  refine rl_put hx hb hts hown hC hG hS 6 hi (by decide) (by decide) q_247 dL_open_25 (fun H locs hG hS => ?_)
  refine W.widen (k := 0) (n := 0) (Nat.le_of_ble_eq_true rfl) (Nat.le_of_ble_eq_true rfl) ?_
  exact W.vret hx hb hr (fun t ht hW => ⟨⟨(sL, (up2 (up2 (up2 (up2 (up2 sA (4 * i + 12) 2 0) (4 * i + 11) 3 p0) (4 * i + 11) 4 0) (4 * i + 11) 5 (-1)) (4 * i + 11) 6 (-1))), rfl, (by rw [fL_open] <;> rfl), gw_at hG ht⟩, hS.F ht⟩) hS.2.2 dL_open_28
def fX_isTooLongDead (sL : NL) (sA : NA) (i : Nat) : Int32 := if (sA (4 * i + 11) 1) = 0 then 0 else (if ((sA (4 * i + 11) 7) - (sA (4 * i + 11) 1)) ≤ 70 then 0 else 1)
theorem hdyX_isTooLongDead : yX_isTooLongDead.cls ≠ "java/lang/invoke/MethodHandle" ∧ yX_isTooLongDead.cls ≠ "java/lang/invoke/VarHandle" ∧ (parseMethodDescriptor yX_isTooLongDead.desc).map (fun d => d.parameters.length) = some 1 := by decide +kernel
theorem dX_isTooLongDead_0 : decode bX_isTooLongDead 0 = .ok (.aload_n 0, 1) := by decide +kernel
theorem dX_isTooLongDead_1 : decode bX_isTooLongDead 1 = .ok (.getfield 209, 3) := by decide +kernel
theorem dX_isTooLongDead_4 : decode bX_isTooLongDead 4 = .ok (.ifCond .eq 21, 3) := by decide +kernel
theorem dX_isTooLongDead_7 : decode bX_isTooLongDead 7 = .ok (.aload_n 0, 1) := by decide +kernel
theorem dX_isTooLongDead_8 : decode bX_isTooLongDead 8 = .ok (.getfield 107, 3) := by decide +kernel
theorem dX_isTooLongDead_11 : decode bX_isTooLongDead 11 = .ok (.aload_n 0, 1) := by decide +kernel
theorem dX_isTooLongDead_12 : decode bX_isTooLongDead 12 = .ok (.getfield 209, 3) := by decide +kernel
theorem dX_isTooLongDead_15 : decode bX_isTooLongDead 15 = .ok (.isub, 1) := by decide +kernel
theorem dX_isTooLongDead_16 : decode bX_isTooLongDead 16 = .ok (.bipush 70, 2) := by decide +kernel
theorem dX_isTooLongDead_18 : decode bX_isTooLongDead 18 = .ok (.if_icmp .le 7, 3) := by decide +kernel
theorem dX_isTooLongDead_21 : decode bX_isTooLongDead 21 = .ok (.iconst 1, 1) := by decide +kernel
theorem dX_isTooLongDead_22 : decode bX_isTooLongDead 22 = .ok (.goto 4, 3) := by decide +kernel
theorem dX_isTooLongDead_25 : decode bX_isTooLongDead 25 = .ok (.iconst 0, 1) := by decide +kernel
theorem dX_isTooLongDead_26 : decode bX_isTooLongDead 26 = .ok (.ireturn, 1) := by decide +kernel
set_option maxHeartbeats 4000000 in
set_option maxRecDepth 100000 in
theorem cX_isTooLongDead (l : Launch) (D : va_G) (tI tJ tL : ClassId) (A : Nat → Prop) (sg ad : Nat → Nat) (n : Nat) (sL : NL) (sA : NA) (i : Nat) (hi : i < n) : Met l yX_isTooLongDead (Cond.code yX_isTooLongDead bX_isTooLongDead 1 (some FieldType.boolean) :: wNeed) { frames := 0, cells := 0, slots := 0, locals := 0 } (va_Pc [.ref (ad (4 * i + 11))] (GP D tI tJ tL A sg ad n sL sA)) (vp_Si fun r => r = fX_isTooLongDead sL sA i) 0 0 (fun _ => False) := by
  refine en_M (av := [.ref (ad (4 * i + 11))]) (by decide) (Nat.le_of_ble_eq_true rfl) ?_
  intro p e s m below meth c hx hb hml hown hts hr hlocks hmname hP ls hl
  obtain ⟨hG, hC⟩ := hP
  have hS : va_S A s.heap s.heap [] := va_S.rf
  replace hl : lv_has ls 1 [(0, .ref (ad (4 * i + 11)))] := hl
  refine lv_aload_n hx hb dX_isTooLongDead_0 rfl (lv_at hl 0 rfl) ?_
  refine rl_getN (v := .int (sA (4 * i + 11) 1)) hx hb hts hown hC hG 1 hi (by decide) z_238 (rfl) dX_isTooLongDead_1 ?_
  refine lv_if_eq (tgt := 25) hx hb dX_isTooLongDead_4 (by decide) (fun c_1 => ?_) (fun c_1 => ?_)
  · refine lv_iconst (v := 0) hx hb dX_isTooLongDead_25 (by decide) ?_
    exact W.zret (v := 0) hx hb hr rfl (fun t ht hW => ⟨_, rfl, (by rw [fX_isTooLongDead, if_pos c_1] <;> rfl), ht⟩) (fun q h => nomatch h) dX_isTooLongDead_26
  · refine lv_aload_n hx hb dX_isTooLongDead_7 rfl (lv_at hl 0 rfl) ?_
    refine rl_getN (v := .int (sA (4 * i + 11) 7)) hx hb hts hown hC hG 7 hi (by decide) z_249 (rfl) dX_isTooLongDead_8 ?_
    refine lv_aload_n hx hb dX_isTooLongDead_11 rfl (lv_at hl 0 rfl) ?_
    refine rl_getN (v := .int (sA (4 * i + 11) 1)) hx hb hts hown hC hG 1 hi (by decide) z_238 (rfl) dX_isTooLongDead_12 ?_
    refine lv_isub hx hb dX_isTooLongDead_15 ?_
    refine lv_bipush (v := 70) hx hb dX_isTooLongDead_16 (by decide) ?_
    refine lv_icmp_le (tgt := 25) hx hb dX_isTooLongDead_18 (by decide) (fun c_2 => ?_) (fun c_2 => ?_)
    · refine lv_iconst (v := 0) hx hb dX_isTooLongDead_25 (by decide) ?_
      exact W.zret (v := 0) hx hb hr rfl (fun t ht hW => ⟨_, rfl, (by rw [fX_isTooLongDead, if_neg c_1, if_pos c_2] <;> rfl), ht⟩) (fun q h => nomatch h) dX_isTooLongDead_26
    · refine lv_iconst (v := 1) hx hb dX_isTooLongDead_21 (by decide) ?_
      refine lv_goto (tgt := 26) hx hb dX_isTooLongDead_22 (by decide) ?_
      exact W.zret (v := 1) hx hb hr rfl (fun t ht hW => ⟨_, rfl, (by rw [fX_isTooLongDead, if_neg c_1, if_neg c_2] <;> rfl), ht⟩) (fun q h => nomatch h) dX_isTooLongDead_26
def fX_shareOf (sL : NL) (sA : NA) (i : Nat) : Int32 := if (sA (4 * i + 11) 1) = (-1) then 0 else (if (sA (4 * i + 11) 6) < 1000 then 0 else (if (fX_isTooLongDead sL sA i) = 0 then imin 12500 (((fX_ofBand (sA (4 * i + 11) 6) 0 50000 4) + (fX_ofBand (sA (4 * i + 11) 6) 50000 200000 3)) + (fX_ofBand (sA (4 * i + 11) 6) 200000 1000000 1)) else 0))
theorem hdyX_shareOf : yX_shareOf.cls ≠ "java/lang/invoke/MethodHandle" ∧ yX_shareOf.cls ≠ "java/lang/invoke/VarHandle" ∧ (parseMethodDescriptor yX_shareOf.desc).map (fun d => d.parameters.length) = some 1 := by decide +kernel
theorem dX_shareOf_0 : decode bX_shareOf 0 = .ok (.aload_n 0, 1) := by decide +kernel
theorem dX_shareOf_1 : decode bX_shareOf 1 = .ok (.getfield 101, 3) := by decide +kernel
theorem dX_shareOf_4 : decode bX_shareOf 4 = .ok (.istore_n 1, 1) := by decide +kernel
theorem dX_shareOf_5 : decode bX_shareOf 5 = .ok (.aload_n 0, 1) := by decide +kernel
theorem dX_shareOf_6 : decode bX_shareOf 6 = .ok (.getfield 209, 3) := by decide +kernel
theorem dX_shareOf_9 : decode bX_shareOf 9 = .ok (.iconst (-1), 1) := by decide +kernel
theorem dX_shareOf_10 : decode bX_shareOf 10 = .ok (.if_icmp .eq 17, 3) := by decide +kernel
theorem dX_shareOf_13 : decode bX_shareOf 13 = .ok (.iload_n 1, 1) := by decide +kernel
theorem dX_shareOf_14 : decode bX_shareOf 14 = .ok (.sipush 1000, 3) := by decide +kernel
theorem dX_shareOf_17 : decode bX_shareOf 17 = .ok (.if_icmp .lt 10, 3) := by decide +kernel
theorem dX_shareOf_20 : decode bX_shareOf 20 = .ok (.aload_n 0, 1) := by decide +kernel
theorem dX_shareOf_21 : decode bX_shareOf 21 = .ok (.invokestatic 212, 3) := by decide +kernel
theorem dX_shareOf_24 : decode bX_shareOf 24 = .ok (.ifCond .eq 5, 3) := by decide +kernel
theorem dX_shareOf_27 : decode bX_shareOf 27 = .ok (.iconst 0, 1) := by decide +kernel
theorem dX_shareOf_28 : decode bX_shareOf 28 = .ok (.ireturn, 1) := by decide +kernel
theorem dX_shareOf_29 : decode bX_shareOf 29 = .ok (.iload_n 1, 1) := by decide +kernel
theorem dX_shareOf_30 : decode bX_shareOf 30 = .ok (.iconst 0, 1) := by decide +kernel
theorem dX_shareOf_31 : decode bX_shareOf 31 = .ok (.ldc 208, 2) := by decide +kernel
theorem dX_shareOf_33 : decode bX_shareOf 33 = .ok (.iconst 4, 1) := by decide +kernel
theorem dX_shareOf_34 : decode bX_shareOf 34 = .ok (.invokestatic 204, 3) := by decide +kernel
theorem dX_shareOf_37 : decode bX_shareOf 37 = .ok (.iload_n 1, 1) := by decide +kernel
theorem dX_shareOf_38 : decode bX_shareOf 38 = .ok (.ldc 208, 2) := by decide +kernel
theorem dX_shareOf_40 : decode bX_shareOf 40 = .ok (.ldc 216, 2) := by decide +kernel
theorem dX_shareOf_42 : decode bX_shareOf 42 = .ok (.iconst 3, 1) := by decide +kernel
theorem dX_shareOf_43 : decode bX_shareOf 43 = .ok (.invokestatic 204, 3) := by decide +kernel
theorem dX_shareOf_46 : decode bX_shareOf 46 = .ok (.iadd, 1) := by decide +kernel
theorem dX_shareOf_47 : decode bX_shareOf 47 = .ok (.iload_n 1, 1) := by decide +kernel
theorem dX_shareOf_48 : decode bX_shareOf 48 = .ok (.ldc 216, 2) := by decide +kernel
theorem dX_shareOf_50 : decode bX_shareOf 50 = .ok (.ldc 30, 2) := by decide +kernel
theorem dX_shareOf_52 : decode bX_shareOf 52 = .ok (.iconst 1, 1) := by decide +kernel
theorem dX_shareOf_53 : decode bX_shareOf 53 = .ok (.invokestatic 204, 3) := by decide +kernel
theorem dX_shareOf_56 : decode bX_shareOf 56 = .ok (.iadd, 1) := by decide +kernel
theorem dX_shareOf_57 : decode bX_shareOf 57 = .ok (.istore_n 2, 1) := by decide +kernel
theorem dX_shareOf_58 : decode bX_shareOf 58 = .ok (.sipush 12500, 3) := by decide +kernel
theorem dX_shareOf_61 : decode bX_shareOf 61 = .ok (.iload_n 2, 1) := by decide +kernel
theorem dX_shareOf_62 : decode bX_shareOf 62 = .ok (.invokestatic 195, 3) := by decide +kernel
theorem dX_shareOf_65 : decode bX_shareOf 65 = .ok (.ireturn, 1) := by decide +kernel
set_option maxHeartbeats 4000000 in
set_option maxRecDepth 100000 in
theorem cX_shareOf (l : Launch) (D : va_G) (tI tJ tL : ClassId) (A : Nat → Prop) (sg ad : Nat → Nat) (n : Nat) (sL : NL) (sA : NA) (i : Nat) (hi : i < n) : Met l yX_shareOf (Cond.code yX_shareOf bX_shareOf 3 (some FieldType.int) :: wNeed) { frames := 2, cells := 0, slots := 0, locals := 44 } (va_Pc [.ref (ad (4 * i + 11))] (GP D tI tJ tL A sg ad n sL sA)) (vp_Si fun r => r = fX_shareOf sL sA i) 0 0 (fun _ => False) := by
  refine en_M (av := [.ref (ad (4 * i + 11))]) (by decide) (Nat.le_of_ble_eq_true rfl) ?_
  intro p e s m below meth c hx hb hml hown hts hr hlocks hmname hP ls hl
  obtain ⟨hG, hC⟩ := hP
  have hS : va_S A s.heap s.heap [] := va_S.rf
  replace hl : lv_has ls 3 [(0, .ref (ad (4 * i + 11)))] := hl
  refine lv_aload_n hx hb dX_shareOf_0 rfl (lv_at hl 0 rfl) ?_
  refine rl_getN (v := .int (sA (4 * i + 11) 6)) hx hb hts hown hC hG 6 hi (by decide) z_248 (rfl) dX_shareOf_1 ?_
  refine lv_istore_n (lv' := [(1, .int (sA (4 * i + 11) 6)), (0, .ref (ad (4 * i + 11)))]) hx hb dX_shareOf_4 rfl hl (by decide) rfl (fun ls hl => ?_)
  refine lv_aload_n hx hb dX_shareOf_5 rfl (lv_at hl 1 rfl) ?_
  refine rl_getN (v := .int (sA (4 * i + 11) 1)) hx hb hts hown hC hG 1 hi (by decide) z_238 (rfl) dX_shareOf_6 ?_
  refine lv_iconst (v := (-1)) hx hb dX_shareOf_9 (by decide) ?_
  refine lv_icmp_eq (tgt := 27) hx hb dX_shareOf_10 (by decide) (fun c_1 => ?_) (fun c_1 => ?_)
  · refine lv_iconst (v := 0) hx hb dX_shareOf_27 (by decide) ?_
    exact W.iret (v := 0) hx hb hr (fun t ht hW => ⟨_, rfl, (by rw [fX_shareOf, if_pos c_1] <;> rfl), ht⟩) (fun q h => nomatch h) dX_shareOf_28
  · refine lv_iload_n hx hb dX_shareOf_13 rfl (lv_at hl 0 rfl) ?_
    refine lv_sipush (v := 1000) hx hb dX_shareOf_14 (by decide) ?_
    refine lv_icmp_lt (tgt := 27) hx hb dX_shareOf_17 (by decide) (fun c_2 => ?_) (fun c_2 => ?_)
    · refine lv_iconst (v := 0) hx hb dX_shareOf_27 (by decide) ?_
      exact W.iret (v := 0) hx hb hr (fun t ht hW => ⟨_, rfl, (by rw [fX_shareOf, if_neg c_1, if_pos c_2] <;> rfl), ht⟩) (fun q h => nomatch h) dX_shareOf_28
    · refine lv_aload_n hx hb dX_shareOf_20 rfl (lv_at hl 1 rfl) ?_
      refine rcS2 (rest := []) (As := [.ref (ad (4 * i + 11))]) hx hb hml hown hts hC hG hS (cX_isTooLongDead l D tI tJ tL A sg ad n sL sA i hi) (gS q_393 q_394 q_1 q_395) rfl rfl ⟨rfl, hdyX_isTooLongDead⟩ ⟨Nat.le_of_ble_eq_true rfl, Nat.le_of_ble_eq_true rfl⟩ hl.1 rfl (Nat.le_of_ble_eq_true rfl) dX_shareOf_21 ⟨Nat.le_of_ble_eq_true rfl, Nat.le_of_ble_eq_true rfl⟩ ?_
      refine lv_if_eq (tgt := 29) hx hb dX_shareOf_24 (by decide) (fun c_3 => ?_) (fun c_3 => ?_)
      · refine lv_iload_n hx hb dX_shareOf_29 rfl (lv_at hl 0 rfl) ?_
        refine lv_iconst (v := 0) hx hb dX_shareOf_30 (by decide) ?_
        refine lv_ldc (v := 50000) hx hb hown (hts _ q_355) dX_shareOf_31 ?_
        refine lv_iconst (v := 4) hx hb dX_shareOf_33 (by decide) ?_
        refine rcS1 (rest := []) (As := [.int (sA (4 * i + 11) 6), .int 0, .int 50000, .int 4]) hx hb hml hown hts (cX_ofBand l (sA (4 * i + 11) 6) 0 50000 4) (gS q_352 q_353 q_1 q_354) rfl rfl ⟨rfl, hdyX_ofBand⟩ ⟨Nat.le_of_ble_eq_true rfl, Nat.le_of_ble_eq_true rfl⟩ hl.1 rfl (Nat.le_of_ble_eq_true rfl) dX_shareOf_34 ⟨Nat.le_of_ble_eq_true rfl, Nat.le_of_ble_eq_true rfl⟩ ?_
        refine lv_iload_n hx hb dX_shareOf_37 rfl (lv_at hl 0 rfl) ?_
        refine lv_ldc (v := 50000) hx hb hown (hts _ q_355) dX_shareOf_38 ?_
        refine lv_ldc (v := 200000) hx hb hown (hts _ q_396) dX_shareOf_40 ?_
        refine lv_iconst (v := 3) hx hb dX_shareOf_42 (by decide) ?_
        refine rcS1 (rest := [.int (fX_ofBand (sA (4 * i + 11) 6) 0 50000 4)]) (As := [.int (sA (4 * i + 11) 6), .int 50000, .int 200000, .int 3]) hx hb hml hown hts (cX_ofBand l (sA (4 * i + 11) 6) 50000 200000 3) (gS q_352 q_353 q_1 q_354) rfl rfl ⟨rfl, hdyX_ofBand⟩ ⟨Nat.le_of_ble_eq_true rfl, Nat.le_of_ble_eq_true rfl⟩ hl.1 rfl (Nat.le_of_ble_eq_true rfl) dX_shareOf_43 ⟨Nat.le_of_ble_eq_true rfl, Nat.le_of_ble_eq_true rfl⟩ ?_
        refine lv_iadd hx hb dX_shareOf_46 ?_
        refine lv_iload_n hx hb dX_shareOf_47 rfl (lv_at hl 0 rfl) ?_
        refine lv_ldc (v := 200000) hx hb hown (hts _ q_396) dX_shareOf_48 ?_
        refine lv_ldc (v := 1000000) hx hb hown (hts _ q_186) dX_shareOf_50 ?_
        refine lv_iconst (v := 1) hx hb dX_shareOf_52 (by decide) ?_
        refine rcS1 (rest := [.int ((fX_ofBand (sA (4 * i + 11) 6) 0 50000 4) + (fX_ofBand (sA (4 * i + 11) 6) 50000 200000 3))]) (As := [.int (sA (4 * i + 11) 6), .int 200000, .int 1000000, .int 1]) hx hb hml hown hts (cX_ofBand l (sA (4 * i + 11) 6) 200000 1000000 1) (gS q_352 q_353 q_1 q_354) rfl rfl ⟨rfl, hdyX_ofBand⟩ ⟨Nat.le_of_ble_eq_true rfl, Nat.le_of_ble_eq_true rfl⟩ hl.1 rfl (Nat.le_of_ble_eq_true rfl) dX_shareOf_53 ⟨Nat.le_of_ble_eq_true rfl, Nat.le_of_ble_eq_true rfl⟩ ?_
        refine lv_iadd hx hb dX_shareOf_56 ?_
        refine lv_istore_n (lv' := [(2, .int (((fX_ofBand (sA (4 * i + 11) 6) 0 50000 4) + (fX_ofBand (sA (4 * i + 11) 6) 50000 200000 3)) + (fX_ofBand (sA (4 * i + 11) 6) 200000 1000000 1))), (1, .int (sA (4 * i + 11) 6)), (0, .ref (ad (4 * i + 11)))]) hx hb dX_shareOf_57 rfl hl (by decide) rfl (fun ls hl => ?_)
        refine lv_sipush (v := 12500) hx hb dX_shareOf_58 (by decide) ?_
        refine lv_iload_n hx hb dX_shareOf_61 rfl (lv_at hl 0 rfl) ?_
        refine va_mmin hx hb (by rw [hml]; exact hl.1.symm) hown (hts _ q_333) (hts _ q_334) (hts _ q_6) (hts _ q_335) (Nat.le_of_ble_eq_true rfl) (Nat.le_of_ble_eq_true rfl) (Nat.le_of_ble_eq_true rfl) (Nat.le_of_ble_eq_true rfl) dX_shareOf_62 ?_
        exact W.iret (v := imin 12500 (((fX_ofBand (sA (4 * i + 11) 6) 0 50000 4) + (fX_ofBand (sA (4 * i + 11) 6) 50000 200000 3)) + (fX_ofBand (sA (4 * i + 11) 6) 200000 1000000 1))) hx hb hr (fun t ht hW => ⟨_, rfl, (by rw [fX_shareOf, if_neg c_1, if_neg c_2, if_pos c_3] <;> rfl), ht⟩) (fun q h => nomatch h) dX_shareOf_65
      · refine lv_iconst (v := 0) hx hb dX_shareOf_27 (by decide) ?_
        exact W.iret (v := 0) hx hb hr (fun t ht hW => ⟨_, rfl, (by rw [fX_shareOf, if_neg c_1, if_neg c_2, if_neg c_3] <;> rfl), ht⟩) (fun q h => nomatch h) dX_shareOf_28
def fX_interestOf (sL : NL) (sA : NA) (i : Nat) : Int32 := if (sA (4 * i + 11) 4) = 4 then sA (4 * i + 11) 12 else (((((sA (4 * i + 11) 10 : Int32).toInt64) * (((sA 0 4) - (sA (4 * i + 11) 11) : Int32).toInt64)) * ((sA 0 5 : Int32).toInt64)) / 100000 : Int64).toInt32
theorem hdyX_interestOf : yX_interestOf.cls ≠ "java/lang/invoke/MethodHandle" ∧ yX_interestOf.cls ≠ "java/lang/invoke/VarHandle" ∧ (parseMethodDescriptor yX_interestOf.desc).map (fun d => d.parameters.length) = some 1 := by decide +kernel
theorem dX_interestOf_0 : decode bX_interestOf 0 = .ok (.aload_n 1, 1) := by decide +kernel
theorem dX_interestOf_1 : decode bX_interestOf 1 = .ok (.getfield 85, 3) := by decide +kernel
theorem dX_interestOf_4 : decode bX_interestOf 4 = .ok (.iconst 4, 1) := by decide +kernel
theorem dX_interestOf_5 : decode bX_interestOf 5 = .ok (.if_icmp .ne 8, 3) := by decide +kernel
theorem dX_interestOf_8 : decode bX_interestOf 8 = .ok (.aload_n 1, 1) := by decide +kernel
theorem dX_interestOf_9 : decode bX_interestOf 9 = .ok (.getfield 168, 3) := by decide +kernel
theorem dX_interestOf_12 : decode bX_interestOf 12 = .ok (.ireturn, 1) := by decide +kernel
theorem dX_interestOf_13 : decode bX_interestOf 13 = .ok (.aload_n 0, 1) := by decide +kernel
theorem dX_interestOf_14 : decode bX_interestOf 14 = .ok (.getfield 104, 3) := by decide +kernel
theorem dX_interestOf_17 : decode bX_interestOf 17 = .ok (.aload_n 1, 1) := by decide +kernel
theorem dX_interestOf_18 : decode bX_interestOf 18 = .ok (.getfield 149, 3) := by decide +kernel
theorem dX_interestOf_21 : decode bX_interestOf 21 = .ok (.isub, 1) := by decide +kernel
theorem dX_interestOf_22 : decode bX_interestOf 22 = .ok (.i2l, 1) := by decide +kernel
theorem dX_interestOf_23 : decode bX_interestOf 23 = .ok (.lstore_n 2, 1) := by decide +kernel
theorem dX_interestOf_24 : decode bX_interestOf 24 = .ok (.aload_n 1, 1) := by decide +kernel
theorem dX_interestOf_25 : decode bX_interestOf 25 = .ok (.getfield 144, 3) := by decide +kernel
theorem dX_interestOf_28 : decode bX_interestOf 28 = .ok (.i2l, 1) := by decide +kernel
theorem dX_interestOf_29 : decode bX_interestOf 29 = .ok (.lload_n 2, 1) := by decide +kernel
theorem dX_interestOf_30 : decode bX_interestOf 30 = .ok (.lmul, 1) := by decide +kernel
theorem dX_interestOf_31 : decode bX_interestOf 31 = .ok (.aload_n 0, 1) := by decide +kernel
theorem dX_interestOf_32 : decode bX_interestOf 32 = .ok (.getfield 22, 3) := by decide +kernel
theorem dX_interestOf_35 : decode bX_interestOf 35 = .ok (.i2l, 1) := by decide +kernel
theorem dX_interestOf_36 : decode bX_interestOf 36 = .ok (.lmul, 1) := by decide +kernel
theorem dX_interestOf_37 : decode bX_interestOf 37 = .ok (.ldc2_w 217, 3) := by decide +kernel
theorem dX_interestOf_40 : decode bX_interestOf 40 = .ok (.ldiv, 1) := by decide +kernel
theorem dX_interestOf_41 : decode bX_interestOf 41 = .ok (.l2i, 1) := by decide +kernel
theorem dX_interestOf_42 : decode bX_interestOf 42 = .ok (.ireturn, 1) := by decide +kernel
set_option maxHeartbeats 4000000 in
set_option maxRecDepth 100000 in
theorem cX_interestOf (l : Launch) (D : va_G) (tI tJ tL : ClassId) (A : Nat → Prop) (sg ad : Nat → Nat) (n : Nat) (sL : NL) (sA : NA) (i : Nat) (hi : i < n) : Met l yX_interestOf (Cond.code yX_interestOf bX_interestOf 4 (some FieldType.int) :: wNeed) { frames := 0, cells := 0, slots := 0, locals := 0 } (va_Pc [.ref (ad 0), .ref (ad (4 * i + 11))] (GP D tI tJ tL A sg ad n sL sA)) (vp_Si fun r => r = fX_interestOf sL sA i) 0 0 (fun _ => False) := by
  refine en_M (av := [.ref (ad 0), .ref (ad (4 * i + 11))]) (by decide) (Nat.le_of_ble_eq_true rfl) ?_
  intro p e s m below meth c hx hb hml hown hts hr hlocks hmname hP ls hl
  obtain ⟨hG, hC⟩ := hP
  have hS : va_S A s.heap s.heap [] := va_S.rf
  replace hl : lv_has ls 4 [(0, .ref (ad 0)), (1, .ref (ad (4 * i + 11)))] := hl
  refine lv_aload_n hx hb dX_interestOf_0 rfl (lv_at hl 1 rfl) ?_
  refine rl_getN (v := .int (sA (4 * i + 11) 4)) hx hb hts hown hC hG 4 hi (by decide) z_244 (rfl) dX_interestOf_1 ?_
  refine lv_iconst (v := 4) hx hb dX_interestOf_4 (by decide) ?_
  refine lv_icmp_ne (tgt := 13) hx hb dX_interestOf_5 (by decide) (fun c_1 => ?_) (fun c_1 => ?_)
  · refine lv_aload_n hx hb dX_interestOf_13 rfl (lv_at hl 0 rfl) ?_
    refine rx_get (v := .int (sA 0 4)) hx hb hts hown hC hG 4 (by decide) q_25 (rfl) dX_interestOf_14 ?_
    refine lv_aload_n hx hb dX_interestOf_17 rfl (lv_at hl 1 rfl) ?_
    refine rl_getN (v := .int (sA (4 * i + 11) 11)) hx hb hts hown hC hG 11 hi (by decide) z_255 (rfl) dX_interestOf_18 ?_
    refine lv_isub hx hb dX_interestOf_21 ?_
    refine lv_i2l (v := ((sA 0 4) - (sA (4 * i + 11) 11) : Int32).toInt64) hx hb dX_interestOf_22 rfl ?_
    refine lv_lstore_n (lv' := [(2, .long (((sA 0 4) - (sA (4 * i + 11) 11) : Int32).toInt64)), (0, .ref (ad 0)), (1, .ref (ad (4 * i + 11)))]) hx hb dX_interestOf_23 rfl hl (by decide) rfl (fun ls hl => ?_)
    refine lv_aload_n hx hb dX_interestOf_24 rfl (lv_at hl 2 rfl) ?_
    refine rl_getN (v := .int (sA (4 * i + 11) 10)) hx hb hts hown hC hG 10 hi (by decide) z_254 (rfl) dX_interestOf_25 ?_
    refine lv_i2l (v := (sA (4 * i + 11) 10 : Int32).toInt64) hx hb dX_interestOf_28 rfl ?_
    refine lv_lload_n hx hb dX_interestOf_29 rfl (lv_at hl 0 rfl) ?_
    refine lv_lmul hx hb dX_interestOf_30 ?_
    refine lv_aload_n hx hb dX_interestOf_31 rfl (lv_at hl 1 rfl) ?_
    refine rx_get (v := .int (sA 0 5)) hx hb hts hown hC hG 5 (by decide) q_26 (rfl) dX_interestOf_32 ?_
    refine lv_i2l (v := (sA 0 5 : Int32).toInt64) hx hb dX_interestOf_35 rfl ?_
    refine lv_lmul hx hb dX_interestOf_36 ?_
    refine lv_ldc2 (v := 100000) hx hb hown (hts _ q_401) dX_interestOf_37 ?_
    refine lv_ldiv hx hb dX_interestOf_40 (by decide) ?_
    refine lv_l2i (v := (((((sA (4 * i + 11) 10 : Int32).toInt64) * (((sA 0 4) - (sA (4 * i + 11) 11) : Int32).toInt64)) * ((sA 0 5 : Int32).toInt64)) / 100000 : Int64).toInt32) hx hb dX_interestOf_41 rfl ?_
    exact W.iret (v := (((((sA (4 * i + 11) 10 : Int32).toInt64) * (((sA 0 4) - (sA (4 * i + 11) 11) : Int32).toInt64)) * ((sA 0 5 : Int32).toInt64)) / 100000 : Int64).toInt32) hx hb hr (fun t ht hW => ⟨_, rfl, (by rw [fX_interestOf, if_neg c_1] <;> rfl), ht⟩) (fun q h => nomatch h) dX_interestOf_42
  · refine lv_aload_n hx hb dX_interestOf_8 rfl (lv_at hl 1 rfl) ?_
    refine rl_getN (v := .int (sA (4 * i + 11) 12)) hx hb hts hown hC hG 12 hi (by decide) z_256 (rfl) dX_interestOf_9 ?_
    exact W.iret (v := sA (4 * i + 11) 12) hx hb hr (fun t ht hW => ⟨_, rfl, (by rw [fX_interestOf, if_pos c_1] <;> rfl), ht⟩) (fun q h => nomatch h) dX_interestOf_12
def fX_hundredthsOf (sL : NL) (sA : NA) (p0 : Int32) : Nat × Int32 := bnd (fX_checkSeller p0) ((0, sA 2 p0.toNatClampNeg)) 0
theorem hdyX_hundredthsOf : yX_hundredthsOf.cls ≠ "java/lang/invoke/MethodHandle" ∧ yX_hundredthsOf.cls ≠ "java/lang/invoke/VarHandle" ∧ (parseMethodDescriptor yX_hundredthsOf.desc).map (fun d => d.parameters.length) = some 1 := by decide +kernel
theorem dX_hundredthsOf_0 : decode bX_hundredthsOf 0 = .ok (.iload_n 1, 1) := by decide +kernel
theorem dX_hundredthsOf_1 : decode bX_hundredthsOf 1 = .ok (.invokestatic 26, 3) := by decide +kernel
theorem dX_hundredthsOf_4 : decode bX_hundredthsOf 4 = .ok (.aload_n 0, 1) := by decide +kernel
theorem dX_hundredthsOf_5 : decode bX_hundredthsOf 5 = .ok (.getfield 15, 3) := by decide +kernel
theorem dX_hundredthsOf_8 : decode bX_hundredthsOf 8 = .ok (.iload_n 1, 1) := by decide +kernel
theorem dX_hundredthsOf_9 : decode bX_hundredthsOf 9 = .ok (.iaload, 1) := by decide +kernel
theorem dX_hundredthsOf_10 : decode bX_hundredthsOf 10 = .ok (.ireturn, 1) := by decide +kernel
set_option maxHeartbeats 4000000 in
set_option maxRecDepth 100000 in
theorem cX_hundredthsOf (l : Launch) (hl9 : l.stackTraces = false) (D : va_G) (tI tJ tL : ClassId) (A : Nat → Prop) (sg ad : Nat → Nat) (n : Nat) (sL : NL) (sA : NA) (p0 : Int32) : vx_Met l yX_hundredthsOf (Cond.code yX_hundredthsOf bX_hundredthsOf 2 (some FieldType.int) :: wNeed) { frames := 7, cells := 1, slots := 6, locals := 110 } (va_Pc [.ref (ad 0), .int p0] (GP D tI tJ tL A sg ad n sL sA)) (va_Qi (fun r (_ : Unit) => fX_hundredthsOf sL sA p0 = (0, r)) (fun _ t => GW D tI tJ tL A ad n sL sA t.heap) A) (XQ D tI tJ tL A ad n sL sA (fX_hundredthsOf sL sA p0).1) 1 6 A := by
  refine en_XG (av := [.ref (ad 0), .int p0]) (by decide) (Nat.le_of_ble_eq_true rfl) ?_
  intro p e s m below meth c hx hb hml hown hts hr hlocks hT hC H locs hG hS ls hl
  replace hl : lv_has ls 2 [(0, .ref (ad 0)), (1, .int p0)] := hl
  refine lv_iload_n hx hb dX_hundredthsOf_0 rfl (lv_at hl 1 rfl) ?_
  refine rcS4 (rest := []) (As := [.int p0]) (Mc := 1) (Ms := 6) hx hb hml hown hts hC hG hS hlocks hT (cX_checkSeller l hl9 D tI tJ tL A sg ad n sL sA p0) (gS q_54 q_55 q_1 q_56) rfl rfl ⟨rfl, hdyX_checkSeller⟩ ⟨Nat.le_of_ble_eq_true rfl, Nat.le_of_ble_eq_true rfl⟩ hl.1 rfl (Nat.le_of_ble_eq_true rfl) dX_hundredthsOf_1 ⟨Nat.le_of_ble_eq_true rfl, Nat.le_of_ble_eq_true rfl⟩ ⟨Nat.le_of_ble_eq_true rfl, Nat.le_of_ble_eq_true rfl⟩ (fun h => by rw [fX_hundredthsOf, bnd_n h] <;> rfl) (fun h_1 H locs hG hS => ?_)
  refine lv_aload_n hx hb dX_hundredthsOf_4 rfl (lv_at hl 0 rfl) ?_
  refine rx_get (v := .ref (ad 2)) hx hb hts hown hC hG 1 (by decide) q_22 (rfl) dX_hundredthsOf_5 ?_
  refine lv_iload_n hx hb dX_hundredthsOf_8 rfl (lv_at hl 1 rfl) ?_
  refine ra_ld hx hb hC hG 2 6 (by omega) (fun _ _ => rfl) (vin_seller h_1) dX_hundredthsOf_9 ?_
  refine vx_ret ?_
  refine W.widen (k := 1) (n := 6) (Nat.le_of_ble_eq_true rfl) (Nat.le_of_ble_eq_true rfl) ?_
  exact W.iret (v := sA 2 p0.toNatClampNeg) hx hb hr (fun t ht hW => ⟨⟨(sA 2 p0.toNatClampNeg), (), rfl, (by rw [fX_hundredthsOf, bnd_0 h_1] <;> rfl), gw_at hG ht⟩, hS.F ht⟩) hS.2.2 dX_hundredthsOf_10
def fX_owedBy (sL : NL) (sA : NA) (p0 : Int32) : Nat × Int32 := bnd (fX_checkBuyer p0) ((0, sA 3 p0.toNatClampNeg)) 0
theorem hdyX_owedBy : yX_owedBy.cls ≠ "java/lang/invoke/MethodHandle" ∧ yX_owedBy.cls ≠ "java/lang/invoke/VarHandle" ∧ (parseMethodDescriptor yX_owedBy.desc).map (fun d => d.parameters.length) = some 1 := by decide +kernel
theorem dX_owedBy_0 : decode bX_owedBy 0 = .ok (.iload_n 1, 1) := by decide +kernel
theorem dX_owedBy_1 : decode bX_owedBy 1 = .ok (.invokestatic 58, 3) := by decide +kernel
theorem dX_owedBy_4 : decode bX_owedBy 4 = .ok (.aload_n 0, 1) := by decide +kernel
theorem dX_owedBy_5 : decode bX_owedBy 5 = .ok (.getfield 19, 3) := by decide +kernel
theorem dX_owedBy_8 : decode bX_owedBy 8 = .ok (.iload_n 1, 1) := by decide +kernel
theorem dX_owedBy_9 : decode bX_owedBy 9 = .ok (.iaload, 1) := by decide +kernel
theorem dX_owedBy_10 : decode bX_owedBy 10 = .ok (.ireturn, 1) := by decide +kernel
set_option maxHeartbeats 4000000 in
set_option maxRecDepth 100000 in
theorem cX_owedBy (l : Launch) (hl9 : l.stackTraces = false) (D : va_G) (tI tJ tL : ClassId) (A : Nat → Prop) (sg ad : Nat → Nat) (n : Nat) (sL : NL) (sA : NA) (p0 : Int32) : vx_Met l yX_owedBy (Cond.code yX_owedBy bX_owedBy 2 (some FieldType.int) :: wNeed) { frames := 7, cells := 1, slots := 6, locals := 110 } (va_Pc [.ref (ad 0), .int p0] (GP D tI tJ tL A sg ad n sL sA)) (va_Qi (fun r (_ : Unit) => fX_owedBy sL sA p0 = (0, r)) (fun _ t => GW D tI tJ tL A ad n sL sA t.heap) A) (XQ D tI tJ tL A ad n sL sA (fX_owedBy sL sA p0).1) 1 6 A := by
  refine en_XG (av := [.ref (ad 0), .int p0]) (by decide) (Nat.le_of_ble_eq_true rfl) ?_
  intro p e s m below meth c hx hb hml hown hts hr hlocks hT hC H locs hG hS ls hl
  replace hl : lv_has ls 2 [(0, .ref (ad 0)), (1, .int p0)] := hl
  refine lv_iload_n hx hb dX_owedBy_0 rfl (lv_at hl 1 rfl) ?_
  refine rcS4 (rest := []) (As := [.int p0]) (Mc := 1) (Ms := 6) hx hb hml hown hts hC hG hS hlocks hT (cX_checkBuyer l hl9 D tI tJ tL A sg ad n sL sA p0) (gS q_293 q_294 q_1 q_295) rfl rfl ⟨rfl, hdyX_checkBuyer⟩ ⟨Nat.le_of_ble_eq_true rfl, Nat.le_of_ble_eq_true rfl⟩ hl.1 rfl (Nat.le_of_ble_eq_true rfl) dX_owedBy_1 ⟨Nat.le_of_ble_eq_true rfl, Nat.le_of_ble_eq_true rfl⟩ ⟨Nat.le_of_ble_eq_true rfl, Nat.le_of_ble_eq_true rfl⟩ (fun h => by rw [fX_owedBy, bnd_n h] <;> rfl) (fun h_1 H locs hG hS => ?_)
  refine lv_aload_n hx hb dX_owedBy_4 rfl (lv_at hl 0 rfl) ?_
  refine rx_get (v := .ref (ad 3)) hx hb hts hown hC hG 2 (by decide) q_23 (rfl) dX_owedBy_5 ?_
  refine lv_iload_n hx hb dX_owedBy_8 rfl (lv_at hl 1 rfl) ?_
  refine ra_ld hx hb hC hG 3 10 (by omega) (fun _ _ => rfl) (vin_buyer h_1) dX_owedBy_9 ?_
  refine vx_ret ?_
  refine W.widen (k := 1) (n := 6) (Nat.le_of_ble_eq_true rfl) (Nat.le_of_ble_eq_true rfl) ?_
  exact W.iret (v := sA 3 p0.toNatClampNeg) hx hb hr (fun t ht hW => ⟨⟨(sA 3 p0.toNatClampNeg), (), rfl, (by rw [fX_owedBy, bnd_0 h_1] <;> rfl), gw_at hG ht⟩, hS.F ht⟩) hS.2.2 dX_owedBy_10
def fX_addToDebt (sL : NL) (sA : NA) (p0 : Int32) (p1 : Int32) : NL × NA := (sL, (up2 sA 3 p0.toNatClampNeg ((sA 3 p0.toNatClampNeg) + p1)))
theorem hdyX_addToDebt : yX_addToDebt.cls ≠ "java/lang/invoke/MethodHandle" ∧ yX_addToDebt.cls ≠ "java/lang/invoke/VarHandle" ∧ (parseMethodDescriptor yX_addToDebt.desc).map (fun d => d.parameters.length) = some 2 := by decide +kernel
theorem dX_addToDebt_0 : decode bX_addToDebt 0 = .ok (.iload_n 1, 1) := by decide +kernel
theorem dX_addToDebt_1 : decode bX_addToDebt 1 = .ok (.invokestatic 58, 3) := by decide +kernel
theorem dX_addToDebt_4 : decode bX_addToDebt 4 = .ok (.aload_n 0, 1) := by decide +kernel
theorem dX_addToDebt_5 : decode bX_addToDebt 5 = .ok (.getfield 19, 3) := by decide +kernel
theorem dX_addToDebt_8 : decode bX_addToDebt 8 = .ok (.iload_n 1, 1) := by decide +kernel
theorem dX_addToDebt_9 : decode bX_addToDebt 9 = .ok (.dup2, 1) := by decide +kernel
theorem dX_addToDebt_10 : decode bX_addToDebt 10 = .ok (.iaload, 1) := by decide +kernel
theorem dX_addToDebt_11 : decode bX_addToDebt 11 = .ok (.iload_n 2, 1) := by decide +kernel
theorem dX_addToDebt_12 : decode bX_addToDebt 12 = .ok (.iadd, 1) := by decide +kernel
theorem dX_addToDebt_13 : decode bX_addToDebt 13 = .ok (.iastore, 1) := by decide +kernel
theorem dX_addToDebt_14 : decode bX_addToDebt 14 = .ok (.return_, 1) := by decide +kernel
set_option maxHeartbeats 4000000 in
set_option maxRecDepth 100000 in
theorem cX_addToDebt (l : Launch) (hl9 : l.stackTraces = false) (D : va_G) (tI tJ tL : ClassId) (A : Nat → Prop) (sg ad : Nat → Nat) (n : Nat) (sL : NL) (sA : NA) (p0 : Int32) (p1 : Int32) (hq : fX_checkBuyer p0 = 0) : Met l yX_addToDebt (Cond.code yX_addToDebt bX_addToDebt 3 none :: wNeed) { frames := 7, cells := 1, slots := 6, locals := 110 } (va_Pc [.ref (ad 0), .int p0, .int p1] (GP D tI tJ tL A sg ad n sL sA)) (va_Qv (fun u : NL × NA => fX_addToDebt sL sA p0 p1 = u) (fun u t => GW D tI tJ tL A ad n u.1 u.2 t.heap) A) 1 6 A := by
  refine en_G (av := [.ref (ad 0), .int p0, .int p1]) (by decide) (Nat.le_of_ble_eq_true rfl) ?_
  intro p e s m below meth c hx hb hml hown hts hr hlocks hmname hC H locs hG hS ls hl
  replace hl : lv_has ls 3 [(0, .ref (ad 0)), (1, .int p0), (2, .int p1)] := hl
  refine lv_iload_n hx hb dX_addToDebt_0 rfl (lv_at hl 1 rfl) ?_
  refine rcS4n (rest := []) (As := [.int p0]) hx hb hml hown hts hC hG hS (cX_checkBuyer l hl9 D tI tJ tL A sg ad n sL sA p0) (gS q_293 q_294 q_1 q_295) rfl rfl ⟨rfl, hdyX_checkBuyer⟩ ⟨Nat.le_of_ble_eq_true rfl, Nat.le_of_ble_eq_true rfl⟩ hl.1 rfl (Nat.le_of_ble_eq_true rfl) dX_addToDebt_1 ⟨Nat.le_of_ble_eq_true rfl, Nat.le_of_ble_eq_true rfl⟩ (hq) (fun H locs hG hS => ?_)
  refine lv_aload_n hx hb dX_addToDebt_4 rfl (lv_at hl 0 rfl) ?_
  refine rx_get (v := .ref (ad 3)) hx hb hts hown hC hG 2 (by decide) q_23 (rfl) dX_addToDebt_5 ?_
  refine lv_iload_n hx hb dX_addToDebt_8 rfl (lv_at hl 1 rfl) ?_
  refine lv_dup2_11 hx hb dX_addToDebt_9 rfl rfl ?_
  refine ra_ld hx hb hC hG 3 10 (by omega) (fun _ _ => rfl) (vin_buyer hq) dX_addToDebt_10 ?_
  refine lv_iload_n hx hb dX_addToDebt_11 rfl (lv_at hl 2 rfl) ?_
  refine lv_iadd hx hb dX_addToDebt_12 ?_
  refine ra_st hx hb hC hG hS 3 10 (by omega) (fun _ _ => rfl) (vin_buyer hq) dX_addToDebt_13 (fun H locs hG hS => ?_)
  refine W.widen (k := 1) (n := 6) (Nat.le_of_ble_eq_true rfl) (Nat.le_of_ble_eq_true rfl) ?_
  exact W.vret hx hb hr (fun t ht hW => ⟨⟨(sL, (up2 sA 3 p0.toNatClampNeg ((sA 3 p0.toNatClampNeg) + p1))), rfl, (by rw [fX_addToDebt] <;> rfl), gw_at hG ht⟩, hS.F ht⟩) hS.2.2 dX_addToDebt_14
def fX_closeGap (sL : NL) (sA : NA) (i : Nat) : NL × NA := if (sA (4 * i + 11) 8) = (-1) then (sL, sA) else ((fX_addToDebt sL sA (sA (4 * i + 11) 8) (imax 0 ((sA (4 * i + 11) 9) - (sA (4 * i + 11) 6)))).1, (up2 ((fX_addToDebt sL sA (sA (4 * i + 11) 8) (imax 0 ((sA (4 * i + 11) 9) - (sA (4 * i + 11) 6)))).2) (4 * i + 11) 8 (-1)))
theorem hdyX_closeGap : yX_closeGap.cls ≠ "java/lang/invoke/MethodHandle" ∧ yX_closeGap.cls ≠ "java/lang/invoke/VarHandle" ∧ (parseMethodDescriptor yX_closeGap.desc).map (fun d => d.parameters.length) = some 1 := by decide +kernel
theorem dX_closeGap_0 : decode bX_closeGap 0 = .ok (.aload_n 1, 1) := by decide +kernel
theorem dX_closeGap_1 : decode bX_closeGap 1 = .ok (.getfield 130, 3) := by decide +kernel
theorem dX_closeGap_4 : decode bX_closeGap 4 = .ok (.iconst (-1), 1) := by decide +kernel
theorem dX_closeGap_5 : decode bX_closeGap 5 = .ok (.if_icmp .ne 4, 3) := by decide +kernel
theorem dX_closeGap_8 : decode bX_closeGap 8 = .ok (.return_, 1) := by decide +kernel
theorem dX_closeGap_9 : decode bX_closeGap 9 = .ok (.aload_n 0, 1) := by decide +kernel
theorem dX_closeGap_10 : decode bX_closeGap 10 = .ok (.aload_n 1, 1) := by decide +kernel
theorem dX_closeGap_11 : decode bX_closeGap 11 = .ok (.getfield 130, 3) := by decide +kernel
theorem dX_closeGap_14 : decode bX_closeGap 14 = .ok (.iconst 0, 1) := by decide +kernel
theorem dX_closeGap_15 : decode bX_closeGap 15 = .ok (.aload_n 1, 1) := by decide +kernel
theorem dX_closeGap_16 : decode bX_closeGap 16 = .ok (.getfield 133, 3) := by decide +kernel
theorem dX_closeGap_19 : decode bX_closeGap 19 = .ok (.aload_n 1, 1) := by decide +kernel
theorem dX_closeGap_20 : decode bX_closeGap 20 = .ok (.getfield 101, 3) := by decide +kernel
theorem dX_closeGap_23 : decode bX_closeGap 23 = .ok (.isub, 1) := by decide +kernel
theorem dX_closeGap_24 : decode bX_closeGap 24 = .ok (.invokestatic 201, 3) := by decide +kernel
theorem dX_closeGap_27 : decode bX_closeGap 27 = .ok (.invokevirtual 141, 3) := by decide +kernel
theorem dX_closeGap_30 : decode bX_closeGap 30 = .ok (.aload_n 1, 1) := by decide +kernel
theorem dX_closeGap_31 : decode bX_closeGap 31 = .ok (.iconst (-1), 1) := by decide +kernel
theorem dX_closeGap_32 : decode bX_closeGap 32 = .ok (.putfield 130, 3) := by decide +kernel
theorem dX_closeGap_35 : decode bX_closeGap 35 = .ok (.return_, 1) := by decide +kernel
set_option maxHeartbeats 4000000 in
set_option maxRecDepth 100000 in
theorem cX_closeGap (l : Launch) (hl9 : l.stackTraces = false) (D : va_G) (tI tJ tL : ClassId) (A : Nat → Prop) (sg ad : Nat → Nat) (n : Nat) (sL : NL) (sA : NA) (i : Nat) (hi : i < n) (hq : sA (4 * i + 11) 8 = (-1) ∨ fX_checkBuyer (sA (4 * i + 11) 8) = 0) : Met l yX_closeGap (Cond.code yX_closeGap bX_closeGap 2 none :: wNeed) { frames := 8, cells := 1, slots := 6, locals := 132 } (va_Pc [.ref (ad 0), .ref (ad (4 * i + 11))] (GP D tI tJ tL A sg ad n sL sA)) (va_Qv (fun u : NL × NA => fX_closeGap sL sA i = u) (fun u t => GW D tI tJ tL A ad n u.1 u.2 t.heap) A) 1 6 A := by
  refine en_G (av := [.ref (ad 0), .ref (ad (4 * i + 11))]) (by decide) (Nat.le_of_ble_eq_true rfl) ?_
  intro p e s m below meth c hx hb hml hown hts hr hlocks hmname hC H locs hG hS ls hl
  replace hl : lv_has ls 2 [(0, .ref (ad 0)), (1, .ref (ad (4 * i + 11)))] := hl
  refine lv_aload_n hx hb dX_closeGap_0 rfl (lv_at hl 1 rfl) ?_
  refine rl_getN (v := .int (sA (4 * i + 11) 8)) hx hb hts hown hC hG 8 hi (by decide) z_251 (rfl) dX_closeGap_1 ?_
  refine lv_iconst (v := (-1)) hx hb dX_closeGap_4 (by decide) ?_
  refine lv_icmp_ne (tgt := 9) hx hb dX_closeGap_5 (by decide) (fun c_1 => ?_) (fun c_1 => ?_)
  · refine lv_aload_n hx hb dX_closeGap_9 rfl (lv_at hl 0 rfl) ?_
    refine lv_aload_n hx hb dX_closeGap_10 rfl (lv_at hl 1 rfl) ?_
    refine rl_getN (v := .int (sA (4 * i + 11) 8)) hx hb hts hown hC hG 8 hi (by decide) z_251 (rfl) dX_closeGap_11 ?_
    refine lv_iconst (v := 0) hx hb dX_closeGap_14 (by decide) ?_
    refine lv_aload_n hx hb dX_closeGap_15 rfl (lv_at hl 1 rfl) ?_
    refine rl_getN (v := .int (sA (4 * i + 11) 9)) hx hb hts hown hC hG 9 hi (by decide) z_252 (rfl) dX_closeGap_16 ?_
    refine lv_aload_n hx hb dX_closeGap_19 rfl (lv_at hl 1 rfl) ?_
    refine rl_getN (v := .int (sA (4 * i + 11) 6)) hx hb hts hown hC hG 6 hi (by decide) z_248 (rfl) dX_closeGap_20 ?_
    refine lv_isub hx hb dX_closeGap_23 ?_
    refine va_mmax hx hb (by rw [hml]; exact hl.1.symm) hown (hts _ q_336) (hts _ q_310) (hts _ q_6) (hts _ q_311) (Nat.le_of_ble_eq_true rfl) (Nat.le_of_ble_eq_true rfl) (Nat.le_of_ble_eq_true rfl) (Nat.le_of_ble_eq_true rfl) dX_closeGap_24 ?_
    refine rcV3v (rest := []) (As := [.int (sA (4 * i + 11) 8), .int (imax 0 ((sA (4 * i + 11) 9) - (sA (4 * i + 11) 6)))]) hx hb hml hown hts hC hG hS (cX_addToDebt l hl9 D tI tJ tL A sg ad n sL sA (sA (4 * i + 11) 8) (imax 0 ((sA (4 * i + 11) 9) - (sA (4 * i + 11) 6))) (hq.resolve_left c_1)) (recX hC hG) (gV q_360 q_362 q_p3 q_1 q_363) rfl rfl ⟨rfl, hdyX_addToDebt⟩ ⟨Nat.le_of_ble_eq_true rfl, Nat.le_of_ble_eq_true rfl⟩ hl.1 rfl (Nat.le_of_ble_eq_true rfl) dX_closeGap_27 ⟨Nat.le_of_ble_eq_true rfl, Nat.le_of_ble_eq_true rfl⟩ (fun H locs hG hS => ?_)
    refine lv_aload_n hx hb dX_closeGap_30 rfl (lv_at hl 1 rfl) ?_
    refine lv_iconst (v := (-1)) hx hb dX_closeGap_31 (by decide) ?_
    refine rl_putN hx hb hts hown hC hG hS 8 hi (by decide) (by decide) z_251 dX_closeGap_32 (fun H locs hG hS => ?_)
    refine W.widen (k := 1) (n := 6) (Nat.le_of_ble_eq_true rfl) (Nat.le_of_ble_eq_true rfl) ?_
    exact W.vret hx hb hr (fun t ht hW => ⟨⟨((fX_addToDebt sL sA (sA (4 * i + 11) 8) (imax 0 ((sA (4 * i + 11) 9) - (sA (4 * i + 11) 6)))).1, (up2 ((fX_addToDebt sL sA (sA (4 * i + 11) 8) (imax 0 ((sA (4 * i + 11) 9) - (sA (4 * i + 11) 6)))).2) (4 * i + 11) 8 (-1))), rfl, (by rw [fX_closeGap, if_neg c_1] <;> rfl), gw_at hG ht⟩, hS.F ht⟩) hS.2.2 dX_closeGap_35
  · refine W.widen (k := 1) (n := 6) (Nat.le_of_ble_eq_true rfl) (Nat.le_of_ble_eq_true rfl) ?_
    exact W.vret hx hb hr (fun t ht hW => ⟨⟨(sL, sA), rfl, (by rw [fX_closeGap, if_pos c_1] <;> rfl), gw_at hG ht⟩, hS.F ht⟩) hS.2.2 dX_closeGap_8
end
section
theorem lt_guard {a : Int32} {cn j : Nat} (hcn : a = nI cn) (hc : cn ≤ 30) (hj : j ≤ 30) (h : ¬ a ≤ nI j) : j < cn := by
  rw [hcn, nI_leI (by omega) (by omega)] at h
  omega
theorem lt_guard10 {j : Nat} (hj : j ≤ 30) (h : ¬ (10 : Int32) ≤ nI j) : j < 10 := lt_guard (cn := 10) rfl (by omega) hj h
theorem lt_guard30 {j : Nat} (hj : j ≤ 30) (h : ¬ (30 : Int32) ≤ nI j) : j < 30 := lt_guard (cn := 30) rfl (by omega) hj h
theorem vin_lt10 {j : Nat} (hj : j ≤ 30) (h : nI j < 10) : vp_in (nI j) 10 := by
  refine vp_in_nI ?_ (by omega)
  have h2 : nI j < nI 10 := h
  rw [nI_ltI (by omega) (by omega)] at h2
  exact h2
def lO_best (sL : NL) (sA : NA) (i : Nat) : Nat → Nat → Int32 → Int32
  | 0, _, _ => 0
  | f + 1, j, x => if (sA (4 * i + 12) 2) ≤ (nI j) then x else (if (fO_amountAt sL sA i (nI j)) ≤ (fO_amountAt sL sA i x) then lO_best sL sA i f (j + 1) x else lO_best sL sA i f (j + 1) (nI j))
def fO_placeOfBest (sL : NL) (sA : NA) (i : Nat) : Int32 := lO_best sL sA i 11 0 (-1)
theorem hdyO_placeOfBest : yO_placeOfBest.cls ≠ "java/lang/invoke/MethodHandle" ∧ yO_placeOfBest.cls ≠ "java/lang/invoke/VarHandle" ∧ (parseMethodDescriptor yO_placeOfBest.desc).map (fun d => d.parameters.length) = some 0 := by decide +kernel
theorem dO_placeOfBest_0 : decode bO_placeOfBest 0 = .ok (.iconst (-1), 1) := by decide +kernel
theorem dO_placeOfBest_1 : decode bO_placeOfBest 1 = .ok (.istore_n 1, 1) := by decide +kernel
theorem dO_placeOfBest_2 : decode bO_placeOfBest 2 = .ok (.iconst 0, 1) := by decide +kernel
theorem dO_placeOfBest_3 : decode bO_placeOfBest 3 = .ok (.istore_n 2, 1) := by decide +kernel
theorem dO_placeOfBest_4 : decode bO_placeOfBest 4 = .ok (.iload_n 2, 1) := by decide +kernel
theorem dO_placeOfBest_5 : decode bO_placeOfBest 5 = .ok (.aload_n 0, 1) := by decide +kernel
theorem dO_placeOfBest_6 : decode bO_placeOfBest 6 = .ok (.getfield 18, 3) := by decide +kernel
theorem dO_placeOfBest_9 : decode bO_placeOfBest 9 = .ok (.if_icmp .ge 24, 3) := by decide +kernel
theorem dO_placeOfBest_12 : decode bO_placeOfBest 12 = .ok (.aload_n 0, 1) := by decide +kernel
theorem dO_placeOfBest_13 : decode bO_placeOfBest 13 = .ok (.iload_n 2, 1) := by decide +kernel
theorem dO_placeOfBest_14 : decode bO_placeOfBest 14 = .ok (.invokevirtual 32, 3) := by decide +kernel
theorem dO_placeOfBest_17 : decode bO_placeOfBest 17 = .ok (.aload_n 0, 1) := by decide +kernel
theorem dO_placeOfBest_18 : decode bO_placeOfBest 18 = .ok (.iload_n 1, 1) := by decide +kernel
theorem dO_placeOfBest_19 : decode bO_placeOfBest 19 = .ok (.invokevirtual 32, 3) := by decide +kernel
theorem dO_placeOfBest_22 : decode bO_placeOfBest 22 = .ok (.if_icmp .le 5, 3) := by decide +kernel
theorem dO_placeOfBest_25 : decode bO_placeOfBest 25 = .ok (.iload_n 2, 1) := by decide +kernel
theorem dO_placeOfBest_26 : decode bO_placeOfBest 26 = .ok (.istore_n 1, 1) := by decide +kernel
theorem dO_placeOfBest_27 : decode bO_placeOfBest 27 = .ok (.iinc 2 1, 3) := by decide +kernel
theorem dO_placeOfBest_30 : decode bO_placeOfBest 30 = .ok (.goto (-26), 3) := by decide +kernel
theorem dO_placeOfBest_33 : decode bO_placeOfBest 33 = .ok (.iload_n 1, 1) := by decide +kernel
theorem dO_placeOfBest_34 : decode bO_placeOfBest 34 = .ok (.ireturn, 1) := by decide +kernel
set_option maxHeartbeats 4000000 in
set_option maxRecDepth 100000 in
theorem cO_placeOfBest (l : Launch) (D : va_G) (tI tJ tL : ClassId) (A : Nat → Prop) (sg ad : Nat → Nat) (n : Nat) (sL : NL) (sA : NA) (i : Nat) (hi : i < n) (cn : Nat) (hc : cn ≤ 10) (hcn : sA (4 * i + 12) 2 = nI cn) : Met l yO_placeOfBest (Cond.code yO_placeOfBest bO_placeOfBest 3 (some FieldType.int) :: wNeed) { frames := 1, cells := 0, slots := 0, locals := 21 } (va_Pc [.ref (ad (4 * i + 12))] (GP D tI tJ tL A sg ad n sL sA)) (vp_Si fun r => r = fO_placeOfBest sL sA i) 0 0 (fun _ => False) := by
  refine en_M (av := [.ref (ad (4 * i + 12))]) (by decide) (Nat.le_of_ble_eq_true rfl) ?_
  intro p e s m below meth c hx hb hml hown hts hr hlocks hmname hP ls hl
  obtain ⟨hG, hC⟩ := hP
  have hS : va_S A s.heap s.heap [] := va_S.rf
  replace hl : lv_has ls 3 [(0, .ref (ad (4 * i + 12)))] := hl
  refine lv_iconst (v := (-1)) hx hb dO_placeOfBest_0 (by decide) ?_
  refine lv_istore_n (lv' := [(1, .int (-1)), (0, .ref (ad (4 * i + 12)))]) hx hb dO_placeOfBest_1 rfl hl (by decide) rfl (fun ls hl => ?_)
  refine lv_iconst (v := 0) hx hb dO_placeOfBest_2 (by decide) ?_
  refine lv_istore_n (lv' := [(2, .int 0), (1, .int (-1)), (0, .ref (ad (4 * i + 12)))]) hx hb dO_placeOfBest_3 rfl hl (by decide) rfl (fun ls hl => ?_)
  replace hl : ∃ (f : Nat) (j : Nat) (x : Int32), j + f = 11 ∧ j ≤ 10 ∧ fO_placeOfBest sL sA i = lO_best sL sA i f j x ∧ lv_has ls 3 [(2, .int (nI j)), (1, .int x), (0, .ref (ad (4 * i + 12)))] := ⟨11, 0, (-1), rfl, by omega, (by rw [fO_placeOfBest] <;> rfl), hl⟩
  obtain ⟨f, j, x, hf, hj, hF, hl⟩ := hl
  induction f generalizing j x ls with
  | zero => exact absurd hf (by omega)
  | succ f ih =>
    refine lv_iload_n hx hb dO_placeOfBest_4 rfl (lv_at hl 0 rfl) ?_
    refine lv_aload_n hx hb dO_placeOfBest_5 rfl (lv_at hl 2 rfl) ?_
    refine ro_get (v := .int (sA (4 * i + 12) 2)) hx hb hts hown hC hG 2 hi (by decide) q_225 (rfl) dO_placeOfBest_6 ?_
    refine lv_icmp_ge (tgt := 33) hx hb dO_placeOfBest_9 (by decide) (fun c_1 => ?_) (fun c_1 => ?_)
    · refine lv_iload_n hx hb dO_placeOfBest_33 rfl (lv_at hl 1 rfl) ?_
      exact W.iret (v := x) hx hb hr (fun t ht hW => ⟨_, rfl, (by rw [hF, lO_best, if_pos c_1] <;> rfl), ht⟩) (fun q h => nomatch h) dO_placeOfBest_34
    · refine lv_aload_n hx hb dO_placeOfBest_12 rfl (lv_at hl 2 rfl) ?_
      refine lv_iload_n hx hb dO_placeOfBest_13 rfl (lv_at hl 0 rfl) ?_
      refine rcV2 (rest := []) (As := [.int (nI j)]) hx hb hml hown hts hC hG hS (cO_amountAt l D tI tJ tL A sg ad n sL sA i hi (nI j)) (recO hi hC hG) (gV q_320 q_321 q_322 q_10 q_323) rfl rfl ⟨rfl, hdyO_amountAt⟩ ⟨Nat.le_of_ble_eq_true rfl, Nat.le_of_ble_eq_true rfl⟩ hl.1 rfl (Nat.le_of_ble_eq_true rfl) dO_placeOfBest_14 ⟨Nat.le_of_ble_eq_true rfl, Nat.le_of_ble_eq_true rfl⟩ ?_
      refine lv_aload_n hx hb dO_placeOfBest_17 rfl (lv_at hl 2 rfl) ?_
      refine lv_iload_n hx hb dO_placeOfBest_18 rfl (lv_at hl 1 rfl) ?_
      refine rcV2 (rest := [.int (fO_amountAt sL sA i (nI j))]) (As := [.int x]) hx hb hml hown hts hC hG hS (cO_amountAt l D tI tJ tL A sg ad n sL sA i hi x) (recO hi hC hG) (gV q_320 q_321 q_322 q_10 q_323) rfl rfl ⟨rfl, hdyO_amountAt⟩ ⟨Nat.le_of_ble_eq_true rfl, Nat.le_of_ble_eq_true rfl⟩ hl.1 rfl (Nat.le_of_ble_eq_true rfl) dO_placeOfBest_19 ⟨Nat.le_of_ble_eq_true rfl, Nat.le_of_ble_eq_true rfl⟩ ?_
      refine lv_icmp_le (tgt := 27) hx hb dO_placeOfBest_22 (by decide) (fun c_2 => ?_) (fun c_2 => ?_)
      · refine lv_iinc (v := nI (j + 1)) (lv' := [(2, .int (nI (j + 1))), (1, .int x), (0, .ref (ad (4 * i + 12)))]) hx hb dO_placeOfBest_27 hl (k := 0) rfl (nI_1 j) (by decide) rfl (fun ls hl => ?_)
        refine lv_goto (tgt := 4) hx hb dO_placeOfBest_30 (by decide) ?_
        exact ih (j := j + 1) (x := x) (ls := ls) (hf := by omega) (hj := by have hlt := lt_guard hcn (by omega) (by omega) c_1; omega) (hF := by rw [hF, lO_best, if_neg c_1, if_pos c_2] <;> rfl) (hl := lv_sub hl [0, 1, 2] rfl)
      · refine lv_iload_n hx hb dO_placeOfBest_25 rfl (lv_at hl 0 rfl) ?_
        refine lv_istore_n (lv' := [(1, .int (nI j)), (2, .int (nI j)), (0, .ref (ad (4 * i + 12)))]) hx hb dO_placeOfBest_26 rfl hl (by decide) rfl (fun ls hl => ?_)
        refine lv_iinc (v := nI (j + 1)) (lv' := [(2, .int (nI (j + 1))), (1, .int (nI j)), (0, .ref (ad (4 * i + 12)))]) hx hb dO_placeOfBest_27 hl (k := 1) rfl (nI_1 j) (by decide) rfl (fun ls hl => ?_)
        refine lv_goto (tgt := 4) hx hb dO_placeOfBest_30 (by decide) ?_
        exact ih (j := j + 1) (x := nI j) (ls := ls) (hf := by omega) (hj := by have hlt := lt_guard hcn (by omega) (by omega) c_1; omega) (hF := by rw [hF, lO_best, if_neg c_1, if_neg c_2] <;> rfl) (hl := lv_sub hl [0, 1, 2] rfl)
def lO_beside (sL : NL) (sA : NA) (i : Nat) (p0 : Int32) : Nat → Nat → Int32 → Int32
  | 0, _, _ => 0
  | f + 1, j, x => if (sA (4 * i + 12) 2) ≤ (nI j) then x else (if (nI j) = p0 then lO_beside sL sA i p0 f (j + 1) x else lO_beside sL sA i p0 f (j + 1) (imax x (fO_amountAt sL sA i (nI j))))
def fO_highestBeside (sL : NL) (sA : NA) (i : Nat) (p0 : Int32) : Int32 := lO_beside sL sA i p0 11 0 (-1)
theorem hdyO_highestBeside : yO_highestBeside.cls ≠ "java/lang/invoke/MethodHandle" ∧ yO_highestBeside.cls ≠ "java/lang/invoke/VarHandle" ∧ (parseMethodDescriptor yO_highestBeside.desc).map (fun d => d.parameters.length) = some 1 := by decide +kernel
theorem dO_highestBeside_0 : decode bO_highestBeside 0 = .ok (.iconst (-1), 1) := by decide +kernel
theorem dO_highestBeside_1 : decode bO_highestBeside 1 = .ok (.istore_n 2, 1) := by decide +kernel
theorem dO_highestBeside_2 : decode bO_highestBeside 2 = .ok (.iconst 0, 1) := by decide +kernel
theorem dO_highestBeside_3 : decode bO_highestBeside 3 = .ok (.istore_n 3, 1) := by decide +kernel
theorem dO_highestBeside_4 : decode bO_highestBeside 4 = .ok (.iload_n 3, 1) := by decide +kernel
theorem dO_highestBeside_5 : decode bO_highestBeside 5 = .ok (.aload_n 0, 1) := by decide +kernel
theorem dO_highestBeside_6 : decode bO_highestBeside 6 = .ok (.getfield 18, 3) := by decide +kernel
theorem dO_highestBeside_9 : decode bO_highestBeside 9 = .ok (.if_icmp .ge 24, 3) := by decide +kernel
theorem dO_highestBeside_12 : decode bO_highestBeside 12 = .ok (.iload_n 3, 1) := by decide +kernel
theorem dO_highestBeside_13 : decode bO_highestBeside 13 = .ok (.iload_n 1, 1) := by decide +kernel
theorem dO_highestBeside_14 : decode bO_highestBeside 14 = .ok (.if_icmp .eq 13, 3) := by decide +kernel
theorem dO_highestBeside_17 : decode bO_highestBeside 17 = .ok (.iload_n 2, 1) := by decide +kernel
theorem dO_highestBeside_18 : decode bO_highestBeside 18 = .ok (.aload_n 0, 1) := by decide +kernel
theorem dO_highestBeside_19 : decode bO_highestBeside 19 = .ok (.iload_n 3, 1) := by decide +kernel
theorem dO_highestBeside_20 : decode bO_highestBeside 20 = .ok (.invokevirtual 32, 3) := by decide +kernel
theorem dO_highestBeside_23 : decode bO_highestBeside 23 = .ok (.invokestatic 26, 3) := by decide +kernel
theorem dO_highestBeside_26 : decode bO_highestBeside 26 = .ok (.istore_n 2, 1) := by decide +kernel
theorem dO_highestBeside_27 : decode bO_highestBeside 27 = .ok (.iinc 3 1, 3) := by decide +kernel
theorem dO_highestBeside_30 : decode bO_highestBeside 30 = .ok (.goto (-26), 3) := by decide +kernel
theorem dO_highestBeside_33 : decode bO_highestBeside 33 = .ok (.iload_n 2, 1) := by decide +kernel
theorem dO_highestBeside_34 : decode bO_highestBeside 34 = .ok (.ireturn, 1) := by decide +kernel
set_option maxHeartbeats 4000000 in
set_option maxRecDepth 100000 in
theorem cO_highestBeside (l : Launch) (D : va_G) (tI tJ tL : ClassId) (A : Nat → Prop) (sg ad : Nat → Nat) (n : Nat) (sL : NL) (sA : NA) (i : Nat) (hi : i < n) (p0 : Int32) (cn : Nat) (hc : cn ≤ 10) (hcn : sA (4 * i + 12) 2 = nI cn) : Met l yO_highestBeside (Cond.code yO_highestBeside bO_highestBeside 4 (some FieldType.int) :: wNeed) { frames := 1, cells := 0, slots := 0, locals := 21 } (va_Pc [.ref (ad (4 * i + 12)), .int p0] (GP D tI tJ tL A sg ad n sL sA)) (vp_Si fun r => r = fO_highestBeside sL sA i p0) 0 0 (fun _ => False) := by
  refine en_M (av := [.ref (ad (4 * i + 12)), .int p0]) (by decide) (Nat.le_of_ble_eq_true rfl) ?_
  intro p e s m below meth c hx hb hml hown hts hr hlocks hmname hP ls hl
  obtain ⟨hG, hC⟩ := hP
  have hS : va_S A s.heap s.heap [] := va_S.rf
  replace hl : lv_has ls 4 [(0, .ref (ad (4 * i + 12))), (1, .int p0)] := hl
  refine lv_iconst (v := (-1)) hx hb dO_highestBeside_0 (by decide) ?_
  refine lv_istore_n (lv' := [(2, .int (-1)), (0, .ref (ad (4 * i + 12))), (1, .int p0)]) hx hb dO_highestBeside_1 rfl hl (by decide) rfl (fun ls hl => ?_)
  refine lv_iconst (v := 0) hx hb dO_highestBeside_2 (by decide) ?_
  refine lv_istore_n (lv' := [(3, .int 0), (2, .int (-1)), (0, .ref (ad (4 * i + 12))), (1, .int p0)]) hx hb dO_highestBeside_3 rfl hl (by decide) rfl (fun ls hl => ?_)
  replace hl : ∃ (f : Nat) (j : Nat) (x : Int32), j + f = 11 ∧ j ≤ 10 ∧ fO_highestBeside sL sA i p0 = lO_beside sL sA i p0 f j x ∧ lv_has ls 4 [(3, .int (nI j)), (2, .int x), (0, .ref (ad (4 * i + 12))), (1, .int p0)] := ⟨11, 0, (-1), rfl, by omega, (by rw [fO_highestBeside] <;> rfl), hl⟩
  obtain ⟨f, j, x, hf, hj, hF, hl⟩ := hl
  induction f generalizing j x ls with
  | zero => exact absurd hf (by omega)
  | succ f ih =>
    refine lv_iload_n hx hb dO_highestBeside_4 rfl (lv_at hl 0 rfl) ?_
    refine lv_aload_n hx hb dO_highestBeside_5 rfl (lv_at hl 2 rfl) ?_
    refine ro_get (v := .int (sA (4 * i + 12) 2)) hx hb hts hown hC hG 2 hi (by decide) q_225 (rfl) dO_highestBeside_6 ?_
    refine lv_icmp_ge (tgt := 33) hx hb dO_highestBeside_9 (by decide) (fun c_1 => ?_) (fun c_1 => ?_)
    · refine lv_iload_n hx hb dO_highestBeside_33 rfl (lv_at hl 1 rfl) ?_
      exact W.iret (v := x) hx hb hr (fun t ht hW => ⟨_, rfl, (by rw [hF, lO_beside, if_pos c_1] <;> rfl), ht⟩) (fun q h => nomatch h) dO_highestBeside_34
    · refine lv_iload_n hx hb dO_highestBeside_12 rfl (lv_at hl 0 rfl) ?_
      refine lv_iload_n hx hb dO_highestBeside_13 rfl (lv_at hl 3 rfl) ?_
      refine lv_icmp_eq (tgt := 27) hx hb dO_highestBeside_14 (by decide) (fun c_2 => ?_) (fun c_2 => ?_)
      · refine lv_iinc (v := nI (j + 1)) (lv' := [(3, .int (nI (j + 1))), (2, .int x), (0, .ref (ad (4 * i + 12))), (1, .int p0)]) hx hb dO_highestBeside_27 hl (k := 0) rfl (nI_1 j) (by decide) rfl (fun ls hl => ?_)
        refine lv_goto (tgt := 4) hx hb dO_highestBeside_30 (by decide) ?_
        exact ih (j := j + 1) (x := x) (ls := ls) (hf := by omega) (hj := by have hlt := lt_guard hcn (by omega) (by omega) c_1; omega) (hF := by rw [hF, lO_beside, if_neg c_1, if_pos c_2] <;> rfl) (hl := lv_sub hl [0, 1, 2, 3] rfl)
      · refine lv_iload_n hx hb dO_highestBeside_17 rfl (lv_at hl 1 rfl) ?_
        refine lv_aload_n hx hb dO_highestBeside_18 rfl (lv_at hl 2 rfl) ?_
        refine lv_iload_n hx hb dO_highestBeside_19 rfl (lv_at hl 0 rfl) ?_
        refine rcV2 (rest := [.int x]) (As := [.int (nI j)]) hx hb hml hown hts hC hG hS (cO_amountAt l D tI tJ tL A sg ad n sL sA i hi (nI j)) (recO hi hC hG) (gV q_320 q_321 q_322 q_10 q_323) rfl rfl ⟨rfl, hdyO_amountAt⟩ ⟨Nat.le_of_ble_eq_true rfl, Nat.le_of_ble_eq_true rfl⟩ hl.1 rfl (Nat.le_of_ble_eq_true rfl) dO_highestBeside_20 ⟨Nat.le_of_ble_eq_true rfl, Nat.le_of_ble_eq_true rfl⟩ ?_
        refine va_mmax hx hb (by rw [hml]; exact hl.1.symm) hown (hts _ q_309) (hts _ q_310) (hts _ q_6) (hts _ q_311) (Nat.le_of_ble_eq_true rfl) (Nat.le_of_ble_eq_true rfl) (Nat.le_of_ble_eq_true rfl) (Nat.le_of_ble_eq_true rfl) dO_highestBeside_23 ?_
        refine lv_istore_n (lv' := [(2, .int (imax x (fO_amountAt sL sA i (nI j)))), (3, .int (nI j)), (0, .ref (ad (4 * i + 12))), (1, .int p0)]) hx hb dO_highestBeside_26 rfl hl (by decide) rfl (fun ls hl => ?_)
        refine lv_iinc (v := nI (j + 1)) (lv' := [(3, .int (nI (j + 1))), (2, .int (imax x (fO_amountAt sL sA i (nI j)))), (0, .ref (ad (4 * i + 12))), (1, .int p0)]) hx hb dO_highestBeside_27 hl (k := 1) rfl (nI_1 j) (by decide) rfl (fun ls hl => ?_)
        refine lv_goto (tgt := 4) hx hb dO_highestBeside_30 (by decide) ?_
        exact ih (j := j + 1) (x := imax x (fO_amountAt sL sA i (nI j))) (ls := ls) (hf := by omega) (hj := by have hlt := lt_guard hcn (by omega) (by omega) c_1; omega) (hF := by rw [hF, lO_beside, if_neg c_1, if_neg c_2] <;> rfl) (hl := lv_sub hl [0, 1, 2, 3] rfl)
def lO_leave (sL : NL) (sA : NA) (i : Nat) (p0 p1 : Int32) : Nat → Nat → NL × NA
  | 0, _ => (sL, sA)
  | f + 1, j => if (sA (4 * i + 12) 2) ≤ (nI j) then (if 10 ≤ (nI j) then (sL, sA) else (if (nI j) < 10 then (sL, (up2 (up2 (up2 sA (4 * i + 13) j p0) (4 * i + 14) j p1) (4 * i + 12) 2 (imax (sA (4 * i + 12) 2) ((nI j) + 1)))) else (sL, sA))) else (if (fO_buyerAt sL sA i (nI j)) = p0 then (if 10 ≤ (nI j) then (sL, sA) else (if (nI j) < 10 then (sL, (up2 (up2 (up2 sA (4 * i + 13) j p0) (4 * i + 14) j p1) (4 * i + 12) 2 (imax (sA (4 * i + 12) 2) ((nI j) + 1)))) else (sL, sA))) else lO_leave sL sA i p0 p1 f (j + 1))
def fO_leave (sL : NL) (sA : NA) (i : Nat) (p0 : Int32) (p1 : Int32) : NL × NA := lO_leave sL sA i p0 p1 11 0
theorem hdyO_leave : yO_leave.cls ≠ "java/lang/invoke/MethodHandle" ∧ yO_leave.cls ≠ "java/lang/invoke/VarHandle" ∧ (parseMethodDescriptor yO_leave.desc).map (fun d => d.parameters.length) = some 2 := by decide +kernel
theorem dO_leave_0 : decode bO_leave 0 = .ok (.iconst 0, 1) := by decide +kernel
theorem dO_leave_1 : decode bO_leave 1 = .ok (.istore_n 3, 1) := by decide +kernel
theorem dO_leave_2 : decode bO_leave 2 = .ok (.iload_n 3, 1) := by decide +kernel
theorem dO_leave_3 : decode bO_leave 3 = .ok (.aload_n 0, 1) := by decide +kernel
theorem dO_leave_4 : decode bO_leave 4 = .ok (.getfield 18, 3) := by decide +kernel
theorem dO_leave_7 : decode bO_leave 7 = .ok (.if_icmp .ge 18, 3) := by decide +kernel
theorem dO_leave_10 : decode bO_leave 10 = .ok (.aload_n 0, 1) := by decide +kernel
theorem dO_leave_11 : decode bO_leave 11 = .ok (.iload_n 3, 1) := by decide +kernel
theorem dO_leave_12 : decode bO_leave 12 = .ok (.invokevirtual 22, 3) := by decide +kernel
theorem dO_leave_15 : decode bO_leave 15 = .ok (.iload_n 1, 1) := by decide +kernel
theorem dO_leave_16 : decode bO_leave 16 = .ok (.if_icmp .eq 9, 3) := by decide +kernel
theorem dO_leave_19 : decode bO_leave 19 = .ok (.iinc 3 1, 3) := by decide +kernel
theorem dO_leave_22 : decode bO_leave 22 = .ok (.goto (-20), 3) := by decide +kernel
theorem dO_leave_25 : decode bO_leave 25 = .ok (.iload_n 3, 1) := by decide +kernel
theorem dO_leave_26 : decode bO_leave 26 = .ok (.aload_n 0, 1) := by decide +kernel
theorem dO_leave_27 : decode bO_leave 27 = .ok (.getfield 9, 3) := by decide +kernel
theorem dO_leave_30 : decode bO_leave 30 = .ok (.arraylength, 1) := by decide +kernel
theorem dO_leave_31 : decode bO_leave 31 = .ok (.if_icmp .ge 12, 3) := by decide +kernel
theorem dO_leave_34 : decode bO_leave 34 = .ok (.iload_n 3, 1) := by decide +kernel
theorem dO_leave_35 : decode bO_leave 35 = .ok (.aload_n 0, 1) := by decide +kernel
theorem dO_leave_36 : decode bO_leave 36 = .ok (.getfield 15, 3) := by decide +kernel
theorem dO_leave_39 : decode bO_leave 39 = .ok (.arraylength, 1) := by decide +kernel
theorem dO_leave_40 : decode bO_leave 40 = .ok (.if_icmp .lt 4, 3) := by decide +kernel
theorem dO_leave_43 : decode bO_leave 43 = .ok (.return_, 1) := by decide +kernel
theorem dO_leave_44 : decode bO_leave 44 = .ok (.aload_n 0, 1) := by decide +kernel
theorem dO_leave_45 : decode bO_leave 45 = .ok (.getfield 9, 3) := by decide +kernel
theorem dO_leave_48 : decode bO_leave 48 = .ok (.iload_n 3, 1) := by decide +kernel
theorem dO_leave_49 : decode bO_leave 49 = .ok (.iload_n 1, 1) := by decide +kernel
theorem dO_leave_50 : decode bO_leave 50 = .ok (.iastore, 1) := by decide +kernel
theorem dO_leave_51 : decode bO_leave 51 = .ok (.aload_n 0, 1) := by decide +kernel
theorem dO_leave_52 : decode bO_leave 52 = .ok (.getfield 15, 3) := by decide +kernel
theorem dO_leave_55 : decode bO_leave 55 = .ok (.iload_n 3, 1) := by decide +kernel
theorem dO_leave_56 : decode bO_leave 56 = .ok (.iload_n 2, 1) := by decide +kernel
theorem dO_leave_57 : decode bO_leave 57 = .ok (.iastore, 1) := by decide +kernel
theorem dO_leave_58 : decode bO_leave 58 = .ok (.aload_n 0, 1) := by decide +kernel
theorem dO_leave_59 : decode bO_leave 59 = .ok (.aload_n 0, 1) := by decide +kernel
theorem dO_leave_60 : decode bO_leave 60 = .ok (.getfield 18, 3) := by decide +kernel
theorem dO_leave_63 : decode bO_leave 63 = .ok (.iload_n 3, 1) := by decide +kernel
theorem dO_leave_64 : decode bO_leave 64 = .ok (.iconst 1, 1) := by decide +kernel
theorem dO_leave_65 : decode bO_leave 65 = .ok (.iadd, 1) := by decide +kernel
theorem dO_leave_66 : decode bO_leave 66 = .ok (.invokestatic 26, 3) := by decide +kernel
theorem dO_leave_69 : decode bO_leave 69 = .ok (.putfield 18, 3) := by decide +kernel
theorem dO_leave_72 : decode bO_leave 72 = .ok (.return_, 1) := by decide +kernel
set_option maxHeartbeats 4000000 in
set_option maxRecDepth 100000 in
theorem cO_leave (l : Launch) (D : va_G) (tI tJ tL : ClassId) (A : Nat → Prop) (sg ad : Nat → Nat) (n : Nat) (sL : NL) (sA : NA) (i : Nat) (hi : i < n) (p0 : Int32) (p1 : Int32) (cn : Nat) (hc : cn ≤ 10) (hcn : sA (4 * i + 12) 2 = nI cn) : Met l yO_leave (Cond.code yO_leave bO_leave 4 none :: wNeed) { frames := 1, cells := 0, slots := 0, locals := 21 } (va_Pc [.ref (ad (4 * i + 12)), .int p0, .int p1] (GP D tI tJ tL A sg ad n sL sA)) (va_Qv (fun u : NL × NA => fO_leave sL sA i p0 p1 = u) (fun u t => GW D tI tJ tL A ad n u.1 u.2 t.heap) A) 0 0 A := by
  refine en_G (av := [.ref (ad (4 * i + 12)), .int p0, .int p1]) (by decide) (Nat.le_of_ble_eq_true rfl) ?_
  intro p e s m below meth c hx hb hml hown hts hr hlocks hmname hC H locs hG hS ls hl
  replace hl : lv_has ls 4 [(0, .ref (ad (4 * i + 12))), (1, .int p0), (2, .int p1)] := hl
  refine lv_iconst (v := 0) hx hb dO_leave_0 (by decide) ?_
  refine lv_istore_n (lv' := [(3, .int 0), (0, .ref (ad (4 * i + 12))), (1, .int p0), (2, .int p1)]) hx hb dO_leave_1 rfl hl (by decide) rfl (fun ls hl => ?_)
  replace hl : ∃ (f : Nat) (j : Nat), j + f = 11 ∧ j ≤ 10 ∧ fO_leave sL sA i p0 p1 = lO_leave sL sA i p0 p1 f j ∧ lv_has ls 4 [(3, .int (nI j)), (0, .ref (ad (4 * i + 12))), (1, .int p0), (2, .int p1)] := ⟨11, 0, rfl, by omega, (by rw [fO_leave] <;> rfl), hl⟩
  obtain ⟨f, j, hf, hj, hF, hl⟩ := hl
  induction f generalizing j ls with
  | zero => exact absurd hf (by omega)
  | succ f ih =>
    refine lv_iload_n hx hb dO_leave_2 rfl (lv_at hl 0 rfl) ?_
    refine lv_aload_n hx hb dO_leave_3 rfl (lv_at hl 1 rfl) ?_
    refine ro_get (v := .int (sA (4 * i + 12) 2)) hx hb hts hown hC hG 2 hi (by decide) q_225 (rfl) dO_leave_4 ?_
    refine lv_icmp_ge (tgt := 25) hx hb dO_leave_7 (by decide) (fun c_1 => ?_) (fun c_1 => ?_)
    · refine lv_iload_n hx hb dO_leave_25 rfl (lv_at hl 0 rfl) ?_
      refine lv_aload_n hx hb dO_leave_26 rfl (lv_at hl 1 rfl) ?_
      refine ro_get (v := .ref (ad (4 * i + 13))) hx hb hts hown hC hG 0 hi (by decide) q_223 (rfl) dO_leave_27 ?_
      refine ra_len hx hb hC hG (4 * i + 13) 10 (by omega) (fun _ _ => gr_B i) (v := 10) rfl dO_leave_30 ?_
      refine lv_icmp_ge (tgt := 43) hx hb dO_leave_31 (by decide) (fun c_2 => ?_) (fun c_2 => ?_)
      · refine W.widen (k := 0) (n := 0) (Nat.le_of_ble_eq_true rfl) (Nat.le_of_ble_eq_true rfl) ?_
        exact W.vret hx hb hr (fun t ht hW => ⟨⟨(sL, sA), rfl, (by rw [hF, lO_leave, if_pos c_1, if_pos c_2] <;> rfl), gw_at hG ht⟩, hS.F ht⟩) hS.2.2 dO_leave_43
      · refine lv_iload_n hx hb dO_leave_34 rfl (lv_at hl 0 rfl) ?_
        refine lv_aload_n hx hb dO_leave_35 rfl (lv_at hl 1 rfl) ?_
        refine ro_get (v := .ref (ad (4 * i + 14))) hx hb hts hown hC hG 1 hi (by decide) q_224 (rfl) dO_leave_36 ?_
        refine ra_len hx hb hC hG (4 * i + 14) 10 (by omega) (fun _ _ => gr_Am i) (v := 10) rfl dO_leave_39 ?_
        refine lv_icmp_lt (tgt := 44) hx hb dO_leave_40 (by decide) (fun c_3 => ?_) (fun c_3 => ?_)
        · refine lv_aload_n hx hb dO_leave_44 rfl (lv_at hl 1 rfl) ?_
          refine ro_get (v := .ref (ad (4 * i + 13))) hx hb hts hown hC hG 0 hi (by decide) q_223 (rfl) dO_leave_45 ?_
          refine lv_iload_n hx hb dO_leave_48 rfl (lv_at hl 0 rfl) ?_
          refine lv_iload_n hx hb dO_leave_49 rfl (lv_at hl 2 rfl) ?_
          refine ra_st hx hb hC hG hS (4 * i + 13) 10 (by omega) (fun _ _ => gr_B i) (vin_lt10 (by omega) c_3) dO_leave_50 (fun H locs hG hS => ?_)
          rw [show (nI j).toNatClampNeg = j from nI_clamp (by omega)] at hG
          refine lv_aload_n hx hb dO_leave_51 rfl (lv_at hl 1 rfl) ?_
          refine ro_get (v := .ref (ad (4 * i + 14))) hx hb hts hown hC hG 1 hi (by decide) q_224 (rfl) dO_leave_52 ?_
          refine lv_iload_n hx hb dO_leave_55 rfl (lv_at hl 0 rfl) ?_
          refine lv_iload_n hx hb dO_leave_56 rfl (lv_at hl 3 rfl) ?_
          refine ra_st hx hb hC hG hS (4 * i + 14) 10 (by omega) (fun _ _ => gr_Am i) (vin_lt10 (by omega) c_3) dO_leave_57 (fun H locs hG hS => ?_)
          rw [show (nI j).toNatClampNeg = j from nI_clamp (by omega)] at hG
          refine lv_aload_n hx hb dO_leave_58 rfl (lv_at hl 1 rfl) ?_
          refine lv_aload_n hx hb dO_leave_59 rfl (lv_at hl 1 rfl) ?_
          refine ro_get (v := .int (sA (4 * i + 12) 2)) hx hb hts hown hC hG 2 hi (by decide) q_225 (by simp [ofs, up2, upd]) dO_leave_60 ?_
          refine lv_iload_n hx hb dO_leave_63 rfl (lv_at hl 0 rfl) ?_
          refine lv_iconst (v := 1) hx hb dO_leave_64 (by decide) ?_
          refine lv_iadd hx hb dO_leave_65 ?_
          refine va_mmax hx hb (by rw [hml]; exact hl.1.symm) hown (hts _ q_309) (hts _ q_310) (hts _ q_6) (hts _ q_311) (Nat.le_of_ble_eq_true rfl) (Nat.le_of_ble_eq_true rfl) (Nat.le_of_ble_eq_true rfl) (Nat.le_of_ble_eq_true rfl) dO_leave_66 ?_
          refine ro_put hx hb hts hown hC hG hS hi q_225 dO_leave_69 (fun H locs hG hS => ?_)
          refine W.widen (k := 0) (n := 0) (Nat.le_of_ble_eq_true rfl) (Nat.le_of_ble_eq_true rfl) ?_
          exact W.vret hx hb hr (fun t ht hW => ⟨⟨(sL, (up2 (up2 (up2 sA (4 * i + 13) j p0) (4 * i + 14) j p1) (4 * i + 12) 2 (imax (sA (4 * i + 12) 2) ((nI j) + 1)))), rfl, (by rw [hF, lO_leave, if_pos c_1, if_neg c_2, if_pos c_3] <;> rfl), gw_at hG ht⟩, hS.F ht⟩) hS.2.2 dO_leave_72
        · refine W.widen (k := 0) (n := 0) (Nat.le_of_ble_eq_true rfl) (Nat.le_of_ble_eq_true rfl) ?_
          exact W.vret hx hb hr (fun t ht hW => ⟨⟨(sL, sA), rfl, (by rw [hF, lO_leave, if_pos c_1, if_neg c_2, if_neg c_3] <;> rfl), gw_at hG ht⟩, hS.F ht⟩) hS.2.2 dO_leave_43
    · refine lv_aload_n hx hb dO_leave_10 rfl (lv_at hl 1 rfl) ?_
      refine lv_iload_n hx hb dO_leave_11 rfl (lv_at hl 0 rfl) ?_
      refine rcV2 (rest := []) (As := [.int (nI j)]) hx hb hml hown hts hC hG hS (cO_buyerAt l D tI tJ tL A sg ad n sL sA i hi (nI j)) (recO hi hC hG) (gV q_305 q_306 q_307 q_10 q_308) rfl rfl ⟨rfl, hdyO_buyerAt⟩ ⟨Nat.le_of_ble_eq_true rfl, Nat.le_of_ble_eq_true rfl⟩ hl.1 rfl (Nat.le_of_ble_eq_true rfl) dO_leave_12 ⟨Nat.le_of_ble_eq_true rfl, Nat.le_of_ble_eq_true rfl⟩ ?_
      refine lv_iload_n hx hb dO_leave_15 rfl (lv_at hl 2 rfl) ?_
      refine lv_icmp_eq (tgt := 25) hx hb dO_leave_16 (by decide) (fun c_4 => ?_) (fun c_4 => ?_)
      · refine lv_iload_n hx hb dO_leave_25 rfl (lv_at hl 0 rfl) ?_
        refine lv_aload_n hx hb dO_leave_26 rfl (lv_at hl 1 rfl) ?_
        refine ro_get (v := .ref (ad (4 * i + 13))) hx hb hts hown hC hG 0 hi (by decide) q_223 (rfl) dO_leave_27 ?_
        refine ra_len hx hb hC hG (4 * i + 13) 10 (by omega) (fun _ _ => gr_B i) (v := 10) rfl dO_leave_30 ?_
        refine lv_icmp_ge (tgt := 43) hx hb dO_leave_31 (by decide) (fun c_5 => ?_) (fun c_5 => ?_)
        · refine W.widen (k := 0) (n := 0) (Nat.le_of_ble_eq_true rfl) (Nat.le_of_ble_eq_true rfl) ?_
          exact W.vret hx hb hr (fun t ht hW => ⟨⟨(sL, sA), rfl, (by rw [hF, lO_leave, if_neg c_1, if_pos c_4, if_pos c_5] <;> rfl), gw_at hG ht⟩, hS.F ht⟩) hS.2.2 dO_leave_43
        · refine lv_iload_n hx hb dO_leave_34 rfl (lv_at hl 0 rfl) ?_
          refine lv_aload_n hx hb dO_leave_35 rfl (lv_at hl 1 rfl) ?_
          refine ro_get (v := .ref (ad (4 * i + 14))) hx hb hts hown hC hG 1 hi (by decide) q_224 (rfl) dO_leave_36 ?_
          refine ra_len hx hb hC hG (4 * i + 14) 10 (by omega) (fun _ _ => gr_Am i) (v := 10) rfl dO_leave_39 ?_
          refine lv_icmp_lt (tgt := 44) hx hb dO_leave_40 (by decide) (fun c_6 => ?_) (fun c_6 => ?_)
          · refine lv_aload_n hx hb dO_leave_44 rfl (lv_at hl 1 rfl) ?_
            refine ro_get (v := .ref (ad (4 * i + 13))) hx hb hts hown hC hG 0 hi (by decide) q_223 (rfl) dO_leave_45 ?_
            refine lv_iload_n hx hb dO_leave_48 rfl (lv_at hl 0 rfl) ?_
            refine lv_iload_n hx hb dO_leave_49 rfl (lv_at hl 2 rfl) ?_
            refine ra_st hx hb hC hG hS (4 * i + 13) 10 (by omega) (fun _ _ => gr_B i) (vin_lt10 (by omega) c_6) dO_leave_50 (fun H locs hG hS => ?_)
            rw [show (nI j).toNatClampNeg = j from nI_clamp (by omega)] at hG
            refine lv_aload_n hx hb dO_leave_51 rfl (lv_at hl 1 rfl) ?_
            refine ro_get (v := .ref (ad (4 * i + 14))) hx hb hts hown hC hG 1 hi (by decide) q_224 (rfl) dO_leave_52 ?_
            refine lv_iload_n hx hb dO_leave_55 rfl (lv_at hl 0 rfl) ?_
            refine lv_iload_n hx hb dO_leave_56 rfl (lv_at hl 3 rfl) ?_
            refine ra_st hx hb hC hG hS (4 * i + 14) 10 (by omega) (fun _ _ => gr_Am i) (vin_lt10 (by omega) c_6) dO_leave_57 (fun H locs hG hS => ?_)
            rw [show (nI j).toNatClampNeg = j from nI_clamp (by omega)] at hG
            refine lv_aload_n hx hb dO_leave_58 rfl (lv_at hl 1 rfl) ?_
            refine lv_aload_n hx hb dO_leave_59 rfl (lv_at hl 1 rfl) ?_
            refine ro_get (v := .int (sA (4 * i + 12) 2)) hx hb hts hown hC hG 2 hi (by decide) q_225 (by simp [ofs, up2, upd]) dO_leave_60 ?_
            refine lv_iload_n hx hb dO_leave_63 rfl (lv_at hl 0 rfl) ?_
            refine lv_iconst (v := 1) hx hb dO_leave_64 (by decide) ?_
            refine lv_iadd hx hb dO_leave_65 ?_
            refine va_mmax hx hb (by rw [hml]; exact hl.1.symm) hown (hts _ q_309) (hts _ q_310) (hts _ q_6) (hts _ q_311) (Nat.le_of_ble_eq_true rfl) (Nat.le_of_ble_eq_true rfl) (Nat.le_of_ble_eq_true rfl) (Nat.le_of_ble_eq_true rfl) dO_leave_66 ?_
            refine ro_put hx hb hts hown hC hG hS hi q_225 dO_leave_69 (fun H locs hG hS => ?_)
            refine W.widen (k := 0) (n := 0) (Nat.le_of_ble_eq_true rfl) (Nat.le_of_ble_eq_true rfl) ?_
            exact W.vret hx hb hr (fun t ht hW => ⟨⟨(sL, (up2 (up2 (up2 sA (4 * i + 13) j p0) (4 * i + 14) j p1) (4 * i + 12) 2 (imax (sA (4 * i + 12) 2) ((nI j) + 1)))), rfl, (by rw [hF, lO_leave, if_neg c_1, if_pos c_4, if_neg c_5, if_pos c_6] <;> rfl), gw_at hG ht⟩, hS.F ht⟩) hS.2.2 dO_leave_72
          · refine W.widen (k := 0) (n := 0) (Nat.le_of_ble_eq_true rfl) (Nat.le_of_ble_eq_true rfl) ?_
            exact W.vret hx hb hr (fun t ht hW => ⟨⟨(sL, sA), rfl, (by rw [hF, lO_leave, if_neg c_1, if_pos c_4, if_neg c_5, if_neg c_6] <;> rfl), gw_at hG ht⟩, hS.F ht⟩) hS.2.2 dO_leave_43
      · refine lv_iinc (v := nI (j + 1)) (lv' := [(3, .int (nI (j + 1))), (0, .ref (ad (4 * i + 12))), (1, .int p0), (2, .int p1)]) hx hb dO_leave_19 hl (k := 0) rfl (nI_1 j) (by decide) rfl (fun ls hl => ?_)
        refine lv_goto (tgt := 2) hx hb dO_leave_22 (by decide) ?_
        exact ih (j := j + 1) (ls := ls) (hf := by omega) (hj := by have hlt := lt_guard hcn (by omega) (by omega) c_1; omega) (hF := by rw [hF, lO_leave, if_neg c_1, if_neg c_4] <;> rfl) (hl := lv_sub hl [0, 1, 2, 3] rfl)
def lX_held (n : Nat) (sL : NL) (sA : NA) : Nat → Nat → Int64 → Int64
  | 0, _, _ => 0
  | f + 1, j, x => if 30 ≤ (nI j) then x else (if j < n then lX_held n sL sA f (j + 1) (x + ((fL_heldForIt sL sA j : Int32).toInt64)) else lX_held n sL sA f (j + 1) x)
def fX_heldByLots (n : Nat) (sL : NL) (sA : NA) : Int64 := lX_held n sL sA 31 0 0
theorem hdyX_heldByLots : yX_heldByLots.cls ≠ "java/lang/invoke/MethodHandle" ∧ yX_heldByLots.cls ≠ "java/lang/invoke/VarHandle" ∧ (parseMethodDescriptor yX_heldByLots.desc).map (fun d => d.parameters.length) = some 0 := by decide +kernel
theorem dX_heldByLots_0 : decode bX_heldByLots 0 = .ok (.lconst 0, 1) := by decide +kernel
theorem dX_heldByLots_1 : decode bX_heldByLots 1 = .ok (.lstore_n 1, 1) := by decide +kernel
theorem dX_heldByLots_2 : decode bX_heldByLots 2 = .ok (.aload_n 0, 1) := by decide +kernel
theorem dX_heldByLots_3 : decode bX_heldByLots 3 = .ok (.getfield 11, 3) := by decide +kernel
theorem dX_heldByLots_6 : decode bX_heldByLots 6 = .ok (.astore_n 3, 1) := by decide +kernel
theorem dX_heldByLots_7 : decode bX_heldByLots 7 = .ok (.aload_n 3, 1) := by decide +kernel
theorem dX_heldByLots_8 : decode bX_heldByLots 8 = .ok (.arraylength, 1) := by decide +kernel
theorem dX_heldByLots_9 : decode bX_heldByLots 9 = .ok (.istore 4, 2) := by decide +kernel
theorem dX_heldByLots_11 : decode bX_heldByLots 11 = .ok (.iconst 0, 1) := by decide +kernel
theorem dX_heldByLots_12 : decode bX_heldByLots 12 = .ok (.istore 5, 2) := by decide +kernel
theorem dX_heldByLots_14 : decode bX_heldByLots 14 = .ok (.iload 5, 2) := by decide +kernel
theorem dX_heldByLots_16 : decode bX_heldByLots 16 = .ok (.iload 4, 2) := by decide +kernel
theorem dX_heldByLots_18 : decode bX_heldByLots 18 = .ok (.if_icmp .ge 29, 3) := by decide +kernel
theorem dX_heldByLots_21 : decode bX_heldByLots 21 = .ok (.aload_n 3, 1) := by decide +kernel
theorem dX_heldByLots_22 : decode bX_heldByLots 22 = .ok (.iload 5, 2) := by decide +kernel
theorem dX_heldByLots_24 : decode bX_heldByLots 24 = .ok (.aaload, 1) := by decide +kernel
theorem dX_heldByLots_25 : decode bX_heldByLots 25 = .ok (.astore 6, 2) := by decide +kernel
theorem dX_heldByLots_27 : decode bX_heldByLots 27 = .ok (.aload 6, 2) := by decide +kernel
theorem dX_heldByLots_29 : decode bX_heldByLots 29 = .ok (.ifnull 12, 3) := by decide +kernel
theorem dX_heldByLots_32 : decode bX_heldByLots 32 = .ok (.lload_n 1, 1) := by decide +kernel
theorem dX_heldByLots_33 : decode bX_heldByLots 33 = .ok (.aload 6, 2) := by decide +kernel
theorem dX_heldByLots_35 : decode bX_heldByLots 35 = .ok (.invokevirtual 173, 3) := by decide +kernel
theorem dX_heldByLots_38 : decode bX_heldByLots 38 = .ok (.i2l, 1) := by decide +kernel
theorem dX_heldByLots_39 : decode bX_heldByLots 39 = .ok (.ladd, 1) := by decide +kernel
theorem dX_heldByLots_40 : decode bX_heldByLots 40 = .ok (.lstore_n 1, 1) := by decide +kernel
theorem dX_heldByLots_41 : decode bX_heldByLots 41 = .ok (.iinc 5 1, 3) := by decide +kernel
theorem dX_heldByLots_44 : decode bX_heldByLots 44 = .ok (.goto (-30), 3) := by decide +kernel
theorem dX_heldByLots_47 : decode bX_heldByLots 47 = .ok (.lload_n 1, 1) := by decide +kernel
theorem dX_heldByLots_48 : decode bX_heldByLots 48 = .ok (.lreturn, 1) := by decide +kernel
set_option maxHeartbeats 4000000 in
set_option maxRecDepth 100000 in
theorem cX_heldByLots (l : Launch) (D : va_G) (tI tJ tL : ClassId) (A : Nat → Prop) (sg ad : Nat → Nat) (n : Nat) (sL : NL) (sA : NA) : Met l yX_heldByLots (Cond.code yX_heldByLots bX_heldByLots 7 (some FieldType.long) :: wNeed) { frames := 1, cells := 0, slots := 0, locals := 20 } (va_Pc [.ref (ad 0)] (GP D tI tJ tL A sg ad n sL sA)) (vp_Sl fun r => r = fX_heldByLots n sL sA) 0 0 (fun _ => False) := by
  refine en_M (av := [.ref (ad 0)]) (by decide) (Nat.le_of_ble_eq_true rfl) ?_
  intro p e s m below meth c hx hb hml hown hts hr hlocks hmname hP ls hl
  obtain ⟨hG, hC⟩ := hP
  have hS : va_S A s.heap s.heap [] := va_S.rf
  replace hl : lv_has ls 7 [(0, .ref (ad 0))] := hl
  refine lv_lconst (v := 0) hx hb dX_heldByLots_0 (by decide) ?_
  refine lv_lstore_n (lv' := [(1, .long 0), (0, .ref (ad 0))]) hx hb dX_heldByLots_1 rfl hl (by decide) rfl (fun ls hl => ?_)
  refine lv_aload_n hx hb dX_heldByLots_2 rfl (lv_at hl 1 rfl) ?_
  refine rx_get (v := .ref (ad 1)) hx hb hts hown hC hG 0 (by decide) q_21 (rfl) dX_heldByLots_3 ?_
  refine lv_astore_n (lv' := [(3, .ref (ad 1)), (1, .long 0), (0, .ref (ad 0))]) hx hb dX_heldByLots_6 rfl hl (by decide) rfl (fun ls hl => ?_)
  refine lv_aload_n hx hb dX_heldByLots_7 rfl (lv_at hl 0 rfl) ?_
  refine rh_len hx hb hC hG (v := 30) rfl dX_heldByLots_8 ?_
  refine lv_istore (lv' := [(4, .int 30), (3, .ref (ad 1)), (1, .long 0), (0, .ref (ad 0))]) hx hb dX_heldByLots_9 hl (by decide) rfl (fun ls hl => ?_)
  refine lv_iconst (v := 0) hx hb dX_heldByLots_11 (by decide) ?_
  refine lv_istore (lv' := [(5, .int 0), (4, .int 30), (3, .ref (ad 1)), (1, .long 0), (0, .ref (ad 0))]) hx hb dX_heldByLots_12 hl (by decide) rfl (fun ls hl => ?_)
  replace hl : ∃ (f : Nat) (j : Nat) (x : Int64), j + f = 31 ∧ j ≤ 30 ∧ fX_heldByLots n sL sA = lX_held n sL sA f j x ∧ lv_has ls 7 [(5, .int (nI j)), (4, .int 30), (3, .ref (ad 1)), (1, .long x), (0, .ref (ad 0))] := ⟨31, 0, 0, rfl, by omega, (by rw [fX_heldByLots] <;> rfl), hl⟩
  obtain ⟨f, j, x, hf, hj, hF, hl⟩ := hl
  induction f generalizing j x ls with
  | zero => exact absurd hf (by omega)
  | succ f ih =>
    refine lv_iload hx hb dX_heldByLots_14 (lv_at hl 0 rfl) ?_
    refine lv_iload hx hb dX_heldByLots_16 (lv_at hl 1 rfl) ?_
    refine lv_icmp_ge (tgt := 47) hx hb dX_heldByLots_18 (by decide) (fun c_1 => ?_) (fun c_1 => ?_)
    · refine lv_lload_n hx hb dX_heldByLots_47 rfl (lv_at hl 3 rfl) ?_
      exact W.lret (v := x) hx hb hr (fun t ht hW => ⟨_, rfl, (by rw [hF, lX_held, if_pos c_1] <;> rfl), ht⟩) (fun q h => nomatch h) dX_heldByLots_48
    · refine lv_aload_n hx hb dX_heldByLots_21 rfl (lv_at hl 2 rfl) ?_
      refine lv_iload hx hb dX_heldByLots_22 (lv_at hl 0 rfl) ?_
      refine rh_ld hx hb hC hG (vp_in_nI (lt_guard30 (by omega) c_1) (by omega)) dX_heldByLots_24 ?_
      rw [show (nI j).toNatClampNeg = j from nI_clamp (by omega)]
      by_cases h_2 : j < n
      · rw [show hof ad n j = some (ad (4 * j + 11)) from if_pos h_2]
        refine W.eq (g2 := F0 m 25 ls (.ref (ad (4 * j + 11)) :: [])) rfl ?_
        have hi := h_2
        refine lv_astore (lv' := [(6, .ref (ad (4 * j + 11))), (5, .int (nI j)), (4, .int 30), (3, .ref (ad 1)), (1, .long x), (0, .ref (ad 0))]) hx hb dX_heldByLots_25 hl (by decide) rfl (fun ls hl => ?_)
        refine lv_aload hx hb dX_heldByLots_27 (lv_at hl 0 rfl) ?_
        refine lv_ifnull hx hb dX_heldByLots_29 ?_
        refine lv_lload_n hx hb dX_heldByLots_32 rfl (lv_at hl 4 rfl) ?_
        refine lv_aload hx hb dX_heldByLots_33 (lv_at hl 0 rfl) ?_
        refine rcV2 (rest := [.long x]) (As := []) hx hb hml hown hts hC hG hS (cL_heldForIt l D tI tJ tL A sg ad n sL sA j hi) (recL hi hC hG) (gV q_466 q_467 q_468 q_9 q_469) rfl rfl ⟨rfl, hdyL_heldForIt⟩ ⟨Nat.le_of_ble_eq_true rfl, Nat.le_of_ble_eq_true rfl⟩ hl.1 rfl (Nat.le_of_ble_eq_true rfl) dX_heldByLots_35 ⟨Nat.le_of_ble_eq_true rfl, Nat.le_of_ble_eq_true rfl⟩ ?_
        refine lv_i2l (v := (fL_heldForIt sL sA j : Int32).toInt64) hx hb dX_heldByLots_38 rfl ?_
        refine lv_ladd hx hb dX_heldByLots_39 ?_
        refine lv_lstore_n (lv' := [(1, .long (x + ((fL_heldForIt sL sA j : Int32).toInt64))), (6, .ref (ad (4 * j + 11))), (5, .int (nI j)), (4, .int 30), (3, .ref (ad 1)), (0, .ref (ad 0))]) hx hb dX_heldByLots_40 rfl hl (by decide) rfl (fun ls hl => ?_)
        refine lv_iinc (v := nI (j + 1)) (lv' := [(5, .int (nI (j + 1))), (1, .long (x + ((fL_heldForIt sL sA j : Int32).toInt64))), (6, .ref (ad (4 * j + 11))), (4, .int 30), (3, .ref (ad 1)), (0, .ref (ad 0))]) hx hb dX_heldByLots_41 hl (k := 2) rfl (nI_1 j) (by decide) rfl (fun ls hl => ?_)
        refine lv_goto (tgt := 14) hx hb dX_heldByLots_44 (by decide) ?_
        exact ih (j := j + 1) (x := x + ((fL_heldForIt sL sA j : Int32).toInt64)) (ls := ls) (hf := by omega) (hj := by have hlt := lt_guard30 (by omega) c_1; omega) (hF := by rw [hF, lX_held, if_neg c_1, if_pos h_2] <;> rfl) (hl := lv_sub hl [0, 3, 4, 1, 5] rfl)
      · rw [show hof ad n j = none from if_neg h_2]
        refine W.eq (g2 := F0 m 25 ls (.null :: [])) rfl ?_
        refine lv_astoreN (lv' := [(6, .null), (5, .int (nI j)), (4, .int 30), (3, .ref (ad 1)), (1, .long x), (0, .ref (ad 0))]) hx hb dX_heldByLots_25 hl (by decide) rfl (fun ls hl => ?_)
        refine lv_aloadN hx hb dX_heldByLots_27 (lv_at hl 0 rfl) ?_
        refine lv_ifnullN (tgt := 41) hx hb dX_heldByLots_29 (by decide) ?_
        refine lv_iinc (v := nI (j + 1)) (lv' := [(5, .int (nI (j + 1))), (6, .null), (4, .int 30), (3, .ref (ad 1)), (1, .long x), (0, .ref (ad 0))]) hx hb dX_heldByLots_41 hl (k := 1) rfl (nI_1 j) (by decide) rfl (fun ls hl => ?_)
        refine lv_goto (tgt := 14) hx hb dX_heldByLots_44 (by decide) ?_
        exact ih (j := j + 1) (x := x) (ls := ls) (hf := by omega) (hj := by have hlt := lt_guard30 (by omega) c_1; omega) (hF := by rw [hF, lX_held, if_neg c_1, if_neg h_2] <;> rfl) (hl := lv_sub hl [0, 2, 3, 4, 5] rfl)
end
section
theorem owed_ok {sL : NL} {sA : NA} {p : Int32} (h : (fX_owedBy sL sA p).1 = 0) : fX_checkBuyer p = 0 := by
  rw [fX_owedBy] at h
  exact bnd_eq0 h
def fX_lots (sL : NL) (sA : NA) : Int32 := sA 0 3
theorem hdyX_lots : yX_lots.cls ≠ "java/lang/invoke/MethodHandle" ∧ yX_lots.cls ≠ "java/lang/invoke/VarHandle" ∧ (parseMethodDescriptor yX_lots.desc).map (fun d => d.parameters.length) = some 0 := by decide +kernel
theorem dX_lots_0 : decode bX_lots 0 = .ok (.aload_n 0, 1) := by decide +kernel
theorem dX_lots_1 : decode bX_lots 1 = .ok (.getfield 38, 3) := by decide +kernel
theorem dX_lots_4 : decode bX_lots 4 = .ok (.ireturn, 1) := by decide +kernel
set_option maxHeartbeats 4000000 in
set_option maxRecDepth 100000 in
theorem cX_lots (l : Launch) (D : va_G) (tI tJ tL : ClassId) (A : Nat → Prop) (sg ad : Nat → Nat) (n : Nat) (sL : NL) (sA : NA) : Met l yX_lots (Cond.code yX_lots bX_lots 1 (some FieldType.int) :: wNeed) { frames := 0, cells := 0, slots := 0, locals := 0 } (va_Pc [.ref (ad 0)] (GP D tI tJ tL A sg ad n sL sA)) (vp_Si fun r => r = fX_lots sL sA) 0 0 (fun _ => False) := by
  refine en_M (av := [.ref (ad 0)]) (by decide) (Nat.le_of_ble_eq_true rfl) ?_
  intro p e s m below meth c hx hb hml hown hts hr hlocks hmname hP ls hl
  obtain ⟨hG, hC⟩ := hP
  have hS : va_S A s.heap s.heap [] := va_S.rf
  replace hl : lv_has ls 1 [(0, .ref (ad 0))] := hl
  refine lv_aload_n hx hb dX_lots_0 rfl (lv_at hl 0 rfl) ?_
  refine rx_get (v := .int (sA 0 3)) hx hb hts hown hC hG 3 (by decide) q_24 (rfl) dX_lots_1 ?_
  exact W.iret (v := sA 0 3) hx hb hr (fun t ht hW => ⟨_, rfl, (by rw [fX_lots] <;> rfl), ht⟩) (fun q h => nomatch h) dX_lots_4
def fX_in (sL : NL) (sA : NA) : Int64 := sL 0 6
theorem hdyX_in : yX_in.cls ≠ "java/lang/invoke/MethodHandle" ∧ yX_in.cls ≠ "java/lang/invoke/VarHandle" ∧ (parseMethodDescriptor yX_in.desc).map (fun d => d.parameters.length) = some 0 := by decide +kernel
theorem dX_in_0 : decode bX_in 0 = .ok (.aload_n 0, 1) := by decide +kernel
theorem dX_in_1 : decode bX_in 1 = .ok (.getfield 119, 3) := by decide +kernel
theorem dX_in_4 : decode bX_in 4 = .ok (.lreturn, 1) := by decide +kernel
set_option maxHeartbeats 4000000 in
set_option maxRecDepth 100000 in
theorem cX_in (l : Launch) (D : va_G) (tI tJ tL : ClassId) (A : Nat → Prop) (sg ad : Nat → Nat) (n : Nat) (sL : NL) (sA : NA) : Met l yX_in (Cond.code yX_in bX_in 1 (some FieldType.long) :: wNeed) { frames := 0, cells := 0, slots := 0, locals := 0 } (va_Pc [.ref (ad 0)] (GP D tI tJ tL A sg ad n sL sA)) (vp_Sl fun r => r = fX_in sL sA) 0 0 (fun _ => False) := by
  refine en_M (av := [.ref (ad 0)]) (by decide) (Nat.le_of_ble_eq_true rfl) ?_
  intro p e s m below meth c hx hb hml hown hts hr hlocks hmname hP ls hl
  obtain ⟨hG, hC⟩ := hP
  have hS : va_S A s.heap s.heap [] := va_S.rf
  replace hl : lv_has ls 1 [(0, .ref (ad 0))] := hl
  refine lv_aload_n hx hb dX_in_0 rfl (lv_at hl 0 rfl) ?_
  refine rx_get (v := .long (sL 0 6)) hx hb hts hown hC hG 6 (by decide) q_27 (rfl) dX_in_1 ?_
  exact W.lret (v := sL 0 6) hx hb hr (fun t ht hW => ⟨_, rfl, (by rw [fX_in] <;> rfl), ht⟩) (fun q h => nomatch h) dX_in_4
def fX_out (sL : NL) (sA : NA) : Int64 := sL 0 7
theorem hdyX_out : yX_out.cls ≠ "java/lang/invoke/MethodHandle" ∧ yX_out.cls ≠ "java/lang/invoke/VarHandle" ∧ (parseMethodDescriptor yX_out.desc).map (fun d => d.parameters.length) = some 0 := by decide +kernel
theorem dX_out_0 : decode bX_out 0 = .ok (.aload_n 0, 1) := by decide +kernel
theorem dX_out_1 : decode bX_out 1 = .ok (.getfield 152, 3) := by decide +kernel
theorem dX_out_4 : decode bX_out 4 = .ok (.lreturn, 1) := by decide +kernel
set_option maxHeartbeats 4000000 in
set_option maxRecDepth 100000 in
theorem cX_out (l : Launch) (D : va_G) (tI tJ tL : ClassId) (A : Nat → Prop) (sg ad : Nat → Nat) (n : Nat) (sL : NL) (sA : NA) : Met l yX_out (Cond.code yX_out bX_out 1 (some FieldType.long) :: wNeed) { frames := 0, cells := 0, slots := 0, locals := 0 } (va_Pc [.ref (ad 0)] (GP D tI tJ tL A sg ad n sL sA)) (vp_Sl fun r => r = fX_out sL sA) 0 0 (fun _ => False) := by
  refine en_M (av := [.ref (ad 0)]) (by decide) (Nat.le_of_ble_eq_true rfl) ?_
  intro p e s m below meth c hx hb hml hown hts hr hlocks hmname hP ls hl
  obtain ⟨hG, hC⟩ := hP
  have hS : va_S A s.heap s.heap [] := va_S.rf
  replace hl : lv_has ls 1 [(0, .ref (ad 0))] := hl
  refine lv_aload_n hx hb dX_out_0 rfl (lv_at hl 0 rfl) ?_
  refine rx_get (v := .long (sL 0 7)) hx hb hts hown hC hG 7 (by decide) q_28 (rfl) dX_out_1 ?_
  exact W.lret (v := sL 0 7) hx hb hr (fun t ht hW => ⟨_, rfl, (by rw [fX_out] <;> rfl), ht⟩) (fun q h => nomatch h) dX_out_4
def fX_kept (sL : NL) (sA : NA) : Int64 := sL 0 8
theorem hdyX_kept : yX_kept.cls ≠ "java/lang/invoke/MethodHandle" ∧ yX_kept.cls ≠ "java/lang/invoke/VarHandle" ∧ (parseMethodDescriptor yX_kept.desc).map (fun d => d.parameters.length) = some 0 := by decide +kernel
theorem dX_kept_0 : decode bX_kept 0 = .ok (.aload_n 0, 1) := by decide +kernel
theorem dX_kept_1 : decode bX_kept 1 = .ok (.getfield 123, 3) := by decide +kernel
theorem dX_kept_4 : decode bX_kept 4 = .ok (.lreturn, 1) := by decide +kernel
set_option maxHeartbeats 4000000 in
set_option maxRecDepth 100000 in
theorem cX_kept (l : Launch) (D : va_G) (tI tJ tL : ClassId) (A : Nat → Prop) (sg ad : Nat → Nat) (n : Nat) (sL : NL) (sA : NA) : Met l yX_kept (Cond.code yX_kept bX_kept 1 (some FieldType.long) :: wNeed) { frames := 0, cells := 0, slots := 0, locals := 0 } (va_Pc [.ref (ad 0)] (GP D tI tJ tL A sg ad n sL sA)) (vp_Sl fun r => r = fX_kept sL sA) 0 0 (fun _ => False) := by
  refine en_M (av := [.ref (ad 0)]) (by decide) (Nat.le_of_ble_eq_true rfl) ?_
  intro p e s m below meth c hx hb hml hown hts hr hlocks hmname hP ls hl
  obtain ⟨hG, hC⟩ := hP
  have hS : va_S A s.heap s.heap [] := va_S.rf
  replace hl : lv_has ls 1 [(0, .ref (ad 0))] := hl
  refine lv_aload_n hx hb dX_kept_0 rfl (lv_at hl 0 rfl) ?_
  refine rx_get (v := .long (sL 0 8)) hx hb hts hown hC hG 8 (by decide) q_29 (rfl) dX_kept_1 ?_
  exact W.lret (v := sL 0 8) hx hb hr (fun t ht hW => ⟨_, rfl, (by rw [fX_kept] <;> rfl), ht⟩) (fun q h => nomatch h) dX_kept_4
def fX_held (sL : NL) (sA : NA) : Int64 := ((sL 0 6) - (sL 0 7)) - (sL 0 8)
theorem hdyX_held : yX_held.cls ≠ "java/lang/invoke/MethodHandle" ∧ yX_held.cls ≠ "java/lang/invoke/VarHandle" ∧ (parseMethodDescriptor yX_held.desc).map (fun d => d.parameters.length) = some 0 := by decide +kernel
theorem dX_held_0 : decode bX_held 0 = .ok (.aload_n 0, 1) := by decide +kernel
theorem dX_held_1 : decode bX_held 1 = .ok (.getfield 119, 3) := by decide +kernel
theorem dX_held_4 : decode bX_held 4 = .ok (.aload_n 0, 1) := by decide +kernel
theorem dX_held_5 : decode bX_held 5 = .ok (.getfield 152, 3) := by decide +kernel
theorem dX_held_8 : decode bX_held 8 = .ok (.lsub, 1) := by decide +kernel
theorem dX_held_9 : decode bX_held 9 = .ok (.aload_n 0, 1) := by decide +kernel
theorem dX_held_10 : decode bX_held 10 = .ok (.getfield 123, 3) := by decide +kernel
theorem dX_held_13 : decode bX_held 13 = .ok (.lsub, 1) := by decide +kernel
theorem dX_held_14 : decode bX_held 14 = .ok (.lreturn, 1) := by decide +kernel
set_option maxHeartbeats 4000000 in
set_option maxRecDepth 100000 in
theorem cX_held (l : Launch) (D : va_G) (tI tJ tL : ClassId) (A : Nat → Prop) (sg ad : Nat → Nat) (n : Nat) (sL : NL) (sA : NA) : Met l yX_held (Cond.code yX_held bX_held 1 (some FieldType.long) :: wNeed) { frames := 0, cells := 0, slots := 0, locals := 0 } (va_Pc [.ref (ad 0)] (GP D tI tJ tL A sg ad n sL sA)) (vp_Sl fun r => r = fX_held sL sA) 0 0 (fun _ => False) := by
  refine en_M (av := [.ref (ad 0)]) (by decide) (Nat.le_of_ble_eq_true rfl) ?_
  intro p e s m below meth c hx hb hml hown hts hr hlocks hmname hP ls hl
  obtain ⟨hG, hC⟩ := hP
  have hS : va_S A s.heap s.heap [] := va_S.rf
  replace hl : lv_has ls 1 [(0, .ref (ad 0))] := hl
  refine lv_aload_n hx hb dX_held_0 rfl (lv_at hl 0 rfl) ?_
  refine rx_get (v := .long (sL 0 6)) hx hb hts hown hC hG 6 (by decide) q_27 (rfl) dX_held_1 ?_
  refine lv_aload_n hx hb dX_held_4 rfl (lv_at hl 0 rfl) ?_
  refine rx_get (v := .long (sL 0 7)) hx hb hts hown hC hG 7 (by decide) q_28 (rfl) dX_held_5 ?_
  refine lv_lsub hx hb dX_held_8 ?_
  refine lv_aload_n hx hb dX_held_9 rfl (lv_at hl 0 rfl) ?_
  refine rx_get (v := .long (sL 0 8)) hx hb hts hown hC hG 8 (by decide) q_29 (rfl) dX_held_10 ?_
  refine lv_lsub hx hb dX_held_13 ?_
  exact W.lret (v := ((sL 0 6) - (sL 0 7)) - (sL 0 8)) hx hb hr (fun t ht hW => ⟨_, rfl, (by rw [fX_held] <;> rfl), ht⟩) (fun q h => nomatch h) dX_held_14
def fX_bid (n : Nat) (sL : NL) (sA : NA) (p0 : Int32) (p1 : Int32) (p2 : Int32) : Nat × Int32 × NL × NA := bndq (fX_findLot n p0) (fun i => bnd (fX_checkBuyer p1) (bnd (fX_checkRange p2 1 1000000) (bnd (fX_checkState sL sA i 0) ((0, fX_calledAmount p2, (fO_leave sL sA i p1 (fX_calledAmount p2)).1, (fO_leave sL sA i p1 (fX_calledAmount p2)).2)) (0, sL, sA)) (0, sL, sA)) (0, sL, sA)) (0, sL, sA)
theorem hdyX_bid : yX_bid.cls ≠ "java/lang/invoke/MethodHandle" ∧ yX_bid.cls ≠ "java/lang/invoke/VarHandle" ∧ (parseMethodDescriptor yX_bid.desc).map (fun d => d.parameters.length) = some 3 := by decide +kernel
theorem dX_bid_0 : decode bX_bid 0 = .ok (.aload_n 0, 1) := by decide +kernel
theorem dX_bid_1 : decode bX_bid 1 = .ok (.iload_n 1, 1) := by decide +kernel
theorem dX_bid_2 : decode bX_bid 2 = .ok (.invokevirtual 54, 3) := by decide +kernel
theorem dX_bid_5 : decode bX_bid 5 = .ok (.astore 4, 2) := by decide +kernel
theorem dX_bid_7 : decode bX_bid 7 = .ok (.iload_n 2, 1) := by decide +kernel
theorem dX_bid_8 : decode bX_bid 8 = .ok (.invokestatic 58, 3) := by decide +kernel
theorem dX_bid_11 : decode bX_bid 11 = .ok (.iload_n 3, 1) := by decide +kernel
theorem dX_bid_12 : decode bX_bid 12 = .ok (.iconst 1, 1) := by decide +kernel
theorem dX_bid_13 : decode bX_bid 13 = .ok (.ldc 30, 2) := by decide +kernel
theorem dX_bid_15 : decode bX_bid 15 = .ok (.invokestatic 31, 3) := by decide +kernel
theorem dX_bid_18 : decode bX_bid 18 = .ok (.aload 4, 2) := by decide +kernel
theorem dX_bid_20 : decode bX_bid 20 = .ok (.iconst 0, 1) := by decide +kernel
theorem dX_bid_21 : decode bX_bid 21 = .ok (.invokestatic 61, 3) := by decide +kernel
theorem dX_bid_24 : decode bX_bid 24 = .ok (.iload_n 3, 1) := by decide +kernel
theorem dX_bid_25 : decode bX_bid 25 = .ok (.invokestatic 48, 3) := by decide +kernel
theorem dX_bid_28 : decode bX_bid 28 = .ok (.istore 5, 2) := by decide +kernel
theorem dX_bid_30 : decode bX_bid 30 = .ok (.aload 4, 2) := by decide +kernel
theorem dX_bid_32 : decode bX_bid 32 = .ok (.getfield 65, 3) := by decide +kernel
theorem dX_bid_35 : decode bX_bid 35 = .ok (.iload_n 2, 1) := by decide +kernel
theorem dX_bid_36 : decode bX_bid 36 = .ok (.iload 5, 2) := by decide +kernel
theorem dX_bid_38 : decode bX_bid 38 = .ok (.invokevirtual 69, 3) := by decide +kernel
theorem dX_bid_41 : decode bX_bid 41 = .ok (.iload 5, 2) := by decide +kernel
theorem dX_bid_43 : decode bX_bid 43 = .ok (.ireturn, 1) := by decide +kernel
set_option maxHeartbeats 4000000 in
set_option maxRecDepth 100000 in
theorem cX_bid (l : Launch) (hl9 : l.stackTraces = false) (D : va_G) (tI tJ tL : ClassId) (A : Nat → Prop) (sg ad : Nat → Nat) (n : Nat) (sL : NL) (sA : NA) (p0 : Int32) (p1 : Int32) (p2 : Int32) (hcnt : ∀ i, i < n → ∃ cn : Nat, cn ≤ 10 ∧ sA (4 * i + 12) 2 = nI cn) : vx_Met l yX_bid (Cond.code yX_bid bX_bid 6 (some FieldType.int) :: wNeed) { frames := 7, cells := 4, slots := 24, locals := 112 } (va_Pc [.ref (ad 0), .int p0, .int p1, .int p2] (GP D tI tJ tL A sg ad n sL sA)) (va_Qi (fun r (u : NL × NA) => fX_bid n sL sA p0 p1 p2 = (0, r, u.1, u.2)) (fun u t => GW D tI tJ tL A ad n u.1 u.2 t.heap) A) (XQ D tI tJ tL A ad n sL sA (fX_bid n sL sA p0 p1 p2).1) 4 24 A := by
  refine en_XG (av := [.ref (ad 0), .int p0, .int p1, .int p2]) (by decide) (Nat.le_of_ble_eq_true rfl) ?_
  intro p e s m below meth c hx hb hml hown hts hr hlocks hT hC H locs hG hS ls hl
  replace hl : lv_has ls 6 [(0, .ref (ad 0)), (1, .int p0), (2, .int p1), (3, .int p2)] := hl
  refine lv_aload_n hx hb dX_bid_0 rfl (lv_at hl 0 rfl) ?_
  refine lv_iload_n hx hb dX_bid_1 rfl (lv_at hl 1 rfl) ?_
  refine rcV5q (rest := []) (As := [.int p0]) (p0 := p0) (Mc := 4) (Ms := 24) hx hb hml hown hts hC hG hS hlocks hT (cX_findLot l hl9 D tI tJ tL A sg ad n sL sA p0) (recX hC hG) (gV q_288 q_290 q_p1 q_1 q_291) rfl rfl ⟨rfl, hdyX_findLot⟩ ⟨Nat.le_of_ble_eq_true rfl, Nat.le_of_ble_eq_true rfl⟩ hl.1 rfl (Nat.le_of_ble_eq_true rfl) dX_bid_2 ⟨Nat.le_of_ble_eq_true rfl, Nat.le_of_ble_eq_true rfl⟩ ⟨Nat.le_of_ble_eq_true rfl, Nat.le_of_ble_eq_true rfl⟩ (fun h => by rw [fX_bid, bndq_n h] <;> rfl) (fun i h_1 hi hp H locs hG hS => ?_)
  subst hp
  refine lv_astore (lv' := [(4, .ref (ad (4 * i + 11))), (0, .ref (ad 0)), (1, .int (nI i)), (2, .int p1), (3, .int p2)]) hx hb dX_bid_5 hl (by decide) rfl (fun ls hl => ?_)
  refine lv_iload_n hx hb dX_bid_7 rfl (lv_at hl 3 rfl) ?_
  refine rcS4 (rest := []) (As := [.int p1]) (Mc := 4) (Ms := 24) hx hb hml hown hts hC hG hS hlocks hT (cX_checkBuyer l hl9 D tI tJ tL A sg ad n sL sA p1) (gS q_293 q_294 q_1 q_295) rfl rfl ⟨rfl, hdyX_checkBuyer⟩ ⟨Nat.le_of_ble_eq_true rfl, Nat.le_of_ble_eq_true rfl⟩ hl.1 rfl (Nat.le_of_ble_eq_true rfl) dX_bid_8 ⟨Nat.le_of_ble_eq_true rfl, Nat.le_of_ble_eq_true rfl⟩ ⟨Nat.le_of_ble_eq_true rfl, Nat.le_of_ble_eq_true rfl⟩ (fun h => by rw [fX_bid, bndq_s h_1, bnd_n h] <;> rfl) (fun h_2 H locs hG hS => ?_)
  refine lv_iload_n hx hb dX_bid_11 rfl (lv_at hl 4 rfl) ?_
  refine lv_iconst (v := 1) hx hb dX_bid_12 (by decide) ?_
  refine lv_ldc (v := 1000000) hx hb hown (hts _ q_186) dX_bid_13 ?_
  refine rcS4 (rest := []) (As := [.int p2, .int 1, .int 1000000]) (Mc := 4) (Ms := 24) hx hb hml hown hts hC hG hS hlocks hT (cX_checkRange l hl9 D tI tJ tL A sg ad n sL sA p2 1 1000000) (gS q_125 q_126 q_1 q_127) rfl rfl ⟨rfl, hdyX_checkRange⟩ ⟨Nat.le_of_ble_eq_true rfl, Nat.le_of_ble_eq_true rfl⟩ hl.1 rfl (Nat.le_of_ble_eq_true rfl) dX_bid_15 ⟨Nat.le_of_ble_eq_true rfl, Nat.le_of_ble_eq_true rfl⟩ ⟨Nat.le_of_ble_eq_true rfl, Nat.le_of_ble_eq_true rfl⟩ (fun h => by rw [fX_bid, bndq_s h_1, bnd_0 h_2, bnd_n h] <;> rfl) (fun h_3 H locs hG hS => ?_)
  refine lv_aload hx hb dX_bid_18 (lv_at hl 0 rfl) ?_
  refine lv_iconst (v := 0) hx hb dX_bid_20 (by decide) ?_
  refine rcS4 (rest := []) (As := [.ref (ad (4 * i + 11)), .int 0]) (Mc := 4) (Ms := 24) hx hb hml hown hts hC hG hS hlocks hT (cX_checkState l hl9 D tI tJ tL A sg ad n sL sA i hi 0) (gS q_297 q_298 q_1 q_299) rfl rfl ⟨rfl, hdyX_checkState⟩ ⟨Nat.le_of_ble_eq_true rfl, Nat.le_of_ble_eq_true rfl⟩ hl.1 rfl (Nat.le_of_ble_eq_true rfl) dX_bid_21 ⟨Nat.le_of_ble_eq_true rfl, Nat.le_of_ble_eq_true rfl⟩ ⟨Nat.le_of_ble_eq_true rfl, Nat.le_of_ble_eq_true rfl⟩ (fun h => by rw [fX_bid, bndq_s h_1, bnd_0 h_2, bnd_0 h_3, bnd_n h] <;> rfl) (fun h_4 H locs hG hS => ?_)
  refine lv_iload_n hx hb dX_bid_24 rfl (lv_at hl 4 rfl) ?_
  refine rcS1 (rest := []) (As := [.int p2]) hx hb hml hown hts (cX_calledAmount l p2) (gS q_207 q_208 q_1 q_209) rfl rfl ⟨rfl, hdyX_calledAmount⟩ ⟨Nat.le_of_ble_eq_true rfl, Nat.le_of_ble_eq_true rfl⟩ hl.1 rfl (Nat.le_of_ble_eq_true rfl) dX_bid_25 ⟨Nat.le_of_ble_eq_true rfl, Nat.le_of_ble_eq_true rfl⟩ ?_
  refine lv_istore (lv' := [(5, .int (fX_calledAmount p2)), (4, .ref (ad (4 * i + 11))), (0, .ref (ad 0)), (1, .int (nI i)), (2, .int p1), (3, .int p2)]) hx hb dX_bid_28 hl (by decide) rfl (fun ls hl => ?_)
  refine lv_aload hx hb dX_bid_30 (lv_at hl 1 rfl) ?_
  refine rl_getN (v := .ref (ad (4 * i + 12))) hx hb hts hown hC hG 2 hi (by decide) z_240 (rfl) dX_bid_32 ?_
  refine lv_iload_n hx hb dX_bid_35 rfl (lv_at hl 4 rfl) ?_
  refine lv_iload hx hb dX_bid_36 (lv_at hl 0 rfl) ?_
  obtain ⟨cn, hc, hcn⟩ := hcnt i hi
  refine rcV3v (rest := []) (As := [.int p1, .int (fX_calledAmount p2)]) hx hb hml hown hts hC hG hS (cO_leave l D tI tJ tL A sg ad n sL sA i hi p1 (fX_calledAmount p2) cn hc hcn) (recO hi hC hG) (gV q_301 q_302 q_303 q_10 q_304) rfl rfl ⟨rfl, hdyO_leave⟩ ⟨Nat.le_of_ble_eq_true rfl, Nat.le_of_ble_eq_true rfl⟩ hl.1 rfl (Nat.le_of_ble_eq_true rfl) dX_bid_38 ⟨Nat.le_of_ble_eq_true rfl, Nat.le_of_ble_eq_true rfl⟩ (fun H locs hG hS => ?_)
  refine lv_iload hx hb dX_bid_41 (lv_at hl 0 rfl) ?_
  refine vx_ret ?_
  refine W.widen (k := 4) (n := 24) (Nat.le_of_ble_eq_true rfl) (Nat.le_of_ble_eq_true rfl) ?_
  exact W.iret (v := fX_calledAmount p2) hx hb hr (fun t ht hW => ⟨⟨(fX_calledAmount p2), ((fO_leave sL sA i p1 (fX_calledAmount p2)).1, (fO_leave sL sA i p1 (fX_calledAmount p2)).2), rfl, (by rw [fX_bid, bndq_s h_1, bnd_0 h_2, bnd_0 h_3, bnd_0 h_4] <;> rfl), gw_at hG ht⟩, hS.F ht⟩) hS.2.2 dX_bid_43
def fX_hammer (n : Nat) (sL : NL) (sA : NA) (p0 : Int32) : Nat × Int32 × NL × NA := bndq (fX_findLot n p0) (fun i => bnd (fX_checkState sL sA i 0) (if (sA (4 * i + 11) 3) ≤ (fO_amountAt sL sA i (fO_placeOfBest sL sA i)) then (0, fX_priceFor (sA (4 * i + 11) 3) (fO_amountAt sL sA i (fO_placeOfBest sL sA i)) (fO_highestBeside sL (up2 (up2 sA (4 * i + 11) 4 2) (4 * i + 11) 5 (fO_buyerAt sL (up2 sA (4 * i + 11) 4 2) i (fO_placeOfBest sL sA i))) i (fO_placeOfBest sL sA i)), sL, (up2 (up2 (up2 (up2 sA (4 * i + 11) 4 2) (4 * i + 11) 5 (fO_buyerAt sL (up2 sA (4 * i + 11) 4 2) i (fO_placeOfBest sL sA i))) (4 * i + 11) 6 (fX_priceFor (sA (4 * i + 11) 3) (fO_amountAt sL sA i (fO_placeOfBest sL sA i)) (fO_highestBeside sL (up2 (up2 sA (4 * i + 11) 4 2) (4 * i + 11) 5 (fO_buyerAt sL (up2 sA (4 * i + 11) 4 2) i (fO_placeOfBest sL sA i))) i (fO_placeOfBest sL sA i)))) (4 * i + 11) 7 (2000 + ((sA 0 4) / 365)))) else (0, (-1), sL, (up2 sA (4 * i + 11) 4 1))) (0, sL, sA)) (0, sL, sA)
theorem hdyX_hammer : yX_hammer.cls ≠ "java/lang/invoke/MethodHandle" ∧ yX_hammer.cls ≠ "java/lang/invoke/VarHandle" ∧ (parseMethodDescriptor yX_hammer.desc).map (fun d => d.parameters.length) = some 1 := by decide +kernel
theorem dX_hammer_0 : decode bX_hammer 0 = .ok (.aload_n 0, 1) := by decide +kernel
theorem dX_hammer_1 : decode bX_hammer 1 = .ok (.iload_n 1, 1) := by decide +kernel
theorem dX_hammer_2 : decode bX_hammer 2 = .ok (.invokevirtual 54, 3) := by decide +kernel
theorem dX_hammer_5 : decode bX_hammer 5 = .ok (.astore_n 2, 1) := by decide +kernel
theorem dX_hammer_6 : decode bX_hammer 6 = .ok (.aload_n 2, 1) := by decide +kernel
theorem dX_hammer_7 : decode bX_hammer 7 = .ok (.iconst 0, 1) := by decide +kernel
theorem dX_hammer_8 : decode bX_hammer 8 = .ok (.invokestatic 61, 3) := by decide +kernel
theorem dX_hammer_11 : decode bX_hammer 11 = .ok (.aload_n 2, 1) := by decide +kernel
theorem dX_hammer_12 : decode bX_hammer 12 = .ok (.getfield 65, 3) := by decide +kernel
theorem dX_hammer_15 : decode bX_hammer 15 = .ok (.astore_n 3, 1) := by decide +kernel
theorem dX_hammer_16 : decode bX_hammer 16 = .ok (.aload_n 3, 1) := by decide +kernel
theorem dX_hammer_17 : decode bX_hammer 17 = .ok (.invokevirtual 75, 3) := by decide +kernel
theorem dX_hammer_20 : decode bX_hammer 20 = .ok (.istore 4, 2) := by decide +kernel
theorem dX_hammer_22 : decode bX_hammer 22 = .ok (.aload_n 3, 1) := by decide +kernel
theorem dX_hammer_23 : decode bX_hammer 23 = .ok (.iload 4, 2) := by decide +kernel
theorem dX_hammer_25 : decode bX_hammer 25 = .ok (.invokevirtual 79, 3) := by decide +kernel
theorem dX_hammer_28 : decode bX_hammer 28 = .ok (.istore 5, 2) := by decide +kernel
theorem dX_hammer_30 : decode bX_hammer 30 = .ok (.iload 5, 2) := by decide +kernel
theorem dX_hammer_32 : decode bX_hammer 32 = .ok (.aload_n 2, 1) := by decide +kernel
theorem dX_hammer_33 : decode bX_hammer 33 = .ok (.getfield 82, 3) := by decide +kernel
theorem dX_hammer_36 : decode bX_hammer 36 = .ok (.if_icmp .ge 10, 3) := by decide +kernel
theorem dX_hammer_39 : decode bX_hammer 39 = .ok (.aload_n 2, 1) := by decide +kernel
theorem dX_hammer_40 : decode bX_hammer 40 = .ok (.iconst 1, 1) := by decide +kernel
theorem dX_hammer_41 : decode bX_hammer 41 = .ok (.putfield 85, 3) := by decide +kernel
theorem dX_hammer_44 : decode bX_hammer 44 = .ok (.iconst (-1), 1) := by decide +kernel
theorem dX_hammer_45 : decode bX_hammer 45 = .ok (.ireturn, 1) := by decide +kernel
theorem dX_hammer_46 : decode bX_hammer 46 = .ok (.aload_n 2, 1) := by decide +kernel
theorem dX_hammer_47 : decode bX_hammer 47 = .ok (.iconst 2, 1) := by decide +kernel
theorem dX_hammer_48 : decode bX_hammer 48 = .ok (.putfield 85, 3) := by decide +kernel
theorem dX_hammer_51 : decode bX_hammer 51 = .ok (.aload_n 2, 1) := by decide +kernel
theorem dX_hammer_52 : decode bX_hammer 52 = .ok (.aload_n 3, 1) := by decide +kernel
theorem dX_hammer_53 : decode bX_hammer 53 = .ok (.iload 4, 2) := by decide +kernel
theorem dX_hammer_55 : decode bX_hammer 55 = .ok (.invokevirtual 88, 3) := by decide +kernel
theorem dX_hammer_58 : decode bX_hammer 58 = .ok (.putfield 91, 3) := by decide +kernel
theorem dX_hammer_61 : decode bX_hammer 61 = .ok (.aload_n 2, 1) := by decide +kernel
theorem dX_hammer_62 : decode bX_hammer 62 = .ok (.aload_n 2, 1) := by decide +kernel
theorem dX_hammer_63 : decode bX_hammer 63 = .ok (.getfield 82, 3) := by decide +kernel
theorem dX_hammer_66 : decode bX_hammer 66 = .ok (.iload 5, 2) := by decide +kernel
theorem dX_hammer_68 : decode bX_hammer 68 = .ok (.aload_n 3, 1) := by decide +kernel
theorem dX_hammer_69 : decode bX_hammer 69 = .ok (.iload 4, 2) := by decide +kernel
theorem dX_hammer_71 : decode bX_hammer 71 = .ok (.invokevirtual 94, 3) := by decide +kernel
theorem dX_hammer_74 : decode bX_hammer 74 = .ok (.invokestatic 97, 3) := by decide +kernel
theorem dX_hammer_77 : decode bX_hammer 77 = .ok (.putfield 101, 3) := by decide +kernel
theorem dX_hammer_80 : decode bX_hammer 80 = .ok (.aload_n 2, 1) := by decide +kernel
theorem dX_hammer_81 : decode bX_hammer 81 = .ok (.sipush 2000, 3) := by decide +kernel
theorem dX_hammer_84 : decode bX_hammer 84 = .ok (.aload_n 0, 1) := by decide +kernel
theorem dX_hammer_85 : decode bX_hammer 85 = .ok (.getfield 104, 3) := by decide +kernel
theorem dX_hammer_88 : decode bX_hammer 88 = .ok (.sipush 365, 3) := by decide +kernel
theorem dX_hammer_91 : decode bX_hammer 91 = .ok (.idiv, 1) := by decide +kernel
theorem dX_hammer_92 : decode bX_hammer 92 = .ok (.iadd, 1) := by decide +kernel
theorem dX_hammer_93 : decode bX_hammer 93 = .ok (.putfield 107, 3) := by decide +kernel
theorem dX_hammer_96 : decode bX_hammer 96 = .ok (.aload_n 2, 1) := by decide +kernel
theorem dX_hammer_97 : decode bX_hammer 97 = .ok (.getfield 101, 3) := by decide +kernel
theorem dX_hammer_100 : decode bX_hammer 100 = .ok (.ireturn, 1) := by decide +kernel
set_option maxHeartbeats 4000000 in
set_option maxRecDepth 100000 in
theorem cX_hammer (l : Launch) (hl9 : l.stackTraces = false) (D : va_G) (tI tJ tL : ClassId) (A : Nat → Prop) (sg ad : Nat → Nat) (n : Nat) (sL : NL) (sA : NA) (p0 : Int32) (hcnt : ∀ i, i < n → ∃ cn : Nat, cn ≤ 10 ∧ sA (4 * i + 12) 2 = nI cn) : vx_Met l yX_hammer (Cond.code yX_hammer bX_hammer 6 (some FieldType.int) :: wNeed) { frames := 7, cells := 2, slots := 12, locals := 112 } (va_Pc [.ref (ad 0), .int p0] (GP D tI tJ tL A sg ad n sL sA)) (va_Qi (fun r (u : NL × NA) => fX_hammer n sL sA p0 = (0, r, u.1, u.2)) (fun u t => GW D tI tJ tL A ad n u.1 u.2 t.heap) A) (XQ D tI tJ tL A ad n sL sA (fX_hammer n sL sA p0).1) 2 12 A := by
  refine en_XG (av := [.ref (ad 0), .int p0]) (by decide) (Nat.le_of_ble_eq_true rfl) ?_
  intro p e s m below meth c hx hb hml hown hts hr hlocks hT hC H locs hG hS ls hl
  replace hl : lv_has ls 6 [(0, .ref (ad 0)), (1, .int p0)] := hl
  refine lv_aload_n hx hb dX_hammer_0 rfl (lv_at hl 0 rfl) ?_
  refine lv_iload_n hx hb dX_hammer_1 rfl (lv_at hl 1 rfl) ?_
  refine rcV5q (rest := []) (As := [.int p0]) (p0 := p0) (Mc := 2) (Ms := 12) hx hb hml hown hts hC hG hS hlocks hT (cX_findLot l hl9 D tI tJ tL A sg ad n sL sA p0) (recX hC hG) (gV q_288 q_290 q_p1 q_1 q_291) rfl rfl ⟨rfl, hdyX_findLot⟩ ⟨Nat.le_of_ble_eq_true rfl, Nat.le_of_ble_eq_true rfl⟩ hl.1 rfl (Nat.le_of_ble_eq_true rfl) dX_hammer_2 ⟨Nat.le_of_ble_eq_true rfl, Nat.le_of_ble_eq_true rfl⟩ ⟨Nat.le_of_ble_eq_true rfl, Nat.le_of_ble_eq_true rfl⟩ (fun h => by rw [fX_hammer, bndq_n h] <;> rfl) (fun i h_1 hi hp H locs hG hS => ?_)
  subst hp
  refine lv_astore_n (lv' := [(2, .ref (ad (4 * i + 11))), (0, .ref (ad 0)), (1, .int (nI i))]) hx hb dX_hammer_5 rfl hl (by decide) rfl (fun ls hl => ?_)
  refine lv_aload_n hx hb dX_hammer_6 rfl (lv_at hl 0 rfl) ?_
  refine lv_iconst (v := 0) hx hb dX_hammer_7 (by decide) ?_
  refine rcS4 (rest := []) (As := [.ref (ad (4 * i + 11)), .int 0]) (Mc := 2) (Ms := 12) hx hb hml hown hts hC hG hS hlocks hT (cX_checkState l hl9 D tI tJ tL A sg ad n sL sA i hi 0) (gS q_297 q_298 q_1 q_299) rfl rfl ⟨rfl, hdyX_checkState⟩ ⟨Nat.le_of_ble_eq_true rfl, Nat.le_of_ble_eq_true rfl⟩ hl.1 rfl (Nat.le_of_ble_eq_true rfl) dX_hammer_8 ⟨Nat.le_of_ble_eq_true rfl, Nat.le_of_ble_eq_true rfl⟩ ⟨Nat.le_of_ble_eq_true rfl, Nat.le_of_ble_eq_true rfl⟩ (fun h => by rw [fX_hammer, bndq_s h_1, bnd_n h] <;> rfl) (fun h_2 H locs hG hS => ?_)
  refine lv_aload_n hx hb dX_hammer_11 rfl (lv_at hl 0 rfl) ?_
  refine rl_getN (v := .ref (ad (4 * i + 12))) hx hb hts hown hC hG 2 hi (by decide) z_240 (rfl) dX_hammer_12 ?_
  refine lv_astore_n (lv' := [(3, .ref (ad (4 * i + 12))), (2, .ref (ad (4 * i + 11))), (0, .ref (ad 0)), (1, .int (nI i))]) hx hb dX_hammer_15 rfl hl (by decide) rfl (fun ls hl => ?_)
  refine lv_aload_n hx hb dX_hammer_16 rfl (lv_at hl 0 rfl) ?_
  obtain ⟨cn, hc, hcn⟩ := hcnt i hi
  refine rcV2 (rest := []) (As := []) hx hb hml hown hts hC hG hS (cO_placeOfBest l D tI tJ tL A sg ad n sL sA i hi cn hc hcn) (recO hi hC hG) (gV q_316 q_317 q_318 q_10 q_319) rfl rfl ⟨rfl, hdyO_placeOfBest⟩ ⟨Nat.le_of_ble_eq_true rfl, Nat.le_of_ble_eq_true rfl⟩ hl.1 rfl (Nat.le_of_ble_eq_true rfl) dX_hammer_17 ⟨Nat.le_of_ble_eq_true rfl, Nat.le_of_ble_eq_true rfl⟩ ?_
  refine lv_istore (lv' := [(4, .int (fO_placeOfBest sL sA i)), (3, .ref (ad (4 * i + 12))), (2, .ref (ad (4 * i + 11))), (0, .ref (ad 0)), (1, .int (nI i))]) hx hb dX_hammer_20 hl (by decide) rfl (fun ls hl => ?_)
  refine lv_aload_n hx hb dX_hammer_22 rfl (lv_at hl 1 rfl) ?_
  refine lv_iload hx hb dX_hammer_23 (lv_at hl 0 rfl) ?_
  refine rcV2 (rest := []) (As := [.int (fO_placeOfBest sL sA i)]) hx hb hml hown hts hC hG hS (cO_amountAt l D tI tJ tL A sg ad n sL sA i hi (fO_placeOfBest sL sA i)) (recO hi hC hG) (gV q_324 q_321 q_322 q_10 q_323) rfl rfl ⟨rfl, hdyO_amountAt⟩ ⟨Nat.le_of_ble_eq_true rfl, Nat.le_of_ble_eq_true rfl⟩ hl.1 rfl (Nat.le_of_ble_eq_true rfl) dX_hammer_25 ⟨Nat.le_of_ble_eq_true rfl, Nat.le_of_ble_eq_true rfl⟩ ?_
  refine lv_istore (lv' := [(5, .int (fO_amountAt sL sA i (fO_placeOfBest sL sA i))), (4, .int (fO_placeOfBest sL sA i)), (3, .ref (ad (4 * i + 12))), (2, .ref (ad (4 * i + 11))), (0, .ref (ad 0)), (1, .int (nI i))]) hx hb dX_hammer_28 hl (by decide) rfl (fun ls hl => ?_)
  refine lv_iload hx hb dX_hammer_30 (lv_at hl 0 rfl) ?_
  refine lv_aload_n hx hb dX_hammer_32 rfl (lv_at hl 3 rfl) ?_
  refine rl_getN (v := .int (sA (4 * i + 11) 3)) hx hb hts hown hC hG 3 hi (by decide) z_242 (rfl) dX_hammer_33 ?_
  refine lv_icmp_ge (tgt := 46) hx hb dX_hammer_36 (by decide) (fun c_3 => ?_) (fun c_3 => ?_)
  · refine lv_aload_n hx hb dX_hammer_46 rfl (lv_at hl 3 rfl) ?_
    refine lv_iconst (v := 2) hx hb dX_hammer_47 (by decide) ?_
    refine rl_putN hx hb hts hown hC hG hS 4 hi (by decide) (by decide) z_244 dX_hammer_48 (fun H locs hG hS => ?_)
    refine lv_aload_n hx hb dX_hammer_51 rfl (lv_at hl 3 rfl) ?_
    refine lv_aload_n hx hb dX_hammer_52 rfl (lv_at hl 2 rfl) ?_
    refine lv_iload hx hb dX_hammer_53 (lv_at hl 1 rfl) ?_
    refine rcV2 (rest := [.ref (ad (4 * i + 11))]) (As := [.int (fO_placeOfBest sL sA i)]) hx hb hml hown hts hC hG hS (cO_buyerAt l D tI tJ tL A sg ad n sL (up2 sA (4 * i + 11) 4 2) i hi (fO_placeOfBest sL sA i)) (recO hi hC hG) (gV q_325 q_306 q_307 q_10 q_308) rfl rfl ⟨rfl, hdyO_buyerAt⟩ ⟨Nat.le_of_ble_eq_true rfl, Nat.le_of_ble_eq_true rfl⟩ hl.1 rfl (Nat.le_of_ble_eq_true rfl) dX_hammer_55 ⟨Nat.le_of_ble_eq_true rfl, Nat.le_of_ble_eq_true rfl⟩ ?_
    refine rl_putN hx hb hts hown hC hG hS 5 hi (by decide) (by decide) z_246 dX_hammer_58 (fun H locs hG hS => ?_)
    refine lv_aload_n hx hb dX_hammer_61 rfl (lv_at hl 3 rfl) ?_
    refine lv_aload_n hx hb dX_hammer_62 rfl (lv_at hl 3 rfl) ?_
    refine rl_getN (v := .int (sA (4 * i + 11) 3)) hx hb hts hown hC hG 3 hi (by decide) z_242 (by simp [lfs, up2, upd]) dX_hammer_63 ?_
    refine lv_iload hx hb dX_hammer_66 (lv_at hl 0 rfl) ?_
    refine lv_aload_n hx hb dX_hammer_68 rfl (lv_at hl 2 rfl) ?_
    refine lv_iload hx hb dX_hammer_69 (lv_at hl 1 rfl) ?_
    refine rcV2 (rest := [.int (fO_amountAt sL sA i (fO_placeOfBest sL sA i)), .int (sA (4 * i + 11) 3), .ref (ad (4 * i + 11))]) (As := [.int (fO_placeOfBest sL sA i)]) hx hb hml hown hts hC hG hS (cO_highestBeside l D tI tJ tL A sg ad n sL (up2 (up2 sA (4 * i + 11) 4 2) (4 * i + 11) 5 (fO_buyerAt sL (up2 sA (4 * i + 11) 4 2) i (fO_placeOfBest sL sA i))) i hi (fO_placeOfBest sL sA i) cn hc (by rw [up2_ne (by omega), up2_ne (by omega)]; exact hcn)) (recO hi hC hG) (gV q_326 q_327 q_328 q_10 q_329) rfl rfl ⟨rfl, hdyO_highestBeside⟩ ⟨Nat.le_of_ble_eq_true rfl, Nat.le_of_ble_eq_true rfl⟩ hl.1 rfl (Nat.le_of_ble_eq_true rfl) dX_hammer_71 ⟨Nat.le_of_ble_eq_true rfl, Nat.le_of_ble_eq_true rfl⟩ ?_
    refine rcS1 (rest := [.ref (ad (4 * i + 11))]) (As := [.int (sA (4 * i + 11) 3), .int (fO_amountAt sL sA i (fO_placeOfBest sL sA i)), .int (fO_highestBeside sL (up2 (up2 sA (4 * i + 11) 4 2) (4 * i + 11) 5 (fO_buyerAt sL (up2 sA (4 * i + 11) 4 2) i (fO_placeOfBest sL sA i))) i (fO_placeOfBest sL sA i))]) hx hb hml hown hts (cX_priceFor l (sA (4 * i + 11) 3) (fO_amountAt sL sA i (fO_placeOfBest sL sA i)) (fO_highestBeside sL (up2 (up2 sA (4 * i + 11) 4 2) (4 * i + 11) 5 (fO_buyerAt sL (up2 sA (4 * i + 11) 4 2) i (fO_placeOfBest sL sA i))) i (fO_placeOfBest sL sA i))) (gS q_330 q_331 q_1 q_332) rfl rfl ⟨rfl, hdyX_priceFor⟩ ⟨Nat.le_of_ble_eq_true rfl, Nat.le_of_ble_eq_true rfl⟩ hl.1 rfl (Nat.le_of_ble_eq_true rfl) dX_hammer_74 ⟨Nat.le_of_ble_eq_true rfl, Nat.le_of_ble_eq_true rfl⟩ ?_
    refine rl_putN hx hb hts hown hC hG hS 6 hi (by decide) (by decide) z_248 dX_hammer_77 (fun H locs hG hS => ?_)
    refine lv_aload_n hx hb dX_hammer_80 rfl (lv_at hl 3 rfl) ?_
    refine lv_sipush (v := 2000) hx hb dX_hammer_81 (by decide) ?_
    refine lv_aload_n hx hb dX_hammer_84 rfl (lv_at hl 4 rfl) ?_
    refine rx_get (v := .int (sA 0 4)) hx hb hts hown hC hG 4 (by decide) q_25 (by simp [xfs, up2, upd, up2L, vp_updL]) dX_hammer_85 ?_
    refine lv_sipush (v := 365) hx hb dX_hammer_88 (by decide) ?_
    refine lv_idiv hx hb dX_hammer_91 (by decide) ?_
    refine lv_iadd hx hb dX_hammer_92 ?_
    refine rl_putN hx hb hts hown hC hG hS 7 hi (by decide) (by decide) z_249 dX_hammer_93 (fun H locs hG hS => ?_)
    refine lv_aload_n hx hb dX_hammer_96 rfl (lv_at hl 3 rfl) ?_
    refine rl_getN (v := .int (fX_priceFor (sA (4 * i + 11) 3) (fO_amountAt sL sA i (fO_placeOfBest sL sA i)) (fO_highestBeside sL (up2 (up2 sA (4 * i + 11) 4 2) (4 * i + 11) 5 (fO_buyerAt sL (up2 sA (4 * i + 11) 4 2) i (fO_placeOfBest sL sA i))) i (fO_placeOfBest sL sA i)))) hx hb hts hown hC hG 6 hi (by decide) z_248 (by simp [lfs, up2, upd]) dX_hammer_97 ?_
    refine vx_ret ?_
    refine W.widen (k := 2) (n := 12) (Nat.le_of_ble_eq_true rfl) (Nat.le_of_ble_eq_true rfl) ?_
    exact W.iret (v := fX_priceFor (sA (4 * i + 11) 3) (fO_amountAt sL sA i (fO_placeOfBest sL sA i)) (fO_highestBeside sL (up2 (up2 sA (4 * i + 11) 4 2) (4 * i + 11) 5 (fO_buyerAt sL (up2 sA (4 * i + 11) 4 2) i (fO_placeOfBest sL sA i))) i (fO_placeOfBest sL sA i))) hx hb hr (fun t ht hW => ⟨⟨(fX_priceFor (sA (4 * i + 11) 3) (fO_amountAt sL sA i (fO_placeOfBest sL sA i)) (fO_highestBeside sL (up2 (up2 sA (4 * i + 11) 4 2) (4 * i + 11) 5 (fO_buyerAt sL (up2 sA (4 * i + 11) 4 2) i (fO_placeOfBest sL sA i))) i (fO_placeOfBest sL sA i))), (sL, (up2 (up2 (up2 (up2 sA (4 * i + 11) 4 2) (4 * i + 11) 5 (fO_buyerAt sL (up2 sA (4 * i + 11) 4 2) i (fO_placeOfBest sL sA i))) (4 * i + 11) 6 (fX_priceFor (sA (4 * i + 11) 3) (fO_amountAt sL sA i (fO_placeOfBest sL sA i)) (fO_highestBeside sL (up2 (up2 sA (4 * i + 11) 4 2) (4 * i + 11) 5 (fO_buyerAt sL (up2 sA (4 * i + 11) 4 2) i (fO_placeOfBest sL sA i))) i (fO_placeOfBest sL sA i)))) (4 * i + 11) 7 (2000 + ((sA 0 4) / 365)))), rfl, (by rw [fX_hammer, bndq_s h_1, bnd_0 h_2, if_pos c_3] <;> rfl), gw_at hG ht⟩, hS.F ht⟩) hS.2.2 dX_hammer_100
  · refine lv_aload_n hx hb dX_hammer_39 rfl (lv_at hl 3 rfl) ?_
    refine lv_iconst (v := 1) hx hb dX_hammer_40 (by decide) ?_
    refine rl_putN hx hb hts hown hC hG hS 4 hi (by decide) (by decide) z_244 dX_hammer_41 (fun H locs hG hS => ?_)
    refine lv_iconst (v := (-1)) hx hb dX_hammer_44 (by decide) ?_
    refine vx_ret ?_
    refine W.widen (k := 2) (n := 12) (Nat.le_of_ble_eq_true rfl) (Nat.le_of_ble_eq_true rfl) ?_
    exact W.iret (v := (-1)) hx hb hr (fun t ht hW => ⟨⟨(-1), (sL, (up2 sA (4 * i + 11) 4 1)), rfl, (by rw [fX_hammer, bndq_s h_1, bnd_0 h_2, if_neg c_3] <;> rfl), gw_at hG ht⟩, hS.F ht⟩) hS.2.2 dX_hammer_45
def fX_again (n : Nat) (sL : NL) (sA : NA) (p0 : Int32) (p1 : Int32) : Nat × Int32 × NL × NA := bndq (fX_findLot n p0) (fun i => bnd (fX_checkRange p1 0 1000000) (bnd (fX_checkState sL sA i 1) ((0, sA (4 * i + 12) 2, (fL_open sL sA i (fX_calledAmount p1)).1, (fL_open sL sA i (fX_calledAmount p1)).2)) (0, sL, sA)) (0, sL, sA)) (0, sL, sA)
theorem hdyX_again : yX_again.cls ≠ "java/lang/invoke/MethodHandle" ∧ yX_again.cls ≠ "java/lang/invoke/VarHandle" ∧ (parseMethodDescriptor yX_again.desc).map (fun d => d.parameters.length) = some 2 := by decide +kernel
theorem dX_again_0 : decode bX_again 0 = .ok (.aload_n 0, 1) := by decide +kernel
theorem dX_again_1 : decode bX_again 1 = .ok (.iload_n 1, 1) := by decide +kernel
theorem dX_again_2 : decode bX_again 2 = .ok (.invokevirtual 54, 3) := by decide +kernel
theorem dX_again_5 : decode bX_again 5 = .ok (.astore_n 3, 1) := by decide +kernel
theorem dX_again_6 : decode bX_again 6 = .ok (.iload_n 2, 1) := by decide +kernel
theorem dX_again_7 : decode bX_again 7 = .ok (.iconst 0, 1) := by decide +kernel
theorem dX_again_8 : decode bX_again 8 = .ok (.ldc 30, 2) := by decide +kernel
theorem dX_again_10 : decode bX_again 10 = .ok (.invokestatic 31, 3) := by decide +kernel
theorem dX_again_13 : decode bX_again 13 = .ok (.aload_n 3, 1) := by decide +kernel
theorem dX_again_14 : decode bX_again 14 = .ok (.iconst 1, 1) := by decide +kernel
theorem dX_again_15 : decode bX_again 15 = .ok (.invokestatic 61, 3) := by decide +kernel
theorem dX_again_18 : decode bX_again 18 = .ok (.aload_n 3, 1) := by decide +kernel
theorem dX_again_19 : decode bX_again 19 = .ok (.getfield 65, 3) := by decide +kernel
theorem dX_again_22 : decode bX_again 22 = .ok (.getfield 110, 3) := by decide +kernel
theorem dX_again_25 : decode bX_again 25 = .ok (.istore 4, 2) := by decide +kernel
theorem dX_again_27 : decode bX_again 27 = .ok (.aload_n 3, 1) := by decide +kernel
theorem dX_again_28 : decode bX_again 28 = .ok (.iload_n 2, 1) := by decide +kernel
theorem dX_again_29 : decode bX_again 29 = .ok (.invokestatic 48, 3) := by decide +kernel
theorem dX_again_32 : decode bX_again 32 = .ok (.invokevirtual 113, 3) := by decide +kernel
theorem dX_again_35 : decode bX_again 35 = .ok (.iload 4, 2) := by decide +kernel
theorem dX_again_37 : decode bX_again 37 = .ok (.ireturn, 1) := by decide +kernel
set_option maxHeartbeats 4000000 in
set_option maxRecDepth 100000 in
theorem cX_again (l : Launch) (hl9 : l.stackTraces = false) (D : va_G) (tI tJ tL : ClassId) (A : Nat → Prop) (sg ad : Nat → Nat) (n : Nat) (sL : NL) (sA : NA) (p0 : Int32) (p1 : Int32) : vx_Met l yX_again (Cond.code yX_again bX_again 5 (some FieldType.int) :: wNeed) { frames := 7, cells := 3, slots := 18, locals := 112 } (va_Pc [.ref (ad 0), .int p0, .int p1] (GP D tI tJ tL A sg ad n sL sA)) (va_Qi (fun r (u : NL × NA) => fX_again n sL sA p0 p1 = (0, r, u.1, u.2)) (fun u t => GW D tI tJ tL A ad n u.1 u.2 t.heap) A) (XQ D tI tJ tL A ad n sL sA (fX_again n sL sA p0 p1).1) 3 18 A := by
  refine en_XG (av := [.ref (ad 0), .int p0, .int p1]) (by decide) (Nat.le_of_ble_eq_true rfl) ?_
  intro p e s m below meth c hx hb hml hown hts hr hlocks hT hC H locs hG hS ls hl
  replace hl : lv_has ls 5 [(0, .ref (ad 0)), (1, .int p0), (2, .int p1)] := hl
  refine lv_aload_n hx hb dX_again_0 rfl (lv_at hl 0 rfl) ?_
  refine lv_iload_n hx hb dX_again_1 rfl (lv_at hl 1 rfl) ?_
  refine rcV5q (rest := []) (As := [.int p0]) (p0 := p0) (Mc := 3) (Ms := 18) hx hb hml hown hts hC hG hS hlocks hT (cX_findLot l hl9 D tI tJ tL A sg ad n sL sA p0) (recX hC hG) (gV q_288 q_290 q_p1 q_1 q_291) rfl rfl ⟨rfl, hdyX_findLot⟩ ⟨Nat.le_of_ble_eq_true rfl, Nat.le_of_ble_eq_true rfl⟩ hl.1 rfl (Nat.le_of_ble_eq_true rfl) dX_again_2 ⟨Nat.le_of_ble_eq_true rfl, Nat.le_of_ble_eq_true rfl⟩ ⟨Nat.le_of_ble_eq_true rfl, Nat.le_of_ble_eq_true rfl⟩ (fun h => by rw [fX_again, bndq_n h] <;> rfl) (fun i h_1 hi hp H locs hG hS => ?_)
  subst hp
  refine lv_astore_n (lv' := [(3, .ref (ad (4 * i + 11))), (0, .ref (ad 0)), (1, .int (nI i)), (2, .int p1)]) hx hb dX_again_5 rfl hl (by decide) rfl (fun ls hl => ?_)
  refine lv_iload_n hx hb dX_again_6 rfl (lv_at hl 3 rfl) ?_
  refine lv_iconst (v := 0) hx hb dX_again_7 (by decide) ?_
  refine lv_ldc (v := 1000000) hx hb hown (hts _ q_186) dX_again_8 ?_
  refine rcS4 (rest := []) (As := [.int p1, .int 0, .int 1000000]) (Mc := 3) (Ms := 18) hx hb hml hown hts hC hG hS hlocks hT (cX_checkRange l hl9 D tI tJ tL A sg ad n sL sA p1 0 1000000) (gS q_125 q_126 q_1 q_127) rfl rfl ⟨rfl, hdyX_checkRange⟩ ⟨Nat.le_of_ble_eq_true rfl, Nat.le_of_ble_eq_true rfl⟩ hl.1 rfl (Nat.le_of_ble_eq_true rfl) dX_again_10 ⟨Nat.le_of_ble_eq_true rfl, Nat.le_of_ble_eq_true rfl⟩ ⟨Nat.le_of_ble_eq_true rfl, Nat.le_of_ble_eq_true rfl⟩ (fun h => by rw [fX_again, bndq_s h_1, bnd_n h] <;> rfl) (fun h_2 H locs hG hS => ?_)
  refine lv_aload_n hx hb dX_again_13 rfl (lv_at hl 0 rfl) ?_
  refine lv_iconst (v := 1) hx hb dX_again_14 (by decide) ?_
  refine rcS4 (rest := []) (As := [.ref (ad (4 * i + 11)), .int 1]) (Mc := 3) (Ms := 18) hx hb hml hown hts hC hG hS hlocks hT (cX_checkState l hl9 D tI tJ tL A sg ad n sL sA i hi 1) (gS q_297 q_298 q_1 q_299) rfl rfl ⟨rfl, hdyX_checkState⟩ ⟨Nat.le_of_ble_eq_true rfl, Nat.le_of_ble_eq_true rfl⟩ hl.1 rfl (Nat.le_of_ble_eq_true rfl) dX_again_15 ⟨Nat.le_of_ble_eq_true rfl, Nat.le_of_ble_eq_true rfl⟩ ⟨Nat.le_of_ble_eq_true rfl, Nat.le_of_ble_eq_true rfl⟩ (fun h => by rw [fX_again, bndq_s h_1, bnd_0 h_2, bnd_n h] <;> rfl) (fun h_3 H locs hG hS => ?_)
  refine lv_aload_n hx hb dX_again_18 rfl (lv_at hl 0 rfl) ?_
  refine rl_getN (v := .ref (ad (4 * i + 12))) hx hb hts hown hC hG 2 hi (by decide) z_240 (rfl) dX_again_19 ?_
  refine ro_getN (v := .int (sA (4 * i + 12) 2)) hx hb hts hown hC hG 2 hi (by decide) z_227 (rfl) dX_again_22 ?_
  refine lv_istore (lv' := [(4, .int (sA (4 * i + 12) 2)), (3, .ref (ad (4 * i + 11))), (0, .ref (ad 0)), (1, .int (nI i)), (2, .int p1)]) hx hb dX_again_25 hl (by decide) rfl (fun ls hl => ?_)
  refine lv_aload_n hx hb dX_again_27 rfl (lv_at hl 1 rfl) ?_
  refine lv_iload_n hx hb dX_again_28 rfl (lv_at hl 4 rfl) ?_
  refine rcS1 (rest := [.ref (ad (4 * i + 11))]) (As := [.int p1]) hx hb hml hown hts (cX_calledAmount l p1) (gS q_207 q_208 q_1 q_209) rfl rfl ⟨rfl, hdyX_calledAmount⟩ ⟨Nat.le_of_ble_eq_true rfl, Nat.le_of_ble_eq_true rfl⟩ hl.1 rfl (Nat.le_of_ble_eq_true rfl) dX_again_29 ⟨Nat.le_of_ble_eq_true rfl, Nat.le_of_ble_eq_true rfl⟩ ?_
  refine rcV3v (rest := []) (As := [.int (fX_calledAmount p1)]) hx hb hml hown hts hC hG hS (cL_open l D tI tJ tL A sg ad n sL sA i hi (fX_calledAmount p1)) (recL hi hC hG) (gV q_341 q_342 q_343 q_9 q_344) rfl rfl ⟨rfl, hdyL_open⟩ ⟨Nat.le_of_ble_eq_true rfl, Nat.le_of_ble_eq_true rfl⟩ hl.1 rfl (Nat.le_of_ble_eq_true rfl) dX_again_32 ⟨Nat.le_of_ble_eq_true rfl, Nat.le_of_ble_eq_true rfl⟩ (fun H locs hG hS => ?_)
  refine lv_iload hx hb dX_again_35 (lv_at hl 0 rfl) ?_
  refine vx_ret ?_
  refine W.widen (k := 3) (n := 18) (Nat.le_of_ble_eq_true rfl) (Nat.le_of_ble_eq_true rfl) ?_
  exact W.iret (v := sA (4 * i + 12) 2) hx hb hr (fun t ht hW => ⟨⟨(sA (4 * i + 12) 2), ((fL_open sL sA i (fX_calledAmount p1)).1, (fL_open sL sA i (fX_calledAmount p1)).2), rfl, (by rw [fX_again, bndq_s h_1, bnd_0 h_2, bnd_0 h_3] <;> rfl), gw_at hG ht⟩, hS.F ht⟩) hS.2.2 dX_again_37
def fX_callOf (sL : NL) (sA : NA) (p0 : Int32) : Nat × Int32 × NL × NA := bnd (fX_checkRange p0 0 1000000) ((0, fX_calledAmount p0, sL, sA)) (0, sL, sA)
theorem hdyX_callOf : yX_callOf.cls ≠ "java/lang/invoke/MethodHandle" ∧ yX_callOf.cls ≠ "java/lang/invoke/VarHandle" ∧ (parseMethodDescriptor yX_callOf.desc).map (fun d => d.parameters.length) = some 1 := by decide +kernel
theorem dX_callOf_0 : decode bX_callOf 0 = .ok (.iload_n 1, 1) := by decide +kernel
theorem dX_callOf_1 : decode bX_callOf 1 = .ok (.iconst 0, 1) := by decide +kernel
theorem dX_callOf_2 : decode bX_callOf 2 = .ok (.ldc 30, 2) := by decide +kernel
theorem dX_callOf_4 : decode bX_callOf 4 = .ok (.invokestatic 31, 3) := by decide +kernel
theorem dX_callOf_7 : decode bX_callOf 7 = .ok (.iload_n 1, 1) := by decide +kernel
theorem dX_callOf_8 : decode bX_callOf 8 = .ok (.invokestatic 48, 3) := by decide +kernel
theorem dX_callOf_11 : decode bX_callOf 11 = .ok (.ireturn, 1) := by decide +kernel
set_option maxHeartbeats 4000000 in
set_option maxRecDepth 100000 in
theorem cX_callOf (l : Launch) (hl9 : l.stackTraces = false) (D : va_G) (tI tJ tL : ClassId) (A : Nat → Prop) (sg ad : Nat → Nat) (n : Nat) (sL : NL) (sA : NA) (p0 : Int32) : vx_Met l yX_callOf (Cond.code yX_callOf bX_callOf 2 (some FieldType.int) :: wNeed) { frames := 7, cells := 1, slots := 6, locals := 112 } (va_Pc [.ref (ad 0), .int p0] (GP D tI tJ tL A sg ad n sL sA)) (va_Qi (fun r (u : NL × NA) => fX_callOf sL sA p0 = (0, r, u.1, u.2)) (fun u t => GW D tI tJ tL A ad n u.1 u.2 t.heap) A) (XQ D tI tJ tL A ad n sL sA (fX_callOf sL sA p0).1) 1 6 A := by
  refine en_XG (av := [.ref (ad 0), .int p0]) (by decide) (Nat.le_of_ble_eq_true rfl) ?_
  intro p e s m below meth c hx hb hml hown hts hr hlocks hT hC H locs hG hS ls hl
  replace hl : lv_has ls 2 [(0, .ref (ad 0)), (1, .int p0)] := hl
  refine lv_iload_n hx hb dX_callOf_0 rfl (lv_at hl 1 rfl) ?_
  refine lv_iconst (v := 0) hx hb dX_callOf_1 (by decide) ?_
  refine lv_ldc (v := 1000000) hx hb hown (hts _ q_186) dX_callOf_2 ?_
  refine rcS4 (rest := []) (As := [.int p0, .int 0, .int 1000000]) (Mc := 1) (Ms := 6) hx hb hml hown hts hC hG hS hlocks hT (cX_checkRange l hl9 D tI tJ tL A sg ad n sL sA p0 0 1000000) (gS q_125 q_126 q_1 q_127) rfl rfl ⟨rfl, hdyX_checkRange⟩ ⟨Nat.le_of_ble_eq_true rfl, Nat.le_of_ble_eq_true rfl⟩ hl.1 rfl (Nat.le_of_ble_eq_true rfl) dX_callOf_4 ⟨Nat.le_of_ble_eq_true rfl, Nat.le_of_ble_eq_true rfl⟩ ⟨Nat.le_of_ble_eq_true rfl, Nat.le_of_ble_eq_true rfl⟩ (fun h => by rw [fX_callOf, bnd_n h] <;> rfl) (fun h_1 H locs hG hS => ?_)
  refine lv_iload_n hx hb dX_callOf_7 rfl (lv_at hl 1 rfl) ?_
  refine rcS1 (rest := []) (As := [.int p0]) hx hb hml hown hts (cX_calledAmount l p0) (gS q_207 q_208 q_1 q_209) rfl rfl ⟨rfl, hdyX_calledAmount⟩ ⟨Nat.le_of_ble_eq_true rfl, Nat.le_of_ble_eq_true rfl⟩ hl.1 rfl (Nat.le_of_ble_eq_true rfl) dX_callOf_8 ⟨Nat.le_of_ble_eq_true rfl, Nat.le_of_ble_eq_true rfl⟩ ?_
  refine vx_ret ?_
  refine W.widen (k := 1) (n := 6) (Nat.le_of_ble_eq_true rfl) (Nat.le_of_ble_eq_true rfl) ?_
  exact W.iret (v := fX_calledAmount p0) hx hb hr (fun t ht hW => ⟨⟨(fX_calledAmount p0), (sL, sA), rfl, (by rw [fX_callOf, bnd_0 h_1] <;> rfl), gw_at hG ht⟩, hS.F ht⟩) hS.2.2 dX_callOf_11
def fX_pay (n : Nat) (sL : NL) (sA : NA) (p0 : Int32) : Nat × Int32 × NL × NA := bndq (fX_findLot n p0) (fun i => bnd (fX_checkState sL sA i 2) ((0, ((fX_closeGap (up2L (up2L sL 0 6 ((sL 0 6) + (((sA (4 * i + 11) 6) + (fX_feeFor (sA (4 * i + 11) 6)) : Int32).toInt64))) 0 8 ((sL 0 8) + ((fX_feeFor (sA (4 * i + 11) 6) : Int32).toInt64))) (up2 sA (4 * i + 11) 4 3) i).2 (4 * i + 11) 6) + (fX_feeFor (sA (4 * i + 11) 6)), (fX_closeGap (up2L (up2L sL 0 6 ((sL 0 6) + (((sA (4 * i + 11) 6) + (fX_feeFor (sA (4 * i + 11) 6)) : Int32).toInt64))) 0 8 ((sL 0 8) + ((fX_feeFor (sA (4 * i + 11) 6) : Int32).toInt64))) (up2 sA (4 * i + 11) 4 3) i).1, (fX_closeGap (up2L (up2L sL 0 6 ((sL 0 6) + (((sA (4 * i + 11) 6) + (fX_feeFor (sA (4 * i + 11) 6)) : Int32).toInt64))) 0 8 ((sL 0 8) + ((fX_feeFor (sA (4 * i + 11) 6) : Int32).toInt64))) (up2 sA (4 * i + 11) 4 3) i).2)) (0, sL, sA)) (0, sL, sA)
theorem hdyX_pay : yX_pay.cls ≠ "java/lang/invoke/MethodHandle" ∧ yX_pay.cls ≠ "java/lang/invoke/VarHandle" ∧ (parseMethodDescriptor yX_pay.desc).map (fun d => d.parameters.length) = some 1 := by decide +kernel
theorem dX_pay_0 : decode bX_pay 0 = .ok (.aload_n 0, 1) := by decide +kernel
theorem dX_pay_1 : decode bX_pay 1 = .ok (.iload_n 1, 1) := by decide +kernel
theorem dX_pay_2 : decode bX_pay 2 = .ok (.invokevirtual 54, 3) := by decide +kernel
theorem dX_pay_5 : decode bX_pay 5 = .ok (.astore_n 2, 1) := by decide +kernel
theorem dX_pay_6 : decode bX_pay 6 = .ok (.aload_n 2, 1) := by decide +kernel
theorem dX_pay_7 : decode bX_pay 7 = .ok (.iconst 2, 1) := by decide +kernel
theorem dX_pay_8 : decode bX_pay 8 = .ok (.invokestatic 61, 3) := by decide +kernel
theorem dX_pay_11 : decode bX_pay 11 = .ok (.aload_n 2, 1) := by decide +kernel
theorem dX_pay_12 : decode bX_pay 12 = .ok (.getfield 101, 3) := by decide +kernel
theorem dX_pay_15 : decode bX_pay 15 = .ok (.invokestatic 116, 3) := by decide +kernel
theorem dX_pay_18 : decode bX_pay 18 = .ok (.istore_n 3, 1) := by decide +kernel
theorem dX_pay_19 : decode bX_pay 19 = .ok (.aload_n 0, 1) := by decide +kernel
theorem dX_pay_20 : decode bX_pay 20 = .ok (.dup, 1) := by decide +kernel
theorem dX_pay_21 : decode bX_pay 21 = .ok (.getfield 119, 3) := by decide +kernel
theorem dX_pay_24 : decode bX_pay 24 = .ok (.aload_n 2, 1) := by decide +kernel
theorem dX_pay_25 : decode bX_pay 25 = .ok (.getfield 101, 3) := by decide +kernel
theorem dX_pay_28 : decode bX_pay 28 = .ok (.iload_n 3, 1) := by decide +kernel
theorem dX_pay_29 : decode bX_pay 29 = .ok (.iadd, 1) := by decide +kernel
theorem dX_pay_30 : decode bX_pay 30 = .ok (.i2l, 1) := by decide +kernel
theorem dX_pay_31 : decode bX_pay 31 = .ok (.ladd, 1) := by decide +kernel
theorem dX_pay_32 : decode bX_pay 32 = .ok (.putfield 119, 3) := by decide +kernel
theorem dX_pay_35 : decode bX_pay 35 = .ok (.aload_n 0, 1) := by decide +kernel
theorem dX_pay_36 : decode bX_pay 36 = .ok (.dup, 1) := by decide +kernel
theorem dX_pay_37 : decode bX_pay 37 = .ok (.getfield 123, 3) := by decide +kernel
theorem dX_pay_40 : decode bX_pay 40 = .ok (.iload_n 3, 1) := by decide +kernel
theorem dX_pay_41 : decode bX_pay 41 = .ok (.i2l, 1) := by decide +kernel
theorem dX_pay_42 : decode bX_pay 42 = .ok (.ladd, 1) := by decide +kernel
theorem dX_pay_43 : decode bX_pay 43 = .ok (.putfield 123, 3) := by decide +kernel
theorem dX_pay_46 : decode bX_pay 46 = .ok (.aload_n 2, 1) := by decide +kernel
theorem dX_pay_47 : decode bX_pay 47 = .ok (.iconst 3, 1) := by decide +kernel
theorem dX_pay_48 : decode bX_pay 48 = .ok (.putfield 85, 3) := by decide +kernel
theorem dX_pay_51 : decode bX_pay 51 = .ok (.aload_n 0, 1) := by decide +kernel
theorem dX_pay_52 : decode bX_pay 52 = .ok (.aload_n 2, 1) := by decide +kernel
theorem dX_pay_53 : decode bX_pay 53 = .ok (.invokevirtual 126, 3) := by decide +kernel
theorem dX_pay_56 : decode bX_pay 56 = .ok (.aload_n 2, 1) := by decide +kernel
theorem dX_pay_57 : decode bX_pay 57 = .ok (.getfield 101, 3) := by decide +kernel
theorem dX_pay_60 : decode bX_pay 60 = .ok (.iload_n 3, 1) := by decide +kernel
theorem dX_pay_61 : decode bX_pay 61 = .ok (.iadd, 1) := by decide +kernel
theorem dX_pay_62 : decode bX_pay 62 = .ok (.ireturn, 1) := by decide +kernel
set_option maxHeartbeats 4000000 in
set_option maxRecDepth 100000 in
theorem cX_pay (l : Launch) (hl9 : l.stackTraces = false) (D : va_G) (tI tJ tL : ClassId) (A : Nat → Prop) (sg ad : Nat → Nat) (n : Nat) (sL : NL) (sA : NA) (p0 : Int32) (hgap : ∀ i, i < n → sA (4 * i + 11) 8 = (-1) ∨ fX_checkBuyer (sA (4 * i + 11) 8) = 0) : vx_Met l yX_pay (Cond.code yX_pay bX_pay 4 (some FieldType.int) :: wNeed) { frames := 9, cells := 3, slots := 18, locals := 153 } (va_Pc [.ref (ad 0), .int p0] (GP D tI tJ tL A sg ad n sL sA)) (va_Qi (fun r (u : NL × NA) => fX_pay n sL sA p0 = (0, r, u.1, u.2)) (fun u t => GW D tI tJ tL A ad n u.1 u.2 t.heap) A) (XQ D tI tJ tL A ad n sL sA (fX_pay n sL sA p0).1) 3 18 A := by
  refine en_XG (av := [.ref (ad 0), .int p0]) (by decide) (Nat.le_of_ble_eq_true rfl) ?_
  intro p e s m below meth c hx hb hml hown hts hr hlocks hT hC H locs hG hS ls hl
  replace hl : lv_has ls 4 [(0, .ref (ad 0)), (1, .int p0)] := hl
  refine lv_aload_n hx hb dX_pay_0 rfl (lv_at hl 0 rfl) ?_
  refine lv_iload_n hx hb dX_pay_1 rfl (lv_at hl 1 rfl) ?_
  refine rcV5q (rest := []) (As := [.int p0]) (p0 := p0) (Mc := 3) (Ms := 18) hx hb hml hown hts hC hG hS hlocks hT (cX_findLot l hl9 D tI tJ tL A sg ad n sL sA p0) (recX hC hG) (gV q_288 q_290 q_p1 q_1 q_291) rfl rfl ⟨rfl, hdyX_findLot⟩ ⟨Nat.le_of_ble_eq_true rfl, Nat.le_of_ble_eq_true rfl⟩ hl.1 rfl (Nat.le_of_ble_eq_true rfl) dX_pay_2 ⟨Nat.le_of_ble_eq_true rfl, Nat.le_of_ble_eq_true rfl⟩ ⟨Nat.le_of_ble_eq_true rfl, Nat.le_of_ble_eq_true rfl⟩ (fun h => by rw [fX_pay, bndq_n h] <;> rfl) (fun i h_1 hi hp H locs hG hS => ?_)
  subst hp
  refine lv_astore_n (lv' := [(2, .ref (ad (4 * i + 11))), (0, .ref (ad 0)), (1, .int (nI i))]) hx hb dX_pay_5 rfl hl (by decide) rfl (fun ls hl => ?_)
  refine lv_aload_n hx hb dX_pay_6 rfl (lv_at hl 0 rfl) ?_
  refine lv_iconst (v := 2) hx hb dX_pay_7 (by decide) ?_
  refine rcS4 (rest := []) (As := [.ref (ad (4 * i + 11)), .int 2]) (Mc := 3) (Ms := 18) hx hb hml hown hts hC hG hS hlocks hT (cX_checkState l hl9 D tI tJ tL A sg ad n sL sA i hi 2) (gS q_297 q_298 q_1 q_299) rfl rfl ⟨rfl, hdyX_checkState⟩ ⟨Nat.le_of_ble_eq_true rfl, Nat.le_of_ble_eq_true rfl⟩ hl.1 rfl (Nat.le_of_ble_eq_true rfl) dX_pay_8 ⟨Nat.le_of_ble_eq_true rfl, Nat.le_of_ble_eq_true rfl⟩ ⟨Nat.le_of_ble_eq_true rfl, Nat.le_of_ble_eq_true rfl⟩ (fun h => by rw [fX_pay, bndq_s h_1, bnd_n h] <;> rfl) (fun h_2 H locs hG hS => ?_)
  refine lv_aload_n hx hb dX_pay_11 rfl (lv_at hl 0 rfl) ?_
  refine rl_getN (v := .int (sA (4 * i + 11) 6)) hx hb hts hown hC hG 6 hi (by decide) z_248 (rfl) dX_pay_12 ?_
  refine rcS1 (rest := []) (As := [.int (sA (4 * i + 11) 6)]) hx hb hml hown hts (cX_feeFor l (sA (4 * i + 11) 6)) (gS q_349 q_350 q_1 q_351) rfl rfl ⟨rfl, hdyX_feeFor⟩ ⟨Nat.le_of_ble_eq_true rfl, Nat.le_of_ble_eq_true rfl⟩ hl.1 rfl (Nat.le_of_ble_eq_true rfl) dX_pay_15 ⟨Nat.le_of_ble_eq_true rfl, Nat.le_of_ble_eq_true rfl⟩ ?_
  refine lv_istore_n (lv' := [(3, .int (fX_feeFor (sA (4 * i + 11) 6))), (2, .ref (ad (4 * i + 11))), (0, .ref (ad 0)), (1, .int (nI i))]) hx hb dX_pay_18 rfl hl (by decide) rfl (fun ls hl => ?_)
  refine lv_aload_n hx hb dX_pay_19 rfl (lv_at hl 2 rfl) ?_
  refine lv_dup hx hb dX_pay_20 rfl ?_
  refine rx_get (v := .long (sL 0 6)) hx hb hts hown hC hG 6 (by decide) q_27 (rfl) dX_pay_21 ?_
  refine lv_aload_n hx hb dX_pay_24 rfl (lv_at hl 1 rfl) ?_
  refine rl_getN (v := .int (sA (4 * i + 11) 6)) hx hb hts hown hC hG 6 hi (by decide) z_248 (rfl) dX_pay_25 ?_
  refine lv_iload_n hx hb dX_pay_28 rfl (lv_at hl 0 rfl) ?_
  refine lv_iadd hx hb dX_pay_29 ?_
  refine lv_i2l (v := ((sA (4 * i + 11) 6) + (fX_feeFor (sA (4 * i + 11) 6)) : Int32).toInt64) hx hb dX_pay_30 rfl ?_
  refine lv_ladd hx hb dX_pay_31 ?_
  refine rx_putl hx hb hts hown hC hG hS 6 (by decide) q_27 dX_pay_32 (fun H locs hG hS => ?_)
  refine lv_aload_n hx hb dX_pay_35 rfl (lv_at hl 2 rfl) ?_
  refine lv_dup hx hb dX_pay_36 rfl ?_
  refine rx_get (v := .long (sL 0 8)) hx hb hts hown hC hG 8 (by decide) q_29 (by simp [xfs, up2, upd, up2L, vp_updL]) dX_pay_37 ?_
  refine lv_iload_n hx hb dX_pay_40 rfl (lv_at hl 0 rfl) ?_
  refine lv_i2l (v := (fX_feeFor (sA (4 * i + 11) 6) : Int32).toInt64) hx hb dX_pay_41 rfl ?_
  refine lv_ladd hx hb dX_pay_42 ?_
  refine rx_putl hx hb hts hown hC hG hS 8 (by decide) q_29 dX_pay_43 (fun H locs hG hS => ?_)
  refine lv_aload_n hx hb dX_pay_46 rfl (lv_at hl 1 rfl) ?_
  refine lv_iconst (v := 3) hx hb dX_pay_47 (by decide) ?_
  refine rl_putN hx hb hts hown hC hG hS 4 hi (by decide) (by decide) z_244 dX_pay_48 (fun H locs hG hS => ?_)
  refine lv_aload_n hx hb dX_pay_51 rfl (lv_at hl 2 rfl) ?_
  refine lv_aload_n hx hb dX_pay_52 rfl (lv_at hl 1 rfl) ?_
  refine rcV3v (rest := []) (As := [.ref (ad (4 * i + 11))]) hx hb hml hown hts hC hG hS (cX_closeGap l hl9 D tI tJ tL A sg ad n (up2L (up2L sL 0 6 ((sL 0 6) + (((sA (4 * i + 11) 6) + (fX_feeFor (sA (4 * i + 11) 6)) : Int32).toInt64))) 0 8 ((sL 0 8) + ((fX_feeFor (sA (4 * i + 11) 6) : Int32).toInt64))) (up2 sA (4 * i + 11) 4 3) i hi (by simpa [up2, upd] using hgap i hi)) (recX hC hG) (gV q_356 q_358 q_p2 q_1 q_359) rfl rfl ⟨rfl, hdyX_closeGap⟩ ⟨Nat.le_of_ble_eq_true rfl, Nat.le_of_ble_eq_true rfl⟩ hl.1 rfl (Nat.le_of_ble_eq_true rfl) dX_pay_53 ⟨Nat.le_of_ble_eq_true rfl, Nat.le_of_ble_eq_true rfl⟩ (fun H locs hG hS => ?_)
  refine lv_aload_n hx hb dX_pay_56 rfl (lv_at hl 1 rfl) ?_
  refine rl_getN (v := .int ((fX_closeGap (up2L (up2L sL 0 6 ((sL 0 6) + (((sA (4 * i + 11) 6) + (fX_feeFor (sA (4 * i + 11) 6)) : Int32).toInt64))) 0 8 ((sL 0 8) + ((fX_feeFor (sA (4 * i + 11) 6) : Int32).toInt64))) (up2 sA (4 * i + 11) 4 3) i).2 (4 * i + 11) 6)) hx hb hts hown hC hG 6 hi (by decide) z_248 (rfl) dX_pay_57 ?_
  refine lv_iload_n hx hb dX_pay_60 rfl (lv_at hl 0 rfl) ?_
  refine lv_iadd hx hb dX_pay_61 ?_
  refine vx_ret ?_
  refine W.widen (k := 3) (n := 18) (Nat.le_of_ble_eq_true rfl) (Nat.le_of_ble_eq_true rfl) ?_
  exact W.iret (v := ((fX_closeGap (up2L (up2L sL 0 6 ((sL 0 6) + (((sA (4 * i + 11) 6) + (fX_feeFor (sA (4 * i + 11) 6)) : Int32).toInt64))) 0 8 ((sL 0 8) + ((fX_feeFor (sA (4 * i + 11) 6) : Int32).toInt64))) (up2 sA (4 * i + 11) 4 3) i).2 (4 * i + 11) 6) + (fX_feeFor (sA (4 * i + 11) 6))) hx hb hr (fun t ht hW => ⟨⟨(((fX_closeGap (up2L (up2L sL 0 6 ((sL 0 6) + (((sA (4 * i + 11) 6) + (fX_feeFor (sA (4 * i + 11) 6)) : Int32).toInt64))) 0 8 ((sL 0 8) + ((fX_feeFor (sA (4 * i + 11) 6) : Int32).toInt64))) (up2 sA (4 * i + 11) 4 3) i).2 (4 * i + 11) 6) + (fX_feeFor (sA (4 * i + 11) 6))), ((fX_closeGap (up2L (up2L sL 0 6 ((sL 0 6) + (((sA (4 * i + 11) 6) + (fX_feeFor (sA (4 * i + 11) 6)) : Int32).toInt64))) 0 8 ((sL 0 8) + ((fX_feeFor (sA (4 * i + 11) 6) : Int32).toInt64))) (up2 sA (4 * i + 11) 4 3) i).1, (fX_closeGap (up2L (up2L sL 0 6 ((sL 0 6) + (((sA (4 * i + 11) 6) + (fX_feeFor (sA (4 * i + 11) 6)) : Int32).toInt64))) 0 8 ((sL 0 8) + ((fX_feeFor (sA (4 * i + 11) 6) : Int32).toInt64))) (up2 sA (4 * i + 11) 4 3) i).2), rfl, (by rw [fX_pay, bndq_s h_1, bnd_0 h_2] <;> rfl), gw_at hG ht⟩, hS.F ht⟩) hS.2.2 dX_pay_62
def fX_defaults (n : Nat) (sL : NL) (sA : NA) (p0 : Int32) : Nat × Int32 × NL × NA := bndq (fX_findLot n p0) (fun i => bnd (fX_checkState sL sA i 2) (if (sA (4 * i + 11) 8) = (-1) then (0, sA (4 * i + 11) 5, (fL_open sL (up2 (up2 sA (4 * i + 11) 8 (sA (4 * i + 11) 5)) (4 * i + 11) 9 (sA (4 * i + 11) 6)) i (sA (4 * i + 11) 3)).1, (fL_open sL (up2 (up2 sA (4 * i + 11) 8 (sA (4 * i + 11) 5)) (4 * i + 11) 9 (sA (4 * i + 11) 6)) i (sA (4 * i + 11) 3)).2) else (0, sA (4 * i + 11) 5, (fL_open sL sA i (sA (4 * i + 11) 3)).1, (fL_open sL sA i (sA (4 * i + 11) 3)).2)) (0, sL, sA)) (0, sL, sA)
theorem hdyX_defaults : yX_defaults.cls ≠ "java/lang/invoke/MethodHandle" ∧ yX_defaults.cls ≠ "java/lang/invoke/VarHandle" ∧ (parseMethodDescriptor yX_defaults.desc).map (fun d => d.parameters.length) = some 1 := by decide +kernel
theorem dX_defaults_0 : decode bX_defaults 0 = .ok (.aload_n 0, 1) := by decide +kernel
theorem dX_defaults_1 : decode bX_defaults 1 = .ok (.iload_n 1, 1) := by decide +kernel
theorem dX_defaults_2 : decode bX_defaults 2 = .ok (.invokevirtual 54, 3) := by decide +kernel
theorem dX_defaults_5 : decode bX_defaults 5 = .ok (.astore_n 2, 1) := by decide +kernel
theorem dX_defaults_6 : decode bX_defaults 6 = .ok (.aload_n 2, 1) := by decide +kernel
theorem dX_defaults_7 : decode bX_defaults 7 = .ok (.iconst 2, 1) := by decide +kernel
theorem dX_defaults_8 : decode bX_defaults 8 = .ok (.invokestatic 61, 3) := by decide +kernel
theorem dX_defaults_11 : decode bX_defaults 11 = .ok (.aload_n 2, 1) := by decide +kernel
theorem dX_defaults_12 : decode bX_defaults 12 = .ok (.getfield 91, 3) := by decide +kernel
theorem dX_defaults_15 : decode bX_defaults 15 = .ok (.istore_n 3, 1) := by decide +kernel
theorem dX_defaults_16 : decode bX_defaults 16 = .ok (.aload_n 2, 1) := by decide +kernel
theorem dX_defaults_17 : decode bX_defaults 17 = .ok (.getfield 130, 3) := by decide +kernel
theorem dX_defaults_20 : decode bX_defaults 20 = .ok (.iconst (-1), 1) := by decide +kernel
theorem dX_defaults_21 : decode bX_defaults 21 = .ok (.if_icmp .ne 16, 3) := by decide +kernel
theorem dX_defaults_24 : decode bX_defaults 24 = .ok (.aload_n 2, 1) := by decide +kernel
theorem dX_defaults_25 : decode bX_defaults 25 = .ok (.iload_n 3, 1) := by decide +kernel
theorem dX_defaults_26 : decode bX_defaults 26 = .ok (.putfield 130, 3) := by decide +kernel
theorem dX_defaults_29 : decode bX_defaults 29 = .ok (.aload_n 2, 1) := by decide +kernel
theorem dX_defaults_30 : decode bX_defaults 30 = .ok (.aload_n 2, 1) := by decide +kernel
theorem dX_defaults_31 : decode bX_defaults 31 = .ok (.getfield 101, 3) := by decide +kernel
theorem dX_defaults_34 : decode bX_defaults 34 = .ok (.putfield 133, 3) := by decide +kernel
theorem dX_defaults_37 : decode bX_defaults 37 = .ok (.aload_n 2, 1) := by decide +kernel
theorem dX_defaults_38 : decode bX_defaults 38 = .ok (.aload_n 2, 1) := by decide +kernel
theorem dX_defaults_39 : decode bX_defaults 39 = .ok (.getfield 82, 3) := by decide +kernel
theorem dX_defaults_42 : decode bX_defaults 42 = .ok (.invokevirtual 113, 3) := by decide +kernel
theorem dX_defaults_45 : decode bX_defaults 45 = .ok (.iload_n 3, 1) := by decide +kernel
theorem dX_defaults_46 : decode bX_defaults 46 = .ok (.ireturn, 1) := by decide +kernel
set_option maxHeartbeats 4000000 in
set_option maxRecDepth 100000 in
theorem cX_defaults (l : Launch) (hl9 : l.stackTraces = false) (D : va_G) (tI tJ tL : ClassId) (A : Nat → Prop) (sg ad : Nat → Nat) (n : Nat) (sL : NL) (sA : NA) (p0 : Int32) : vx_Met l yX_defaults (Cond.code yX_defaults bX_defaults 4 (some FieldType.int) :: wNeed) { frames := 7, cells := 2, slots := 12, locals := 112 } (va_Pc [.ref (ad 0), .int p0] (GP D tI tJ tL A sg ad n sL sA)) (va_Qi (fun r (u : NL × NA) => fX_defaults n sL sA p0 = (0, r, u.1, u.2)) (fun u t => GW D tI tJ tL A ad n u.1 u.2 t.heap) A) (XQ D tI tJ tL A ad n sL sA (fX_defaults n sL sA p0).1) 2 12 A := by
  refine en_XG (av := [.ref (ad 0), .int p0]) (by decide) (Nat.le_of_ble_eq_true rfl) ?_
  intro p e s m below meth c hx hb hml hown hts hr hlocks hT hC H locs hG hS ls hl
  replace hl : lv_has ls 4 [(0, .ref (ad 0)), (1, .int p0)] := hl
  refine lv_aload_n hx hb dX_defaults_0 rfl (lv_at hl 0 rfl) ?_
  refine lv_iload_n hx hb dX_defaults_1 rfl (lv_at hl 1 rfl) ?_
  refine rcV5q (rest := []) (As := [.int p0]) (p0 := p0) (Mc := 2) (Ms := 12) hx hb hml hown hts hC hG hS hlocks hT (cX_findLot l hl9 D tI tJ tL A sg ad n sL sA p0) (recX hC hG) (gV q_288 q_290 q_p1 q_1 q_291) rfl rfl ⟨rfl, hdyX_findLot⟩ ⟨Nat.le_of_ble_eq_true rfl, Nat.le_of_ble_eq_true rfl⟩ hl.1 rfl (Nat.le_of_ble_eq_true rfl) dX_defaults_2 ⟨Nat.le_of_ble_eq_true rfl, Nat.le_of_ble_eq_true rfl⟩ ⟨Nat.le_of_ble_eq_true rfl, Nat.le_of_ble_eq_true rfl⟩ (fun h => by rw [fX_defaults, bndq_n h] <;> rfl) (fun i h_1 hi hp H locs hG hS => ?_)
  subst hp
  refine lv_astore_n (lv' := [(2, .ref (ad (4 * i + 11))), (0, .ref (ad 0)), (1, .int (nI i))]) hx hb dX_defaults_5 rfl hl (by decide) rfl (fun ls hl => ?_)
  refine lv_aload_n hx hb dX_defaults_6 rfl (lv_at hl 0 rfl) ?_
  refine lv_iconst (v := 2) hx hb dX_defaults_7 (by decide) ?_
  refine rcS4 (rest := []) (As := [.ref (ad (4 * i + 11)), .int 2]) (Mc := 2) (Ms := 12) hx hb hml hown hts hC hG hS hlocks hT (cX_checkState l hl9 D tI tJ tL A sg ad n sL sA i hi 2) (gS q_297 q_298 q_1 q_299) rfl rfl ⟨rfl, hdyX_checkState⟩ ⟨Nat.le_of_ble_eq_true rfl, Nat.le_of_ble_eq_true rfl⟩ hl.1 rfl (Nat.le_of_ble_eq_true rfl) dX_defaults_8 ⟨Nat.le_of_ble_eq_true rfl, Nat.le_of_ble_eq_true rfl⟩ ⟨Nat.le_of_ble_eq_true rfl, Nat.le_of_ble_eq_true rfl⟩ (fun h => by rw [fX_defaults, bndq_s h_1, bnd_n h] <;> rfl) (fun h_2 H locs hG hS => ?_)
  refine lv_aload_n hx hb dX_defaults_11 rfl (lv_at hl 0 rfl) ?_
  refine rl_getN (v := .int (sA (4 * i + 11) 5)) hx hb hts hown hC hG 5 hi (by decide) z_246 (rfl) dX_defaults_12 ?_
  refine lv_istore_n (lv' := [(3, .int (sA (4 * i + 11) 5)), (2, .ref (ad (4 * i + 11))), (0, .ref (ad 0)), (1, .int (nI i))]) hx hb dX_defaults_15 rfl hl (by decide) rfl (fun ls hl => ?_)
  refine lv_aload_n hx hb dX_defaults_16 rfl (lv_at hl 1 rfl) ?_
  refine rl_getN (v := .int (sA (4 * i + 11) 8)) hx hb hts hown hC hG 8 hi (by decide) z_251 (rfl) dX_defaults_17 ?_
  refine lv_iconst (v := (-1)) hx hb dX_defaults_20 (by decide) ?_
  refine lv_icmp_ne (tgt := 37) hx hb dX_defaults_21 (by decide) (fun c_3 => ?_) (fun c_3 => ?_)
  · refine lv_aload_n hx hb dX_defaults_37 rfl (lv_at hl 1 rfl) ?_
    refine lv_aload_n hx hb dX_defaults_38 rfl (lv_at hl 1 rfl) ?_
    refine rl_getN (v := .int (sA (4 * i + 11) 3)) hx hb hts hown hC hG 3 hi (by decide) z_242 (rfl) dX_defaults_39 ?_
    refine rcV3v (rest := []) (As := [.int (sA (4 * i + 11) 3)]) hx hb hml hown hts hC hG hS (cL_open l D tI tJ tL A sg ad n sL sA i hi (sA (4 * i + 11) 3)) (recL hi hC hG) (gV q_341 q_342 q_343 q_9 q_344) rfl rfl ⟨rfl, hdyL_open⟩ ⟨Nat.le_of_ble_eq_true rfl, Nat.le_of_ble_eq_true rfl⟩ hl.1 rfl (Nat.le_of_ble_eq_true rfl) dX_defaults_42 ⟨Nat.le_of_ble_eq_true rfl, Nat.le_of_ble_eq_true rfl⟩ (fun H locs hG hS => ?_)
    refine lv_iload_n hx hb dX_defaults_45 rfl (lv_at hl 0 rfl) ?_
    refine vx_ret ?_
    refine W.widen (k := 2) (n := 12) (Nat.le_of_ble_eq_true rfl) (Nat.le_of_ble_eq_true rfl) ?_
    exact W.iret (v := sA (4 * i + 11) 5) hx hb hr (fun t ht hW => ⟨⟨(sA (4 * i + 11) 5), ((fL_open sL sA i (sA (4 * i + 11) 3)).1, (fL_open sL sA i (sA (4 * i + 11) 3)).2), rfl, (by rw [fX_defaults, bndq_s h_1, bnd_0 h_2, if_neg c_3] <;> rfl), gw_at hG ht⟩, hS.F ht⟩) hS.2.2 dX_defaults_46
  · refine lv_aload_n hx hb dX_defaults_24 rfl (lv_at hl 1 rfl) ?_
    refine lv_iload_n hx hb dX_defaults_25 rfl (lv_at hl 0 rfl) ?_
    refine rl_putN hx hb hts hown hC hG hS 8 hi (by decide) (by decide) z_251 dX_defaults_26 (fun H locs hG hS => ?_)
    refine lv_aload_n hx hb dX_defaults_29 rfl (lv_at hl 1 rfl) ?_
    refine lv_aload_n hx hb dX_defaults_30 rfl (lv_at hl 1 rfl) ?_
    refine rl_getN (v := .int (sA (4 * i + 11) 6)) hx hb hts hown hC hG 6 hi (by decide) z_248 (by simp [lfs, up2, upd]) dX_defaults_31 ?_
    refine rl_putN hx hb hts hown hC hG hS 9 hi (by decide) (by decide) z_252 dX_defaults_34 (fun H locs hG hS => ?_)
    refine lv_aload_n hx hb dX_defaults_37 rfl (lv_at hl 1 rfl) ?_
    refine lv_aload_n hx hb dX_defaults_38 rfl (lv_at hl 1 rfl) ?_
    refine rl_getN (v := .int (sA (4 * i + 11) 3)) hx hb hts hown hC hG 3 hi (by decide) z_242 (by simp [lfs, up2, upd]) dX_defaults_39 ?_
    refine rcV3v (rest := []) (As := [.int (sA (4 * i + 11) 3)]) hx hb hml hown hts hC hG hS (cL_open l D tI tJ tL A sg ad n sL (up2 (up2 sA (4 * i + 11) 8 (sA (4 * i + 11) 5)) (4 * i + 11) 9 (sA (4 * i + 11) 6)) i hi (sA (4 * i + 11) 3)) (recL hi hC hG) (gV q_341 q_342 q_343 q_9 q_344) rfl rfl ⟨rfl, hdyL_open⟩ ⟨Nat.le_of_ble_eq_true rfl, Nat.le_of_ble_eq_true rfl⟩ hl.1 rfl (Nat.le_of_ble_eq_true rfl) dX_defaults_42 ⟨Nat.le_of_ble_eq_true rfl, Nat.le_of_ble_eq_true rfl⟩ (fun H locs hG hS => ?_)
    refine lv_iload_n hx hb dX_defaults_45 rfl (lv_at hl 0 rfl) ?_
    refine vx_ret ?_
    refine W.widen (k := 2) (n := 12) (Nat.le_of_ble_eq_true rfl) (Nat.le_of_ble_eq_true rfl) ?_
    exact W.iret (v := sA (4 * i + 11) 5) hx hb hr (fun t ht hW => ⟨⟨(sA (4 * i + 11) 5), ((fL_open sL (up2 (up2 sA (4 * i + 11) 8 (sA (4 * i + 11) 5)) (4 * i + 11) 9 (sA (4 * i + 11) 6)) i (sA (4 * i + 11) 3)).1, (fL_open sL (up2 (up2 sA (4 * i + 11) 8 (sA (4 * i + 11) 5)) (4 * i + 11) 9 (sA (4 * i + 11) 6)) i (sA (4 * i + 11) 3)).2), rfl, (by rw [fX_defaults, bndq_s h_1, bnd_0 h_2, if_pos c_3] <;> rfl), gw_at hG ht⟩, hS.F ht⟩) hS.2.2 dX_defaults_46
def fX_payGaps (sL : NL) (sA : NA) (p0 : Int32) : Nat × Int32 × NL × NA := bnd ((fX_owedBy sL sA p0).1) (if ((fX_owedBy sL sA p0).2) = 0 then (3, 0, sL, sA) else (0, (fX_owedBy sL sA p0).2, (up2L (up2L ((fX_addToDebt sL sA p0 (-((fX_owedBy sL sA p0).2))).1) 0 6 (((fX_addToDebt sL sA p0 (-((fX_owedBy sL sA p0).2))).1 0 6) + (((fX_owedBy sL sA p0).2 : Int32).toInt64))) 0 8 (((fX_addToDebt sL sA p0 (-((fX_owedBy sL sA p0).2))).1 0 8) + (((fX_owedBy sL sA p0).2 : Int32).toInt64))), (fX_addToDebt sL sA p0 (-((fX_owedBy sL sA p0).2))).2)) (0, sL, sA)
theorem hdyX_payGaps : yX_payGaps.cls ≠ "java/lang/invoke/MethodHandle" ∧ yX_payGaps.cls ≠ "java/lang/invoke/VarHandle" ∧ (parseMethodDescriptor yX_payGaps.desc).map (fun d => d.parameters.length) = some 1 := by decide +kernel
theorem dX_payGaps_0 : decode bX_payGaps 0 = .ok (.aload_n 0, 1) := by decide +kernel
theorem dX_payGaps_1 : decode bX_payGaps 1 = .ok (.iload_n 1, 1) := by decide +kernel
theorem dX_payGaps_2 : decode bX_payGaps 2 = .ok (.invokevirtual 136, 3) := by decide +kernel
theorem dX_payGaps_5 : decode bX_payGaps 5 = .ok (.istore_n 2, 1) := by decide +kernel
theorem dX_payGaps_6 : decode bX_payGaps 6 = .ok (.iload_n 2, 1) := by decide +kernel
theorem dX_payGaps_7 : decode bX_payGaps 7 = .ok (.ifCond .ne 13, 3) := by decide +kernel
theorem dX_payGaps_10 : decode bX_payGaps 10 = .ok (.new 41, 3) := by decide +kernel
theorem dX_payGaps_13 : decode bX_payGaps 13 = .ok (.dup, 1) := by decide +kernel
theorem dX_payGaps_14 : decode bX_payGaps 14 = .ok (.ldc 139, 2) := by decide +kernel
theorem dX_payGaps_16 : decode bX_payGaps 16 = .ok (.invokespecial 45, 3) := by decide +kernel
theorem dX_payGaps_19 : decode bX_payGaps 19 = .ok (.athrow, 1) := by decide +kernel
theorem dX_payGaps_20 : decode bX_payGaps 20 = .ok (.aload_n 0, 1) := by decide +kernel
theorem dX_payGaps_21 : decode bX_payGaps 21 = .ok (.iload_n 1, 1) := by decide +kernel
theorem dX_payGaps_22 : decode bX_payGaps 22 = .ok (.iload_n 2, 1) := by decide +kernel
theorem dX_payGaps_23 : decode bX_payGaps 23 = .ok (.ineg, 1) := by decide +kernel
theorem dX_payGaps_24 : decode bX_payGaps 24 = .ok (.invokevirtual 141, 3) := by decide +kernel
theorem dX_payGaps_27 : decode bX_payGaps 27 = .ok (.aload_n 0, 1) := by decide +kernel
theorem dX_payGaps_28 : decode bX_payGaps 28 = .ok (.dup, 1) := by decide +kernel
theorem dX_payGaps_29 : decode bX_payGaps 29 = .ok (.getfield 119, 3) := by decide +kernel
theorem dX_payGaps_32 : decode bX_payGaps 32 = .ok (.iload_n 2, 1) := by decide +kernel
theorem dX_payGaps_33 : decode bX_payGaps 33 = .ok (.i2l, 1) := by decide +kernel
theorem dX_payGaps_34 : decode bX_payGaps 34 = .ok (.ladd, 1) := by decide +kernel
theorem dX_payGaps_35 : decode bX_payGaps 35 = .ok (.putfield 119, 3) := by decide +kernel
theorem dX_payGaps_38 : decode bX_payGaps 38 = .ok (.aload_n 0, 1) := by decide +kernel
theorem dX_payGaps_39 : decode bX_payGaps 39 = .ok (.dup, 1) := by decide +kernel
theorem dX_payGaps_40 : decode bX_payGaps 40 = .ok (.getfield 123, 3) := by decide +kernel
theorem dX_payGaps_43 : decode bX_payGaps 43 = .ok (.iload_n 2, 1) := by decide +kernel
theorem dX_payGaps_44 : decode bX_payGaps 44 = .ok (.i2l, 1) := by decide +kernel
theorem dX_payGaps_45 : decode bX_payGaps 45 = .ok (.ladd, 1) := by decide +kernel
theorem dX_payGaps_46 : decode bX_payGaps 46 = .ok (.putfield 123, 3) := by decide +kernel
theorem dX_payGaps_49 : decode bX_payGaps 49 = .ok (.iload_n 2, 1) := by decide +kernel
theorem dX_payGaps_50 : decode bX_payGaps 50 = .ok (.ireturn, 1) := by decide +kernel
set_option maxHeartbeats 4000000 in
set_option maxRecDepth 100000 in
theorem cX_payGaps (l : Launch) (hl9 : l.stackTraces = false) (D : va_G) (tI tJ tL : ClassId) (A : Nat → Prop) (sg ad : Nat → Nat) (n : Nat) (sL : NL) (sA : NA) (p0 : Int32) : vx_Met l yX_payGaps (Cond.code yX_payGaps bX_payGaps 3 (some FieldType.int) :: wNeed) { frames := 8, cells := 2, slots := 12, locals := 132 } (va_Pc [.ref (ad 0), .int p0] (GP D tI tJ tL A sg ad n sL sA)) (va_Qi (fun r (u : NL × NA) => fX_payGaps sL sA p0 = (0, r, u.1, u.2)) (fun u t => GW D tI tJ tL A ad n u.1 u.2 t.heap) A) (XQ D tI tJ tL A ad n sL sA (fX_payGaps sL sA p0).1) 2 12 A := by
  refine en_XG (av := [.ref (ad 0), .int p0]) (by decide) (Nat.le_of_ble_eq_true rfl) ?_
  intro p e s m below meth c hx hb hml hown hts hr hlocks hT hC H locs hG hS ls hl
  replace hl : lv_has ls 3 [(0, .ref (ad 0)), (1, .int p0)] := hl
  refine lv_aload_n hx hb dX_payGaps_0 rfl (lv_at hl 0 rfl) ?_
  refine lv_iload_n hx hb dX_payGaps_1 rfl (lv_at hl 1 rfl) ?_
  refine rcV5r (rest := []) (As := [.int p0]) (Mc := 2) (Ms := 12) hx hb hml hown hts hC hG hS hlocks hT (cX_owedBy l hl9 D tI tJ tL A sg ad n sL sA p0) (recX hC hG) (gV q_372 q_374 q_p4 q_1 q_375) rfl rfl ⟨rfl, hdyX_owedBy⟩ ⟨Nat.le_of_ble_eq_true rfl, Nat.le_of_ble_eq_true rfl⟩ hl.1 rfl (Nat.le_of_ble_eq_true rfl) dX_payGaps_2 ⟨Nat.le_of_ble_eq_true rfl, Nat.le_of_ble_eq_true rfl⟩ ⟨Nat.le_of_ble_eq_true rfl, Nat.le_of_ble_eq_true rfl⟩ (fun h => by rw [fX_payGaps, bnd_n h] <;> rfl) (fun h_1 H locs hG hS => ?_)
  refine lv_istore_n (lv' := [(2, .int ((fX_owedBy sL sA p0).2)), (0, .ref (ad 0)), (1, .int p0)]) hx hb dX_payGaps_5 rfl hl (by decide) rfl (fun ls hl => ?_)
  refine lv_iload_n hx hb dX_payGaps_6 rfl (lv_at hl 0 rfl) ?_
  refine lv_if_ne (tgt := 20) hx hb dX_payGaps_7 (by decide) (fun c_2 => ?_) (fun c_2 => ?_)
  · refine lv_aload_n hx hb dX_payGaps_20 rfl (lv_at hl 1 rfl) ?_
    refine lv_iload_n hx hb dX_payGaps_21 rfl (lv_at hl 2 rfl) ?_
    refine lv_iload_n hx hb dX_payGaps_22 rfl (lv_at hl 0 rfl) ?_
    refine lv_ineg hx hb dX_payGaps_23 ?_
    refine rcV3v (rest := []) (As := [.int p0, .int (-((fX_owedBy sL sA p0).2))]) hx hb hml hown hts hC hG hS (cX_addToDebt l hl9 D tI tJ tL A sg ad n sL sA p0 (-((fX_owedBy sL sA p0).2)) (owed_ok h_1)) (recX hC hG) (gV q_360 q_362 q_p3 q_1 q_363) rfl rfl ⟨rfl, hdyX_addToDebt⟩ ⟨Nat.le_of_ble_eq_true rfl, Nat.le_of_ble_eq_true rfl⟩ hl.1 rfl (Nat.le_of_ble_eq_true rfl) dX_payGaps_24 ⟨Nat.le_of_ble_eq_true rfl, Nat.le_of_ble_eq_true rfl⟩ (fun H locs hG hS => ?_)
    refine lv_aload_n hx hb dX_payGaps_27 rfl (lv_at hl 1 rfl) ?_
    refine lv_dup hx hb dX_payGaps_28 rfl ?_
    refine rx_get (v := .long ((fX_addToDebt sL sA p0 (-((fX_owedBy sL sA p0).2))).1 0 6)) hx hb hts hown hC hG 6 (by decide) q_27 (rfl) dX_payGaps_29 ?_
    refine lv_iload_n hx hb dX_payGaps_32 rfl (lv_at hl 0 rfl) ?_
    refine lv_i2l (v := ((fX_owedBy sL sA p0).2 : Int32).toInt64) hx hb dX_payGaps_33 rfl ?_
    refine lv_ladd hx hb dX_payGaps_34 ?_
    refine rx_putl hx hb hts hown hC hG hS 6 (by decide) q_27 dX_payGaps_35 (fun H locs hG hS => ?_)
    refine lv_aload_n hx hb dX_payGaps_38 rfl (lv_at hl 1 rfl) ?_
    refine lv_dup hx hb dX_payGaps_39 rfl ?_
    refine rx_get (v := .long ((fX_addToDebt sL sA p0 (-((fX_owedBy sL sA p0).2))).1 0 8)) hx hb hts hown hC hG 8 (by decide) q_29 (by simp [xfs, up2, upd, up2L, vp_updL]) dX_payGaps_40 ?_
    refine lv_iload_n hx hb dX_payGaps_43 rfl (lv_at hl 0 rfl) ?_
    refine lv_i2l (v := ((fX_owedBy sL sA p0).2 : Int32).toInt64) hx hb dX_payGaps_44 rfl ?_
    refine lv_ladd hx hb dX_payGaps_45 ?_
    refine rx_putl hx hb hts hown hC hG hS 8 (by decide) q_29 dX_payGaps_46 (fun H locs hG hS => ?_)
    refine lv_iload_n hx hb dX_payGaps_49 rfl (lv_at hl 0 rfl) ?_
    refine vx_ret ?_
    refine W.widen (k := 2) (n := 12) (Nat.le_of_ble_eq_true rfl) (Nat.le_of_ble_eq_true rfl) ?_
    exact W.iret (v := (fX_owedBy sL sA p0).2) hx hb hr (fun t ht hW => ⟨⟨((fX_owedBy sL sA p0).2), ((up2L (up2L ((fX_addToDebt sL sA p0 (-((fX_owedBy sL sA p0).2))).1) 0 6 (((fX_addToDebt sL sA p0 (-((fX_owedBy sL sA p0).2))).1 0 6) + (((fX_owedBy sL sA p0).2 : Int32).toInt64))) 0 8 (((fX_addToDebt sL sA p0 (-((fX_owedBy sL sA p0).2))).1 0 8) + (((fX_owedBy sL sA p0).2 : Int32).toInt64))), (fX_addToDebt sL sA p0 (-((fX_owedBy sL sA p0).2))).2), rfl, (by rw [fX_payGaps, bnd_0 h_1, if_neg c_2] <;> rfl), gw_at hG ht⟩, hS.F ht⟩) hS.2.2 dX_payGaps_50
  · exact rc_throw (text := "nothing is owed") hx hb hts hown hC hG hS hl9 hlocks hT (Or.inr (Or.inr ⟨rfl, by rw [fX_payGaps, bnd_0 h_1, if_pos c_2] <;> rfl⟩)) (by decide +kernel) q_190 q_8 (by decide) at_S (hl.1.trans hml.symm) dX_payGaps_10 dX_payGaps_13 dX_payGaps_14 dX_payGaps_16 dX_payGaps_19 (Nat.le_of_ble_eq_true rfl) (Nat.le_of_ble_eq_true rfl) (Nat.le_of_ble_eq_true rfl) (Nat.le_of_ble_eq_true rfl) (Nat.le_of_ble_eq_true rfl) (Nat.le_of_ble_eq_true rfl)
def fX_advance (n : Nat) (sL : NL) (sA : NA) (p0 : Int32) (p1 : Int32) : Nat × Int32 × NL × NA := bndq (fX_findLot n p0) (fun i => bnd (fX_checkRange p1 1 ((sA (4 * i + 11) 3) / 2)) (if (sA (4 * i + 11) 4) = 3 then (3, 0, sL, sA) else (if (sA (4 * i + 11) 4) = 4 then (3, 0, sL, sA) else (if (sA (4 * i + 11) 10) ≤ 0 then (0, (sA (4 * i + 11) 3) / 2, (up2L sL 0 7 ((sL 0 7) + ((p1 : Int32).toInt64))), (up2 (up2 sA (4 * i + 11) 10 p1) (4 * i + 11) 11 (sA 0 4))) else (3, 0, sL, sA)))) (0, sL, sA)) (0, sL, sA)
theorem hdyX_advance : yX_advance.cls ≠ "java/lang/invoke/MethodHandle" ∧ yX_advance.cls ≠ "java/lang/invoke/VarHandle" ∧ (parseMethodDescriptor yX_advance.desc).map (fun d => d.parameters.length) = some 2 := by decide +kernel
theorem dX_advance_0 : decode bX_advance 0 = .ok (.aload_n 0, 1) := by decide +kernel
theorem dX_advance_1 : decode bX_advance 1 = .ok (.iload_n 1, 1) := by decide +kernel
theorem dX_advance_2 : decode bX_advance 2 = .ok (.invokevirtual 54, 3) := by decide +kernel
theorem dX_advance_5 : decode bX_advance 5 = .ok (.astore_n 3, 1) := by decide +kernel
theorem dX_advance_6 : decode bX_advance 6 = .ok (.aload_n 3, 1) := by decide +kernel
theorem dX_advance_7 : decode bX_advance 7 = .ok (.getfield 82, 3) := by decide +kernel
theorem dX_advance_10 : decode bX_advance 10 = .ok (.iconst 2, 1) := by decide +kernel
theorem dX_advance_11 : decode bX_advance 11 = .ok (.idiv, 1) := by decide +kernel
theorem dX_advance_12 : decode bX_advance 12 = .ok (.istore 4, 2) := by decide +kernel
theorem dX_advance_14 : decode bX_advance 14 = .ok (.iload_n 2, 1) := by decide +kernel
theorem dX_advance_15 : decode bX_advance 15 = .ok (.iconst 1, 1) := by decide +kernel
theorem dX_advance_16 : decode bX_advance 16 = .ok (.iload 4, 2) := by decide +kernel
theorem dX_advance_18 : decode bX_advance 18 = .ok (.invokestatic 31, 3) := by decide +kernel
theorem dX_advance_21 : decode bX_advance 21 = .ok (.aload_n 3, 1) := by decide +kernel
theorem dX_advance_22 : decode bX_advance 22 = .ok (.getfield 85, 3) := by decide +kernel
theorem dX_advance_25 : decode bX_advance 25 = .ok (.iconst 3, 1) := by decide +kernel
theorem dX_advance_26 : decode bX_advance 26 = .ok (.if_icmp .eq 18, 3) := by decide +kernel
theorem dX_advance_29 : decode bX_advance 29 = .ok (.aload_n 3, 1) := by decide +kernel
theorem dX_advance_30 : decode bX_advance 30 = .ok (.getfield 85, 3) := by decide +kernel
theorem dX_advance_33 : decode bX_advance 33 = .ok (.iconst 4, 1) := by decide +kernel
theorem dX_advance_34 : decode bX_advance 34 = .ok (.if_icmp .eq 10, 3) := by decide +kernel
theorem dX_advance_37 : decode bX_advance 37 = .ok (.aload_n 3, 1) := by decide +kernel
theorem dX_advance_38 : decode bX_advance 38 = .ok (.getfield 144, 3) := by decide +kernel
theorem dX_advance_41 : decode bX_advance 41 = .ok (.ifCond .le 13, 3) := by decide +kernel
theorem dX_advance_44 : decode bX_advance 44 = .ok (.new 41, 3) := by decide +kernel
theorem dX_advance_47 : decode bX_advance 47 = .ok (.dup, 1) := by decide +kernel
theorem dX_advance_48 : decode bX_advance 48 = .ok (.ldc 147, 2) := by decide +kernel
theorem dX_advance_50 : decode bX_advance 50 = .ok (.invokespecial 45, 3) := by decide +kernel
theorem dX_advance_53 : decode bX_advance 53 = .ok (.athrow, 1) := by decide +kernel
theorem dX_advance_54 : decode bX_advance 54 = .ok (.aload_n 3, 1) := by decide +kernel
theorem dX_advance_55 : decode bX_advance 55 = .ok (.iload_n 2, 1) := by decide +kernel
theorem dX_advance_56 : decode bX_advance 56 = .ok (.putfield 144, 3) := by decide +kernel
theorem dX_advance_59 : decode bX_advance 59 = .ok (.aload_n 3, 1) := by decide +kernel
theorem dX_advance_60 : decode bX_advance 60 = .ok (.aload_n 0, 1) := by decide +kernel
theorem dX_advance_61 : decode bX_advance 61 = .ok (.getfield 104, 3) := by decide +kernel
theorem dX_advance_64 : decode bX_advance 64 = .ok (.putfield 149, 3) := by decide +kernel
theorem dX_advance_67 : decode bX_advance 67 = .ok (.aload_n 0, 1) := by decide +kernel
theorem dX_advance_68 : decode bX_advance 68 = .ok (.dup, 1) := by decide +kernel
theorem dX_advance_69 : decode bX_advance 69 = .ok (.getfield 152, 3) := by decide +kernel
theorem dX_advance_72 : decode bX_advance 72 = .ok (.iload_n 2, 1) := by decide +kernel
theorem dX_advance_73 : decode bX_advance 73 = .ok (.i2l, 1) := by decide +kernel
theorem dX_advance_74 : decode bX_advance 74 = .ok (.ladd, 1) := by decide +kernel
theorem dX_advance_75 : decode bX_advance 75 = .ok (.putfield 152, 3) := by decide +kernel
theorem dX_advance_78 : decode bX_advance 78 = .ok (.iload 4, 2) := by decide +kernel
theorem dX_advance_80 : decode bX_advance 80 = .ok (.ireturn, 1) := by decide +kernel
set_option maxHeartbeats 4000000 in
set_option maxRecDepth 100000 in
theorem cX_advance (l : Launch) (hl9 : l.stackTraces = false) (D : va_G) (tI tJ tL : ClassId) (A : Nat → Prop) (sg ad : Nat → Nat) (n : Nat) (sL : NL) (sA : NA) (p0 : Int32) (p1 : Int32) : vx_Met l yX_advance (Cond.code yX_advance bX_advance 5 (some FieldType.int) :: wNeed) { frames := 7, cells := 3, slots := 18, locals := 112 } (va_Pc [.ref (ad 0), .int p0, .int p1] (GP D tI tJ tL A sg ad n sL sA)) (va_Qi (fun r (u : NL × NA) => fX_advance n sL sA p0 p1 = (0, r, u.1, u.2)) (fun u t => GW D tI tJ tL A ad n u.1 u.2 t.heap) A) (XQ D tI tJ tL A ad n sL sA (fX_advance n sL sA p0 p1).1) 3 18 A := by
  refine en_XG (av := [.ref (ad 0), .int p0, .int p1]) (by decide) (Nat.le_of_ble_eq_true rfl) ?_
  intro p e s m below meth c hx hb hml hown hts hr hlocks hT hC H locs hG hS ls hl
  replace hl : lv_has ls 5 [(0, .ref (ad 0)), (1, .int p0), (2, .int p1)] := hl
  refine lv_aload_n hx hb dX_advance_0 rfl (lv_at hl 0 rfl) ?_
  refine lv_iload_n hx hb dX_advance_1 rfl (lv_at hl 1 rfl) ?_
  refine rcV5q (rest := []) (As := [.int p0]) (p0 := p0) (Mc := 3) (Ms := 18) hx hb hml hown hts hC hG hS hlocks hT (cX_findLot l hl9 D tI tJ tL A sg ad n sL sA p0) (recX hC hG) (gV q_288 q_290 q_p1 q_1 q_291) rfl rfl ⟨rfl, hdyX_findLot⟩ ⟨Nat.le_of_ble_eq_true rfl, Nat.le_of_ble_eq_true rfl⟩ hl.1 rfl (Nat.le_of_ble_eq_true rfl) dX_advance_2 ⟨Nat.le_of_ble_eq_true rfl, Nat.le_of_ble_eq_true rfl⟩ ⟨Nat.le_of_ble_eq_true rfl, Nat.le_of_ble_eq_true rfl⟩ (fun h => by rw [fX_advance, bndq_n h] <;> rfl) (fun i h_1 hi hp H locs hG hS => ?_)
  subst hp
  refine lv_astore_n (lv' := [(3, .ref (ad (4 * i + 11))), (0, .ref (ad 0)), (1, .int (nI i)), (2, .int p1)]) hx hb dX_advance_5 rfl hl (by decide) rfl (fun ls hl => ?_)
  refine lv_aload_n hx hb dX_advance_6 rfl (lv_at hl 0 rfl) ?_
  refine rl_getN (v := .int (sA (4 * i + 11) 3)) hx hb hts hown hC hG 3 hi (by decide) z_242 (rfl) dX_advance_7 ?_
  refine lv_iconst (v := 2) hx hb dX_advance_10 (by decide) ?_
  refine lv_idiv hx hb dX_advance_11 (by decide) ?_
  refine lv_istore (lv' := [(4, .int ((sA (4 * i + 11) 3) / 2)), (3, .ref (ad (4 * i + 11))), (0, .ref (ad 0)), (1, .int (nI i)), (2, .int p1)]) hx hb dX_advance_12 hl (by decide) rfl (fun ls hl => ?_)
  refine lv_iload_n hx hb dX_advance_14 rfl (lv_at hl 4 rfl) ?_
  refine lv_iconst (v := 1) hx hb dX_advance_15 (by decide) ?_
  refine lv_iload hx hb dX_advance_16 (lv_at hl 0 rfl) ?_
  refine rcS4 (rest := []) (As := [.int p1, .int 1, .int ((sA (4 * i + 11) 3) / 2)]) (Mc := 3) (Ms := 18) hx hb hml hown hts hC hG hS hlocks hT (cX_checkRange l hl9 D tI tJ tL A sg ad n sL sA p1 1 ((sA (4 * i + 11) 3) / 2)) (gS q_125 q_126 q_1 q_127) rfl rfl ⟨rfl, hdyX_checkRange⟩ ⟨Nat.le_of_ble_eq_true rfl, Nat.le_of_ble_eq_true rfl⟩ hl.1 rfl (Nat.le_of_ble_eq_true rfl) dX_advance_18 ⟨Nat.le_of_ble_eq_true rfl, Nat.le_of_ble_eq_true rfl⟩ ⟨Nat.le_of_ble_eq_true rfl, Nat.le_of_ble_eq_true rfl⟩ (fun h => by rw [fX_advance, bndq_s h_1, bnd_n h] <;> rfl) (fun h_2 H locs hG hS => ?_)
  refine lv_aload_n hx hb dX_advance_21 rfl (lv_at hl 1 rfl) ?_
  refine rl_getN (v := .int (sA (4 * i + 11) 4)) hx hb hts hown hC hG 4 hi (by decide) z_244 (rfl) dX_advance_22 ?_
  refine lv_iconst (v := 3) hx hb dX_advance_25 (by decide) ?_
  refine lv_icmp_eq (tgt := 44) hx hb dX_advance_26 (by decide) (fun c_3 => ?_) (fun c_3 => ?_)
  · exact rc_throw (text := "no advance for this lot any more") hx hb hts hown hC hG hS hl9 hlocks hT (Or.inr (Or.inr ⟨rfl, by rw [fX_advance, bndq_s h_1, bnd_0 h_2, if_pos c_3] <;> rfl⟩)) (by decide +kernel) q_190 q_8 (by decide) at_S (hl.1.trans hml.symm) dX_advance_44 dX_advance_47 dX_advance_48 dX_advance_50 dX_advance_53 (Nat.le_of_ble_eq_true rfl) (Nat.le_of_ble_eq_true rfl) (Nat.le_of_ble_eq_true rfl) (Nat.le_of_ble_eq_true rfl) (Nat.le_of_ble_eq_true rfl) (Nat.le_of_ble_eq_true rfl)
  · refine lv_aload_n hx hb dX_advance_29 rfl (lv_at hl 1 rfl) ?_
    refine rl_getN (v := .int (sA (4 * i + 11) 4)) hx hb hts hown hC hG 4 hi (by decide) z_244 (rfl) dX_advance_30 ?_
    refine lv_iconst (v := 4) hx hb dX_advance_33 (by decide) ?_
    refine lv_icmp_eq (tgt := 44) hx hb dX_advance_34 (by decide) (fun c_4 => ?_) (fun c_4 => ?_)
    · exact rc_throw (text := "no advance for this lot any more") hx hb hts hown hC hG hS hl9 hlocks hT (Or.inr (Or.inr ⟨rfl, by rw [fX_advance, bndq_s h_1, bnd_0 h_2, if_neg c_3, if_pos c_4] <;> rfl⟩)) (by decide +kernel) q_190 q_8 (by decide) at_S (hl.1.trans hml.symm) dX_advance_44 dX_advance_47 dX_advance_48 dX_advance_50 dX_advance_53 (Nat.le_of_ble_eq_true rfl) (Nat.le_of_ble_eq_true rfl) (Nat.le_of_ble_eq_true rfl) (Nat.le_of_ble_eq_true rfl) (Nat.le_of_ble_eq_true rfl) (Nat.le_of_ble_eq_true rfl)
    · refine lv_aload_n hx hb dX_advance_37 rfl (lv_at hl 1 rfl) ?_
      refine rl_getN (v := .int (sA (4 * i + 11) 10)) hx hb hts hown hC hG 10 hi (by decide) z_254 (rfl) dX_advance_38 ?_
      refine lv_if_le (tgt := 54) hx hb dX_advance_41 (by decide) (fun c_5 => ?_) (fun c_5 => ?_)
      · refine lv_aload_n hx hb dX_advance_54 rfl (lv_at hl 1 rfl) ?_
        refine lv_iload_n hx hb dX_advance_55 rfl (lv_at hl 4 rfl) ?_
        refine rl_putN hx hb hts hown hC hG hS 10 hi (by decide) (by decide) z_254 dX_advance_56 (fun H locs hG hS => ?_)
        refine lv_aload_n hx hb dX_advance_59 rfl (lv_at hl 1 rfl) ?_
        refine lv_aload_n hx hb dX_advance_60 rfl (lv_at hl 2 rfl) ?_
        refine rx_get (v := .int (sA 0 4)) hx hb hts hown hC hG 4 (by decide) q_25 (by simp [xfs, up2, upd, up2L, vp_updL]) dX_advance_61 ?_
        refine rl_putN hx hb hts hown hC hG hS 11 hi (by decide) (by decide) z_255 dX_advance_64 (fun H locs hG hS => ?_)
        refine lv_aload_n hx hb dX_advance_67 rfl (lv_at hl 2 rfl) ?_
        refine lv_dup hx hb dX_advance_68 rfl ?_
        refine rx_get (v := .long (sL 0 7)) hx hb hts hown hC hG 7 (by decide) q_28 (rfl) dX_advance_69 ?_
        refine lv_iload_n hx hb dX_advance_72 rfl (lv_at hl 4 rfl) ?_
        refine lv_i2l (v := (p1 : Int32).toInt64) hx hb dX_advance_73 rfl ?_
        refine lv_ladd hx hb dX_advance_74 ?_
        refine rx_putl hx hb hts hown hC hG hS 7 (by decide) q_28 dX_advance_75 (fun H locs hG hS => ?_)
        refine lv_iload hx hb dX_advance_78 (lv_at hl 0 rfl) ?_
        refine vx_ret ?_
        refine W.widen (k := 3) (n := 18) (Nat.le_of_ble_eq_true rfl) (Nat.le_of_ble_eq_true rfl) ?_
        exact W.iret (v := (sA (4 * i + 11) 3) / 2) hx hb hr (fun t ht hW => ⟨⟨((sA (4 * i + 11) 3) / 2), ((up2L sL 0 7 ((sL 0 7) + ((p1 : Int32).toInt64))), (up2 (up2 sA (4 * i + 11) 10 p1) (4 * i + 11) 11 (sA 0 4))), rfl, (by rw [fX_advance, bndq_s h_1, bnd_0 h_2, if_neg c_3, if_neg c_4, if_pos c_5] <;> rfl), gw_at hG ht⟩, hS.F ht⟩) hS.2.2 dX_advance_80
      · exact rc_throw (text := "no advance for this lot any more") hx hb hts hown hC hG hS hl9 hlocks hT (Or.inr (Or.inr ⟨rfl, by rw [fX_advance, bndq_s h_1, bnd_0 h_2, if_neg c_3, if_neg c_4, if_neg c_5] <;> rfl⟩)) (by decide +kernel) q_190 q_8 (by decide) at_S (hl.1.trans hml.symm) dX_advance_44 dX_advance_47 dX_advance_48 dX_advance_50 dX_advance_53 (Nat.le_of_ble_eq_true rfl) (Nat.le_of_ble_eq_true rfl) (Nat.le_of_ble_eq_true rfl) (Nat.le_of_ble_eq_true rfl) (Nat.le_of_ble_eq_true rfl) (Nat.le_of_ble_eq_true rfl)
def fX_settle (n : Nat) (sL : NL) (sA : NA) (p0 : Int32) : Nat × Int32 × NL × NA := bndq (fX_findLot n p0) (fun i => bnd (fX_checkState sL sA i 3) (bnd ((fX_hundredthsOf sL sA (sA (4 * i + 11) 0)).1) ((0, ((((sA (4 * i + 11) 6) - (((sA (4 * i + 11) 6) * ((fX_hundredthsOf sL sA (sA (4 * i + 11) 0)).2)) / 100)) - (fX_shareOf sL sA i)) - (sA (4 * i + 11) 10)) - (fX_interestOf sL sA i), (up2L (up2L sL 0 7 ((sL 0 7) + (((((((sA (4 * i + 11) 6) - (((sA (4 * i + 11) 6) * ((fX_hundredthsOf sL sA (sA (4 * i + 11) 0)).2)) / 100)) - (fX_shareOf sL sA i)) - (sA (4 * i + 11) 10)) - (fX_interestOf sL sA i)) + (fX_shareOf sL sA i) : Int32).toInt64))) 0 8 ((sL 0 8) + (((((sA (4 * i + 11) 6) * ((fX_hundredthsOf sL sA (sA (4 * i + 11) 0)).2)) / 100) + (fX_interestOf sL sA i) : Int32).toInt64))), (up2 (up2 sA (4 * i + 11) 12 (fX_interestOf sL sA i)) (4 * i + 11) 4 4))) (0, sL, sA)) (0, sL, sA)) (0, sL, sA)
theorem hdyX_settle : yX_settle.cls ≠ "java/lang/invoke/MethodHandle" ∧ yX_settle.cls ≠ "java/lang/invoke/VarHandle" ∧ (parseMethodDescriptor yX_settle.desc).map (fun d => d.parameters.length) = some 1 := by decide +kernel
theorem dX_settle_0 : decode bX_settle 0 = .ok (.aload_n 0, 1) := by decide +kernel
theorem dX_settle_1 : decode bX_settle 1 = .ok (.iload_n 1, 1) := by decide +kernel
theorem dX_settle_2 : decode bX_settle 2 = .ok (.invokevirtual 54, 3) := by decide +kernel
theorem dX_settle_5 : decode bX_settle 5 = .ok (.astore_n 2, 1) := by decide +kernel
theorem dX_settle_6 : decode bX_settle 6 = .ok (.aload_n 2, 1) := by decide +kernel
theorem dX_settle_7 : decode bX_settle 7 = .ok (.iconst 3, 1) := by decide +kernel
theorem dX_settle_8 : decode bX_settle 8 = .ok (.invokestatic 61, 3) := by decide +kernel
theorem dX_settle_11 : decode bX_settle 11 = .ok (.aload_n 2, 1) := by decide +kernel
theorem dX_settle_12 : decode bX_settle 12 = .ok (.getfield 101, 3) := by decide +kernel
theorem dX_settle_15 : decode bX_settle 15 = .ok (.istore_n 3, 1) := by decide +kernel
theorem dX_settle_16 : decode bX_settle 16 = .ok (.iload_n 3, 1) := by decide +kernel
theorem dX_settle_17 : decode bX_settle 17 = .ok (.aload_n 0, 1) := by decide +kernel
theorem dX_settle_18 : decode bX_settle 18 = .ok (.aload_n 2, 1) := by decide +kernel
theorem dX_settle_19 : decode bX_settle 19 = .ok (.getfield 155, 3) := by decide +kernel
theorem dX_settle_22 : decode bX_settle 22 = .ok (.invokevirtual 158, 3) := by decide +kernel
theorem dX_settle_25 : decode bX_settle 25 = .ok (.imul, 1) := by decide +kernel
theorem dX_settle_26 : decode bX_settle 26 = .ok (.bipush 100, 2) := by decide +kernel
theorem dX_settle_28 : decode bX_settle 28 = .ok (.idiv, 1) := by decide +kernel
theorem dX_settle_29 : decode bX_settle 29 = .ok (.istore 4, 2) := by decide +kernel
theorem dX_settle_31 : decode bX_settle 31 = .ok (.aload_n 2, 1) := by decide +kernel
theorem dX_settle_32 : decode bX_settle 32 = .ok (.invokestatic 161, 3) := by decide +kernel
theorem dX_settle_35 : decode bX_settle 35 = .ok (.istore 5, 2) := by decide +kernel
theorem dX_settle_37 : decode bX_settle 37 = .ok (.aload_n 0, 1) := by decide +kernel
theorem dX_settle_38 : decode bX_settle 38 = .ok (.aload_n 2, 1) := by decide +kernel
theorem dX_settle_39 : decode bX_settle 39 = .ok (.invokevirtual 165, 3) := by decide +kernel
theorem dX_settle_42 : decode bX_settle 42 = .ok (.istore 6, 2) := by decide +kernel
theorem dX_settle_44 : decode bX_settle 44 = .ok (.iload_n 3, 1) := by decide +kernel
theorem dX_settle_45 : decode bX_settle 45 = .ok (.iload 4, 2) := by decide +kernel
theorem dX_settle_47 : decode bX_settle 47 = .ok (.isub, 1) := by decide +kernel
theorem dX_settle_48 : decode bX_settle 48 = .ok (.iload 5, 2) := by decide +kernel
theorem dX_settle_50 : decode bX_settle 50 = .ok (.isub, 1) := by decide +kernel
theorem dX_settle_51 : decode bX_settle 51 = .ok (.aload_n 2, 1) := by decide +kernel
theorem dX_settle_52 : decode bX_settle 52 = .ok (.getfield 144, 3) := by decide +kernel
theorem dX_settle_55 : decode bX_settle 55 = .ok (.isub, 1) := by decide +kernel
theorem dX_settle_56 : decode bX_settle 56 = .ok (.iload 6, 2) := by decide +kernel
theorem dX_settle_58 : decode bX_settle 58 = .ok (.isub, 1) := by decide +kernel
theorem dX_settle_59 : decode bX_settle 59 = .ok (.istore 7, 2) := by decide +kernel
theorem dX_settle_61 : decode bX_settle 61 = .ok (.aload_n 0, 1) := by decide +kernel
theorem dX_settle_62 : decode bX_settle 62 = .ok (.dup, 1) := by decide +kernel
theorem dX_settle_63 : decode bX_settle 63 = .ok (.getfield 152, 3) := by decide +kernel
theorem dX_settle_66 : decode bX_settle 66 = .ok (.iload 7, 2) := by decide +kernel
theorem dX_settle_68 : decode bX_settle 68 = .ok (.iload 5, 2) := by decide +kernel
theorem dX_settle_70 : decode bX_settle 70 = .ok (.iadd, 1) := by decide +kernel
theorem dX_settle_71 : decode bX_settle 71 = .ok (.i2l, 1) := by decide +kernel
theorem dX_settle_72 : decode bX_settle 72 = .ok (.ladd, 1) := by decide +kernel
theorem dX_settle_73 : decode bX_settle 73 = .ok (.putfield 152, 3) := by decide +kernel
theorem dX_settle_76 : decode bX_settle 76 = .ok (.aload_n 0, 1) := by decide +kernel
theorem dX_settle_77 : decode bX_settle 77 = .ok (.dup, 1) := by decide +kernel
theorem dX_settle_78 : decode bX_settle 78 = .ok (.getfield 123, 3) := by decide +kernel
theorem dX_settle_81 : decode bX_settle 81 = .ok (.iload 4, 2) := by decide +kernel
theorem dX_settle_83 : decode bX_settle 83 = .ok (.iload 6, 2) := by decide +kernel
theorem dX_settle_85 : decode bX_settle 85 = .ok (.iadd, 1) := by decide +kernel
theorem dX_settle_86 : decode bX_settle 86 = .ok (.i2l, 1) := by decide +kernel
theorem dX_settle_87 : decode bX_settle 87 = .ok (.ladd, 1) := by decide +kernel
theorem dX_settle_88 : decode bX_settle 88 = .ok (.putfield 123, 3) := by decide +kernel
theorem dX_settle_91 : decode bX_settle 91 = .ok (.aload_n 2, 1) := by decide +kernel
theorem dX_settle_92 : decode bX_settle 92 = .ok (.iload 6, 2) := by decide +kernel
theorem dX_settle_94 : decode bX_settle 94 = .ok (.putfield 168, 3) := by decide +kernel
theorem dX_settle_97 : decode bX_settle 97 = .ok (.aload_n 2, 1) := by decide +kernel
theorem dX_settle_98 : decode bX_settle 98 = .ok (.iconst 4, 1) := by decide +kernel
theorem dX_settle_99 : decode bX_settle 99 = .ok (.putfield 85, 3) := by decide +kernel
theorem dX_settle_102 : decode bX_settle 102 = .ok (.iload 7, 2) := by decide +kernel
theorem dX_settle_104 : decode bX_settle 104 = .ok (.ireturn, 1) := by decide +kernel
set_option maxHeartbeats 4000000 in
set_option maxRecDepth 100000 in
theorem cX_settle (l : Launch) (hl9 : l.stackTraces = false) (D : va_G) (tI tJ tL : ClassId) (A : Nat → Prop) (sg ad : Nat → Nat) (n : Nat) (sL : NL) (sA : NA) (p0 : Int32) : vx_Met l yX_settle (Cond.code yX_settle bX_settle 8 (some FieldType.int) :: wNeed) { frames := 8, cells := 3, slots := 18, locals := 131 } (va_Pc [.ref (ad 0), .int p0] (GP D tI tJ tL A sg ad n sL sA)) (va_Qi (fun r (u : NL × NA) => fX_settle n sL sA p0 = (0, r, u.1, u.2)) (fun u t => GW D tI tJ tL A ad n u.1 u.2 t.heap) A) (XQ D tI tJ tL A ad n sL sA (fX_settle n sL sA p0).1) 3 18 A := by
  refine en_XG (av := [.ref (ad 0), .int p0]) (by decide) (Nat.le_of_ble_eq_true rfl) ?_
  intro p e s m below meth c hx hb hml hown hts hr hlocks hT hC H locs hG hS ls hl
  replace hl : lv_has ls 8 [(0, .ref (ad 0)), (1, .int p0)] := hl
  refine lv_aload_n hx hb dX_settle_0 rfl (lv_at hl 0 rfl) ?_
  refine lv_iload_n hx hb dX_settle_1 rfl (lv_at hl 1 rfl) ?_
  refine rcV5q (rest := []) (As := [.int p0]) (p0 := p0) (Mc := 3) (Ms := 18) hx hb hml hown hts hC hG hS hlocks hT (cX_findLot l hl9 D tI tJ tL A sg ad n sL sA p0) (recX hC hG) (gV q_288 q_290 q_p1 q_1 q_291) rfl rfl ⟨rfl, hdyX_findLot⟩ ⟨Nat.le_of_ble_eq_true rfl, Nat.le_of_ble_eq_true rfl⟩ hl.1 rfl (Nat.le_of_ble_eq_true rfl) dX_settle_2 ⟨Nat.le_of_ble_eq_true rfl, Nat.le_of_ble_eq_true rfl⟩ ⟨Nat.le_of_ble_eq_true rfl, Nat.le_of_ble_eq_true rfl⟩ (fun h => by rw [fX_settle, bndq_n h] <;> rfl) (fun i h_1 hi hp H locs hG hS => ?_)
  subst hp
  refine lv_astore_n (lv' := [(2, .ref (ad (4 * i + 11))), (0, .ref (ad 0)), (1, .int (nI i))]) hx hb dX_settle_5 rfl hl (by decide) rfl (fun ls hl => ?_)
  refine lv_aload_n hx hb dX_settle_6 rfl (lv_at hl 0 rfl) ?_
  refine lv_iconst (v := 3) hx hb dX_settle_7 (by decide) ?_
  refine rcS4 (rest := []) (As := [.ref (ad (4 * i + 11)), .int 3]) (Mc := 3) (Ms := 18) hx hb hml hown hts hC hG hS hlocks hT (cX_checkState l hl9 D tI tJ tL A sg ad n sL sA i hi 3) (gS q_297 q_298 q_1 q_299) rfl rfl ⟨rfl, hdyX_checkState⟩ ⟨Nat.le_of_ble_eq_true rfl, Nat.le_of_ble_eq_true rfl⟩ hl.1 rfl (Nat.le_of_ble_eq_true rfl) dX_settle_8 ⟨Nat.le_of_ble_eq_true rfl, Nat.le_of_ble_eq_true rfl⟩ ⟨Nat.le_of_ble_eq_true rfl, Nat.le_of_ble_eq_true rfl⟩ (fun h => by rw [fX_settle, bndq_s h_1, bnd_n h] <;> rfl) (fun h_2 H locs hG hS => ?_)
  refine lv_aload_n hx hb dX_settle_11 rfl (lv_at hl 0 rfl) ?_
  refine rl_getN (v := .int (sA (4 * i + 11) 6)) hx hb hts hown hC hG 6 hi (by decide) z_248 (rfl) dX_settle_12 ?_
  refine lv_istore_n (lv' := [(3, .int (sA (4 * i + 11) 6)), (2, .ref (ad (4 * i + 11))), (0, .ref (ad 0)), (1, .int (nI i))]) hx hb dX_settle_15 rfl hl (by decide) rfl (fun ls hl => ?_)
  refine lv_iload_n hx hb dX_settle_16 rfl (lv_at hl 0 rfl) ?_
  refine lv_aload_n hx hb dX_settle_17 rfl (lv_at hl 2 rfl) ?_
  refine lv_aload_n hx hb dX_settle_18 rfl (lv_at hl 1 rfl) ?_
  refine rl_getN (v := .int (sA (4 * i + 11) 0)) hx hb hts hown hC hG 0 hi (by decide) z_236 (rfl) dX_settle_19 ?_
  refine rcV5r (rest := [.int (sA (4 * i + 11) 6)]) (As := [.int (sA (4 * i + 11) 0)]) (Mc := 3) (Ms := 18) hx hb hml hown hts hC hG hS hlocks hT (cX_hundredthsOf l hl9 D tI tJ tL A sg ad n sL sA (sA (4 * i + 11) 0)) (recX hC hG) (gV q_386 q_388 q_p5 q_1 q_389) rfl rfl ⟨rfl, hdyX_hundredthsOf⟩ ⟨Nat.le_of_ble_eq_true rfl, Nat.le_of_ble_eq_true rfl⟩ hl.1 rfl (Nat.le_of_ble_eq_true rfl) dX_settle_22 ⟨Nat.le_of_ble_eq_true rfl, Nat.le_of_ble_eq_true rfl⟩ ⟨Nat.le_of_ble_eq_true rfl, Nat.le_of_ble_eq_true rfl⟩ (fun h => by rw [fX_settle, bndq_s h_1, bnd_0 h_2, bnd_n h] <;> rfl) (fun h_3 H locs hG hS => ?_)
  refine lv_imul hx hb dX_settle_25 ?_
  refine lv_bipush (v := 100) hx hb dX_settle_26 (by decide) ?_
  refine lv_idiv hx hb dX_settle_28 (by decide) ?_
  refine lv_istore (lv' := [(4, .int (((sA (4 * i + 11) 6) * ((fX_hundredthsOf sL sA (sA (4 * i + 11) 0)).2)) / 100)), (3, .int (sA (4 * i + 11) 6)), (2, .ref (ad (4 * i + 11))), (0, .ref (ad 0)), (1, .int (nI i))]) hx hb dX_settle_29 hl (by decide) rfl (fun ls hl => ?_)
  refine lv_aload_n hx hb dX_settle_31 rfl (lv_at hl 2 rfl) ?_
  refine rcS2 (rest := []) (As := [.ref (ad (4 * i + 11))]) hx hb hml hown hts hC hG hS (cX_shareOf l D tI tJ tL A sg ad n sL sA i hi) (gS q_390 q_391 q_1 q_392) rfl rfl ⟨rfl, hdyX_shareOf⟩ ⟨Nat.le_of_ble_eq_true rfl, Nat.le_of_ble_eq_true rfl⟩ hl.1 rfl (Nat.le_of_ble_eq_true rfl) dX_settle_32 ⟨Nat.le_of_ble_eq_true rfl, Nat.le_of_ble_eq_true rfl⟩ ?_
  refine lv_istore (lv' := [(5, .int (fX_shareOf sL sA i)), (4, .int (((sA (4 * i + 11) 6) * ((fX_hundredthsOf sL sA (sA (4 * i + 11) 0)).2)) / 100)), (3, .int (sA (4 * i + 11) 6)), (2, .ref (ad (4 * i + 11))), (0, .ref (ad 0)), (1, .int (nI i))]) hx hb dX_settle_35 hl (by decide) rfl (fun ls hl => ?_)
  refine lv_aload_n hx hb dX_settle_37 rfl (lv_at hl 4 rfl) ?_
  refine lv_aload_n hx hb dX_settle_38 rfl (lv_at hl 3 rfl) ?_
  refine rcV2 (rest := []) (As := [.ref (ad (4 * i + 11))]) hx hb hml hown hts hC hG hS (cX_interestOf l D tI tJ tL A sg ad n sL sA i hi) (recX hC hG) (gV q_397 q_399 q_p6 q_1 q_400) rfl rfl ⟨rfl, hdyX_interestOf⟩ ⟨Nat.le_of_ble_eq_true rfl, Nat.le_of_ble_eq_true rfl⟩ hl.1 rfl (Nat.le_of_ble_eq_true rfl) dX_settle_39 ⟨Nat.le_of_ble_eq_true rfl, Nat.le_of_ble_eq_true rfl⟩ ?_
  refine lv_istore (lv' := [(6, .int (fX_interestOf sL sA i)), (5, .int (fX_shareOf sL sA i)), (4, .int (((sA (4 * i + 11) 6) * ((fX_hundredthsOf sL sA (sA (4 * i + 11) 0)).2)) / 100)), (3, .int (sA (4 * i + 11) 6)), (2, .ref (ad (4 * i + 11))), (0, .ref (ad 0)), (1, .int (nI i))]) hx hb dX_settle_42 hl (by decide) rfl (fun ls hl => ?_)
  refine lv_iload_n hx hb dX_settle_44 rfl (lv_at hl 3 rfl) ?_
  refine lv_iload hx hb dX_settle_45 (lv_at hl 2 rfl) ?_
  refine lv_isub hx hb dX_settle_47 ?_
  refine lv_iload hx hb dX_settle_48 (lv_at hl 1 rfl) ?_
  refine lv_isub hx hb dX_settle_50 ?_
  refine lv_aload_n hx hb dX_settle_51 rfl (lv_at hl 4 rfl) ?_
  refine rl_getN (v := .int (sA (4 * i + 11) 10)) hx hb hts hown hC hG 10 hi (by decide) z_254 (rfl) dX_settle_52 ?_
  refine lv_isub hx hb dX_settle_55 ?_
  refine lv_iload hx hb dX_settle_56 (lv_at hl 0 rfl) ?_
  refine lv_isub hx hb dX_settle_58 ?_
  refine lv_istore (lv' := [(7, .int (((((sA (4 * i + 11) 6) - (((sA (4 * i + 11) 6) * ((fX_hundredthsOf sL sA (sA (4 * i + 11) 0)).2)) / 100)) - (fX_shareOf sL sA i)) - (sA (4 * i + 11) 10)) - (fX_interestOf sL sA i))), (6, .int (fX_interestOf sL sA i)), (5, .int (fX_shareOf sL sA i)), (4, .int (((sA (4 * i + 11) 6) * ((fX_hundredthsOf sL sA (sA (4 * i + 11) 0)).2)) / 100)), (3, .int (sA (4 * i + 11) 6)), (2, .ref (ad (4 * i + 11))), (0, .ref (ad 0)), (1, .int (nI i))]) hx hb dX_settle_59 hl (by decide) rfl (fun ls hl => ?_)
  refine lv_aload_n hx hb dX_settle_61 rfl (lv_at hl 6 rfl) ?_
  refine lv_dup hx hb dX_settle_62 rfl ?_
  refine rx_get (v := .long (sL 0 7)) hx hb hts hown hC hG 7 (by decide) q_28 (rfl) dX_settle_63 ?_
  refine lv_iload hx hb dX_settle_66 (lv_at hl 0 rfl) ?_
  refine lv_iload hx hb dX_settle_68 (lv_at hl 2 rfl) ?_
  refine lv_iadd hx hb dX_settle_70 ?_
  refine lv_i2l (v := ((((((sA (4 * i + 11) 6) - (((sA (4 * i + 11) 6) * ((fX_hundredthsOf sL sA (sA (4 * i + 11) 0)).2)) / 100)) - (fX_shareOf sL sA i)) - (sA (4 * i + 11) 10)) - (fX_interestOf sL sA i)) + (fX_shareOf sL sA i) : Int32).toInt64) hx hb dX_settle_71 rfl ?_
  refine lv_ladd hx hb dX_settle_72 ?_
  refine rx_putl hx hb hts hown hC hG hS 7 (by decide) q_28 dX_settle_73 (fun H locs hG hS => ?_)
  refine lv_aload_n hx hb dX_settle_76 rfl (lv_at hl 6 rfl) ?_
  refine lv_dup hx hb dX_settle_77 rfl ?_
  refine rx_get (v := .long (sL 0 8)) hx hb hts hown hC hG 8 (by decide) q_29 (by simp [xfs, up2, upd, up2L, vp_updL]) dX_settle_78 ?_
  refine lv_iload hx hb dX_settle_81 (lv_at hl 3 rfl) ?_
  refine lv_iload hx hb dX_settle_83 (lv_at hl 1 rfl) ?_
  refine lv_iadd hx hb dX_settle_85 ?_
  refine lv_i2l (v := ((((sA (4 * i + 11) 6) * ((fX_hundredthsOf sL sA (sA (4 * i + 11) 0)).2)) / 100) + (fX_interestOf sL sA i) : Int32).toInt64) hx hb dX_settle_86 rfl ?_
  refine lv_ladd hx hb dX_settle_87 ?_
  refine rx_putl hx hb hts hown hC hG hS 8 (by decide) q_29 dX_settle_88 (fun H locs hG hS => ?_)
  refine lv_aload_n hx hb dX_settle_91 rfl (lv_at hl 5 rfl) ?_
  refine lv_iload hx hb dX_settle_92 (lv_at hl 1 rfl) ?_
  refine rl_putN hx hb hts hown hC hG hS 12 hi (by decide) (by decide) z_256 dX_settle_94 (fun H locs hG hS => ?_)
  refine lv_aload_n hx hb dX_settle_97 rfl (lv_at hl 5 rfl) ?_
  refine lv_iconst (v := 4) hx hb dX_settle_98 (by decide) ?_
  refine rl_putN hx hb hts hown hC hG hS 4 hi (by decide) (by decide) z_244 dX_settle_99 (fun H locs hG hS => ?_)
  refine lv_iload hx hb dX_settle_102 (lv_at hl 0 rfl) ?_
  refine vx_ret ?_
  refine W.widen (k := 3) (n := 18) (Nat.le_of_ble_eq_true rfl) (Nat.le_of_ble_eq_true rfl) ?_
  exact W.iret (v := ((((sA (4 * i + 11) 6) - (((sA (4 * i + 11) 6) * ((fX_hundredthsOf sL sA (sA (4 * i + 11) 0)).2)) / 100)) - (fX_shareOf sL sA i)) - (sA (4 * i + 11) 10)) - (fX_interestOf sL sA i)) hx hb hr (fun t ht hW => ⟨⟨(((((sA (4 * i + 11) 6) - (((sA (4 * i + 11) 6) * ((fX_hundredthsOf sL sA (sA (4 * i + 11) 0)).2)) / 100)) - (fX_shareOf sL sA i)) - (sA (4 * i + 11) 10)) - (fX_interestOf sL sA i)), ((up2L (up2L sL 0 7 ((sL 0 7) + (((((((sA (4 * i + 11) 6) - (((sA (4 * i + 11) 6) * ((fX_hundredthsOf sL sA (sA (4 * i + 11) 0)).2)) / 100)) - (fX_shareOf sL sA i)) - (sA (4 * i + 11) 10)) - (fX_interestOf sL sA i)) + (fX_shareOf sL sA i) : Int32).toInt64))) 0 8 ((sL 0 8) + (((((sA (4 * i + 11) 6) * ((fX_hundredthsOf sL sA (sA (4 * i + 11) 0)).2)) / 100) + (fX_interestOf sL sA i) : Int32).toInt64))), (up2 (up2 sA (4 * i + 11) 12 (fX_interestOf sL sA i)) (4 * i + 11) 4 4)), rfl, (by rw [fX_settle, bndq_s h_1, bnd_0 h_2, bnd_0 h_3] <;> rfl), gw_at hG ht⟩, hS.F ht⟩) hS.2.2 dX_settle_104
def fX_commission (sL : NL) (sA : NA) (p0 : Int32) (p1 : Int32) : Nat × Int32 × NL × NA := bnd (fX_checkSeller p0) (bnd (fX_checkRange p1 0 50) ((0, sA 2 p0.toNatClampNeg, sL, (up2 sA 2 p0.toNatClampNeg p1))) (0, sL, sA)) (0, sL, sA)
theorem hdyX_commission : yX_commission.cls ≠ "java/lang/invoke/MethodHandle" ∧ yX_commission.cls ≠ "java/lang/invoke/VarHandle" ∧ (parseMethodDescriptor yX_commission.desc).map (fun d => d.parameters.length) = some 2 := by decide +kernel
theorem dX_commission_0 : decode bX_commission 0 = .ok (.iload_n 1, 1) := by decide +kernel
theorem dX_commission_1 : decode bX_commission 1 = .ok (.invokestatic 26, 3) := by decide +kernel
theorem dX_commission_4 : decode bX_commission 4 = .ok (.iload_n 2, 1) := by decide +kernel
theorem dX_commission_5 : decode bX_commission 5 = .ok (.iconst 0, 1) := by decide +kernel
theorem dX_commission_6 : decode bX_commission 6 = .ok (.bipush 50, 2) := by decide +kernel
theorem dX_commission_8 : decode bX_commission 8 = .ok (.invokestatic 31, 3) := by decide +kernel
theorem dX_commission_11 : decode bX_commission 11 = .ok (.aload_n 0, 1) := by decide +kernel
theorem dX_commission_12 : decode bX_commission 12 = .ok (.getfield 15, 3) := by decide +kernel
theorem dX_commission_15 : decode bX_commission 15 = .ok (.iload_n 1, 1) := by decide +kernel
theorem dX_commission_16 : decode bX_commission 16 = .ok (.iaload, 1) := by decide +kernel
theorem dX_commission_17 : decode bX_commission 17 = .ok (.istore_n 3, 1) := by decide +kernel
theorem dX_commission_18 : decode bX_commission 18 = .ok (.aload_n 0, 1) := by decide +kernel
theorem dX_commission_19 : decode bX_commission 19 = .ok (.getfield 15, 3) := by decide +kernel
theorem dX_commission_22 : decode bX_commission 22 = .ok (.iload_n 1, 1) := by decide +kernel
theorem dX_commission_23 : decode bX_commission 23 = .ok (.iload_n 2, 1) := by decide +kernel
theorem dX_commission_24 : decode bX_commission 24 = .ok (.iastore, 1) := by decide +kernel
theorem dX_commission_25 : decode bX_commission 25 = .ok (.iload_n 3, 1) := by decide +kernel
theorem dX_commission_26 : decode bX_commission 26 = .ok (.ireturn, 1) := by decide +kernel
set_option maxHeartbeats 4000000 in
set_option maxRecDepth 100000 in
theorem cX_commission (l : Launch) (hl9 : l.stackTraces = false) (D : va_G) (tI tJ tL : ClassId) (A : Nat → Prop) (sg ad : Nat → Nat) (n : Nat) (sL : NL) (sA : NA) (p0 : Int32) (p1 : Int32) : vx_Met l yX_commission (Cond.code yX_commission bX_commission 4 (some FieldType.int) :: wNeed) { frames := 7, cells := 2, slots := 12, locals := 112 } (va_Pc [.ref (ad 0), .int p0, .int p1] (GP D tI tJ tL A sg ad n sL sA)) (va_Qi (fun r (u : NL × NA) => fX_commission sL sA p0 p1 = (0, r, u.1, u.2)) (fun u t => GW D tI tJ tL A ad n u.1 u.2 t.heap) A) (XQ D tI tJ tL A ad n sL sA (fX_commission sL sA p0 p1).1) 2 12 A := by
  refine en_XG (av := [.ref (ad 0), .int p0, .int p1]) (by decide) (Nat.le_of_ble_eq_true rfl) ?_
  intro p e s m below meth c hx hb hml hown hts hr hlocks hT hC H locs hG hS ls hl
  replace hl : lv_has ls 4 [(0, .ref (ad 0)), (1, .int p0), (2, .int p1)] := hl
  refine lv_iload_n hx hb dX_commission_0 rfl (lv_at hl 1 rfl) ?_
  refine rcS4 (rest := []) (As := [.int p0]) (Mc := 2) (Ms := 12) hx hb hml hown hts hC hG hS hlocks hT (cX_checkSeller l hl9 D tI tJ tL A sg ad n sL sA p0) (gS q_54 q_55 q_1 q_56) rfl rfl ⟨rfl, hdyX_checkSeller⟩ ⟨Nat.le_of_ble_eq_true rfl, Nat.le_of_ble_eq_true rfl⟩ hl.1 rfl (Nat.le_of_ble_eq_true rfl) dX_commission_1 ⟨Nat.le_of_ble_eq_true rfl, Nat.le_of_ble_eq_true rfl⟩ ⟨Nat.le_of_ble_eq_true rfl, Nat.le_of_ble_eq_true rfl⟩ (fun h => by rw [fX_commission, bnd_n h] <;> rfl) (fun h_1 H locs hG hS => ?_)
  refine lv_iload_n hx hb dX_commission_4 rfl (lv_at hl 2 rfl) ?_
  refine lv_iconst (v := 0) hx hb dX_commission_5 (by decide) ?_
  refine lv_bipush (v := 50) hx hb dX_commission_6 (by decide) ?_
  refine rcS4 (rest := []) (As := [.int p1, .int 0, .int 50]) (Mc := 2) (Ms := 12) hx hb hml hown hts hC hG hS hlocks hT (cX_checkRange l hl9 D tI tJ tL A sg ad n sL sA p1 0 50) (gS q_125 q_126 q_1 q_127) rfl rfl ⟨rfl, hdyX_checkRange⟩ ⟨Nat.le_of_ble_eq_true rfl, Nat.le_of_ble_eq_true rfl⟩ hl.1 rfl (Nat.le_of_ble_eq_true rfl) dX_commission_8 ⟨Nat.le_of_ble_eq_true rfl, Nat.le_of_ble_eq_true rfl⟩ ⟨Nat.le_of_ble_eq_true rfl, Nat.le_of_ble_eq_true rfl⟩ (fun h => by rw [fX_commission, bnd_0 h_1, bnd_n h] <;> rfl) (fun h_2 H locs hG hS => ?_)
  refine lv_aload_n hx hb dX_commission_11 rfl (lv_at hl 0 rfl) ?_
  refine rx_get (v := .ref (ad 2)) hx hb hts hown hC hG 1 (by decide) q_22 (rfl) dX_commission_12 ?_
  refine lv_iload_n hx hb dX_commission_15 rfl (lv_at hl 1 rfl) ?_
  refine ra_ld hx hb hC hG 2 6 (by omega) (fun _ _ => rfl) (vin_seller h_1) dX_commission_16 ?_
  refine lv_istore_n (lv' := [(3, .int (sA 2 p0.toNatClampNeg)), (0, .ref (ad 0)), (1, .int p0), (2, .int p1)]) hx hb dX_commission_17 rfl hl (by decide) rfl (fun ls hl => ?_)
  refine lv_aload_n hx hb dX_commission_18 rfl (lv_at hl 1 rfl) ?_
  refine rx_get (v := .ref (ad 2)) hx hb hts hown hC hG 1 (by decide) q_22 (rfl) dX_commission_19 ?_
  refine lv_iload_n hx hb dX_commission_22 rfl (lv_at hl 2 rfl) ?_
  refine lv_iload_n hx hb dX_commission_23 rfl (lv_at hl 3 rfl) ?_
  refine ra_st hx hb hC hG hS 2 6 (by omega) (fun _ _ => rfl) (vin_seller h_1) dX_commission_24 (fun H locs hG hS => ?_)
  refine lv_iload_n hx hb dX_commission_25 rfl (lv_at hl 0 rfl) ?_
  refine vx_ret ?_
  refine W.widen (k := 2) (n := 12) (Nat.le_of_ble_eq_true rfl) (Nat.le_of_ble_eq_true rfl) ?_
  exact W.iret (v := sA 2 p0.toNatClampNeg) hx hb hr (fun t ht hW => ⟨⟨(sA 2 p0.toNatClampNeg), (sL, (up2 sA 2 p0.toNatClampNeg p1)), rfl, (by rw [fX_commission, bnd_0 h_1, bnd_0 h_2] <;> rfl), gw_at hG ht⟩, hS.F ht⟩) hS.2.2 dX_commission_26
def fX_rate (sL : NL) (sA : NA) (p0 : Int32) : Nat × Int32 × NL × NA := bnd (fX_checkRange p0 0 100) ((0, sA 0 5, sL, (up2 sA 0 5 p0))) (0, sL, sA)
theorem hdyX_rate : yX_rate.cls ≠ "java/lang/invoke/MethodHandle" ∧ yX_rate.cls ≠ "java/lang/invoke/VarHandle" ∧ (parseMethodDescriptor yX_rate.desc).map (fun d => d.parameters.length) = some 1 := by decide +kernel
theorem dX_rate_0 : decode bX_rate 0 = .ok (.iload_n 1, 1) := by decide +kernel
theorem dX_rate_1 : decode bX_rate 1 = .ok (.iconst 0, 1) := by decide +kernel
theorem dX_rate_2 : decode bX_rate 2 = .ok (.bipush 100, 2) := by decide +kernel
theorem dX_rate_4 : decode bX_rate 4 = .ok (.invokestatic 31, 3) := by decide +kernel
theorem dX_rate_7 : decode bX_rate 7 = .ok (.aload_n 0, 1) := by decide +kernel
theorem dX_rate_8 : decode bX_rate 8 = .ok (.getfield 22, 3) := by decide +kernel
theorem dX_rate_11 : decode bX_rate 11 = .ok (.istore_n 2, 1) := by decide +kernel
theorem dX_rate_12 : decode bX_rate 12 = .ok (.aload_n 0, 1) := by decide +kernel
theorem dX_rate_13 : decode bX_rate 13 = .ok (.iload_n 1, 1) := by decide +kernel
theorem dX_rate_14 : decode bX_rate 14 = .ok (.putfield 22, 3) := by decide +kernel
theorem dX_rate_17 : decode bX_rate 17 = .ok (.iload_n 2, 1) := by decide +kernel
theorem dX_rate_18 : decode bX_rate 18 = .ok (.ireturn, 1) := by decide +kernel
set_option maxHeartbeats 4000000 in
set_option maxRecDepth 100000 in
theorem cX_rate (l : Launch) (hl9 : l.stackTraces = false) (D : va_G) (tI tJ tL : ClassId) (A : Nat → Prop) (sg ad : Nat → Nat) (n : Nat) (sL : NL) (sA : NA) (p0 : Int32) : vx_Met l yX_rate (Cond.code yX_rate bX_rate 3 (some FieldType.int) :: wNeed) { frames := 7, cells := 1, slots := 6, locals := 112 } (va_Pc [.ref (ad 0), .int p0] (GP D tI tJ tL A sg ad n sL sA)) (va_Qi (fun r (u : NL × NA) => fX_rate sL sA p0 = (0, r, u.1, u.2)) (fun u t => GW D tI tJ tL A ad n u.1 u.2 t.heap) A) (XQ D tI tJ tL A ad n sL sA (fX_rate sL sA p0).1) 1 6 A := by
  refine en_XG (av := [.ref (ad 0), .int p0]) (by decide) (Nat.le_of_ble_eq_true rfl) ?_
  intro p e s m below meth c hx hb hml hown hts hr hlocks hT hC H locs hG hS ls hl
  replace hl : lv_has ls 3 [(0, .ref (ad 0)), (1, .int p0)] := hl
  refine lv_iload_n hx hb dX_rate_0 rfl (lv_at hl 1 rfl) ?_
  refine lv_iconst (v := 0) hx hb dX_rate_1 (by decide) ?_
  refine lv_bipush (v := 100) hx hb dX_rate_2 (by decide) ?_
  refine rcS4 (rest := []) (As := [.int p0, .int 0, .int 100]) (Mc := 1) (Ms := 6) hx hb hml hown hts hC hG hS hlocks hT (cX_checkRange l hl9 D tI tJ tL A sg ad n sL sA p0 0 100) (gS q_125 q_126 q_1 q_127) rfl rfl ⟨rfl, hdyX_checkRange⟩ ⟨Nat.le_of_ble_eq_true rfl, Nat.le_of_ble_eq_true rfl⟩ hl.1 rfl (Nat.le_of_ble_eq_true rfl) dX_rate_4 ⟨Nat.le_of_ble_eq_true rfl, Nat.le_of_ble_eq_true rfl⟩ ⟨Nat.le_of_ble_eq_true rfl, Nat.le_of_ble_eq_true rfl⟩ (fun h => by rw [fX_rate, bnd_n h] <;> rfl) (fun h_1 H locs hG hS => ?_)
  refine lv_aload_n hx hb dX_rate_7 rfl (lv_at hl 0 rfl) ?_
  refine rx_get (v := .int (sA 0 5)) hx hb hts hown hC hG 5 (by decide) q_26 (rfl) dX_rate_8 ?_
  refine lv_istore_n (lv' := [(2, .int (sA 0 5)), (0, .ref (ad 0)), (1, .int p0)]) hx hb dX_rate_11 rfl hl (by decide) rfl (fun ls hl => ?_)
  refine lv_aload_n hx hb dX_rate_12 rfl (lv_at hl 1 rfl) ?_
  refine lv_iload_n hx hb dX_rate_13 rfl (lv_at hl 2 rfl) ?_
  refine rx_puti hx hb hts hown hC hG hS 5 (by decide) q_26 dX_rate_14 (fun H locs hG hS => ?_)
  refine lv_iload_n hx hb dX_rate_17 rfl (lv_at hl 0 rfl) ?_
  refine vx_ret ?_
  refine W.widen (k := 1) (n := 6) (Nat.le_of_ble_eq_true rfl) (Nat.le_of_ble_eq_true rfl) ?_
  exact W.iret (v := sA 0 5) hx hb hr (fun t ht hW => ⟨⟨(sA 0 5), (sL, (up2 sA 0 5 p0)), rfl, (by rw [fX_rate, bnd_0 h_1] <;> rfl), gw_at hG ht⟩, hS.F ht⟩) hS.2.2 dX_rate_18
def fX_days (sL : NL) (sA : NA) (p0 : Int32) : Nat × Int32 × NL × NA := bnd (fX_checkRange p0 1 200) (if ((sA 0 4) + p0) ≤ 7300 then (0, (sA 0 4) + p0, sL, (up2 sA 0 4 ((sA 0 4) + p0))) else (3, 0, sL, sA)) (0, sL, sA)
theorem hdyX_days : yX_days.cls ≠ "java/lang/invoke/MethodHandle" ∧ yX_days.cls ≠ "java/lang/invoke/VarHandle" ∧ (parseMethodDescriptor yX_days.desc).map (fun d => d.parameters.length) = some 1 := by decide +kernel
theorem dX_days_0 : decode bX_days 0 = .ok (.iload_n 1, 1) := by decide +kernel
theorem dX_days_1 : decode bX_days 1 = .ok (.iconst 1, 1) := by decide +kernel
theorem dX_days_2 : decode bX_days 2 = .ok (.sipush 200, 3) := by decide +kernel
theorem dX_days_5 : decode bX_days 5 = .ok (.invokestatic 31, 3) := by decide +kernel
theorem dX_days_8 : decode bX_days 8 = .ok (.aload_n 0, 1) := by decide +kernel
theorem dX_days_9 : decode bX_days 9 = .ok (.getfield 104, 3) := by decide +kernel
theorem dX_days_12 : decode bX_days 12 = .ok (.iload_n 1, 1) := by decide +kernel
theorem dX_days_13 : decode bX_days 13 = .ok (.iadd, 1) := by decide +kernel
theorem dX_days_14 : decode bX_days 14 = .ok (.sipush 7300, 3) := by decide +kernel
theorem dX_days_17 : decode bX_days 17 = .ok (.if_icmp .le 13, 3) := by decide +kernel
theorem dX_days_20 : decode bX_days 20 = .ok (.new 41, 3) := by decide +kernel
theorem dX_days_23 : decode bX_days 23 = .ok (.dup, 1) := by decide +kernel
theorem dX_days_24 : decode bX_days 24 = .ok (.ldc 171, 2) := by decide +kernel
theorem dX_days_26 : decode bX_days 26 = .ok (.invokespecial 45, 3) := by decide +kernel
theorem dX_days_29 : decode bX_days 29 = .ok (.athrow, 1) := by decide +kernel
theorem dX_days_30 : decode bX_days 30 = .ok (.aload_n 0, 1) := by decide +kernel
theorem dX_days_31 : decode bX_days 31 = .ok (.dup, 1) := by decide +kernel
theorem dX_days_32 : decode bX_days 32 = .ok (.getfield 104, 3) := by decide +kernel
theorem dX_days_35 : decode bX_days 35 = .ok (.iload_n 1, 1) := by decide +kernel
theorem dX_days_36 : decode bX_days 36 = .ok (.iadd, 1) := by decide +kernel
theorem dX_days_37 : decode bX_days 37 = .ok (.putfield 104, 3) := by decide +kernel
theorem dX_days_40 : decode bX_days 40 = .ok (.aload_n 0, 1) := by decide +kernel
theorem dX_days_41 : decode bX_days 41 = .ok (.getfield 104, 3) := by decide +kernel
theorem dX_days_44 : decode bX_days 44 = .ok (.ireturn, 1) := by decide +kernel
set_option maxHeartbeats 4000000 in
set_option maxRecDepth 100000 in
theorem cX_days (l : Launch) (hl9 : l.stackTraces = false) (D : va_G) (tI tJ tL : ClassId) (A : Nat → Prop) (sg ad : Nat → Nat) (n : Nat) (sL : NL) (sA : NA) (p0 : Int32) : vx_Met l yX_days (Cond.code yX_days bX_days 2 (some FieldType.int) :: wNeed) { frames := 7, cells := 2, slots := 12, locals := 112 } (va_Pc [.ref (ad 0), .int p0] (GP D tI tJ tL A sg ad n sL sA)) (va_Qi (fun r (u : NL × NA) => fX_days sL sA p0 = (0, r, u.1, u.2)) (fun u t => GW D tI tJ tL A ad n u.1 u.2 t.heap) A) (XQ D tI tJ tL A ad n sL sA (fX_days sL sA p0).1) 2 12 A := by
  refine en_XG (av := [.ref (ad 0), .int p0]) (by decide) (Nat.le_of_ble_eq_true rfl) ?_
  intro p e s m below meth c hx hb hml hown hts hr hlocks hT hC H locs hG hS ls hl
  replace hl : lv_has ls 2 [(0, .ref (ad 0)), (1, .int p0)] := hl
  refine lv_iload_n hx hb dX_days_0 rfl (lv_at hl 1 rfl) ?_
  refine lv_iconst (v := 1) hx hb dX_days_1 (by decide) ?_
  refine lv_sipush (v := 200) hx hb dX_days_2 (by decide) ?_
  refine rcS4 (rest := []) (As := [.int p0, .int 1, .int 200]) (Mc := 2) (Ms := 12) hx hb hml hown hts hC hG hS hlocks hT (cX_checkRange l hl9 D tI tJ tL A sg ad n sL sA p0 1 200) (gS q_125 q_126 q_1 q_127) rfl rfl ⟨rfl, hdyX_checkRange⟩ ⟨Nat.le_of_ble_eq_true rfl, Nat.le_of_ble_eq_true rfl⟩ hl.1 rfl (Nat.le_of_ble_eq_true rfl) dX_days_5 ⟨Nat.le_of_ble_eq_true rfl, Nat.le_of_ble_eq_true rfl⟩ ⟨Nat.le_of_ble_eq_true rfl, Nat.le_of_ble_eq_true rfl⟩ (fun h => by rw [fX_days, bnd_n h] <;> rfl) (fun h_1 H locs hG hS => ?_)
  refine lv_aload_n hx hb dX_days_8 rfl (lv_at hl 0 rfl) ?_
  refine rx_get (v := .int (sA 0 4)) hx hb hts hown hC hG 4 (by decide) q_25 (rfl) dX_days_9 ?_
  refine lv_iload_n hx hb dX_days_12 rfl (lv_at hl 1 rfl) ?_
  refine lv_iadd hx hb dX_days_13 ?_
  refine lv_sipush (v := 7300) hx hb dX_days_14 (by decide) ?_
  refine lv_icmp_le (tgt := 30) hx hb dX_days_17 (by decide) (fun c_2 => ?_) (fun c_2 => ?_)
  · refine lv_aload_n hx hb dX_days_30 rfl (lv_at hl 0 rfl) ?_
    refine lv_dup hx hb dX_days_31 rfl ?_
    refine rx_get (v := .int (sA 0 4)) hx hb hts hown hC hG 4 (by decide) q_25 (rfl) dX_days_32 ?_
    refine lv_iload_n hx hb dX_days_35 rfl (lv_at hl 1 rfl) ?_
    refine lv_iadd hx hb dX_days_36 ?_
    refine rx_puti hx hb hts hown hC hG hS 4 (by decide) q_25 dX_days_37 (fun H locs hG hS => ?_)
    refine lv_aload_n hx hb dX_days_40 rfl (lv_at hl 0 rfl) ?_
    refine rx_get (v := .int ((sA 0 4) + p0)) hx hb hts hown hC hG 4 (by decide) q_25 (by simp [xfs, up2, upd, up2L, vp_updL]) dX_days_41 ?_
    refine vx_ret ?_
    refine W.widen (k := 2) (n := 12) (Nat.le_of_ble_eq_true rfl) (Nat.le_of_ble_eq_true rfl) ?_
    exact W.iret (v := (sA 0 4) + p0) hx hb hr (fun t ht hW => ⟨⟨((sA 0 4) + p0), (sL, (up2 sA 0 4 ((sA 0 4) + p0))), rfl, (by rw [fX_days, bnd_0 h_1, if_pos c_2] <;> rfl), gw_at hG ht⟩, hS.F ht⟩) hS.2.2 dX_days_44
  · exact rc_throw (text := "the last day would be behind") hx hb hts hown hC hG hS hl9 hlocks hT (Or.inr (Or.inr ⟨rfl, by rw [fX_days, bnd_0 h_1, if_neg c_2] <;> rfl⟩)) (by decide +kernel) q_190 q_8 (by decide) at_S (hl.1.trans hml.symm) dX_days_20 dX_days_23 dX_days_24 dX_days_26 dX_days_29 (Nat.le_of_ble_eq_true rfl) (Nat.le_of_ble_eq_true rfl) (Nat.le_of_ble_eq_true rfl) (Nat.le_of_ble_eq_true rfl) (Nat.le_of_ble_eq_true rfl) (Nat.le_of_ble_eq_true rfl)
def fX_state (n : Nat) (sL : NL) (sA : NA) (p0 : Int32) : Nat × Int32 × NL × NA := bndq (fX_findLot n p0) (fun i => (0, sA (4 * i + 11) 4, sL, sA)) (0, sL, sA)
theorem hdyX_state : yX_state.cls ≠ "java/lang/invoke/MethodHandle" ∧ yX_state.cls ≠ "java/lang/invoke/VarHandle" ∧ (parseMethodDescriptor yX_state.desc).map (fun d => d.parameters.length) = some 1 := by decide +kernel
theorem dX_state_0 : decode bX_state 0 = .ok (.aload_n 0, 1) := by decide +kernel
theorem dX_state_1 : decode bX_state 1 = .ok (.iload_n 1, 1) := by decide +kernel
theorem dX_state_2 : decode bX_state 2 = .ok (.invokevirtual 54, 3) := by decide +kernel
theorem dX_state_5 : decode bX_state 5 = .ok (.getfield 85, 3) := by decide +kernel
theorem dX_state_8 : decode bX_state 8 = .ok (.ireturn, 1) := by decide +kernel
set_option maxHeartbeats 4000000 in
set_option maxRecDepth 100000 in
theorem cX_state (l : Launch) (hl9 : l.stackTraces = false) (D : va_G) (tI tJ tL : ClassId) (A : Nat → Prop) (sg ad : Nat → Nat) (n : Nat) (sL : NL) (sA : NA) (p0 : Int32) : vx_Met l yX_state (Cond.code yX_state bX_state 2 (some FieldType.int) :: wNeed) { frames := 7, cells := 1, slots := 6, locals := 112 } (va_Pc [.ref (ad 0), .int p0] (GP D tI tJ tL A sg ad n sL sA)) (va_Qi (fun r (u : NL × NA) => fX_state n sL sA p0 = (0, r, u.1, u.2)) (fun u t => GW D tI tJ tL A ad n u.1 u.2 t.heap) A) (XQ D tI tJ tL A ad n sL sA (fX_state n sL sA p0).1) 1 6 A := by
  refine en_XG (av := [.ref (ad 0), .int p0]) (by decide) (Nat.le_of_ble_eq_true rfl) ?_
  intro p e s m below meth c hx hb hml hown hts hr hlocks hT hC H locs hG hS ls hl
  replace hl : lv_has ls 2 [(0, .ref (ad 0)), (1, .int p0)] := hl
  refine lv_aload_n hx hb dX_state_0 rfl (lv_at hl 0 rfl) ?_
  refine lv_iload_n hx hb dX_state_1 rfl (lv_at hl 1 rfl) ?_
  refine rcV5q (rest := []) (As := [.int p0]) (p0 := p0) (Mc := 1) (Ms := 6) hx hb hml hown hts hC hG hS hlocks hT (cX_findLot l hl9 D tI tJ tL A sg ad n sL sA p0) (recX hC hG) (gV q_288 q_290 q_p1 q_1 q_291) rfl rfl ⟨rfl, hdyX_findLot⟩ ⟨Nat.le_of_ble_eq_true rfl, Nat.le_of_ble_eq_true rfl⟩ hl.1 rfl (Nat.le_of_ble_eq_true rfl) dX_state_2 ⟨Nat.le_of_ble_eq_true rfl, Nat.le_of_ble_eq_true rfl⟩ ⟨Nat.le_of_ble_eq_true rfl, Nat.le_of_ble_eq_true rfl⟩ (fun h => by rw [fX_state, bndq_n h] <;> rfl) (fun i h_1 hi hp H locs hG hS => ?_)
  subst hp
  refine rl_getN (v := .int (sA (4 * i + 11) 4)) hx hb hts hown hC hG 4 hi (by decide) z_244 (rfl) dX_state_5 ?_
  refine vx_ret ?_
  refine W.widen (k := 1) (n := 6) (Nat.le_of_ble_eq_true rfl) (Nat.le_of_ble_eq_true rfl) ?_
  exact W.iret (v := sA (4 * i + 11) 4) hx hb hr (fun t ht hW => ⟨⟨(sA (4 * i + 11) 4), (sL, sA), rfl, (by rw [fX_state, bndq_s h_1] <;> rfl), gw_at hG ht⟩, hS.F ht⟩) hS.2.2 dX_state_8
def fX_buyerOf (n : Nat) (sL : NL) (sA : NA) (p0 : Int32) : Nat × Int32 × NL × NA := bndq (fX_findLot n p0) (fun i => (0, sA (4 * i + 11) 5, sL, sA)) (0, sL, sA)
theorem hdyX_buyerOf : yX_buyerOf.cls ≠ "java/lang/invoke/MethodHandle" ∧ yX_buyerOf.cls ≠ "java/lang/invoke/VarHandle" ∧ (parseMethodDescriptor yX_buyerOf.desc).map (fun d => d.parameters.length) = some 1 := by decide +kernel
theorem dX_buyerOf_0 : decode bX_buyerOf 0 = .ok (.aload_n 0, 1) := by decide +kernel
theorem dX_buyerOf_1 : decode bX_buyerOf 1 = .ok (.iload_n 1, 1) := by decide +kernel
theorem dX_buyerOf_2 : decode bX_buyerOf 2 = .ok (.invokevirtual 54, 3) := by decide +kernel
theorem dX_buyerOf_5 : decode bX_buyerOf 5 = .ok (.getfield 91, 3) := by decide +kernel
theorem dX_buyerOf_8 : decode bX_buyerOf 8 = .ok (.ireturn, 1) := by decide +kernel
set_option maxHeartbeats 4000000 in
set_option maxRecDepth 100000 in
theorem cX_buyerOf (l : Launch) (hl9 : l.stackTraces = false) (D : va_G) (tI tJ tL : ClassId) (A : Nat → Prop) (sg ad : Nat → Nat) (n : Nat) (sL : NL) (sA : NA) (p0 : Int32) : vx_Met l yX_buyerOf (Cond.code yX_buyerOf bX_buyerOf 2 (some FieldType.int) :: wNeed) { frames := 7, cells := 1, slots := 6, locals := 112 } (va_Pc [.ref (ad 0), .int p0] (GP D tI tJ tL A sg ad n sL sA)) (va_Qi (fun r (u : NL × NA) => fX_buyerOf n sL sA p0 = (0, r, u.1, u.2)) (fun u t => GW D tI tJ tL A ad n u.1 u.2 t.heap) A) (XQ D tI tJ tL A ad n sL sA (fX_buyerOf n sL sA p0).1) 1 6 A := by
  refine en_XG (av := [.ref (ad 0), .int p0]) (by decide) (Nat.le_of_ble_eq_true rfl) ?_
  intro p e s m below meth c hx hb hml hown hts hr hlocks hT hC H locs hG hS ls hl
  replace hl : lv_has ls 2 [(0, .ref (ad 0)), (1, .int p0)] := hl
  refine lv_aload_n hx hb dX_buyerOf_0 rfl (lv_at hl 0 rfl) ?_
  refine lv_iload_n hx hb dX_buyerOf_1 rfl (lv_at hl 1 rfl) ?_
  refine rcV5q (rest := []) (As := [.int p0]) (p0 := p0) (Mc := 1) (Ms := 6) hx hb hml hown hts hC hG hS hlocks hT (cX_findLot l hl9 D tI tJ tL A sg ad n sL sA p0) (recX hC hG) (gV q_288 q_290 q_p1 q_1 q_291) rfl rfl ⟨rfl, hdyX_findLot⟩ ⟨Nat.le_of_ble_eq_true rfl, Nat.le_of_ble_eq_true rfl⟩ hl.1 rfl (Nat.le_of_ble_eq_true rfl) dX_buyerOf_2 ⟨Nat.le_of_ble_eq_true rfl, Nat.le_of_ble_eq_true rfl⟩ ⟨Nat.le_of_ble_eq_true rfl, Nat.le_of_ble_eq_true rfl⟩ (fun h => by rw [fX_buyerOf, bndq_n h] <;> rfl) (fun i h_1 hi hp H locs hG hS => ?_)
  subst hp
  refine rl_getN (v := .int (sA (4 * i + 11) 5)) hx hb hts hown hC hG 5 hi (by decide) z_246 (rfl) dX_buyerOf_5 ?_
  refine vx_ret ?_
  refine W.widen (k := 1) (n := 6) (Nat.le_of_ble_eq_true rfl) (Nat.le_of_ble_eq_true rfl) ?_
  exact W.iret (v := sA (4 * i + 11) 5) hx hb hr (fun t ht hW => ⟨⟨(sA (4 * i + 11) 5), (sL, sA), rfl, (by rw [fX_buyerOf, bndq_s h_1] <;> rfl), gw_at hG ht⟩, hS.F ht⟩) hS.2.2 dX_buyerOf_8
def fX_price (n : Nat) (sL : NL) (sA : NA) (p0 : Int32) : Nat × Int32 × NL × NA := bndq (fX_findLot n p0) (fun i => (0, sA (4 * i + 11) 6, sL, sA)) (0, sL, sA)
theorem hdyX_price : yX_price.cls ≠ "java/lang/invoke/MethodHandle" ∧ yX_price.cls ≠ "java/lang/invoke/VarHandle" ∧ (parseMethodDescriptor yX_price.desc).map (fun d => d.parameters.length) = some 1 := by decide +kernel
theorem dX_price_0 : decode bX_price 0 = .ok (.aload_n 0, 1) := by decide +kernel
theorem dX_price_1 : decode bX_price 1 = .ok (.iload_n 1, 1) := by decide +kernel
theorem dX_price_2 : decode bX_price 2 = .ok (.invokevirtual 54, 3) := by decide +kernel
theorem dX_price_5 : decode bX_price 5 = .ok (.getfield 101, 3) := by decide +kernel
theorem dX_price_8 : decode bX_price 8 = .ok (.ireturn, 1) := by decide +kernel
set_option maxHeartbeats 4000000 in
set_option maxRecDepth 100000 in
theorem cX_price (l : Launch) (hl9 : l.stackTraces = false) (D : va_G) (tI tJ tL : ClassId) (A : Nat → Prop) (sg ad : Nat → Nat) (n : Nat) (sL : NL) (sA : NA) (p0 : Int32) : vx_Met l yX_price (Cond.code yX_price bX_price 2 (some FieldType.int) :: wNeed) { frames := 7, cells := 1, slots := 6, locals := 112 } (va_Pc [.ref (ad 0), .int p0] (GP D tI tJ tL A sg ad n sL sA)) (va_Qi (fun r (u : NL × NA) => fX_price n sL sA p0 = (0, r, u.1, u.2)) (fun u t => GW D tI tJ tL A ad n u.1 u.2 t.heap) A) (XQ D tI tJ tL A ad n sL sA (fX_price n sL sA p0).1) 1 6 A := by
  refine en_XG (av := [.ref (ad 0), .int p0]) (by decide) (Nat.le_of_ble_eq_true rfl) ?_
  intro p e s m below meth c hx hb hml hown hts hr hlocks hT hC H locs hG hS ls hl
  replace hl : lv_has ls 2 [(0, .ref (ad 0)), (1, .int p0)] := hl
  refine lv_aload_n hx hb dX_price_0 rfl (lv_at hl 0 rfl) ?_
  refine lv_iload_n hx hb dX_price_1 rfl (lv_at hl 1 rfl) ?_
  refine rcV5q (rest := []) (As := [.int p0]) (p0 := p0) (Mc := 1) (Ms := 6) hx hb hml hown hts hC hG hS hlocks hT (cX_findLot l hl9 D tI tJ tL A sg ad n sL sA p0) (recX hC hG) (gV q_288 q_290 q_p1 q_1 q_291) rfl rfl ⟨rfl, hdyX_findLot⟩ ⟨Nat.le_of_ble_eq_true rfl, Nat.le_of_ble_eq_true rfl⟩ hl.1 rfl (Nat.le_of_ble_eq_true rfl) dX_price_2 ⟨Nat.le_of_ble_eq_true rfl, Nat.le_of_ble_eq_true rfl⟩ ⟨Nat.le_of_ble_eq_true rfl, Nat.le_of_ble_eq_true rfl⟩ (fun h => by rw [fX_price, bndq_n h] <;> rfl) (fun i h_1 hi hp H locs hG hS => ?_)
  subst hp
  refine rl_getN (v := .int (sA (4 * i + 11) 6)) hx hb hts hown hC hG 6 hi (by decide) z_248 (rfl) dX_price_5 ?_
  refine vx_ret ?_
  refine W.widen (k := 1) (n := 6) (Nat.le_of_ble_eq_true rfl) (Nat.le_of_ble_eq_true rfl) ?_
  exact W.iret (v := sA (4 * i + 11) 6) hx hb hr (fun t ht hW => ⟨⟨(sA (4 * i + 11) 6), (sL, sA), rfl, (by rw [fX_price, bndq_s h_1] <;> rfl), gw_at hG ht⟩, hS.F ht⟩) hS.2.2 dX_price_8
def fX_bids (n : Nat) (sL : NL) (sA : NA) (p0 : Int32) : Nat × Int32 × NL × NA := bndq (fX_findLot n p0) (fun i => (0, sA (4 * i + 12) 2, sL, sA)) (0, sL, sA)
theorem hdyX_bids : yX_bids.cls ≠ "java/lang/invoke/MethodHandle" ∧ yX_bids.cls ≠ "java/lang/invoke/VarHandle" ∧ (parseMethodDescriptor yX_bids.desc).map (fun d => d.parameters.length) = some 1 := by decide +kernel
theorem dX_bids_0 : decode bX_bids 0 = .ok (.aload_n 0, 1) := by decide +kernel
theorem dX_bids_1 : decode bX_bids 1 = .ok (.iload_n 1, 1) := by decide +kernel
theorem dX_bids_2 : decode bX_bids 2 = .ok (.invokevirtual 54, 3) := by decide +kernel
theorem dX_bids_5 : decode bX_bids 5 = .ok (.getfield 65, 3) := by decide +kernel
theorem dX_bids_8 : decode bX_bids 8 = .ok (.getfield 110, 3) := by decide +kernel
theorem dX_bids_11 : decode bX_bids 11 = .ok (.ireturn, 1) := by decide +kernel
set_option maxHeartbeats 4000000 in
set_option maxRecDepth 100000 in
theorem cX_bids (l : Launch) (hl9 : l.stackTraces = false) (D : va_G) (tI tJ tL : ClassId) (A : Nat → Prop) (sg ad : Nat → Nat) (n : Nat) (sL : NL) (sA : NA) (p0 : Int32) : vx_Met l yX_bids (Cond.code yX_bids bX_bids 2 (some FieldType.int) :: wNeed) { frames := 7, cells := 1, slots := 6, locals := 112 } (va_Pc [.ref (ad 0), .int p0] (GP D tI tJ tL A sg ad n sL sA)) (va_Qi (fun r (u : NL × NA) => fX_bids n sL sA p0 = (0, r, u.1, u.2)) (fun u t => GW D tI tJ tL A ad n u.1 u.2 t.heap) A) (XQ D tI tJ tL A ad n sL sA (fX_bids n sL sA p0).1) 1 6 A := by
  refine en_XG (av := [.ref (ad 0), .int p0]) (by decide) (Nat.le_of_ble_eq_true rfl) ?_
  intro p e s m below meth c hx hb hml hown hts hr hlocks hT hC H locs hG hS ls hl
  replace hl : lv_has ls 2 [(0, .ref (ad 0)), (1, .int p0)] := hl
  refine lv_aload_n hx hb dX_bids_0 rfl (lv_at hl 0 rfl) ?_
  refine lv_iload_n hx hb dX_bids_1 rfl (lv_at hl 1 rfl) ?_
  refine rcV5q (rest := []) (As := [.int p0]) (p0 := p0) (Mc := 1) (Ms := 6) hx hb hml hown hts hC hG hS hlocks hT (cX_findLot l hl9 D tI tJ tL A sg ad n sL sA p0) (recX hC hG) (gV q_288 q_290 q_p1 q_1 q_291) rfl rfl ⟨rfl, hdyX_findLot⟩ ⟨Nat.le_of_ble_eq_true rfl, Nat.le_of_ble_eq_true rfl⟩ hl.1 rfl (Nat.le_of_ble_eq_true rfl) dX_bids_2 ⟨Nat.le_of_ble_eq_true rfl, Nat.le_of_ble_eq_true rfl⟩ ⟨Nat.le_of_ble_eq_true rfl, Nat.le_of_ble_eq_true rfl⟩ (fun h => by rw [fX_bids, bndq_n h] <;> rfl) (fun i h_1 hi hp H locs hG hS => ?_)
  subst hp
  refine rl_getN (v := .ref (ad (4 * i + 12))) hx hb hts hown hC hG 2 hi (by decide) z_240 (rfl) dX_bids_5 ?_
  refine ro_getN (v := .int (sA (4 * i + 12) 2)) hx hb hts hown hC hG 2 hi (by decide) z_227 (rfl) dX_bids_8 ?_
  refine vx_ret ?_
  refine W.widen (k := 1) (n := 6) (Nat.le_of_ble_eq_true rfl) (Nat.le_of_ble_eq_true rfl) ?_
  exact W.iret (v := sA (4 * i + 12) 2) hx hb hr (fun t ht hW => ⟨⟨(sA (4 * i + 12) 2), (sL, sA), rfl, (by rw [fX_bids, bndq_s h_1] <;> rfl), gw_at hG ht⟩, hS.F ht⟩) hS.2.2 dX_bids_11
def fX_fee (sL : NL) (sA : NA) (p0 : Int32) : Nat × Int32 × NL × NA := bnd (fX_checkRange p0 0 1000000) ((0, fX_feeFor p0, sL, sA)) (0, sL, sA)
theorem hdyX_fee : yX_fee.cls ≠ "java/lang/invoke/MethodHandle" ∧ yX_fee.cls ≠ "java/lang/invoke/VarHandle" ∧ (parseMethodDescriptor yX_fee.desc).map (fun d => d.parameters.length) = some 1 := by decide +kernel
theorem dX_fee_0 : decode bX_fee 0 = .ok (.iload_n 1, 1) := by decide +kernel
theorem dX_fee_1 : decode bX_fee 1 = .ok (.iconst 0, 1) := by decide +kernel
theorem dX_fee_2 : decode bX_fee 2 = .ok (.ldc 30, 2) := by decide +kernel
theorem dX_fee_4 : decode bX_fee 4 = .ok (.invokestatic 31, 3) := by decide +kernel
theorem dX_fee_7 : decode bX_fee 7 = .ok (.iload_n 1, 1) := by decide +kernel
theorem dX_fee_8 : decode bX_fee 8 = .ok (.invokestatic 116, 3) := by decide +kernel
theorem dX_fee_11 : decode bX_fee 11 = .ok (.ireturn, 1) := by decide +kernel
set_option maxHeartbeats 4000000 in
set_option maxRecDepth 100000 in
theorem cX_fee (l : Launch) (hl9 : l.stackTraces = false) (D : va_G) (tI tJ tL : ClassId) (A : Nat → Prop) (sg ad : Nat → Nat) (n : Nat) (sL : NL) (sA : NA) (p0 : Int32) : vx_Met l yX_fee (Cond.code yX_fee bX_fee 2 (some FieldType.int) :: wNeed) { frames := 7, cells := 1, slots := 6, locals := 112 } (va_Pc [.ref (ad 0), .int p0] (GP D tI tJ tL A sg ad n sL sA)) (va_Qi (fun r (u : NL × NA) => fX_fee sL sA p0 = (0, r, u.1, u.2)) (fun u t => GW D tI tJ tL A ad n u.1 u.2 t.heap) A) (XQ D tI tJ tL A ad n sL sA (fX_fee sL sA p0).1) 1 6 A := by
  refine en_XG (av := [.ref (ad 0), .int p0]) (by decide) (Nat.le_of_ble_eq_true rfl) ?_
  intro p e s m below meth c hx hb hml hown hts hr hlocks hT hC H locs hG hS ls hl
  replace hl : lv_has ls 2 [(0, .ref (ad 0)), (1, .int p0)] := hl
  refine lv_iload_n hx hb dX_fee_0 rfl (lv_at hl 1 rfl) ?_
  refine lv_iconst (v := 0) hx hb dX_fee_1 (by decide) ?_
  refine lv_ldc (v := 1000000) hx hb hown (hts _ q_186) dX_fee_2 ?_
  refine rcS4 (rest := []) (As := [.int p0, .int 0, .int 1000000]) (Mc := 1) (Ms := 6) hx hb hml hown hts hC hG hS hlocks hT (cX_checkRange l hl9 D tI tJ tL A sg ad n sL sA p0 0 1000000) (gS q_125 q_126 q_1 q_127) rfl rfl ⟨rfl, hdyX_checkRange⟩ ⟨Nat.le_of_ble_eq_true rfl, Nat.le_of_ble_eq_true rfl⟩ hl.1 rfl (Nat.le_of_ble_eq_true rfl) dX_fee_4 ⟨Nat.le_of_ble_eq_true rfl, Nat.le_of_ble_eq_true rfl⟩ ⟨Nat.le_of_ble_eq_true rfl, Nat.le_of_ble_eq_true rfl⟩ (fun h => by rw [fX_fee, bnd_n h] <;> rfl) (fun h_1 H locs hG hS => ?_)
  refine lv_iload_n hx hb dX_fee_7 rfl (lv_at hl 1 rfl) ?_
  refine rcS1 (rest := []) (As := [.int p0]) hx hb hml hown hts (cX_feeFor l p0) (gS q_349 q_350 q_1 q_351) rfl rfl ⟨rfl, hdyX_feeFor⟩ ⟨Nat.le_of_ble_eq_true rfl, Nat.le_of_ble_eq_true rfl⟩ hl.1 rfl (Nat.le_of_ble_eq_true rfl) dX_fee_8 ⟨Nat.le_of_ble_eq_true rfl, Nat.le_of_ble_eq_true rfl⟩ ?_
  refine vx_ret ?_
  refine W.widen (k := 1) (n := 6) (Nat.le_of_ble_eq_true rfl) (Nat.le_of_ble_eq_true rfl) ?_
  exact W.iret (v := fX_feeFor p0) hx hb hr (fun t ht hW => ⟨⟨(fX_feeFor p0), (sL, sA), rfl, (by rw [fX_fee, bnd_0 h_1] <;> rfl), gw_at hG ht⟩, hS.F ht⟩) hS.2.2 dX_fee_11
def fX_share (n : Nat) (sL : NL) (sA : NA) (p0 : Int32) : Nat × Int32 × NL × NA := bndq (fX_findLot n p0) (fun i => (0, fX_shareOf sL sA i, sL, sA)) (0, sL, sA)
theorem hdyX_share : yX_share.cls ≠ "java/lang/invoke/MethodHandle" ∧ yX_share.cls ≠ "java/lang/invoke/VarHandle" ∧ (parseMethodDescriptor yX_share.desc).map (fun d => d.parameters.length) = some 1 := by decide +kernel
theorem dX_share_0 : decode bX_share 0 = .ok (.aload_n 0, 1) := by decide +kernel
theorem dX_share_1 : decode bX_share 1 = .ok (.iload_n 1, 1) := by decide +kernel
theorem dX_share_2 : decode bX_share 2 = .ok (.invokevirtual 54, 3) := by decide +kernel
theorem dX_share_5 : decode bX_share 5 = .ok (.invokestatic 161, 3) := by decide +kernel
theorem dX_share_8 : decode bX_share 8 = .ok (.ireturn, 1) := by decide +kernel
set_option maxHeartbeats 4000000 in
set_option maxRecDepth 100000 in
theorem cX_share (l : Launch) (hl9 : l.stackTraces = false) (D : va_G) (tI tJ tL : ClassId) (A : Nat → Prop) (sg ad : Nat → Nat) (n : Nat) (sL : NL) (sA : NA) (p0 : Int32) : vx_Met l yX_share (Cond.code yX_share bX_share 2 (some FieldType.int) :: wNeed) { frames := 7, cells := 1, slots := 6, locals := 112 } (va_Pc [.ref (ad 0), .int p0] (GP D tI tJ tL A sg ad n sL sA)) (va_Qi (fun r (u : NL × NA) => fX_share n sL sA p0 = (0, r, u.1, u.2)) (fun u t => GW D tI tJ tL A ad n u.1 u.2 t.heap) A) (XQ D tI tJ tL A ad n sL sA (fX_share n sL sA p0).1) 1 6 A := by
  refine en_XG (av := [.ref (ad 0), .int p0]) (by decide) (Nat.le_of_ble_eq_true rfl) ?_
  intro p e s m below meth c hx hb hml hown hts hr hlocks hT hC H locs hG hS ls hl
  replace hl : lv_has ls 2 [(0, .ref (ad 0)), (1, .int p0)] := hl
  refine lv_aload_n hx hb dX_share_0 rfl (lv_at hl 0 rfl) ?_
  refine lv_iload_n hx hb dX_share_1 rfl (lv_at hl 1 rfl) ?_
  refine rcV5q (rest := []) (As := [.int p0]) (p0 := p0) (Mc := 1) (Ms := 6) hx hb hml hown hts hC hG hS hlocks hT (cX_findLot l hl9 D tI tJ tL A sg ad n sL sA p0) (recX hC hG) (gV q_288 q_290 q_p1 q_1 q_291) rfl rfl ⟨rfl, hdyX_findLot⟩ ⟨Nat.le_of_ble_eq_true rfl, Nat.le_of_ble_eq_true rfl⟩ hl.1 rfl (Nat.le_of_ble_eq_true rfl) dX_share_2 ⟨Nat.le_of_ble_eq_true rfl, Nat.le_of_ble_eq_true rfl⟩ ⟨Nat.le_of_ble_eq_true rfl, Nat.le_of_ble_eq_true rfl⟩ (fun h => by rw [fX_share, bndq_n h] <;> rfl) (fun i h_1 hi hp H locs hG hS => ?_)
  subst hp
  refine rcS2 (rest := []) (As := [.ref (ad (4 * i + 11))]) hx hb hml hown hts hC hG hS (cX_shareOf l D tI tJ tL A sg ad n sL sA i hi) (gS q_390 q_391 q_1 q_392) rfl rfl ⟨rfl, hdyX_shareOf⟩ ⟨Nat.le_of_ble_eq_true rfl, Nat.le_of_ble_eq_true rfl⟩ hl.1 rfl (Nat.le_of_ble_eq_true rfl) dX_share_5 ⟨Nat.le_of_ble_eq_true rfl, Nat.le_of_ble_eq_true rfl⟩ ?_
  refine vx_ret ?_
  refine W.widen (k := 1) (n := 6) (Nat.le_of_ble_eq_true rfl) (Nat.le_of_ble_eq_true rfl) ?_
  exact W.iret (v := fX_shareOf sL sA i) hx hb hr (fun t ht hW => ⟨⟨(fX_shareOf sL sA i), (sL, sA), rfl, (by rw [fX_share, bndq_s h_1] <;> rfl), gw_at hG ht⟩, hS.F ht⟩) hS.2.2 dX_share_8
def fX_interest (n : Nat) (sL : NL) (sA : NA) (p0 : Int32) : Nat × Int32 × NL × NA := bndq (fX_findLot n p0) (fun i => (0, fX_interestOf sL sA i, sL, sA)) (0, sL, sA)
theorem hdyX_interest : yX_interest.cls ≠ "java/lang/invoke/MethodHandle" ∧ yX_interest.cls ≠ "java/lang/invoke/VarHandle" ∧ (parseMethodDescriptor yX_interest.desc).map (fun d => d.parameters.length) = some 1 := by decide +kernel
theorem dX_interest_0 : decode bX_interest 0 = .ok (.aload_n 0, 1) := by decide +kernel
theorem dX_interest_1 : decode bX_interest 1 = .ok (.aload_n 0, 1) := by decide +kernel
theorem dX_interest_2 : decode bX_interest 2 = .ok (.iload_n 1, 1) := by decide +kernel
theorem dX_interest_3 : decode bX_interest 3 = .ok (.invokevirtual 54, 3) := by decide +kernel
theorem dX_interest_6 : decode bX_interest 6 = .ok (.invokevirtual 165, 3) := by decide +kernel
theorem dX_interest_9 : decode bX_interest 9 = .ok (.ireturn, 1) := by decide +kernel
set_option maxHeartbeats 4000000 in
set_option maxRecDepth 100000 in
theorem cX_interest (l : Launch) (hl9 : l.stackTraces = false) (D : va_G) (tI tJ tL : ClassId) (A : Nat → Prop) (sg ad : Nat → Nat) (n : Nat) (sL : NL) (sA : NA) (p0 : Int32) : vx_Met l yX_interest (Cond.code yX_interest bX_interest 2 (some FieldType.int) :: wNeed) { frames := 7, cells := 1, slots := 6, locals := 112 } (va_Pc [.ref (ad 0), .int p0] (GP D tI tJ tL A sg ad n sL sA)) (va_Qi (fun r (u : NL × NA) => fX_interest n sL sA p0 = (0, r, u.1, u.2)) (fun u t => GW D tI tJ tL A ad n u.1 u.2 t.heap) A) (XQ D tI tJ tL A ad n sL sA (fX_interest n sL sA p0).1) 1 6 A := by
  refine en_XG (av := [.ref (ad 0), .int p0]) (by decide) (Nat.le_of_ble_eq_true rfl) ?_
  intro p e s m below meth c hx hb hml hown hts hr hlocks hT hC H locs hG hS ls hl
  replace hl : lv_has ls 2 [(0, .ref (ad 0)), (1, .int p0)] := hl
  refine lv_aload_n hx hb dX_interest_0 rfl (lv_at hl 0 rfl) ?_
  refine lv_aload_n hx hb dX_interest_1 rfl (lv_at hl 0 rfl) ?_
  refine lv_iload_n hx hb dX_interest_2 rfl (lv_at hl 1 rfl) ?_
  refine rcV5q (rest := [.ref (ad 0)]) (As := [.int p0]) (p0 := p0) (Mc := 1) (Ms := 6) hx hb hml hown hts hC hG hS hlocks hT (cX_findLot l hl9 D tI tJ tL A sg ad n sL sA p0) (recX hC hG) (gV q_288 q_290 q_p1 q_1 q_291) rfl rfl ⟨rfl, hdyX_findLot⟩ ⟨Nat.le_of_ble_eq_true rfl, Nat.le_of_ble_eq_true rfl⟩ hl.1 rfl (Nat.le_of_ble_eq_true rfl) dX_interest_3 ⟨Nat.le_of_ble_eq_true rfl, Nat.le_of_ble_eq_true rfl⟩ ⟨Nat.le_of_ble_eq_true rfl, Nat.le_of_ble_eq_true rfl⟩ (fun h => by rw [fX_interest, bndq_n h] <;> rfl) (fun i h_1 hi hp H locs hG hS => ?_)
  subst hp
  refine rcV2 (rest := []) (As := [.ref (ad (4 * i + 11))]) hx hb hml hown hts hC hG hS (cX_interestOf l D tI tJ tL A sg ad n sL sA i hi) (recX hC hG) (gV q_397 q_399 q_p6 q_1 q_400) rfl rfl ⟨rfl, hdyX_interestOf⟩ ⟨Nat.le_of_ble_eq_true rfl, Nat.le_of_ble_eq_true rfl⟩ hl.1 rfl (Nat.le_of_ble_eq_true rfl) dX_interest_6 ⟨Nat.le_of_ble_eq_true rfl, Nat.le_of_ble_eq_true rfl⟩ ?_
  refine vx_ret ?_
  refine W.widen (k := 1) (n := 6) (Nat.le_of_ble_eq_true rfl) (Nat.le_of_ble_eq_true rfl) ?_
  exact W.iret (v := fX_interestOf sL sA i) hx hb hr (fun t ht hW => ⟨⟨(fX_interestOf sL sA i), (sL, sA), rfl, (by rw [fX_interest, bndq_s h_1] <;> rfl), gw_at hG ht⟩, hS.F ht⟩) hS.2.2 dX_interest_9
def fX_owes (sL : NL) (sA : NA) (p0 : Int32) : Nat × Int32 × NL × NA := bnd ((fX_owedBy sL sA p0).1) ((0, (fX_owedBy sL sA p0).2, sL, sA)) (0, sL, sA)
theorem hdyX_owes : yX_owes.cls ≠ "java/lang/invoke/MethodHandle" ∧ yX_owes.cls ≠ "java/lang/invoke/VarHandle" ∧ (parseMethodDescriptor yX_owes.desc).map (fun d => d.parameters.length) = some 1 := by decide +kernel
theorem dX_owes_0 : decode bX_owes 0 = .ok (.aload_n 0, 1) := by decide +kernel
theorem dX_owes_1 : decode bX_owes 1 = .ok (.iload_n 1, 1) := by decide +kernel
theorem dX_owes_2 : decode bX_owes 2 = .ok (.invokevirtual 136, 3) := by decide +kernel
theorem dX_owes_5 : decode bX_owes 5 = .ok (.ireturn, 1) := by decide +kernel
set_option maxHeartbeats 4000000 in
set_option maxRecDepth 100000 in
theorem cX_owes (l : Launch) (hl9 : l.stackTraces = false) (D : va_G) (tI tJ tL : ClassId) (A : Nat → Prop) (sg ad : Nat → Nat) (n : Nat) (sL : NL) (sA : NA) (p0 : Int32) : vx_Met l yX_owes (Cond.code yX_owes bX_owes 2 (some FieldType.int) :: wNeed) { frames := 8, cells := 1, slots := 6, locals := 131 } (va_Pc [.ref (ad 0), .int p0] (GP D tI tJ tL A sg ad n sL sA)) (va_Qi (fun r (u : NL × NA) => fX_owes sL sA p0 = (0, r, u.1, u.2)) (fun u t => GW D tI tJ tL A ad n u.1 u.2 t.heap) A) (XQ D tI tJ tL A ad n sL sA (fX_owes sL sA p0).1) 1 6 A := by
  refine en_XG (av := [.ref (ad 0), .int p0]) (by decide) (Nat.le_of_ble_eq_true rfl) ?_
  intro p e s m below meth c hx hb hml hown hts hr hlocks hT hC H locs hG hS ls hl
  replace hl : lv_has ls 2 [(0, .ref (ad 0)), (1, .int p0)] := hl
  refine lv_aload_n hx hb dX_owes_0 rfl (lv_at hl 0 rfl) ?_
  refine lv_iload_n hx hb dX_owes_1 rfl (lv_at hl 1 rfl) ?_
  refine rcV5r (rest := []) (As := [.int p0]) (Mc := 1) (Ms := 6) hx hb hml hown hts hC hG hS hlocks hT (cX_owedBy l hl9 D tI tJ tL A sg ad n sL sA p0) (recX hC hG) (gV q_372 q_374 q_p4 q_1 q_375) rfl rfl ⟨rfl, hdyX_owedBy⟩ ⟨Nat.le_of_ble_eq_true rfl, Nat.le_of_ble_eq_true rfl⟩ hl.1 rfl (Nat.le_of_ble_eq_true rfl) dX_owes_2 ⟨Nat.le_of_ble_eq_true rfl, Nat.le_of_ble_eq_true rfl⟩ ⟨Nat.le_of_ble_eq_true rfl, Nat.le_of_ble_eq_true rfl⟩ (fun h => by rw [fX_owes, bnd_n h] <;> rfl) (fun h_1 H locs hG hS => ?_)
  refine vx_ret ?_
  refine W.widen (k := 1) (n := 6) (Nat.le_of_ble_eq_true rfl) (Nat.le_of_ble_eq_true rfl) ?_
  exact W.iret (v := (fX_owedBy sL sA p0).2) hx hb hr (fun t ht hW => ⟨⟨((fX_owedBy sL sA p0).2), (sL, sA), rfl, (by rw [fX_owes, bnd_0 h_1] <;> rfl), gw_at hG ht⟩, hS.F ht⟩) hS.2.2 dX_owes_5
end
section
theorem tyI {D : va_G} {tI tJ tL cA : ClassId} {s : State} (h : va_K D classes (tys3 tI tJ tL ++ [(cA, FieldType.int)]) s) : cA = tI := by
  have h1 : s.vm.findClass ("[" ++ FieldType.int.toString) = some tI := (h.2 0 _ rfl).2
  have h2 : s.vm.findClass ("[" ++ FieldType.int.toString) = some cA := (h.2 2 _ rfl).2
  exact Option.some.inj (h2.symm.trans h1)
theorem tyL {D : va_G} {tI tJ tL cA : ClassId} {s : State} (h : va_K D classes (tys3 tI tJ tL ++ [(cA, FieldType.object "DroitLine$Lot")]) s) : cA = tL := by
  obtain ⟨-, kA, comp, -, -, -, h1⟩ := h.2 1 _ rfl
  obtain ⟨-, kB, comp2, -, -, -, h2⟩ := h.2 2 _ rfl
  exact Option.some.inj (h2.symm.trans h1)
/-- what a constructor wants of its start -/
def CP (D : va_G) (tI tJ tL : ClassId) (w0 : va_W) (sz : Nat) (x : Bool) (U : State) : Prop := U.heap.size = sz ∧ va_P D classes w0 U.heap ∧ va_K D classes (tys3 tI tJ tL) U ∧ va_D (fun _ => True) w0 ∧ (∀ w ∈ wBad, va_Nw w U) ∧ (x = true → va_AO "DroitLine$Lot" U)
theorem CP.blind {D : va_G} {tI tJ tL : ClassId} {w0 : va_W} {sz : Nat} {x : Bool} {av : List Value} : FrameBlind (va_Pc av (CP D tI tJ tL w0 sz x)) := by
  intro a U g mk h
  obtain ⟨h0, h1, h2, h3, h4, h5, h6⟩ := h
  exact ⟨h0, h1, h2, va_K.moved (u := U) (U := U.calling g mk a) (Vm.Alike.refl U.vm) h3, h4, fun w hw => bad_same (u := U) (U := U.calling g mk a) (List.mem_filter.mp hw).2 rfl (h5 w hw), fun hx => va_AO.moved (u := U) (U := U.calling g mk a) (Vm.Alike.refl U.vm) (h6 hx)⟩

theorem hdyO_init : yO_init.cls ≠ "java/lang/invoke/MethodHandle" ∧ yO_init.cls ≠ "java/lang/invoke/VarHandle" ∧ (parseMethodDescriptor yO_init.desc).map (fun d => d.parameters.length) = some 0 := by decide +kernel
theorem dO_init_0 : decode bO_init 0 = .ok (.aload_n 0, 1) := by decide +kernel
theorem dO_init_1 : decode bO_init 1 = .ok (.invokespecial 3, 3) := by decide +kernel
theorem dO_init_4 : decode bO_init 4 = .ok (.aload_n 0, 1) := by decide +kernel
theorem dO_init_5 : decode bO_init 5 = .ok (.bipush 10, 2) := by decide +kernel
theorem dO_init_7 : decode bO_init 7 = .ok (.newarray .int, 2) := by decide +kernel
theorem dO_init_9 : decode bO_init 9 = .ok (.putfield 9, 3) := by decide +kernel
theorem dO_init_12 : decode bO_init 12 = .ok (.aload_n 0, 1) := by decide +kernel
theorem dO_init_13 : decode bO_init 13 = .ok (.bipush 10, 2) := by decide +kernel
theorem dO_init_15 : decode bO_init 15 = .ok (.newarray .int, 2) := by decide +kernel
theorem dO_init_17 : decode bO_init 17 = .ok (.putfield 15, 3) := by decide +kernel
theorem dO_init_20 : decode bO_init 20 = .ok (.return_, 1) := by decide +kernel
set_option maxHeartbeats 4000000 in
set_option maxRecDepth 100000 in
theorem cO_init (l : Launch) (D : va_G) (tI tJ tL : ClassId) (h0 sz : Nat) : Met l yO_init (Cond.code yO_init bO_init 1 none :: wNeed) { frames := 1, cells := 2, slots := 20, locals := 20 } (va_Pc [.ref h0] (CP D tI tJ tL [(h0, .inr (2, [.null, .null, .int 0]))] sz false)) (va_Qv (fun _ : Unit => True) (fun _ t => ∃ q1 q2 : Nat, va_P D classes [(h0, .inr (2, [.ref q1, .ref q2, .int 0])), (q1, .inl (tI, 10, .inl (fun _ => 0))), (q2, .inl (tI, 10, .inl (fun _ => 0)))] t.heap ∧ va_D (va_A [(h0, .inr (2, [.null, .null, .int 0]))] sz) [(h0, .inr (2, [.ref q1, .ref q2, .int 0])), (q1, .inl (tI, 10, .inl (fun _ => 0))), (q2, .inl (tI, 10, .inl (fun _ => 0)))]) (va_A [(h0, .inr (2, [.null, .null, .int 0]))] sz)) 2 20 (va_A [(h0, .inr (2, [.null, .null, .int 0]))] sz) := by
  refine en_M (av := [.ref h0]) (by decide) (Nat.le_of_ble_eq_true rfl) ?_
  intro p e s m below meth c hx hb hml hown hts hr hlocks hmname hP0 ls hl
  obtain ⟨hsz, hP, hK, hD0, hZ, hAO⟩ := hP0
  subst hsz
  have hD := hD0.self (sz := s.heap.size)
  generalize hAe : va_A [(h0, .inr (2, [.null, .null, .int 0]))] s.heap.size = A at hD ⊢
  have hA : ∀ q : Nat, s.heap.size ≤ q → A q := fun q h => by rw [← hAe]; exact Or.inr h
  have hS : va_S A s.heap s.heap [] := va_S.rf
  replace hl : lv_has ls 1 [(0, .ref h0)] := hl
  refine lv_aload_n hx hb dO_init_0 rfl (lv_at hl 0 rfl) ?_
  refine W.objInit hx hb hown (hts _ q_222) (hts _ q_17) (hts _ q_18) rfl (by rw [hml]; exact hl.1) rfl dO_init_1 (Nat.le_of_ble_eq_true rfl) (Nat.le_of_ble_eq_true rfl) ?_
  refine W.eq (g2 := F0 m 4 ls []) rfl ?_
  refine lv_aload_n hx hb dO_init_4 rfl (lv_at hl 0 rfl) ?_
  refine lv_bipush (v := 10) hx hb dO_init_5 (by decide) ?_
  refine va_newa (atype := .int) (ty := .int) (N' := 10) (a0 := (10, .inl fun _ => 0)) hx hb (hts _ q_49) rfl hK hP hD hS hA (fun _ => rfl) (by decide) rfl (by decide) (Nat.le_of_ble_eq_true rfl) (Nat.le_of_ble_eq_true rfl) dO_init_7 (fun q1 cA H hK1 hP hD hS => ?_)
  rw [tyI hK1] at hP hD
  have hP : va_P D classes [(h0, .inr (2, [.null, .null, .int 0])), (q1, .inl (tI, 10, .inl (fun _ => 0)))] H := hP
  have hD : va_D A [(h0, .inr (2, [.null, .null, .int 0])), (q1, .inl (tI, 10, .inl (fun _ => 0)))] := hD
  refine va_putF (D := D) (ci := 2) (v := .ref q1) (ty := (t_O 0)) (C := "DroitLine$Offers") (T := F_O) (N := 3) hx hb hts i_O t_O t_O_ok n_O hown hK hP hD hS 0 rfl rfl 0 (by decide) (hts _ q_223) (fun _ h9 => h9) rfl hmname rfl (by decide +kernel) rfl rfl (Nat.le_of_ble_eq_true rfl) dO_init_9 (fun H locs hP hD hS => ?_)
  have hP : va_P D classes [(h0, .inr (2, [.ref q1, .null, .int 0])), (q1, .inl (tI, 10, .inl (fun _ => 0)))] H := hP
  have hD : va_D A [(h0, .inr (2, [.ref q1, .null, .int 0])), (q1, .inl (tI, 10, .inl (fun _ => 0)))] := hD
  refine lv_aload_n hx hb dO_init_12 rfl (lv_at hl 0 rfl) ?_
  refine lv_bipush (v := 10) hx hb dO_init_13 (by decide) ?_
  refine va_newa (atype := .int) (ty := .int) (N' := 10) (a0 := (10, .inl fun _ => 0)) hx hb (hts _ q_49) rfl hK hP hD hS hA (fun _ => rfl) (by decide) rfl (by decide) (Nat.le_of_ble_eq_true rfl) (Nat.le_of_ble_eq_true rfl) dO_init_15 (fun q2 cA H hK1 hP hD hS => ?_)
  rw [tyI hK1] at hP hD
  have hP : va_P D classes [(h0, .inr (2, [.ref q1, .null, .int 0])), (q1, .inl (tI, 10, .inl (fun _ => 0))), (q2, .inl (tI, 10, .inl (fun _ => 0)))] H := hP
  have hD : va_D A [(h0, .inr (2, [.ref q1, .null, .int 0])), (q1, .inl (tI, 10, .inl (fun _ => 0))), (q2, .inl (tI, 10, .inl (fun _ => 0)))] := hD
  refine va_putF (D := D) (ci := 2) (v := .ref q2) (ty := (t_O 1)) (C := "DroitLine$Offers") (T := F_O) (N := 3) hx hb hts i_O t_O t_O_ok n_O hown hK hP hD hS 0 rfl rfl 1 (by decide) (hts _ q_224) (fun _ h9 => h9) rfl hmname rfl (by decide +kernel) rfl rfl (Nat.le_of_ble_eq_true rfl) dO_init_17 (fun H locs hP hD hS => ?_)
  have hP : va_P D classes [(h0, .inr (2, [.ref q1, .ref q2, .int 0])), (q1, .inl (tI, 10, .inl (fun _ => 0))), (q2, .inl (tI, 10, .inl (fun _ => 0)))] H := hP
  have hD : va_D A [(h0, .inr (2, [.ref q1, .ref q2, .int 0])), (q1, .inl (tI, 10, .inl (fun _ => 0))), (q2, .inl (tI, 10, .inl (fun _ => 0)))] := hD
  exact W.vret hx hb hr (fun t ht hW => ⟨⟨(), rfl, trivial, q1, q2, by rw [ht]; exact hP, hD⟩, hS.F ht⟩) hS.2.2 dO_init_20
theorem hdyL_init : yL_init.cls ≠ "java/lang/invoke/MethodHandle" ∧ yL_init.cls ≠ "java/lang/invoke/VarHandle" ∧ (parseMethodDescriptor yL_init.desc).map (fun d => d.parameters.length) = some 3 := by decide +kernel
theorem dL_init_0 : decode bL_init 0 = .ok (.aload_n 0, 1) := by decide +kernel
theorem dL_init_1 : decode bL_init 1 = .ok (.invokespecial 3, 3) := by decide +kernel
theorem dL_init_4 : decode bL_init 4 = .ok (.aload_n 0, 1) := by decide +kernel
theorem dL_init_5 : decode bL_init 5 = .ok (.iload_n 1, 1) := by decide +kernel
theorem dL_init_6 : decode bL_init 6 = .ok (.putfield 9, 3) := by decide +kernel
theorem dL_init_9 : decode bL_init 9 = .ok (.aload_n 0, 1) := by decide +kernel
theorem dL_init_10 : decode bL_init 10 = .ok (.iload_n 3, 1) := by decide +kernel
theorem dL_init_11 : decode bL_init 11 = .ok (.putfield 15, 3) := by decide +kernel
theorem dL_init_14 : decode bL_init 14 = .ok (.aload_n 0, 1) := by decide +kernel
theorem dL_init_15 : decode bL_init 15 = .ok (.iload_n 2, 1) := by decide +kernel
theorem dL_init_16 : decode bL_init 16 = .ok (.putfield 18, 3) := by decide +kernel
theorem dL_init_19 : decode bL_init 19 = .ok (.aload_n 0, 1) := by decide +kernel
theorem dL_init_20 : decode bL_init 20 = .ok (.new 21, 3) := by decide +kernel
theorem dL_init_23 : decode bL_init 23 = .ok (.dup, 1) := by decide +kernel
theorem dL_init_24 : decode bL_init 24 = .ok (.invokespecial 23, 3) := by decide +kernel
theorem dL_init_27 : decode bL_init 27 = .ok (.putfield 24, 3) := by decide +kernel
theorem dL_init_30 : decode bL_init 30 = .ok (.aload_n 0, 1) := by decide +kernel
theorem dL_init_31 : decode bL_init 31 = .ok (.iconst 0, 1) := by decide +kernel
theorem dL_init_32 : decode bL_init 32 = .ok (.putfield 28, 3) := by decide +kernel
theorem dL_init_35 : decode bL_init 35 = .ok (.aload_n 0, 1) := by decide +kernel
theorem dL_init_36 : decode bL_init 36 = .ok (.iconst (-1), 1) := by decide +kernel
theorem dL_init_37 : decode bL_init 37 = .ok (.putfield 31, 3) := by decide +kernel
theorem dL_init_40 : decode bL_init 40 = .ok (.aload_n 0, 1) := by decide +kernel
theorem dL_init_41 : decode bL_init 41 = .ok (.iconst (-1), 1) := by decide +kernel
theorem dL_init_42 : decode bL_init 42 = .ok (.putfield 34, 3) := by decide +kernel
theorem dL_init_45 : decode bL_init 45 = .ok (.aload_n 0, 1) := by decide +kernel
theorem dL_init_46 : decode bL_init 46 = .ok (.iconst (-1), 1) := by decide +kernel
theorem dL_init_47 : decode bL_init 47 = .ok (.putfield 37, 3) := by decide +kernel
theorem dL_init_50 : decode bL_init 50 = .ok (.return_, 1) := by decide +kernel
set_option maxHeartbeats 4000000 in
set_option maxRecDepth 100000 in
theorem cL_init (l : Launch) (D : va_G) (tI tJ tL : ClassId) (h0 sz : Nat) (p0 : Int32) (p1 : Int32) (p2 : Int32) : Met l yL_init (Cond.code yL_init bL_init 4 none :: wNeed) { frames := 2, cells := 3, slots := 23, locals := 40 } (va_Pc [.ref h0, .int p0, .int p1, .int p2] (CP D tI tJ tL [(h0, .inr (1, [.int 0, .int 0, .null, .int 0, .int 0, .int 0, .int 0, .int 0, .int 0, .int 0, .int 0, .int 0, .int 0]))] sz false)) (va_Qv (fun _ : Unit => True) (fun _ t => ∃ q1 q2 q3 : Nat, va_P D classes [(h0, .inr (1, [.int p0, .int p2, .ref q1, .int p1, .int 0, .int (-1), .int (-1), .int 0, .int (-1), .int 0, .int 0, .int 0, .int 0])), (q1, .inr (2, [.ref q2, .ref q3, .int 0])), (q2, .inl (tI, 10, .inl (fun _ => 0))), (q3, .inl (tI, 10, .inl (fun _ => 0)))] t.heap ∧ va_D (va_A [(h0, .inr (1, [.int 0, .int 0, .null, .int 0, .int 0, .int 0, .int 0, .int 0, .int 0, .int 0, .int 0, .int 0, .int 0]))] sz) [(h0, .inr (1, [.int p0, .int p2, .ref q1, .int p1, .int 0, .int (-1), .int (-1), .int 0, .int (-1), .int 0, .int 0, .int 0, .int 0])), (q1, .inr (2, [.ref q2, .ref q3, .int 0])), (q2, .inl (tI, 10, .inl (fun _ => 0))), (q3, .inl (tI, 10, .inl (fun _ => 0)))]) (va_A [(h0, .inr (1, [.int 0, .int 0, .null, .int 0, .int 0, .int 0, .int 0, .int 0, .int 0, .int 0, .int 0, .int 0, .int 0]))] sz)) 3 23 (va_A [(h0, .inr (1, [.int 0, .int 0, .null, .int 0, .int 0, .int 0, .int 0, .int 0, .int 0, .int 0, .int 0, .int 0, .int 0]))] sz) := by
  refine en_M (av := [.ref h0, .int p0, .int p1, .int p2]) (by decide) (Nat.le_of_ble_eq_true rfl) ?_
  intro p e s m below meth c hx hb hml hown hts hr hlocks hmname hP0 ls hl
  obtain ⟨hsz, hP, hK, hD0, hZ, hAO⟩ := hP0
  subst hsz
  have hD := hD0.self (sz := s.heap.size)
  generalize hAe : va_A [(h0, .inr (1, [.int 0, .int 0, .null, .int 0, .int 0, .int 0, .int 0, .int 0, .int 0, .int 0, .int 0, .int 0, .int 0]))] s.heap.size = A at hD ⊢
  have hA : ∀ q : Nat, s.heap.size ≤ q → A q := fun q h => by rw [← hAe]; exact Or.inr h
  have hS : va_S A s.heap s.heap [] := va_S.rf
  replace hl : lv_has ls 4 [(0, .ref h0), (1, .int p0), (2, .int p1), (3, .int p2)] := hl
  refine lv_aload_n hx hb dL_init_0 rfl (lv_at hl 0 rfl) ?_
  refine W.objInit hx hb hown (hts _ q_216) (hts _ q_17) (hts _ q_18) rfl (by rw [hml]; exact hl.1) rfl dL_init_1 (Nat.le_of_ble_eq_true rfl) (Nat.le_of_ble_eq_true rfl) ?_
  refine W.eq (g2 := F0 m 4 ls []) rfl ?_
  refine lv_aload_n hx hb dL_init_4 rfl (lv_at hl 0 rfl) ?_
  refine lv_iload_n hx hb dL_init_5 rfl (lv_at hl 1 rfl) ?_
  refine va_putF (D := D) (ci := 1) (v := .int p0) (ty := (t_L 0)) (C := "DroitLine$Lot") (T := F_L) (N := 13) hx hb hts i_L t_L t_L_ok n_L hown hK hP hD hS 0 rfl rfl 0 (by decide) (hts _ q_235) (fun _ h9 => h9) rfl hmname rfl (by decide +kernel) rfl rfl (Nat.le_of_ble_eq_true rfl) dL_init_6 (fun H locs hP hD hS => ?_)
  have hP : va_P D classes [(h0, .inr (1, [.int p0, .int 0, .null, .int 0, .int 0, .int 0, .int 0, .int 0, .int 0, .int 0, .int 0, .int 0, .int 0]))] H := hP
  have hD : va_D A [(h0, .inr (1, [.int p0, .int 0, .null, .int 0, .int 0, .int 0, .int 0, .int 0, .int 0, .int 0, .int 0, .int 0, .int 0]))] := hD
  refine lv_aload_n hx hb dL_init_9 rfl (lv_at hl 0 rfl) ?_
  refine lv_iload_n hx hb dL_init_10 rfl (lv_at hl 3 rfl) ?_
  refine va_putF (D := D) (ci := 1) (v := .int p2) (ty := (t_L 1)) (C := "DroitLine$Lot") (T := F_L) (N := 13) hx hb hts i_L t_L t_L_ok n_L hown hK hP hD hS 0 rfl rfl 1 (by decide) (hts _ q_237) (fun _ h9 => h9) rfl hmname rfl (by decide +kernel) rfl rfl (Nat.le_of_ble_eq_true rfl) dL_init_11 (fun H locs hP hD hS => ?_)
  have hP : va_P D classes [(h0, .inr (1, [.int p0, .int p2, .null, .int 0, .int 0, .int 0, .int 0, .int 0, .int 0, .int 0, .int 0, .int 0, .int 0]))] H := hP
  have hD : va_D A [(h0, .inr (1, [.int p0, .int p2, .null, .int 0, .int 0, .int 0, .int 0, .int 0, .int 0, .int 0, .int 0, .int 0, .int 0]))] := hD
  refine lv_aload_n hx hb dL_init_14 rfl (lv_at hl 0 rfl) ?_
  refine lv_iload_n hx hb dL_init_15 rfl (lv_at hl 2 rfl) ?_
  refine va_put (D := D) (ci := 1) (v := .int p1) (ty := (t_L 3)) (C := "DroitLine$Lot") (T := F_L) (N := 13) hx hb hts i_L t_L t_L_ok n_L hown hK hP hD hS 0 rfl rfl 3 (by decide) (hts _ q_241) (fun _ h9 => h9) rfl (by decide +kernel) rfl rfl (Nat.le_of_ble_eq_true rfl) dL_init_16 (fun H locs hP hD hS => ?_)
  have hP : va_P D classes [(h0, .inr (1, [.int p0, .int p2, .null, .int p1, .int 0, .int 0, .int 0, .int 0, .int 0, .int 0, .int 0, .int 0, .int 0]))] H := hP
  have hD : va_D A [(h0, .inr (1, [.int p0, .int p2, .null, .int p1, .int 0, .int 0, .int 0, .int 0, .int 0, .int 0, .int 0, .int 0, .int 0]))] := hD
  refine lv_aload_n hx hb dL_init_19 rfl (lv_at hl 0 rfl) ?_
  refine va_new (ci := 2) (fs := [.null, .null, .int 0]) (C := "DroitLine$Offers") (T := F_O) (N := 3) hx hb hts i_O t_O t_O_ok hown (hts _ q_217) (hts _ q_218) (hts _ q_10) hK hP hD hS hA rfl (fun j hj => by rcases (show j = 0 ∨ j = 1 ∨ j = 2 by omega) with rfl | rfl | rfl <;> rfl) (Nat.le_of_ble_eq_true rfl) (Nat.le_of_ble_eq_true rfl) dL_init_20 (fun q1 H hP hD hS => ?_)
  have hP : va_P D classes [(h0, .inr (1, [.int p0, .int p2, .null, .int p1, .int 0, .int 0, .int 0, .int 0, .int 0, .int 0, .int 0, .int 0, .int 0])), (q1, .inr (2, [.null, .null, .int 0]))] H := hP
  have hD : va_D A [(h0, .inr (1, [.int p0, .int p2, .null, .int p1, .int 0, .int 0, .int 0, .int 0, .int 0, .int 0, .int 0, .int 0, .int 0])), (q1, .inr (2, [.null, .null, .int 0]))] := hD
  refine lv_dup hx hb dL_init_23 rfl ?_
  have hPc := hP.sub (ws' := [(q1, .inr (2, [.null, .null, .int 0]))]) [1] rfl
  have hDc := hD.sub (ws' := [(q1, .inr (2, [.null, .null, .int 0]))]) [1] (by decide) rfl
  have hFc := va_free (wc := [(q1, .inr (2, [.null, .null, .int 0]))]) hD hS hA [1] rfl
  refine va_callv (va_runIN (As := []) (rest := [.ref q1, .ref h0]) ⟨hx, hb, hml, hown, hts⟩ (cO_init l D tI tJ tL q1 H.size) ⟨va_cnB 0 hts (gI q_221) rfl rfl rfl (hZ _ z_219) (hts _ q_10) hdyO_init ⟨Nat.le_of_ble_eq_true rfl, Nat.le_of_ble_eq_true rfl⟩, rfl, hts _ q_220⟩ ⟨CP.blind, fun U hU hW => ⟨rfl, by rw [hU], by rw [hU]; exact hPc, va_K.moved hW.alike hK, hDc.weaken (fun _ _ _ _ => trivial), fun w hw => bad_warm (List.mem_filter.mp hw).2 hW (hZ w hw), fun hx => absurd hx (by decide)⟩⟩ rfl rfl hl.1 rfl (lv_room (Nat.le_of_ble_eq_true rfl)) dL_init_24 ⟨Nat.le_of_ble_eq_true rfl, Nat.le_of_ble_eq_true rfl⟩) hS (fun q _ h => hFc q h) hFc (fun u t H1 locs ht hvm hw hB hz1 hk1 hS => ?_)
  obtain ⟨q2, q3, hP1, hD1⟩ := hB
  rw [ht] at hP1
  obtain ⟨hP, hD⟩ := va_join (wr := [(h0, .inr (1, [.int p0, .int p2, .null, .int p1, .int 0, .int 0, .int 0, .int 0, .int 0, .int 0, .int 0, .int 0, .int 0]))]) (w1 := [(q1, .inr (2, [.ref q2, .ref q3, .int 0])), (q2, .inl (tI, 10, .inl (fun _ => 0))), (q3, .inl (tI, 10, .inl (fun _ => 0)))]) hP hD [1] [0] rfl rfl (by decide) (by decide) hk1 hFc hP1 hD1
  generalize H1 = H at hP hS ⊢
  have hP : va_P D classes [(h0, .inr (1, [.int p0, .int p2, .null, .int p1, .int 0, .int 0, .int 0, .int 0, .int 0, .int 0, .int 0, .int 0, .int 0])), (q1, .inr (2, [.ref q2, .ref q3, .int 0])), (q2, .inl (tI, 10, .inl (fun _ => 0))), (q3, .inl (tI, 10, .inl (fun _ => 0)))] H := hP
  have hD : va_D A [(h0, .inr (1, [.int p0, .int p2, .null, .int p1, .int 0, .int 0, .int 0, .int 0, .int 0, .int 0, .int 0, .int 0, .int 0])), (q1, .inr (2, [.ref q2, .ref q3, .int 0])), (q2, .inl (tI, 10, .inl (fun _ => 0))), (q3, .inl (tI, 10, .inl (fun _ => 0)))] := hD
  refine va_putF (D := D) (ci := 1) (v := .ref q1) (ty := (t_L 2)) (C := "DroitLine$Lot") (T := F_L) (N := 13) hx hb hts i_L t_L t_L_ok n_L hown hK hP hD hS 0 rfl rfl 2 (by decide) (hts _ q_239) (fun _ h9 => h9) rfl hmname rfl (by decide +kernel) rfl rfl (Nat.le_of_ble_eq_true rfl) dL_init_27 (fun H locs hP hD hS => ?_)
  have hP : va_P D classes [(h0, .inr (1, [.int p0, .int p2, .ref q1, .int p1, .int 0, .int 0, .int 0, .int 0, .int 0, .int 0, .int 0, .int 0, .int 0])), (q1, .inr (2, [.ref q2, .ref q3, .int 0])), (q2, .inl (tI, 10, .inl (fun _ => 0))), (q3, .inl (tI, 10, .inl (fun _ => 0)))] H := hP
  have hD : va_D A [(h0, .inr (1, [.int p0, .int p2, .ref q1, .int p1, .int 0, .int 0, .int 0, .int 0, .int 0, .int 0, .int 0, .int 0, .int 0])), (q1, .inr (2, [.ref q2, .ref q3, .int 0])), (q2, .inl (tI, 10, .inl (fun _ => 0))), (q3, .inl (tI, 10, .inl (fun _ => 0)))] := hD
  refine lv_aload_n hx hb dL_init_30 rfl (lv_at hl 0 rfl) ?_
  refine lv_iconst (v := 0) hx hb dL_init_31 (by decide) ?_
  refine va_put (D := D) (ci := 1) (v := .int 0) (ty := (t_L 4)) (C := "DroitLine$Lot") (T := F_L) (N := 13) hx hb hts i_L t_L t_L_ok n_L hown hK hP hD hS 0 rfl rfl 4 (by decide) (hts _ q_243) (fun _ h9 => h9) rfl (by decide +kernel) rfl rfl (Nat.le_of_ble_eq_true rfl) dL_init_32 (fun H locs hP hD hS => ?_)
  have hP : va_P D classes [(h0, .inr (1, [.int p0, .int p2, .ref q1, .int p1, .int 0, .int 0, .int 0, .int 0, .int 0, .int 0, .int 0, .int 0, .int 0])), (q1, .inr (2, [.ref q2, .ref q3, .int 0])), (q2, .inl (tI, 10, .inl (fun _ => 0))), (q3, .inl (tI, 10, .inl (fun _ => 0)))] H := hP
  have hD : va_D A [(h0, .inr (1, [.int p0, .int p2, .ref q1, .int p1, .int 0, .int 0, .int 0, .int 0, .int 0, .int 0, .int 0, .int 0, .int 0])), (q1, .inr (2, [.ref q2, .ref q3, .int 0])), (q2, .inl (tI, 10, .inl (fun _ => 0))), (q3, .inl (tI, 10, .inl (fun _ => 0)))] := hD
  refine lv_aload_n hx hb dL_init_35 rfl (lv_at hl 0 rfl) ?_
  refine lv_iconst (v := (-1)) hx hb dL_init_36 (by decide) ?_
  refine va_put (D := D) (ci := 1) (v := .int (-1)) (ty := (t_L 5)) (C := "DroitLine$Lot") (T := F_L) (N := 13) hx hb hts i_L t_L t_L_ok n_L hown hK hP hD hS 0 rfl rfl 5 (by decide) (hts _ q_245) (fun _ h9 => h9) rfl (by decide +kernel) rfl rfl (Nat.le_of_ble_eq_true rfl) dL_init_37 (fun H locs hP hD hS => ?_)
  have hP : va_P D classes [(h0, .inr (1, [.int p0, .int p2, .ref q1, .int p1, .int 0, .int (-1), .int 0, .int 0, .int 0, .int 0, .int 0, .int 0, .int 0])), (q1, .inr (2, [.ref q2, .ref q3, .int 0])), (q2, .inl (tI, 10, .inl (fun _ => 0))), (q3, .inl (tI, 10, .inl (fun _ => 0)))] H := hP
  have hD : va_D A [(h0, .inr (1, [.int p0, .int p2, .ref q1, .int p1, .int 0, .int (-1), .int 0, .int 0, .int 0, .int 0, .int 0, .int 0, .int 0])), (q1, .inr (2, [.ref q2, .ref q3, .int 0])), (q2, .inl (tI, 10, .inl (fun _ => 0))), (q3, .inl (tI, 10, .inl (fun _ => 0)))] := hD
  refine lv_aload_n hx hb dL_init_40 rfl (lv_at hl 0 rfl) ?_
  refine lv_iconst (v := (-1)) hx hb dL_init_41 (by decide) ?_
  refine va_put (D := D) (ci := 1) (v := .int (-1)) (ty := (t_L 6)) (C := "DroitLine$Lot") (T := F_L) (N := 13) hx hb hts i_L t_L t_L_ok n_L hown hK hP hD hS 0 rfl rfl 6 (by decide) (hts _ q_247) (fun _ h9 => h9) rfl (by decide +kernel) rfl rfl (Nat.le_of_ble_eq_true rfl) dL_init_42 (fun H locs hP hD hS => ?_)
  have hP : va_P D classes [(h0, .inr (1, [.int p0, .int p2, .ref q1, .int p1, .int 0, .int (-1), .int (-1), .int 0, .int 0, .int 0, .int 0, .int 0, .int 0])), (q1, .inr (2, [.ref q2, .ref q3, .int 0])), (q2, .inl (tI, 10, .inl (fun _ => 0))), (q3, .inl (tI, 10, .inl (fun _ => 0)))] H := hP
  have hD : va_D A [(h0, .inr (1, [.int p0, .int p2, .ref q1, .int p1, .int 0, .int (-1), .int (-1), .int 0, .int 0, .int 0, .int 0, .int 0, .int 0])), (q1, .inr (2, [.ref q2, .ref q3, .int 0])), (q2, .inl (tI, 10, .inl (fun _ => 0))), (q3, .inl (tI, 10, .inl (fun _ => 0)))] := hD
  refine lv_aload_n hx hb dL_init_45 rfl (lv_at hl 0 rfl) ?_
  refine lv_iconst (v := (-1)) hx hb dL_init_46 (by decide) ?_
  refine va_put (D := D) (ci := 1) (v := .int (-1)) (ty := (t_L 8)) (C := "DroitLine$Lot") (T := F_L) (N := 13) hx hb hts i_L t_L t_L_ok n_L hown hK hP hD hS 0 rfl rfl 8 (by decide) (hts _ q_250) (fun _ h9 => h9) rfl (by decide +kernel) rfl rfl (Nat.le_of_ble_eq_true rfl) dL_init_47 (fun H locs hP hD hS => ?_)
  have hP : va_P D classes [(h0, .inr (1, [.int p0, .int p2, .ref q1, .int p1, .int 0, .int (-1), .int (-1), .int 0, .int (-1), .int 0, .int 0, .int 0, .int 0])), (q1, .inr (2, [.ref q2, .ref q3, .int 0])), (q2, .inl (tI, 10, .inl (fun _ => 0))), (q3, .inl (tI, 10, .inl (fun _ => 0)))] H := hP
  have hD : va_D A [(h0, .inr (1, [.int p0, .int p2, .ref q1, .int p1, .int 0, .int (-1), .int (-1), .int 0, .int (-1), .int 0, .int 0, .int 0, .int 0])), (q1, .inr (2, [.ref q2, .ref q3, .int 0])), (q2, .inl (tI, 10, .inl (fun _ => 0))), (q3, .inl (tI, 10, .inl (fun _ => 0)))] := hD
  exact W.vret hx hb hr (fun t ht hW => ⟨⟨(), rfl, trivial, q1, q2, q3, by rw [ht]; exact hP, hD⟩, hS.F ht⟩) hS.2.2 dL_init_50
theorem hdyX_init : yX_init.cls ≠ "java/lang/invoke/MethodHandle" ∧ yX_init.cls ≠ "java/lang/invoke/VarHandle" ∧ (parseMethodDescriptor yX_init.desc).map (fun d => d.parameters.length) = some 0 := by decide +kernel
theorem dX_init_0 : decode bX_init 0 = .ok (.aload_n 0, 1) := by decide +kernel
theorem dX_init_1 : decode bX_init 1 = .ok (.invokespecial 1, 3) := by decide +kernel
theorem dX_init_4 : decode bX_init 4 = .ok (.aload_n 0, 1) := by decide +kernel
theorem dX_init_5 : decode bX_init 5 = .ok (.bipush 30, 2) := by decide +kernel
theorem dX_init_7 : decode bX_init 7 = .ok (.anewarray 9, 3) := by decide +kernel
theorem dX_init_10 : decode bX_init 10 = .ok (.putfield 11, 3) := by decide +kernel
theorem dX_init_13 : decode bX_init 13 = .ok (.aload_n 0, 1) := by decide +kernel
theorem dX_init_14 : decode bX_init 14 = .ok (.bipush 6, 2) := by decide +kernel
theorem dX_init_16 : decode bX_init 16 = .ok (.newarray .int, 2) := by decide +kernel
theorem dX_init_18 : decode bX_init 18 = .ok (.putfield 15, 3) := by decide +kernel
theorem dX_init_21 : decode bX_init 21 = .ok (.aload_n 0, 1) := by decide +kernel
theorem dX_init_22 : decode bX_init 22 = .ok (.bipush 10, 2) := by decide +kernel
theorem dX_init_24 : decode bX_init 24 = .ok (.newarray .int, 2) := by decide +kernel
theorem dX_init_26 : decode bX_init 26 = .ok (.putfield 19, 3) := by decide +kernel
theorem dX_init_29 : decode bX_init 29 = .ok (.iconst 0, 1) := by decide +kernel
theorem dX_init_30 : decode bX_init 30 = .ok (.istore_n 1, 1) := by decide +kernel
theorem dX_init_31 : decode bX_init 31 = .ok (.iload_n 1, 1) := by decide +kernel
theorem dX_init_32 : decode bX_init 32 = .ok (.aload_n 0, 1) := by decide +kernel
theorem dX_init_33 : decode bX_init 33 = .ok (.getfield 15, 3) := by decide +kernel
theorem dX_init_36 : decode bX_init 36 = .ok (.arraylength, 1) := by decide +kernel
theorem dX_init_37 : decode bX_init 37 = .ok (.if_icmp .ge 17, 3) := by decide +kernel
theorem dX_init_40 : decode bX_init 40 = .ok (.aload_n 0, 1) := by decide +kernel
theorem dX_init_41 : decode bX_init 41 = .ok (.getfield 15, 3) := by decide +kernel
theorem dX_init_44 : decode bX_init 44 = .ok (.iload_n 1, 1) := by decide +kernel
theorem dX_init_45 : decode bX_init 45 = .ok (.bipush 10, 2) := by decide +kernel
theorem dX_init_47 : decode bX_init 47 = .ok (.iastore, 1) := by decide +kernel
theorem dX_init_48 : decode bX_init 48 = .ok (.iinc 1 1, 3) := by decide +kernel
theorem dX_init_51 : decode bX_init 51 = .ok (.goto (-20), 3) := by decide +kernel
theorem dX_init_54 : decode bX_init 54 = .ok (.aload_n 0, 1) := by decide +kernel
theorem dX_init_55 : decode bX_init 55 = .ok (.bipush 20, 2) := by decide +kernel
theorem dX_init_57 : decode bX_init 57 = .ok (.putfield 22, 3) := by decide +kernel
theorem dX_init_60 : decode bX_init 60 = .ok (.return_, 1) := by decide +kernel
set_option maxHeartbeats 4000000 in
set_option maxRecDepth 100000 in
theorem cX_init (l : Launch) (D : va_G) (tI tJ tL : ClassId) (h0 sz : Nat) : Met l yX_init (Cond.code yX_init bX_init 2 none :: wNeed) { frames := 1, cells := 3, slots := 46, locals := 20 } (va_Pc [.ref h0] (CP D tI tJ tL [(h0, .inr (0, [.null, .null, .null, .int 0, .int 0, .int 0, .long 0, .long 0, .long 0]))] sz true)) (va_Qv (fun _ : Unit => True) (fun _ t => ∃ q1 q2 q3 : Nat, va_P D classes [(h0, .inr (0, [.ref q1, .ref q2, .ref q3, .int 0, .int 0, .int 20, .long 0, .long 0, .long 0])), (q1, .inl (tL, 30, .inr (.inr (.inr (.inr (fun _ => none)))))), (q2, .inl (tI, 6, .inl (upd (upd (upd (upd (upd (upd (fun _ => 0) 0 10) 1 10) 2 10) 3 10) 4 10) 5 10))), (q3, .inl (tI, 10, .inl (fun _ => 0)))] t.heap ∧ va_D (va_A [(h0, .inr (0, [.null, .null, .null, .int 0, .int 0, .int 0, .long 0, .long 0, .long 0]))] sz) [(h0, .inr (0, [.ref q1, .ref q2, .ref q3, .int 0, .int 0, .int 20, .long 0, .long 0, .long 0])), (q1, .inl (tL, 30, .inr (.inr (.inr (.inr (fun _ => none)))))), (q2, .inl (tI, 6, .inl (upd (upd (upd (upd (upd (upd (fun _ => 0) 0 10) 1 10) 2 10) 3 10) 4 10) 5 10))), (q3, .inl (tI, 10, .inl (fun _ => 0)))]) (va_A [(h0, .inr (0, [.null, .null, .null, .int 0, .int 0, .int 0, .long 0, .long 0, .long 0]))] sz)) 3 46 (va_A [(h0, .inr (0, [.null, .null, .null, .int 0, .int 0, .int 0, .long 0, .long 0, .long 0]))] sz) := by
  refine en_M (av := [.ref h0]) (by decide) (Nat.le_of_ble_eq_true rfl) ?_
  intro p e s m below meth c hx hb hml hown hts hr hlocks hmname hP0 ls hl
  obtain ⟨hsz, hP, hK, hD0, hZ, hAO⟩ := hP0
  subst hsz
  have hD := hD0.self (sz := s.heap.size)
  generalize hAe : va_A [(h0, .inr (0, [.null, .null, .null, .int 0, .int 0, .int 0, .long 0, .long 0, .long 0]))] s.heap.size = A at hD ⊢
  have hA : ∀ q : Nat, s.heap.size ≤ q → A q := fun q h => by rw [← hAe]; exact Or.inr h
  have hS : va_S A s.heap s.heap [] := va_S.rf
  replace hl : lv_has ls 2 [(0, .ref h0)] := hl
  refine lv_aload_n hx hb dX_init_0 rfl (lv_at hl 0 rfl) ?_
  refine W.objInit hx hb hown (hts _ q_16) (hts _ q_17) (hts _ q_18) rfl (by rw [hml]; exact hl.1) rfl dX_init_1 (Nat.le_of_ble_eq_true rfl) (Nat.le_of_ble_eq_true rfl) ?_
  refine W.eq (g2 := F0 m 4 ls []) rfl ?_
  refine lv_aload_n hx hb dX_init_4 rfl (lv_at hl 0 rfl) ?_
  refine lv_bipush (v := 30) hx hb dX_init_5 (by decide) ?_
  refine va_newq (N' := 30) hx hb hown (hts _ q_19) (hAO rfl) hK hP hD hS hA (by decide) rfl (by decide) (Nat.le_of_ble_eq_true rfl) (Nat.le_of_ble_eq_true rfl) dX_init_7 (fun q1 cA H hK1 hP hD hS => ?_)
  rw [tyL hK1] at hP hD
  have hP : va_P D classes [(h0, .inr (0, [.null, .null, .null, .int 0, .int 0, .int 0, .long 0, .long 0, .long 0])), (q1, .inl (tL, 30, .inr (.inr (.inr (.inr (fun _ => none))))))] H := hP
  have hD : va_D A [(h0, .inr (0, [.null, .null, .null, .int 0, .int 0, .int 0, .long 0, .long 0, .long 0])), (q1, .inl (tL, 30, .inr (.inr (.inr (.inr (fun _ => none))))))] := hD
  refine va_putF (D := D) (ci := 0) (v := .ref q1) (ty := (t_X 0)) (C := "DroitLine") (T := F_X) (N := 9) hx hb hts i_X t_X t_X_ok n_X hown hK hP hD hS 0 rfl rfl 0 (by decide) (hts _ q_21) (fun _ h9 => h9) rfl hmname rfl (by decide +kernel) rfl rfl (Nat.le_of_ble_eq_true rfl) dX_init_10 (fun H locs hP hD hS => ?_)
  have hP : va_P D classes [(h0, .inr (0, [.ref q1, .null, .null, .int 0, .int 0, .int 0, .long 0, .long 0, .long 0])), (q1, .inl (tL, 30, .inr (.inr (.inr (.inr (fun _ => none))))))] H := hP
  have hD : va_D A [(h0, .inr (0, [.ref q1, .null, .null, .int 0, .int 0, .int 0, .long 0, .long 0, .long 0])), (q1, .inl (tL, 30, .inr (.inr (.inr (.inr (fun _ => none))))))] := hD
  refine lv_aload_n hx hb dX_init_13 rfl (lv_at hl 0 rfl) ?_
  refine lv_bipush (v := 6) hx hb dX_init_14 (by decide) ?_
  refine va_newa (atype := .int) (ty := .int) (N' := 6) (a0 := (6, .inl fun _ => 0)) hx hb (hts _ q_49) rfl hK hP hD hS hA (fun _ => rfl) (by decide) rfl (by decide) (Nat.le_of_ble_eq_true rfl) (Nat.le_of_ble_eq_true rfl) dX_init_16 (fun q2 cA H hK1 hP hD hS => ?_)
  rw [tyI hK1] at hP hD
  have hP : va_P D classes [(h0, .inr (0, [.ref q1, .null, .null, .int 0, .int 0, .int 0, .long 0, .long 0, .long 0])), (q1, .inl (tL, 30, .inr (.inr (.inr (.inr (fun _ => none)))))), (q2, .inl (tI, 6, .inl (fun _ => 0)))] H := hP
  have hD : va_D A [(h0, .inr (0, [.ref q1, .null, .null, .int 0, .int 0, .int 0, .long 0, .long 0, .long 0])), (q1, .inl (tL, 30, .inr (.inr (.inr (.inr (fun _ => none)))))), (q2, .inl (tI, 6, .inl (fun _ => 0)))] := hD
  refine va_putF (D := D) (ci := 0) (v := .ref q2) (ty := (t_X 1)) (C := "DroitLine") (T := F_X) (N := 9) hx hb hts i_X t_X t_X_ok n_X hown hK hP hD hS 0 rfl rfl 1 (by decide) (hts _ q_22) (fun _ h9 => h9) rfl hmname rfl (by decide +kernel) rfl rfl (Nat.le_of_ble_eq_true rfl) dX_init_18 (fun H locs hP hD hS => ?_)
  have hP : va_P D classes [(h0, .inr (0, [.ref q1, .ref q2, .null, .int 0, .int 0, .int 0, .long 0, .long 0, .long 0])), (q1, .inl (tL, 30, .inr (.inr (.inr (.inr (fun _ => none)))))), (q2, .inl (tI, 6, .inl (fun _ => 0)))] H := hP
  have hD : va_D A [(h0, .inr (0, [.ref q1, .ref q2, .null, .int 0, .int 0, .int 0, .long 0, .long 0, .long 0])), (q1, .inl (tL, 30, .inr (.inr (.inr (.inr (fun _ => none)))))), (q2, .inl (tI, 6, .inl (fun _ => 0)))] := hD
  refine lv_aload_n hx hb dX_init_21 rfl (lv_at hl 0 rfl) ?_
  refine lv_bipush (v := 10) hx hb dX_init_22 (by decide) ?_
  refine va_newa (atype := .int) (ty := .int) (N' := 10) (a0 := (10, .inl fun _ => 0)) hx hb (hts _ q_49) rfl hK hP hD hS hA (fun _ => rfl) (by decide) rfl (by decide) (Nat.le_of_ble_eq_true rfl) (Nat.le_of_ble_eq_true rfl) dX_init_24 (fun q3 cA H hK1 hP hD hS => ?_)
  rw [tyI hK1] at hP hD
  have hP : va_P D classes [(h0, .inr (0, [.ref q1, .ref q2, .null, .int 0, .int 0, .int 0, .long 0, .long 0, .long 0])), (q1, .inl (tL, 30, .inr (.inr (.inr (.inr (fun _ => none)))))), (q2, .inl (tI, 6, .inl (fun _ => 0))), (q3, .inl (tI, 10, .inl (fun _ => 0)))] H := hP
  have hD : va_D A [(h0, .inr (0, [.ref q1, .ref q2, .null, .int 0, .int 0, .int 0, .long 0, .long 0, .long 0])), (q1, .inl (tL, 30, .inr (.inr (.inr (.inr (fun _ => none)))))), (q2, .inl (tI, 6, .inl (fun _ => 0))), (q3, .inl (tI, 10, .inl (fun _ => 0)))] := hD
  refine va_putF (D := D) (ci := 0) (v := .ref q3) (ty := (t_X 2)) (C := "DroitLine") (T := F_X) (N := 9) hx hb hts i_X t_X t_X_ok n_X hown hK hP hD hS 0 rfl rfl 2 (by decide) (hts _ q_23) (fun _ h9 => h9) rfl hmname rfl (by decide +kernel) rfl rfl (Nat.le_of_ble_eq_true rfl) dX_init_26 (fun H locs hP hD hS => ?_)
  have hP : va_P D classes [(h0, .inr (0, [.ref q1, .ref q2, .ref q3, .int 0, .int 0, .int 0, .long 0, .long 0, .long 0])), (q1, .inl (tL, 30, .inr (.inr (.inr (.inr (fun _ => none)))))), (q2, .inl (tI, 6, .inl (fun _ => 0))), (q3, .inl (tI, 10, .inl (fun _ => 0)))] H := hP
  have hD : va_D A [(h0, .inr (0, [.ref q1, .ref q2, .ref q3, .int 0, .int 0, .int 0, .long 0, .long 0, .long 0])), (q1, .inl (tL, 30, .inr (.inr (.inr (.inr (fun _ => none)))))), (q2, .inl (tI, 6, .inl (fun _ => 0))), (q3, .inl (tI, 10, .inl (fun _ => 0)))] := hD
  refine lv_iconst (v := 0) hx hb dX_init_29 (by decide) ?_
  refine lv_istore_n (lv' := [(1, .int 0), (0, .ref h0)]) hx hb dX_init_30 rfl hl (by decide) rfl (fun ls hl => ?_)
  refine lv_iload_n hx hb dX_init_31 rfl (lv_at hl 0 rfl) ?_
  refine lv_aload_n hx hb dX_init_32 rfl (lv_at hl 1 rfl) ?_
  refine va_get (D := D) (ci := 0) (v := .ref q2) (C := "DroitLine") (T := F_X) (N := 9) hx hb hts i_X hown hK hP 0 rfl rfl 1 (by decide) (hts _ q_22) (fun _ h9 => h9) rfl dX_init_33 ?_
  refine va_alen hx hb hK hP 2 0 rfl rfl (v := 6) rfl dX_init_36 ?_
  refine lv_icmp_ge (tgt := 54) hx hb dX_init_37 (by decide) (fun c_1 => ?_) (fun c_1 => ?_)
  · exact absurd c_1 (by decide)
  refine lv_aload_n hx hb dX_init_40 rfl (lv_at hl 1 rfl) ?_
  refine va_get (D := D) (ci := 0) (v := .ref q2) (C := "DroitLine") (T := F_X) (N := 9) hx hb hts i_X hown hK hP 0 rfl rfl 1 (by decide) (hts _ q_22) (fun _ h9 => h9) rfl dX_init_41 ?_
  refine lv_iload_n hx hb dX_init_44 rfl (lv_at hl 0 rfl) ?_
  refine lv_bipush (v := 10) hx hb dX_init_45 (by decide) ?_
  refine va_iast hx hb hK hP hD hS 2 0 rfl rfl (by rw [vp_in_iff]; decide) dX_init_47 (fun H locs hP hD hS => ?_)
  have hP : va_P D classes [(h0, .inr (0, [.ref q1, .ref q2, .ref q3, .int 0, .int 0, .int 0, .long 0, .long 0, .long 0])), (q1, .inl (tL, 30, .inr (.inr (.inr (.inr (fun _ => none)))))), (q2, .inl (tI, 6, .inl (upd (fun _ => 0) 0 10))), (q3, .inl (tI, 10, .inl (fun _ => 0)))] H := hP
  have hD : va_D A [(h0, .inr (0, [.ref q1, .ref q2, .ref q3, .int 0, .int 0, .int 0, .long 0, .long 0, .long 0])), (q1, .inl (tL, 30, .inr (.inr (.inr (.inr (fun _ => none)))))), (q2, .inl (tI, 6, .inl (upd (fun _ => 0) 0 10))), (q3, .inl (tI, 10, .inl (fun _ => 0)))] := hD
  refine lv_iinc (v := 1) (lv' := [(1, .int 1), (0, .ref h0)]) hx hb dX_init_48 hl (k := 0) rfl (by decide) (by decide) rfl (fun ls hl => ?_)
  refine lv_goto (tgt := 31) hx hb dX_init_51 (by decide) ?_
  refine lv_iload_n hx hb dX_init_31 rfl (lv_at hl 0 rfl) ?_
  refine lv_aload_n hx hb dX_init_32 rfl (lv_at hl 1 rfl) ?_
  refine va_get (D := D) (ci := 0) (v := .ref q2) (C := "DroitLine") (T := F_X) (N := 9) hx hb hts i_X hown hK hP 0 rfl rfl 1 (by decide) (hts _ q_22) (fun _ h9 => h9) rfl dX_init_33 ?_
  refine va_alen hx hb hK hP 2 0 rfl rfl (v := 6) rfl dX_init_36 ?_
  refine lv_icmp_ge (tgt := 54) hx hb dX_init_37 (by decide) (fun c_2 => ?_) (fun c_2 => ?_)
  · exact absurd c_2 (by decide)
  refine lv_aload_n hx hb dX_init_40 rfl (lv_at hl 1 rfl) ?_
  refine va_get (D := D) (ci := 0) (v := .ref q2) (C := "DroitLine") (T := F_X) (N := 9) hx hb hts i_X hown hK hP 0 rfl rfl 1 (by decide) (hts _ q_22) (fun _ h9 => h9) rfl dX_init_41 ?_
  refine lv_iload_n hx hb dX_init_44 rfl (lv_at hl 0 rfl) ?_
  refine lv_bipush (v := 10) hx hb dX_init_45 (by decide) ?_
  refine va_iast hx hb hK hP hD hS 2 0 rfl rfl (by rw [vp_in_iff]; decide) dX_init_47 (fun H locs hP hD hS => ?_)
  have hP : va_P D classes [(h0, .inr (0, [.ref q1, .ref q2, .ref q3, .int 0, .int 0, .int 0, .long 0, .long 0, .long 0])), (q1, .inl (tL, 30, .inr (.inr (.inr (.inr (fun _ => none)))))), (q2, .inl (tI, 6, .inl (upd (upd (fun _ => 0) 0 10) 1 10))), (q3, .inl (tI, 10, .inl (fun _ => 0)))] H := hP
  have hD : va_D A [(h0, .inr (0, [.ref q1, .ref q2, .ref q3, .int 0, .int 0, .int 0, .long 0, .long 0, .long 0])), (q1, .inl (tL, 30, .inr (.inr (.inr (.inr (fun _ => none)))))), (q2, .inl (tI, 6, .inl (upd (upd (fun _ => 0) 0 10) 1 10))), (q3, .inl (tI, 10, .inl (fun _ => 0)))] := hD
  refine lv_iinc (v := 2) (lv' := [(1, .int 2), (0, .ref h0)]) hx hb dX_init_48 hl (k := 0) rfl (by decide) (by decide) rfl (fun ls hl => ?_)
  refine lv_goto (tgt := 31) hx hb dX_init_51 (by decide) ?_
  refine lv_iload_n hx hb dX_init_31 rfl (lv_at hl 0 rfl) ?_
  refine lv_aload_n hx hb dX_init_32 rfl (lv_at hl 1 rfl) ?_
  refine va_get (D := D) (ci := 0) (v := .ref q2) (C := "DroitLine") (T := F_X) (N := 9) hx hb hts i_X hown hK hP 0 rfl rfl 1 (by decide) (hts _ q_22) (fun _ h9 => h9) rfl dX_init_33 ?_
  refine va_alen hx hb hK hP 2 0 rfl rfl (v := 6) rfl dX_init_36 ?_
  refine lv_icmp_ge (tgt := 54) hx hb dX_init_37 (by decide) (fun c_3 => ?_) (fun c_3 => ?_)
  · exact absurd c_3 (by decide)
  refine lv_aload_n hx hb dX_init_40 rfl (lv_at hl 1 rfl) ?_
  refine va_get (D := D) (ci := 0) (v := .ref q2) (C := "DroitLine") (T := F_X) (N := 9) hx hb hts i_X hown hK hP 0 rfl rfl 1 (by decide) (hts _ q_22) (fun _ h9 => h9) rfl dX_init_41 ?_
  refine lv_iload_n hx hb dX_init_44 rfl (lv_at hl 0 rfl) ?_
  refine lv_bipush (v := 10) hx hb dX_init_45 (by decide) ?_
  refine va_iast hx hb hK hP hD hS 2 0 rfl rfl (by rw [vp_in_iff]; decide) dX_init_47 (fun H locs hP hD hS => ?_)
  have hP : va_P D classes [(h0, .inr (0, [.ref q1, .ref q2, .ref q3, .int 0, .int 0, .int 0, .long 0, .long 0, .long 0])), (q1, .inl (tL, 30, .inr (.inr (.inr (.inr (fun _ => none)))))), (q2, .inl (tI, 6, .inl (upd (upd (upd (fun _ => 0) 0 10) 1 10) 2 10))), (q3, .inl (tI, 10, .inl (fun _ => 0)))] H := hP
  have hD : va_D A [(h0, .inr (0, [.ref q1, .ref q2, .ref q3, .int 0, .int 0, .int 0, .long 0, .long 0, .long 0])), (q1, .inl (tL, 30, .inr (.inr (.inr (.inr (fun _ => none)))))), (q2, .inl (tI, 6, .inl (upd (upd (upd (fun _ => 0) 0 10) 1 10) 2 10))), (q3, .inl (tI, 10, .inl (fun _ => 0)))] := hD
  refine lv_iinc (v := 3) (lv' := [(1, .int 3), (0, .ref h0)]) hx hb dX_init_48 hl (k := 0) rfl (by decide) (by decide) rfl (fun ls hl => ?_)
  refine lv_goto (tgt := 31) hx hb dX_init_51 (by decide) ?_
  refine lv_iload_n hx hb dX_init_31 rfl (lv_at hl 0 rfl) ?_
  refine lv_aload_n hx hb dX_init_32 rfl (lv_at hl 1 rfl) ?_
  refine va_get (D := D) (ci := 0) (v := .ref q2) (C := "DroitLine") (T := F_X) (N := 9) hx hb hts i_X hown hK hP 0 rfl rfl 1 (by decide) (hts _ q_22) (fun _ h9 => h9) rfl dX_init_33 ?_
  refine va_alen hx hb hK hP 2 0 rfl rfl (v := 6) rfl dX_init_36 ?_
  refine lv_icmp_ge (tgt := 54) hx hb dX_init_37 (by decide) (fun c_4 => ?_) (fun c_4 => ?_)
  · exact absurd c_4 (by decide)
  refine lv_aload_n hx hb dX_init_40 rfl (lv_at hl 1 rfl) ?_
  refine va_get (D := D) (ci := 0) (v := .ref q2) (C := "DroitLine") (T := F_X) (N := 9) hx hb hts i_X hown hK hP 0 rfl rfl 1 (by decide) (hts _ q_22) (fun _ h9 => h9) rfl dX_init_41 ?_
  refine lv_iload_n hx hb dX_init_44 rfl (lv_at hl 0 rfl) ?_
  refine lv_bipush (v := 10) hx hb dX_init_45 (by decide) ?_
  refine va_iast hx hb hK hP hD hS 2 0 rfl rfl (by rw [vp_in_iff]; decide) dX_init_47 (fun H locs hP hD hS => ?_)
  have hP : va_P D classes [(h0, .inr (0, [.ref q1, .ref q2, .ref q3, .int 0, .int 0, .int 0, .long 0, .long 0, .long 0])), (q1, .inl (tL, 30, .inr (.inr (.inr (.inr (fun _ => none)))))), (q2, .inl (tI, 6, .inl (upd (upd (upd (upd (fun _ => 0) 0 10) 1 10) 2 10) 3 10))), (q3, .inl (tI, 10, .inl (fun _ => 0)))] H := hP
  have hD : va_D A [(h0, .inr (0, [.ref q1, .ref q2, .ref q3, .int 0, .int 0, .int 0, .long 0, .long 0, .long 0])), (q1, .inl (tL, 30, .inr (.inr (.inr (.inr (fun _ => none)))))), (q2, .inl (tI, 6, .inl (upd (upd (upd (upd (fun _ => 0) 0 10) 1 10) 2 10) 3 10))), (q3, .inl (tI, 10, .inl (fun _ => 0)))] := hD
  refine lv_iinc (v := 4) (lv' := [(1, .int 4), (0, .ref h0)]) hx hb dX_init_48 hl (k := 0) rfl (by decide) (by decide) rfl (fun ls hl => ?_)
  refine lv_goto (tgt := 31) hx hb dX_init_51 (by decide) ?_
  refine lv_iload_n hx hb dX_init_31 rfl (lv_at hl 0 rfl) ?_
  refine lv_aload_n hx hb dX_init_32 rfl (lv_at hl 1 rfl) ?_
  refine va_get (D := D) (ci := 0) (v := .ref q2) (C := "DroitLine") (T := F_X) (N := 9) hx hb hts i_X hown hK hP 0 rfl rfl 1 (by decide) (hts _ q_22) (fun _ h9 => h9) rfl dX_init_33 ?_
  refine va_alen hx hb hK hP 2 0 rfl rfl (v := 6) rfl dX_init_36 ?_
  refine lv_icmp_ge (tgt := 54) hx hb dX_init_37 (by decide) (fun c_5 => ?_) (fun c_5 => ?_)
  · exact absurd c_5 (by decide)
  refine lv_aload_n hx hb dX_init_40 rfl (lv_at hl 1 rfl) ?_
  refine va_get (D := D) (ci := 0) (v := .ref q2) (C := "DroitLine") (T := F_X) (N := 9) hx hb hts i_X hown hK hP 0 rfl rfl 1 (by decide) (hts _ q_22) (fun _ h9 => h9) rfl dX_init_41 ?_
  refine lv_iload_n hx hb dX_init_44 rfl (lv_at hl 0 rfl) ?_
  refine lv_bipush (v := 10) hx hb dX_init_45 (by decide) ?_
  refine va_iast hx hb hK hP hD hS 2 0 rfl rfl (by rw [vp_in_iff]; decide) dX_init_47 (fun H locs hP hD hS => ?_)
  have hP : va_P D classes [(h0, .inr (0, [.ref q1, .ref q2, .ref q3, .int 0, .int 0, .int 0, .long 0, .long 0, .long 0])), (q1, .inl (tL, 30, .inr (.inr (.inr (.inr (fun _ => none)))))), (q2, .inl (tI, 6, .inl (upd (upd (upd (upd (upd (fun _ => 0) 0 10) 1 10) 2 10) 3 10) 4 10))), (q3, .inl (tI, 10, .inl (fun _ => 0)))] H := hP
  have hD : va_D A [(h0, .inr (0, [.ref q1, .ref q2, .ref q3, .int 0, .int 0, .int 0, .long 0, .long 0, .long 0])), (q1, .inl (tL, 30, .inr (.inr (.inr (.inr (fun _ => none)))))), (q2, .inl (tI, 6, .inl (upd (upd (upd (upd (upd (fun _ => 0) 0 10) 1 10) 2 10) 3 10) 4 10))), (q3, .inl (tI, 10, .inl (fun _ => 0)))] := hD
  refine lv_iinc (v := 5) (lv' := [(1, .int 5), (0, .ref h0)]) hx hb dX_init_48 hl (k := 0) rfl (by decide) (by decide) rfl (fun ls hl => ?_)
  refine lv_goto (tgt := 31) hx hb dX_init_51 (by decide) ?_
  refine lv_iload_n hx hb dX_init_31 rfl (lv_at hl 0 rfl) ?_
  refine lv_aload_n hx hb dX_init_32 rfl (lv_at hl 1 rfl) ?_
  refine va_get (D := D) (ci := 0) (v := .ref q2) (C := "DroitLine") (T := F_X) (N := 9) hx hb hts i_X hown hK hP 0 rfl rfl 1 (by decide) (hts _ q_22) (fun _ h9 => h9) rfl dX_init_33 ?_
  refine va_alen hx hb hK hP 2 0 rfl rfl (v := 6) rfl dX_init_36 ?_
  refine lv_icmp_ge (tgt := 54) hx hb dX_init_37 (by decide) (fun c_6 => ?_) (fun c_6 => ?_)
  · exact absurd c_6 (by decide)
  refine lv_aload_n hx hb dX_init_40 rfl (lv_at hl 1 rfl) ?_
  refine va_get (D := D) (ci := 0) (v := .ref q2) (C := "DroitLine") (T := F_X) (N := 9) hx hb hts i_X hown hK hP 0 rfl rfl 1 (by decide) (hts _ q_22) (fun _ h9 => h9) rfl dX_init_41 ?_
  refine lv_iload_n hx hb dX_init_44 rfl (lv_at hl 0 rfl) ?_
  refine lv_bipush (v := 10) hx hb dX_init_45 (by decide) ?_
  refine va_iast hx hb hK hP hD hS 2 0 rfl rfl (by rw [vp_in_iff]; decide) dX_init_47 (fun H locs hP hD hS => ?_)
  have hP : va_P D classes [(h0, .inr (0, [.ref q1, .ref q2, .ref q3, .int 0, .int 0, .int 0, .long 0, .long 0, .long 0])), (q1, .inl (tL, 30, .inr (.inr (.inr (.inr (fun _ => none)))))), (q2, .inl (tI, 6, .inl (upd (upd (upd (upd (upd (upd (fun _ => 0) 0 10) 1 10) 2 10) 3 10) 4 10) 5 10))), (q3, .inl (tI, 10, .inl (fun _ => 0)))] H := hP
  have hD : va_D A [(h0, .inr (0, [.ref q1, .ref q2, .ref q3, .int 0, .int 0, .int 0, .long 0, .long 0, .long 0])), (q1, .inl (tL, 30, .inr (.inr (.inr (.inr (fun _ => none)))))), (q2, .inl (tI, 6, .inl (upd (upd (upd (upd (upd (upd (fun _ => 0) 0 10) 1 10) 2 10) 3 10) 4 10) 5 10))), (q3, .inl (tI, 10, .inl (fun _ => 0)))] := hD
  refine lv_iinc (v := 6) (lv' := [(1, .int 6), (0, .ref h0)]) hx hb dX_init_48 hl (k := 0) rfl (by decide) (by decide) rfl (fun ls hl => ?_)
  refine lv_goto (tgt := 31) hx hb dX_init_51 (by decide) ?_
  refine lv_iload_n hx hb dX_init_31 rfl (lv_at hl 0 rfl) ?_
  refine lv_aload_n hx hb dX_init_32 rfl (lv_at hl 1 rfl) ?_
  refine va_get (D := D) (ci := 0) (v := .ref q2) (C := "DroitLine") (T := F_X) (N := 9) hx hb hts i_X hown hK hP 0 rfl rfl 1 (by decide) (hts _ q_22) (fun _ h9 => h9) rfl dX_init_33 ?_
  refine va_alen hx hb hK hP 2 0 rfl rfl (v := 6) rfl dX_init_36 ?_
  refine lv_icmp_ge (tgt := 54) hx hb dX_init_37 (by decide) (fun c_7 => ?_) (fun c_7 => ?_)
  rotate_left
  · exact absurd c_7 (by decide)
  refine lv_aload_n hx hb dX_init_54 rfl (lv_at hl 1 rfl) ?_
  refine lv_bipush (v := 20) hx hb dX_init_55 (by decide) ?_
  refine va_put (D := D) (ci := 0) (v := .int 20) (ty := (t_X 5)) (C := "DroitLine") (T := F_X) (N := 9) hx hb hts i_X t_X t_X_ok n_X hown hK hP hD hS 0 rfl rfl 5 (by decide) (hts _ q_26) (fun _ h9 => h9) rfl (by decide +kernel) rfl rfl (Nat.le_of_ble_eq_true rfl) dX_init_57 (fun H locs hP hD hS => ?_)
  have hP : va_P D classes [(h0, .inr (0, [.ref q1, .ref q2, .ref q3, .int 0, .int 0, .int 20, .long 0, .long 0, .long 0])), (q1, .inl (tL, 30, .inr (.inr (.inr (.inr (fun _ => none)))))), (q2, .inl (tI, 6, .inl (upd (upd (upd (upd (upd (upd (fun _ => 0) 0 10) 1 10) 2 10) 3 10) 4 10) 5 10))), (q3, .inl (tI, 10, .inl (fun _ => 0)))] H := hP
  have hD : va_D A [(h0, .inr (0, [.ref q1, .ref q2, .ref q3, .int 0, .int 0, .int 20, .long 0, .long 0, .long 0])), (q1, .inl (tL, 30, .inr (.inr (.inr (.inr (fun _ => none)))))), (q2, .inl (tI, 6, .inl (upd (upd (upd (upd (upd (upd (fun _ => 0) 0 10) 1 10) 2 10) 3 10) 4 10) 5 10))), (q3, .inl (tI, 10, .inl (fun _ => 0)))] := hD
  exact W.vret hx hb hr (fun t ht hW => ⟨⟨(), rfl, trivial, q1, q2, q3, by rw [ht]; exact hP, hD⟩, hS.F ht⟩) hS.2.2 dX_init_60
end
section
theorem va_P_mem {D : va_G} {cl : List vw_C} {ws : va_W} {H : Heap} : va_P D cl ws H ↔ ∀ q ∈ ws, va_at D cl q H :=
  ⟨fun h q hq => by obtain ⟨k, hk⟩ := List.getElem?_of_mem hq; exact h k q hk, fun h k q hk => h q (List.mem_of_getElem? hk)⟩
theorem lastP {D : va_G} {cl : List vw_C} {ws : va_W} {q0 : Nat} {e : va_E} {H : Heap} (h : va_P D cl (ws ++ [(q0, e)]) H) : va_P D cl ws H ∧ va_P D cl [(q0, e)] H := by
  rw [va_P_mem] at h
  exact ⟨va_P_mem.mpr fun q hq => h q (List.mem_append_left _ hq), va_P_mem.mpr fun q hq => h q (List.mem_append_right _ hq)⟩
theorem lastD {A : Nat → Prop} {ws : va_W} {q0 : Nat} {e : va_E} (h : va_D A (ws ++ [(q0, e)])) : va_D A ws ∧ A q0 ∧ (∀ q ∈ ws, q.1 ≠ q0) ∧ va_D (fun _ => True) [(q0, e)] := by
  have hl : (ws ++ [(q0, e)])[ws.length]? = some (q0, e) := by rw [List.getElem?_append_right (Nat.le_refl _), Nat.sub_self]; rfl
  have hlt : ∀ (k : Nat) (q : Nat × va_E), ws[k]? = some q → k < ws.length ∧ (ws ++ [(q0, e)])[k]? = some q := fun k q hk => by
    have h1 := (List.getElem?_eq_some_iff.mp hk).1
    exact ⟨h1, by rw [List.getElem?_append_left h1]; exact hk⟩
  refine ⟨⟨fun i j p q hi hj hpq => h.1 i j p q (hlt i p hi).2 (hlt j q hj).2 hpq, fun k q hk => h.2 k q (hlt k q hk).2⟩, h.2 _ _ hl, fun q hq he => ?_, ⟨fun i j p q hi hj _ => ?_, fun _ _ _ => trivial⟩⟩
  · obtain ⟨k, hk⟩ := List.getElem?_of_mem hq
    have := h.1 k ws.length _ _ (hlt k q hk).2 hl he
    have := (hlt k q hk).1
    omega
  · have h1 := (List.getElem?_eq_some_iff.mp hi).1
    have h2 := (List.getElem?_eq_some_iff.mp hj).1
    simp at h1 h2
    omega
/-- the cells that a constructor made of the last cell, beside the rest -/
theorem ctor_join {D : va_G} {cl : List vw_C} {A : Nat → Prop} {ws w1 : va_W} {q0 : Nat} {e : va_E} {H H1 : Heap} (hP : va_P D cl (ws ++ [(q0, e)]) H) (hD : va_D A (ws ++ [(q0, e)])) (hA : ∀ q, H.size ≤ q → A q)
    (hk : ∀ q : Nat, q < H.size → ¬ va_A [(q0, e)] H.size q → H1[q]? = H[q]?) (hP1 : va_P D cl w1 H1) (hD1 : va_D (va_A [(q0, e)] H.size) w1) : va_P D cl (ws ++ w1) H1 ∧ va_D A (ws ++ w1) := by
  obtain ⟨p1, -⟩ := lastP hP
  obtain ⟨d1, d2, d3, -⟩ := lastD hD
  have hx : ∀ q, va_A [(q0, e)] H.size q → q = q0 ∨ H.size ≤ q := by
    intro q h
    rcases h with ⟨k, e', h⟩ | h
    · have := List.mem_of_getElem? h
      simp at this
      exact Or.inl this.1
    · exact Or.inr h
  have hno : ∀ q ∈ ws, q.1 < H.size ∧ ¬ va_A [(q0, e)] H.size q.1 := fun q hq => by
    obtain ⟨k, hk'⟩ := List.getElem?_of_mem hq
    have hlt := (p1 k q hk').lt
    refine ⟨hlt, fun h => ?_⟩
    rcases hx _ h with h | h
    · exact d3 q hq h
    · omega
  refine ⟨va_P.app (p1.kept fun k q hk' => hk q.1 (hno q (List.mem_of_getElem? hk')).1 (hno q (List.mem_of_getElem? hk')).2) hP1, va_D.app d1 (hD1.weaken fun k q _ h => ?_) fun i j a b ha hb hab => ?_⟩
  · rcases hx _ h with h | h
    · rw [h]; exact d2
    · exact hA _ h
  · exact (hno a (List.mem_of_getElem? ha)).2 (by rw [hab]; exact hD1.2 j b hb)
theorem ctor_free {A : Nat → Prop} {q0 sz : Nat} {e : va_E} (h0 : A q0) (hA : ∀ q, sz ≤ q → A q) : ∀ q, va_A [(q0, e)] sz q → A q := by
  intro q h
  rcases h with ⟨k, e', h⟩ | h
  · have := List.mem_of_getElem? h
    simp at this
    rw [this.1]; exact h0
  · exact hA q h
/-- a new lot's rows -/
def newrow (p0 p1 p2 : Int32) : Nat → Int32 := fun k => if k = 0 then p0 else if k = 1 then p2 else if k = 3 then p1 else if k = 5 then -1 else if k = 6 then -1 else if k = 8 then -1 else 0
def newlot (sA : NA) (n : Nat) (p0 p1 p2 : Int32) : NA := fun x => if x = 4 * n + 11 then newrow p0 p1 p2 else if 4 * n + 11 < x then (fun _ => 0) else sA x
theorem gr_ad {ad ad' : Nat → Nat} {tI tJ tL : ClassId} {n : Nat} {lr : Nat → Int64} {r : Nat → Int32} {k : Nat} (h : ∀ j, j < 4 * n + 11 → ad' j = ad j) (hk : k < 4 * n + 11) (h1 : k ≠ 1) : gr ad' tI tJ tL (n + 1) lr r k = gr ad tI tJ tL n lr r k := by
  unfold gr
  by_cases c0 : k = 0
  · rw [if_pos c0, if_pos c0]; simp [xfs, h 1 (by omega), h 2 (by omega), h 3 (by omega)]
  rw [if_neg c0, if_neg c0, if_neg h1, if_neg h1]
  by_cases c2 : k = 2
  · rw [if_pos c2, if_pos c2]
  rw [if_neg c2, if_neg c2]
  by_cases c3 : k = 3
  · rw [if_pos c3, if_pos c3]
  rw [if_neg c3, if_neg c3]
  by_cases c6 : k < 11
  · rw [if_pos c6, if_pos c6]
  rw [if_neg c6, if_neg c6]
  by_cases c7 : (k - 11) % 4 = 0
  · rw [if_pos c7, if_pos c7]; simp [lfs, h (k + 1) (by omega)]
  rw [if_neg c7, if_neg c7]
  by_cases c8 : (k - 11) % 4 = 1
  · rw [if_pos c8, if_pos c8]; simp [ofs, h (k + 1) (by omega), h (k + 2) (by omega)]
  rw [if_neg c8, if_neg c8]
def adNew (ad : Nat → Nat) (n q0 q1 q2 q3 : Nat) : Nat → Nat := fun k => if k < 4 * n + 11 then ad k else if k = 4 * n + 11 then q0 else if k = 4 * n + 12 then q1 else if k = 4 * n + 13 then q2 else q3
theorem adNew_lt {ad : Nat → Nat} {n q0 q1 q2 q3 k : Nat} (h : k < 4 * n + 11) : adNew ad n q0 q1 q2 q3 k = ad k := if_pos h
theorem wv_len {ad : Nat → Nat} {tI tJ tL : ClassId} {n : Nat} {sL : NL} {sA : NA} : (wv ad tI tJ tL n sL sA).length = 4 * n + 11 := by simp [wv]
theorem wv_new {ad : Nat → Nat} {tI tJ tL : ClassId} {n : Nat} {sL : NL} {sA : NA} {q0 q1 q2 q3 : Nat} {p0 p1 p2 : Int32} :
    ((wv ad tI tJ tL n sL sA) ++ ([(q0, .inr (1, [.int p0, .int p2, .ref q1, .int p1, .int 0, .int (-1), .int (-1), .int 0, .int (-1), .int 0, .int 0, .int 0, .int 0])), (q1, .inr (2, [.ref q2, .ref q3, .int 0])), (q2, .inl (tI, 10, .inl (fun _ => 0))), (q3, .inl (tI, 10, .inl (fun _ => 0)))] : va_W)).set 1 (ad 1, .inl (tL, 30, .inr (.inr (.inr (.inr (va_up (hof ad n) n (some q0))))))) = wv (adNew ad n q0 q1 q2 q3) tI tJ tL (n + 1) sL (newlot sA n p0 p1 p2) := by
  have hh : va_up (hof ad n) n (some q0) = hof (adNew ad n q0 q1 q2 q3) (n + 1) := by
    funext j
    unfold va_up hof
    by_cases hj : j = n
    · subst hj
      rw [if_pos rfl, if_pos (by omega)]
      simp [adNew]
    · rw [if_neg hj]
      by_cases hl : j < n
      · rw [if_pos hl, if_pos (by omega), adNew_lt (by omega)]
      · rw [if_neg hl, if_neg (by omega)]
  have e2 : newlot sA n p0 p1 p2 (4 * n + 11) = newrow p0 p1 p2 := by simp [newlot]
  have e3 : newlot sA n p0 p1 p2 (4 * n + 12) = fun _ => 0 := by unfold newlot; rw [if_neg (by omega), if_pos (by omega)]
  have e4 : newlot sA n p0 p1 p2 (4 * n + 13) = fun _ => 0 := by unfold newlot; rw [if_neg (by omega), if_pos (by omega)]
  have e5 : newlot sA n p0 p1 p2 (4 * n + 14) = fun _ => 0 := by unfold newlot; rw [if_neg (by omega), if_pos (by omega)]
  have a2 : adNew ad n q0 q1 q2 q3 (4 * n + 11) = q0 := by unfold adNew; rw [if_neg (by omega), if_pos rfl]
  have a3 : adNew ad n q0 q1 q2 q3 (4 * n + 12) = q1 := by unfold adNew; rw [if_neg (by omega), if_neg (by omega), if_pos rfl]
  have a4 : adNew ad n q0 q1 q2 q3 (4 * n + 13) = q2 := by unfold adNew; rw [if_neg (by omega), if_neg (by omega), if_neg (by omega), if_pos rfl]
  have a5 : adNew ad n q0 q1 q2 q3 (4 * n + 14) = q3 := by unfold adNew; rw [if_neg (by omega), if_neg (by omega), if_neg (by omega), if_neg (by omega)]
  apply List.ext_getElem?
  intro j
  by_cases h1 : j = 1
  · subst h1
    rw [List.getElem?_set_self (by simp [wv_len]), wv_get (by omega), adNew_lt (by omega), hh]
    rfl
  rw [List.getElem?_set_ne (Ne.symm h1)]
  by_cases hl : j < 4 * n + 11
  · rw [List.getElem?_append_left (by rw [wv_len]; exact hl), wv_get hl, wv_get (by omega), adNew_lt hl, gr_ad (fun k hk => adNew_lt hk) hl h1]
    have : newlot sA n p0 p1 p2 j = sA j := by unfold newlot; rw [if_neg (by omega), if_neg (by omega)]
    rw [this]
  · rw [List.getElem?_append_right (by rw [wv_len]; omega), wv_len]
    by_cases g2 : j = 4 * n + 11
    · subst g2
      rw [wv_get (by omega), gr_L, e2, a2, Nat.sub_self]
      simp [lfs, newrow, a3]
    by_cases g3 : j = 4 * n + 12
    · subst g3
      rw [wv_get (by omega), gr_O, e3, a3, show 4 * n + 12 - (4 * n + 11) = 1 by omega]
      simp [ofs, a4, a5]
    by_cases g4 : j = 4 * n + 13
    · subst g4
      rw [wv_get (by omega), gr_B, e4, a4, show 4 * n + 13 - (4 * n + 11) = 2 by omega]
      rfl
    by_cases g5 : j = 4 * n + 14
    · subst g5
      rw [wv_get (by omega), gr_Am, e5, a5, show 4 * n + 14 - (4 * n + 11) = 3 by omega]
      rfl
    rw [List.getElem?_eq_none (by simp; omega), List.getElem?_eq_none (by rw [wv_len]; omega)]
def fX_lot (sL : NL) (sA : NA) (p0 : Int32) (p1 : Int32) (p2 : Int32) : Nat := bnd4 (fX_checkSeller p0) (bnd4 (fX_checkRange p1 0 1000000) (bnd4 (fX_checkArtist p2) (if (sA 0 3) < 0 then 3 else (if (sA 0 3) < 30 then 0 else 3))))
theorem hdyX_lot : yX_lot.cls ≠ "java/lang/invoke/MethodHandle" ∧ yX_lot.cls ≠ "java/lang/invoke/VarHandle" ∧ (parseMethodDescriptor yX_lot.desc).map (fun d => d.parameters.length) = some 3 := by decide +kernel
theorem dX_lot_0 : decode bX_lot 0 = .ok (.iload_n 1, 1) := by decide +kernel
theorem dX_lot_1 : decode bX_lot 1 = .ok (.invokestatic 26, 3) := by decide +kernel
theorem dX_lot_4 : decode bX_lot 4 = .ok (.iload_n 2, 1) := by decide +kernel
theorem dX_lot_5 : decode bX_lot 5 = .ok (.iconst 0, 1) := by decide +kernel
theorem dX_lot_6 : decode bX_lot 6 = .ok (.ldc 30, 2) := by decide +kernel
theorem dX_lot_8 : decode bX_lot 8 = .ok (.invokestatic 31, 3) := by decide +kernel
theorem dX_lot_11 : decode bX_lot 11 = .ok (.iload_n 3, 1) := by decide +kernel
theorem dX_lot_12 : decode bX_lot 12 = .ok (.invokestatic 35, 3) := by decide +kernel
theorem dX_lot_15 : decode bX_lot 15 = .ok (.aload_n 0, 1) := by decide +kernel
theorem dX_lot_16 : decode bX_lot 16 = .ok (.getfield 38, 3) := by decide +kernel
theorem dX_lot_19 : decode bX_lot 19 = .ok (.ifCond .lt 15, 3) := by decide +kernel
theorem dX_lot_22 : decode bX_lot 22 = .ok (.aload_n 0, 1) := by decide +kernel
theorem dX_lot_23 : decode bX_lot 23 = .ok (.getfield 38, 3) := by decide +kernel
theorem dX_lot_26 : decode bX_lot 26 = .ok (.aload_n 0, 1) := by decide +kernel
theorem dX_lot_27 : decode bX_lot 27 = .ok (.getfield 11, 3) := by decide +kernel
theorem dX_lot_30 : decode bX_lot 30 = .ok (.arraylength, 1) := by decide +kernel
theorem dX_lot_31 : decode bX_lot 31 = .ok (.if_icmp .lt 13, 3) := by decide +kernel
theorem dX_lot_34 : decode bX_lot 34 = .ok (.new 41, 3) := by decide +kernel
theorem dX_lot_37 : decode bX_lot 37 = .ok (.dup, 1) := by decide +kernel
theorem dX_lot_38 : decode bX_lot 38 = .ok (.ldc 43, 2) := by decide +kernel
theorem dX_lot_40 : decode bX_lot 40 = .ok (.invokespecial 45, 3) := by decide +kernel
theorem dX_lot_43 : decode bX_lot 43 = .ok (.athrow, 1) := by decide +kernel
theorem dX_lot_44 : decode bX_lot 44 = .ok (.aload_n 0, 1) := by decide +kernel
theorem dX_lot_45 : decode bX_lot 45 = .ok (.getfield 38, 3) := by decide +kernel
theorem dX_lot_48 : decode bX_lot 48 = .ok (.istore 4, 2) := by decide +kernel
theorem dX_lot_50 : decode bX_lot 50 = .ok (.aload_n 0, 1) := by decide +kernel
theorem dX_lot_51 : decode bX_lot 51 = .ok (.getfield 11, 3) := by decide +kernel
theorem dX_lot_54 : decode bX_lot 54 = .ok (.iload 4, 2) := by decide +kernel
theorem dX_lot_56 : decode bX_lot 56 = .ok (.new 9, 3) := by decide +kernel
theorem dX_lot_59 : decode bX_lot 59 = .ok (.dup, 1) := by decide +kernel
theorem dX_lot_60 : decode bX_lot 60 = .ok (.iload_n 1, 1) := by decide +kernel
theorem dX_lot_61 : decode bX_lot 61 = .ok (.iload_n 2, 1) := by decide +kernel
theorem dX_lot_62 : decode bX_lot 62 = .ok (.invokestatic 48, 3) := by decide +kernel
theorem dX_lot_65 : decode bX_lot 65 = .ok (.iload_n 3, 1) := by decide +kernel
theorem dX_lot_66 : decode bX_lot 66 = .ok (.invokespecial 52, 3) := by decide +kernel
theorem dX_lot_69 : decode bX_lot 69 = .ok (.aastore, 1) := by decide +kernel
theorem dX_lot_70 : decode bX_lot 70 = .ok (.aload_n 0, 1) := by decide +kernel
theorem dX_lot_71 : decode bX_lot 71 = .ok (.iload 4, 2) := by decide +kernel
theorem dX_lot_73 : decode bX_lot 73 = .ok (.iconst 1, 1) := by decide +kernel
theorem dX_lot_74 : decode bX_lot 74 = .ok (.iadd, 1) := by decide +kernel
theorem dX_lot_75 : decode bX_lot 75 = .ok (.putfield 38, 3) := by decide +kernel
theorem dX_lot_78 : decode bX_lot 78 = .ok (.iload 4, 2) := by decide +kernel
theorem dX_lot_80 : decode bX_lot 80 = .ok (.ireturn, 1) := by decide +kernel
set_option maxHeartbeats 4000000 in
set_option maxRecDepth 100000 in
theorem cX_lot (l : Launch) (hl9 : l.stackTraces = false) (D : va_G) (tI tJ tL : ClassId) (A : Nat → Prop) (sg ad : Nat → Nat) (n : Nat) (sL : NL) (sA : NA) (p0 : Int32) (p1 : Int32) (p2 : Int32) (hn30 : n ≤ 30) (hln : sA 0 3 = nI n) : vx_Met l yX_lot (Cond.code yX_lot bX_lot 5 (some FieldType.int) :: wNeed) { frames := 8, cells := 7, slots := 54, locals := 132 } (va_Pc [.ref (ad 0), .int p0, .int p1, .int p2] (GP D tI tJ tL A sg ad n sL sA)) (va_Qi (fun r (ad2 : Nat → Nat) => fX_lot sL sA p0 p1 p2 = 0 ∧ r = nI n ∧ ∀ k, k < 4 * n + 11 → ad2 k = ad k) (fun ad2 t => GW D tI tJ tL A ad2 (n + 1) sL (up2 (newlot sA n p0 (fX_calledAmount p1) p2) 0 3 (sA 0 3 + 1)) t.heap) A) (XQ D tI tJ tL A ad n sL sA (fX_lot sL sA p0 p1 p2)) 7 54 A := by
  refine en_XG (av := [.ref (ad 0), .int p0, .int p1, .int p2]) (by decide) (Nat.le_of_ble_eq_true rfl) ?_
  intro p e s m below meth c hx hb hml hown hts hr hlocks hT hC H locs hG hS ls hl
  replace hl : lv_has ls 5 [(0, .ref (ad 0)), (1, .int p0), (2, .int p1), (3, .int p2)] := hl
  refine lv_iload_n hx hb dX_lot_0 rfl (lv_at hl 1 rfl) ?_
  refine rcS4 (rest := []) (As := [.int p0]) (Mc := 7) (Ms := 54) hx hb hml hown hts hC hG hS hlocks hT (cX_checkSeller l hl9 D tI tJ tL A sg ad n sL sA p0) (gS q_54 q_55 q_1 q_56) rfl rfl ⟨rfl, hdyX_checkSeller⟩ ⟨Nat.le_of_ble_eq_true rfl, Nat.le_of_ble_eq_true rfl⟩ hl.1 rfl (Nat.le_of_ble_eq_true rfl) dX_lot_1 ⟨Nat.le_of_ble_eq_true rfl, Nat.le_of_ble_eq_true rfl⟩ ⟨Nat.le_of_ble_eq_true rfl, Nat.le_of_ble_eq_true rfl⟩ (fun h => by rw [fX_lot, bnd4_n h] <;> rfl) (fun h_1 H locs hG hS => ?_)
  refine lv_iload_n hx hb dX_lot_4 rfl (lv_at hl 2 rfl) ?_
  refine lv_iconst (v := 0) hx hb dX_lot_5 (by decide) ?_
  refine lv_ldc (v := 1000000) hx hb hown (hts _ q_186) dX_lot_6 ?_
  refine rcS4 (rest := []) (As := [.int p1, .int 0, .int 1000000]) (Mc := 7) (Ms := 54) hx hb hml hown hts hC hG hS hlocks hT (cX_checkRange l hl9 D tI tJ tL A sg ad n sL sA p1 0 1000000) (gS q_125 q_126 q_1 q_127) rfl rfl ⟨rfl, hdyX_checkRange⟩ ⟨Nat.le_of_ble_eq_true rfl, Nat.le_of_ble_eq_true rfl⟩ hl.1 rfl (Nat.le_of_ble_eq_true rfl) dX_lot_8 ⟨Nat.le_of_ble_eq_true rfl, Nat.le_of_ble_eq_true rfl⟩ ⟨Nat.le_of_ble_eq_true rfl, Nat.le_of_ble_eq_true rfl⟩ (fun h => by rw [fX_lot, bnd4_0 h_1, bnd4_n h] <;> rfl) (fun h_2 H locs hG hS => ?_)
  refine lv_iload_n hx hb dX_lot_11 rfl (lv_at hl 3 rfl) ?_
  refine rcS4 (rest := []) (As := [.int p2]) (Mc := 7) (Ms := 54) hx hb hml hown hts hC hG hS hlocks hT (cX_checkArtist l hl9 D tI tJ tL A sg ad n sL sA p2) (gS q_187 q_188 q_1 q_189) rfl rfl ⟨rfl, hdyX_checkArtist⟩ ⟨Nat.le_of_ble_eq_true rfl, Nat.le_of_ble_eq_true rfl⟩ hl.1 rfl (Nat.le_of_ble_eq_true rfl) dX_lot_12 ⟨Nat.le_of_ble_eq_true rfl, Nat.le_of_ble_eq_true rfl⟩ ⟨Nat.le_of_ble_eq_true rfl, Nat.le_of_ble_eq_true rfl⟩ (fun h => by rw [fX_lot, bnd4_0 h_1, bnd4_0 h_2, bnd4_n h] <;> rfl) (fun h_3 H locs hG hS => ?_)
  refine lv_aload_n hx hb dX_lot_15 rfl (lv_at hl 0 rfl) ?_
  refine rx_get (v := .int (sA 0 3)) hx hb hts hown hC hG 3 (by decide) q_24 (rfl) dX_lot_16 ?_
  refine lv_if_lt (tgt := 34) hx hb dX_lot_19 (by decide) (fun c_4 => ?_) (fun c_4 => ?_)
  · exact rc_throw (text := "no room for another lot") hx hb hts hown hC hG hS hl9 hlocks hT (Or.inr (Or.inr ⟨rfl, by rw [fX_lot, bnd4_0 h_1, bnd4_0 h_2, bnd4_0 h_3, if_pos c_4] <;> rfl⟩)) (by decide +kernel) q_190 q_8 (by decide) at_S (hl.1.trans hml.symm) dX_lot_34 dX_lot_37 dX_lot_38 dX_lot_40 dX_lot_43 (Nat.le_of_ble_eq_true rfl) (Nat.le_of_ble_eq_true rfl) (Nat.le_of_ble_eq_true rfl) (Nat.le_of_ble_eq_true rfl) (Nat.le_of_ble_eq_true rfl) (Nat.le_of_ble_eq_true rfl)
  · refine lv_aload_n hx hb dX_lot_22 rfl (lv_at hl 0 rfl) ?_
    refine rx_get (v := .int (sA 0 3)) hx hb hts hown hC hG 3 (by decide) q_24 (rfl) dX_lot_23 ?_
    refine lv_aload_n hx hb dX_lot_26 rfl (lv_at hl 0 rfl) ?_
    refine rx_get (v := .ref (ad 1)) hx hb hts hown hC hG 0 (by decide) q_21 (rfl) dX_lot_27 ?_
    refine rh_len hx hb hC hG (v := 30) rfl dX_lot_30 ?_
    refine lv_icmp_lt (tgt := 44) hx hb dX_lot_31 (by decide) (fun c_5 => ?_) (fun c_5 => ?_)
    · refine lv_aload_n hx hb dX_lot_44 rfl (lv_at hl 0 rfl) ?_
      refine rx_get (v := .int (sA 0 3)) hx hb hts hown hC hG 3 (by decide) q_24 (rfl) dX_lot_45 ?_
      refine lv_istore (lv' := [(4, .int (sA 0 3)), (0, .ref (ad 0)), (1, .int p0), (2, .int p1), (3, .int p2)]) hx hb dX_lot_48 hl (by decide) rfl (fun ls hl => ?_)
      refine lv_aload_n hx hb dX_lot_50 rfl (lv_at hl 1 rfl) ?_
      refine rx_get (v := .ref (ad 1)) hx hb hts hown hC hG 0 (by decide) q_21 (rfl) dX_lot_51 ?_
      refine lv_iload hx hb dX_lot_54 (lv_at hl 0 rfl) ?_
      refine va_new (ci := 1) (fs := [.int 0, .int 0, .null, .int 0, .int 0, .int 0, .int 0, .int 0, .int 0, .int 0, .int 0, .int 0, .int 0]) (C := "DroitLine$Lot") (T := F_L) (N := 13) hx hb hts i_L t_L t_L_ok hown (hts _ q_19) (hts _ q_206) (hts _ q_9) hC.2.1 hG.1 hG.2 hS hC.1 rfl (fun j hj => by rcases (show j = 0 ∨ j = 1 ∨ j = 2 ∨ j = 3 ∨ j = 4 ∨ j = 5 ∨ j = 6 ∨ j = 7 ∨ j = 8 ∨ j = 9 ∨ j = 10 ∨ j = 11 ∨ j = 12 by omega) with rfl | rfl | rfl | rfl | rfl | rfl | rfl | rfl | rfl | rfl | rfl | rfl | rfl <;> rfl) (Nat.le_of_ble_eq_true rfl) (Nat.le_of_ble_eq_true rfl) dX_lot_56 (fun q0 H hP hD hS => ?_)
      refine lv_dup hx hb dX_lot_59 rfl ?_
      refine lv_iload_n hx hb dX_lot_60 rfl (lv_at hl 2 rfl) ?_
      refine lv_iload_n hx hb dX_lot_61 rfl (lv_at hl 3 rfl) ?_
      refine rcS1 (rest := [.int p0, .ref q0, .ref q0, .int (sA 0 3), .ref (ad 1)]) (As := [.int p1]) hx hb hml hown hts (cX_calledAmount l p1) (gS q_207 q_208 q_1 q_209) rfl rfl ⟨rfl, hdyX_calledAmount⟩ ⟨Nat.le_of_ble_eq_true rfl, Nat.le_of_ble_eq_true rfl⟩ hl.1 rfl (Nat.le_of_ble_eq_true rfl) dX_lot_62 ⟨Nat.le_of_ble_eq_true rfl, Nat.le_of_ble_eq_true rfl⟩ ?_
      refine lv_iload_n hx hb dX_lot_65 rfl (lv_at hl 4 rfl) ?_
      have hPc := (lastP hP).2
      have hDl := lastD hD
      have hA0 : ∀ q, H.size ≤ q → A q := fun q h => hC.1 q (Nat.le_trans hS.1 h)
      have hFc := ctor_free (e := .inr (1, [.int 0, .int 0, .null, .int 0, .int 0, .int 0, .int 0, .int 0, .int 0, .int 0, .int 0, .int 0, .int 0])) hDl.2.1 hA0
      refine va_callv (va_runI (As := [.int p0, .int (fX_calledAmount p1), .int p2]) (rest := [.ref q0, .int (sA 0 3), .ref (ad 1)]) ⟨hx, hb, hml, hown, hts⟩ (cL_init l D tI tJ tL q0 H.size p0 (fX_calledAmount p1) p2) (cwI 3 hts (gI q_215) rfl rfl rfl (hts _ q_9) (hts _ q_213) (hts _ q_214) rfl hdyL_init ⟨Nat.le_of_ble_eq_true rfl, Nat.le_of_ble_eq_true rfl⟩) ⟨CP.blind, fun U hU hW => ⟨rfl, by rw [hU], by rw [hU]; exact hPc, va_K.moved hW.alike hC.2.1, hDl.2.2.2, fun w hw => bad_warm (List.mem_filter.mp hw).2 hW (hC.2.2.2.2.2.1 w hw), fun hx => absurd hx (by decide)⟩⟩ rfl rfl hl.1 rfl (lv_room (Nat.le_of_ble_eq_true rfl)) dX_lot_66 ⟨Nat.le_of_ble_eq_true rfl, Nat.le_of_ble_eq_true rfl⟩) hS (fun q _ h => hFc q h) hFc (fun u t H1 locs ht hvm hw hB hz1 hk1 hS => ?_)
      obtain ⟨q1, q2, q3, hP1, hD1⟩ := hB
      rw [ht] at hP1
      obtain ⟨hP, hD⟩ := ctor_join hP hD hA0 hk1 hP1 hD1
      generalize H1 = H at hP hS ⊢
      have hin : vp_in (sA 0 3) 30 := vin_a (M := 30) (by decide) (by decide) c_4 (by rw [Int32.not_le]; exact c_5)
      refine va_astq hx hb hC.2.1 hP hD hS 1 1 (4 * n + 11) 1 (by rw [List.getElem?_append_left (by rw [wv_len]; omega), wv_get (by omega)]; rfl) rfl (by rw [List.getElem?_append_right (by rw [wv_len]; omega), wv_len, Nat.sub_self]; rfl) rfl hin dX_lot_69 (fun H locs hP hD hS => ?_)
      rw [show (sA 0 3).toNatClampNeg = n from by rw [hln]; exact nI_clamp (by omega), wv_new] at hP hD
      obtain ⟨ad2, had, hG⟩ : ∃ ad2 : Nat → Nat, (∀ k, k < 4 * n + 11 → ad2 k = ad k) ∧ GW D tI tJ tL A ad2 (n + 1) sL (newlot sA n p0 (fX_calledAmount p1) p2) H := ⟨_, fun k hk => adNew_lt hk, hP, hD⟩
      rw [← had 0 (by omega)] at hl
      refine lv_aload_n hx hb dX_lot_70 rfl (lv_at hl 1 rfl) ?_
      refine lv_iload hx hb dX_lot_71 (lv_at hl 0 rfl) ?_
      refine lv_iconst (v := 1) hx hb dX_lot_73 (by decide) ?_
      refine lv_iadd hx hb dX_lot_74 ?_
      refine rx_puti hx hb hts hown hC hG hS 3 (by decide) q_24 dX_lot_75 (fun H locs hG hS => ?_)
      refine lv_iload hx hb dX_lot_78 (lv_at hl 0 rfl) ?_
      refine vx_ret ?_
      refine W.widen (k := 7) (n := 54) (Nat.le_of_ble_eq_true rfl) (Nat.le_of_ble_eq_true rfl) ?_
      exact W.iret (v := sA 0 3) hx hb hr (fun t ht hW => ⟨⟨sA 0 3, ad2, rfl, ⟨(by rw [fX_lot, bnd4_0 h_1, bnd4_0 h_2, bnd4_0 h_3, if_neg c_4, if_pos c_5] <;> rfl), hln, had⟩, gw_at hG ht⟩, hS.F ht⟩) hS.2.2 dX_lot_80
    · exact rc_throw (text := "no room for another lot") hx hb hts hown hC hG hS hl9 hlocks hT (Or.inr (Or.inr ⟨rfl, by rw [fX_lot, bnd4_0 h_1, bnd4_0 h_2, bnd4_0 h_3, if_neg c_4, if_neg c_5] <;> rfl⟩)) (by decide +kernel) q_190 q_8 (by decide) at_S (hl.1.trans hml.symm) dX_lot_34 dX_lot_37 dX_lot_38 dX_lot_40 dX_lot_43 (Nat.le_of_ble_eq_true rfl) (Nat.le_of_ble_eq_true rfl) (Nat.le_of_ble_eq_true rfl) (Nat.le_of_ble_eq_true rfl) (Nat.le_of_ble_eq_true rfl) (Nat.le_of_ble_eq_true rfl)
end
section
abbrev A0 (s : State) : Nat → Prop := fun q => s.heap.size ≤ q
section G6
variable {p : Program} {l : Launch} {e : Env} {R : Room} {s : State} {m : MethodId} {args : Array Value} {below : List Frame} {meth : Method} {c : Code} {H : Heap} {locs : List Loc} {cells slots : Nat} {Q : State → Prop}
variable {D : va_G} {tI tJ tL : ClassId} {A : Nat → Prop} {sg ad : Nat → Nat} {n : Nat} {sL : NL} {sA : NA}
variable {cc : ByteArray} {pc : Nat} {ls : Array Slot} {rest st0 : List Value}
/-- two roads that meet -/
theorem W_key {g g2 : JFrame} (br : W p l e R s m args below meth c H locs cells slots Q g2 → W p l e R s m args below meth c H locs cells slots Q g) (kk : W p l e R s m args below meth c H locs cells slots Q g2) : W p l e R s m args below meth c H locs cells slots Q g := br kk
/-- a static method of numbers alone that makes cells of its own -/
theorem rcS1c {y : MethodName} {bytes : ByteArray} {maxL nL index mc ms : Nat} {ret : Option FieldType} {rm : Room} {own : String} {As : List Value} {v : Int32} (hx : p.tables.exec = Jvm.exec) (hb : c.code = cc) (hml : c.maxLocals = nL) (hown : s.vm.findClass own = some m.cls) (hts : ∀ w ∈ wNeed, w.before args s = true) (hS : va_S A s.heap H locs)
    (hM : Met l y (Cond.code y bytes maxL ret :: wNeed) rm (fun v _ => v = As.toArray) (va_Qi (fun r (_ : Unit) => r = v) (fun _ _ => True) (fun _ => False)) mc ms (fun _ => False)) (hg : GoodIn wNeed (wsS own index y (Cond.code y bytes maxL ret :: wNeed))) (hrc : rm.cells = mc) (hrs : rm.slots = ms)
    (hd : y.cls = own ∧ y.cls ≠ "java/lang/invoke/MethodHandle" ∧ y.cls ≠ "java/lang/invoke/VarHandle" ∧ (parseMethodDescriptor y.desc).map (fun d => d.parameters.length) = some As.length) (hR : rm.frames + 1 ≤ R.frames ∧ 8 + (maxL + 11) + rm.locals ≤ R.locals)
    (hsz : ls.size = nL) (hst : st0 = As.reverse ++ rest) (hr8 : (rest.map fun v => v.category).sum ≤ 8) (hdg : decode cc pc = .ok (.invokestatic index, 3)) (hf : cells + mc ≤ R.cells ∧ slots + ms ≤ R.slots)
    (kk : ∀ (H1 : Heap) (locs1 : List Loc), (∀ q : Nat, q < H.size → H1[q]? = H[q]?) → va_S A s.heap H1 locs1 → W p l e R s m args below meth c H1 locs1 (cells + mc) (slots + ms) Q (F0 m (pc + 3) ls (.int v :: rest))) : W p l e R s m args below meth c H locs cells slots Q (F0 m pc ls st0) := by
  refine va_calli (rest := rest) (va_runS (As := As) ⟨hx, hb, hml, hown, hts⟩ hM (cwS As.length hts hg rfl hrc hrs hd hR) preEq rfl rfl hsz hst (lv_room hr8) hdg hf) hS (fun _ _ h => h.elim) (fun _ h => h.elim) fun r u t H1 locs1 ht hvm hw hB hz1 hk1 hS1 => ?_
  subst hw
  exact kk H1 locs1 (fun q hq => hk1 q hq id) hS1
theorem rcS3 {y : MethodName} {bytes : ByteArray} {maxL nL index mc ms : Nat} {ret : Option FieldType} {rm : Room} {own : String} {As : List Value} {F : Int32 × NL × NA} (hx : p.tables.exec = Jvm.exec) (hb : c.code = cc) (hml : c.maxLocals = nL) (hown : s.vm.findClass own = some m.cls) (hts : ∀ w ∈ wNeed, w.before args s = true) (hC : GC D tI tJ tL A sg s) (hG : GW D tI tJ tL A ad n sL sA H) (hS : va_S A s.heap H locs)
    (hM : Met l y (Cond.code y bytes maxL ret :: wNeed) rm (va_Pc As (GP D tI tJ tL A sg ad n sL sA)) (va_Qi (fun r (u : NL × NA) => F = (r, u.1, u.2)) (fun u t => GW D tI tJ tL A ad n u.1 u.2 t.heap) A) mc ms A) (hg : GoodIn wNeed (wsS own index y (Cond.code y bytes maxL ret :: wNeed))) (hrc : rm.cells = mc) (hrs : rm.slots = ms)
    (hd : y.cls = own ∧ y.cls ≠ "java/lang/invoke/MethodHandle" ∧ y.cls ≠ "java/lang/invoke/VarHandle" ∧ (parseMethodDescriptor y.desc).map (fun d => d.parameters.length) = some As.length) (hR : rm.frames + 1 ≤ R.frames ∧ 8 + (maxL + 11) + rm.locals ≤ R.locals)
    (hsz : ls.size = nL) (hst : st0 = As.reverse ++ rest) (hr8 : (rest.map fun v => v.category).sum ≤ 8) (hdg : decode cc pc = .ok (.invokestatic index, 3)) (hf : cells + mc ≤ R.cells ∧ slots + ms ≤ R.slots)
    (kk : ∀ (H1 : Heap) (locs1 : List Loc), GW D tI tJ tL A ad n F.2.1 F.2.2 H1 → va_S A s.heap H1 locs1 → W p l e R s m args below meth c H1 locs1 (cells + mc) (slots + ms) Q (F0 m (pc + 3) ls (.int F.1 :: rest))) : W p l e R s m args below meth c H locs cells slots Q (F0 m pc ls st0) := by
  refine va_calli (rest := rest) (va_runS (As := As) ⟨hx, hb, hml, hown, hts⟩ hM (cwS As.length hts hg rfl hrc hrs hd hR) ⟨GP.blind, fun U hU hW => ⟨rfl, GP.call hC hG hS hU hW⟩⟩ rfl rfl hsz hst (lv_room hr8) hdg hf) hS (fun _ _ h => h) (fun _ h => h) fun r u t H1 locs1 ht hvm hw hB hz1 hk1 hS1 => ?_
  subst hw; subst ht
  exact kk _ _ hB hS1
end G6
/-- a band of the law's call -/
def cT (p e : Int32) : Int32 := if e ≤ p then e else p
def cB (p i e s : Int32) : Int32 := i + (if cT p e ≤ i then 0 else (cT p e - i) / s * s)
def fW_call (p : Int32) : Int32 := cB p (cB p (cB p (cB p 0 1000 50) 5000 100) 20000 500) 2000000 1000
theorem no_free {s t : State} {H : Heap} {locs : List Loc} (h : va_S (A0 s) s.heap H locs) (ht : t.heap = H) : va_F (fun _ => False) s t := ⟨by rw [ht]; exact h.1, fun q hq _ => by rw [ht]; exact h.2.1 q hq (Nat.not_le.mpr hq)⟩
theorem hdyW_call : yW_call.cls ≠ "java/lang/invoke/MethodHandle" ∧ yW_call.cls ≠ "java/lang/invoke/VarHandle" ∧ (parseMethodDescriptor yW_call.desc).map (fun d => d.parameters.length) = some 1 := by decide +kernel
theorem dW_call_0 : decode bW_call 0 = .ok (.iconst 0, 1) := by decide +kernel
theorem dW_call_1 : decode bW_call 1 = .ok (.istore_n 1, 1) := by decide +kernel
theorem dW_call_2 : decode bW_call 2 = .ok (.iconst 4, 1) := by decide +kernel
theorem dW_call_3 : decode bW_call 3 = .ok (.newarray .int, 2) := by decide +kernel
theorem dW_call_5 : decode bW_call 5 = .ok (.astore_n 2, 1) := by decide +kernel
theorem dW_call_6 : decode bW_call 6 = .ok (.iconst 4, 1) := by decide +kernel
theorem dW_call_7 : decode bW_call 7 = .ok (.newarray .int, 2) := by decide +kernel
theorem dW_call_9 : decode bW_call 9 = .ok (.astore_n 3, 1) := by decide +kernel
theorem dW_call_10 : decode bW_call 10 = .ok (.aload_n 2, 1) := by decide +kernel
theorem dW_call_11 : decode bW_call 11 = .ok (.iconst 0, 1) := by decide +kernel
theorem dW_call_12 : decode bW_call 12 = .ok (.sipush 1000, 3) := by decide +kernel
theorem dW_call_15 : decode bW_call 15 = .ok (.iastore, 1) := by decide +kernel
theorem dW_call_16 : decode bW_call 16 = .ok (.aload_n 2, 1) := by decide +kernel
theorem dW_call_17 : decode bW_call 17 = .ok (.iconst 1, 1) := by decide +kernel
theorem dW_call_18 : decode bW_call 18 = .ok (.sipush 5000, 3) := by decide +kernel
theorem dW_call_21 : decode bW_call 21 = .ok (.iastore, 1) := by decide +kernel
theorem dW_call_22 : decode bW_call 22 = .ok (.aload_n 2, 1) := by decide +kernel
theorem dW_call_23 : decode bW_call 23 = .ok (.iconst 2, 1) := by decide +kernel
theorem dW_call_24 : decode bW_call 24 = .ok (.sipush 20000, 3) := by decide +kernel
theorem dW_call_27 : decode bW_call 27 = .ok (.iastore, 1) := by decide +kernel
theorem dW_call_28 : decode bW_call 28 = .ok (.aload_n 2, 1) := by decide +kernel
theorem dW_call_29 : decode bW_call 29 = .ok (.iconst 3, 1) := by decide +kernel
theorem dW_call_30 : decode bW_call 30 = .ok (.ldc 7, 2) := by decide +kernel
theorem dW_call_32 : decode bW_call 32 = .ok (.iastore, 1) := by decide +kernel
theorem dW_call_33 : decode bW_call 33 = .ok (.aload_n 3, 1) := by decide +kernel
theorem dW_call_34 : decode bW_call 34 = .ok (.iconst 0, 1) := by decide +kernel
theorem dW_call_35 : decode bW_call 35 = .ok (.bipush 50, 2) := by decide +kernel
theorem dW_call_37 : decode bW_call 37 = .ok (.iastore, 1) := by decide +kernel
theorem dW_call_38 : decode bW_call 38 = .ok (.aload_n 3, 1) := by decide +kernel
theorem dW_call_39 : decode bW_call 39 = .ok (.iconst 1, 1) := by decide +kernel
theorem dW_call_40 : decode bW_call 40 = .ok (.bipush 100, 2) := by decide +kernel
theorem dW_call_42 : decode bW_call 42 = .ok (.iastore, 1) := by decide +kernel
theorem dW_call_43 : decode bW_call 43 = .ok (.aload_n 3, 1) := by decide +kernel
theorem dW_call_44 : decode bW_call 44 = .ok (.iconst 2, 1) := by decide +kernel
theorem dW_call_45 : decode bW_call 45 = .ok (.sipush 500, 3) := by decide +kernel
theorem dW_call_48 : decode bW_call 48 = .ok (.iastore, 1) := by decide +kernel
theorem dW_call_49 : decode bW_call 49 = .ok (.aload_n 3, 1) := by decide +kernel
theorem dW_call_50 : decode bW_call 50 = .ok (.iconst 3, 1) := by decide +kernel
theorem dW_call_51 : decode bW_call 51 = .ok (.sipush 1000, 3) := by decide +kernel
theorem dW_call_54 : decode bW_call 54 = .ok (.iastore, 1) := by decide +kernel
theorem dW_call_55 : decode bW_call 55 = .ok (.iconst 0, 1) := by decide +kernel
theorem dW_call_56 : decode bW_call 56 = .ok (.istore 4, 2) := by decide +kernel
theorem dW_call_58 : decode bW_call 58 = .ok (.iload 4, 2) := by decide +kernel
theorem dW_call_60 : decode bW_call 60 = .ok (.iconst 4, 1) := by decide +kernel
theorem dW_call_61 : decode bW_call 61 = .ok (.if_icmp .ge 54, 3) := by decide +kernel
theorem dW_call_64 : decode bW_call 64 = .ok (.iload_n 0, 1) := by decide +kernel
theorem dW_call_65 : decode bW_call 65 = .ok (.aload_n 2, 1) := by decide +kernel
theorem dW_call_66 : decode bW_call 66 = .ok (.iload 4, 2) := by decide +kernel
theorem dW_call_68 : decode bW_call 68 = .ok (.iaload, 1) := by decide +kernel
theorem dW_call_69 : decode bW_call 69 = .ok (.if_icmp .ge 7, 3) := by decide +kernel
theorem dW_call_72 : decode bW_call 72 = .ok (.iload_n 0, 1) := by decide +kernel
theorem dW_call_73 : decode bW_call 73 = .ok (.goto 7, 3) := by decide +kernel
theorem dW_call_76 : decode bW_call 76 = .ok (.aload_n 2, 1) := by decide +kernel
theorem dW_call_77 : decode bW_call 77 = .ok (.iload 4, 2) := by decide +kernel
theorem dW_call_79 : decode bW_call 79 = .ok (.iaload, 1) := by decide +kernel
theorem dW_call_80 : decode bW_call 80 = .ok (.istore 5, 2) := by decide +kernel
theorem dW_call_82 : decode bW_call 82 = .ok (.iload_n 1, 1) := by decide +kernel
theorem dW_call_83 : decode bW_call 83 = .ok (.iload 5, 2) := by decide +kernel
theorem dW_call_85 : decode bW_call 85 = .ok (.iload_n 1, 1) := by decide +kernel
theorem dW_call_86 : decode bW_call 86 = .ok (.if_icmp .le 20, 3) := by decide +kernel
theorem dW_call_89 : decode bW_call 89 = .ok (.iload 5, 2) := by decide +kernel
theorem dW_call_91 : decode bW_call 91 = .ok (.iload_n 1, 1) := by decide +kernel
theorem dW_call_92 : decode bW_call 92 = .ok (.isub, 1) := by decide +kernel
theorem dW_call_93 : decode bW_call 93 = .ok (.aload_n 3, 1) := by decide +kernel
theorem dW_call_94 : decode bW_call 94 = .ok (.iload 4, 2) := by decide +kernel
theorem dW_call_96 : decode bW_call 96 = .ok (.iaload, 1) := by decide +kernel
theorem dW_call_97 : decode bW_call 97 = .ok (.idiv, 1) := by decide +kernel
theorem dW_call_98 : decode bW_call 98 = .ok (.aload_n 3, 1) := by decide +kernel
theorem dW_call_99 : decode bW_call 99 = .ok (.iload 4, 2) := by decide +kernel
theorem dW_call_101 : decode bW_call 101 = .ok (.iaload, 1) := by decide +kernel
theorem dW_call_102 : decode bW_call 102 = .ok (.imul, 1) := by decide +kernel
theorem dW_call_103 : decode bW_call 103 = .ok (.goto 4, 3) := by decide +kernel
theorem dW_call_106 : decode bW_call 106 = .ok (.iconst 0, 1) := by decide +kernel
theorem dW_call_107 : decode bW_call 107 = .ok (.iadd, 1) := by decide +kernel
theorem dW_call_108 : decode bW_call 108 = .ok (.istore_n 1, 1) := by decide +kernel
theorem dW_call_109 : decode bW_call 109 = .ok (.iinc 4 1, 3) := by decide +kernel
theorem dW_call_112 : decode bW_call 112 = .ok (.goto (-54), 3) := by decide +kernel
theorem dW_call_115 : decode bW_call 115 = .ok (.iload_n 1, 1) := by decide +kernel
theorem dW_call_116 : decode bW_call 116 = .ok (.ireturn, 1) := by decide +kernel
set_option maxHeartbeats 4000000 in
set_option maxRecDepth 100000 in
theorem cW_call (l : Launch) (D : va_G) (p0 : Int32) : Met l yW_call (Cond.code yW_call bW_call 6 (some FieldType.int) :: wNeed) { frames := 0, cells := 2, slots := 8, locals := 0 } (fun v _ => v = ([.int p0] : List Value).toArray) (va_Qi (fun r (_ : Unit) => r = fW_call p0) (fun _ _ => True) (fun _ => False)) 2 8 (fun _ => False) := by
  refine en_N (av := [.int p0]) (by decide) (Nat.le_of_ble_eq_true rfl) ?_
  intro p e s m below meth c hx hb hml hown hts hr hlocks ls hl
  replace hl : lv_has ls 6 [(0, .int p0)] := hl
  have hS : va_S (A0 s) s.heap s.heap [] := va_S.rf
  have hA : ∀ q : Nat, s.heap.size ≤ q → (A0 s) q := fun _ h => h
  have hK : va_K D [] [] s := ⟨fun c q h => by simp at h, fun k q h => by simp at h⟩
  have hP : va_P D [] [] s.heap := fun k q h => by simp at h
  have hD : va_D (A0 s) [] := ⟨fun i j p q h => by simp at h, fun k q h => by simp at h⟩
  refine lv_iconst (v := 0) hx hb dW_call_0 (by decide) ?_
  refine lv_istore_n (lv' := [(1, .int 0), (0, .int p0)]) hx hb dW_call_1 rfl hl (by decide) rfl (fun ls hl => ?_)
  refine lv_iconst (v := 4) hx hb dW_call_2 (by decide) ?_
  refine va_newa (atype := .int) (ty := .int) (N' := 4) (a0 := (4, .inl fun _ => 0)) hx hb (hts _ q_49) rfl hK hP hD hS hA (fun _ => rfl) (by decide) rfl (by decide) (Nat.le_of_ble_eq_true rfl) (Nat.le_of_ble_eq_true rfl) dW_call_3 (fun q1 c1 H hK hP hD hS => ?_)
  have hP : va_P D [] [(q1, .inl (c1, 4, .inl (fun _ => 0)))] H := hP
  have hD : va_D (A0 s) [(q1, .inl (c1, 4, .inl (fun _ => 0)))] := hD
  refine lv_astore_n (lv' := [(2, .ref q1), (1, .int 0), (0, .int p0)]) hx hb dW_call_5 rfl hl (by decide) rfl (fun ls hl => ?_)
  refine lv_iconst (v := 4) hx hb dW_call_6 (by decide) ?_
  refine va_newa (atype := .int) (ty := .int) (N' := 4) (a0 := (4, .inl fun _ => 0)) hx hb (hts _ q_49) rfl hK hP hD hS hA (fun _ => rfl) (by decide) rfl (by decide) (Nat.le_of_ble_eq_true rfl) (Nat.le_of_ble_eq_true rfl) dW_call_7 (fun q2 c2 H hK hP hD hS => ?_)
  have hP : va_P D [] [(q1, .inl (c1, 4, .inl (fun _ => 0))), (q2, .inl (c2, 4, .inl (fun _ => 0)))] H := hP
  have hD : va_D (A0 s) [(q1, .inl (c1, 4, .inl (fun _ => 0))), (q2, .inl (c2, 4, .inl (fun _ => 0)))] := hD
  have hK : va_K D [] [(c1, .int), (c2, .int)] s := hK
  refine lv_astore_n (lv' := [(3, .ref q2), (2, .ref q1), (1, .int 0), (0, .int p0)]) hx hb dW_call_9 rfl hl (by decide) rfl (fun ls hl => ?_)
  refine lv_aload_n hx hb dW_call_10 rfl (lv_at hl 1 rfl) ?_
  refine lv_iconst (v := 0) hx hb dW_call_11 (by decide) ?_
  refine lv_sipush (v := 1000) hx hb dW_call_12 (by decide) ?_
  refine va_iast hx hb hK hP hD hS 0 0 rfl rfl (by rw [vp_in_iff]; decide) dW_call_15 (fun H locs hP hD hS => ?_)
  have hP : va_P D [] [(q1, .inl (c1, 4, .inl (upd (fun _ => 0) 0 1000))), (q2, .inl (c2, 4, .inl (fun _ => 0)))] H := hP
  have hD : va_D (A0 s) [(q1, .inl (c1, 4, .inl (upd (fun _ => 0) 0 1000))), (q2, .inl (c2, 4, .inl (fun _ => 0)))] := hD
  refine lv_aload_n hx hb dW_call_16 rfl (lv_at hl 1 rfl) ?_
  refine lv_iconst (v := 1) hx hb dW_call_17 (by decide) ?_
  refine lv_sipush (v := 5000) hx hb dW_call_18 (by decide) ?_
  refine va_iast hx hb hK hP hD hS 0 0 rfl rfl (by rw [vp_in_iff]; decide) dW_call_21 (fun H locs hP hD hS => ?_)
  have hP : va_P D [] [(q1, .inl (c1, 4, .inl (upd (upd (fun _ => 0) 0 1000) 1 5000))), (q2, .inl (c2, 4, .inl (fun _ => 0)))] H := hP
  have hD : va_D (A0 s) [(q1, .inl (c1, 4, .inl (upd (upd (fun _ => 0) 0 1000) 1 5000))), (q2, .inl (c2, 4, .inl (fun _ => 0)))] := hD
  refine lv_aload_n hx hb dW_call_22 rfl (lv_at hl 1 rfl) ?_
  refine lv_iconst (v := 2) hx hb dW_call_23 (by decide) ?_
  refine lv_sipush (v := 20000) hx hb dW_call_24 (by decide) ?_
  refine va_iast hx hb hK hP hD hS 0 0 rfl rfl (by rw [vp_in_iff]; decide) dW_call_27 (fun H locs hP hD hS => ?_)
  have hP : va_P D [] [(q1, .inl (c1, 4, .inl (upd (upd (upd (fun _ => 0) 0 1000) 1 5000) 2 20000))), (q2, .inl (c2, 4, .inl (fun _ => 0)))] H := hP
  have hD : va_D (A0 s) [(q1, .inl (c1, 4, .inl (upd (upd (upd (fun _ => 0) 0 1000) 1 5000) 2 20000))), (q2, .inl (c2, 4, .inl (fun _ => 0)))] := hD
  refine lv_aload_n hx hb dW_call_28 rfl (lv_at hl 1 rfl) ?_
  refine lv_iconst (v := 3) hx hb dW_call_29 (by decide) ?_
  refine lv_ldc (v := 2000000) hx hb hown (hts _ q_151) dW_call_30 ?_
  refine va_iast hx hb hK hP hD hS 0 0 rfl rfl (by rw [vp_in_iff]; decide) dW_call_32 (fun H locs hP hD hS => ?_)
  have hP : va_P D [] [(q1, .inl (c1, 4, .inl (upd (upd (upd (upd (fun _ => 0) 0 1000) 1 5000) 2 20000) 3 2000000))), (q2, .inl (c2, 4, .inl (fun _ => 0)))] H := hP
  have hD : va_D (A0 s) [(q1, .inl (c1, 4, .inl (upd (upd (upd (upd (fun _ => 0) 0 1000) 1 5000) 2 20000) 3 2000000))), (q2, .inl (c2, 4, .inl (fun _ => 0)))] := hD
  refine lv_aload_n hx hb dW_call_33 rfl (lv_at hl 0 rfl) ?_
  refine lv_iconst (v := 0) hx hb dW_call_34 (by decide) ?_
  refine lv_bipush (v := 50) hx hb dW_call_35 (by decide) ?_
  refine va_iast hx hb hK hP hD hS 1 1 rfl rfl (by rw [vp_in_iff]; decide) dW_call_37 (fun H locs hP hD hS => ?_)
  have hP : va_P D [] [(q1, .inl (c1, 4, .inl (upd (upd (upd (upd (fun _ => 0) 0 1000) 1 5000) 2 20000) 3 2000000))), (q2, .inl (c2, 4, .inl (upd (fun _ => 0) 0 50)))] H := hP
  have hD : va_D (A0 s) [(q1, .inl (c1, 4, .inl (upd (upd (upd (upd (fun _ => 0) 0 1000) 1 5000) 2 20000) 3 2000000))), (q2, .inl (c2, 4, .inl (upd (fun _ => 0) 0 50)))] := hD
  refine lv_aload_n hx hb dW_call_38 rfl (lv_at hl 0 rfl) ?_
  refine lv_iconst (v := 1) hx hb dW_call_39 (by decide) ?_
  refine lv_bipush (v := 100) hx hb dW_call_40 (by decide) ?_
  refine va_iast hx hb hK hP hD hS 1 1 rfl rfl (by rw [vp_in_iff]; decide) dW_call_42 (fun H locs hP hD hS => ?_)
  have hP : va_P D [] [(q1, .inl (c1, 4, .inl (upd (upd (upd (upd (fun _ => 0) 0 1000) 1 5000) 2 20000) 3 2000000))), (q2, .inl (c2, 4, .inl (upd (upd (fun _ => 0) 0 50) 1 100)))] H := hP
  have hD : va_D (A0 s) [(q1, .inl (c1, 4, .inl (upd (upd (upd (upd (fun _ => 0) 0 1000) 1 5000) 2 20000) 3 2000000))), (q2, .inl (c2, 4, .inl (upd (upd (fun _ => 0) 0 50) 1 100)))] := hD
  refine lv_aload_n hx hb dW_call_43 rfl (lv_at hl 0 rfl) ?_
  refine lv_iconst (v := 2) hx hb dW_call_44 (by decide) ?_
  refine lv_sipush (v := 500) hx hb dW_call_45 (by decide) ?_
  refine va_iast hx hb hK hP hD hS 1 1 rfl rfl (by rw [vp_in_iff]; decide) dW_call_48 (fun H locs hP hD hS => ?_)
  have hP : va_P D [] [(q1, .inl (c1, 4, .inl (upd (upd (upd (upd (fun _ => 0) 0 1000) 1 5000) 2 20000) 3 2000000))), (q2, .inl (c2, 4, .inl (upd (upd (upd (fun _ => 0) 0 50) 1 100) 2 500)))] H := hP
  have hD : va_D (A0 s) [(q1, .inl (c1, 4, .inl (upd (upd (upd (upd (fun _ => 0) 0 1000) 1 5000) 2 20000) 3 2000000))), (q2, .inl (c2, 4, .inl (upd (upd (upd (fun _ => 0) 0 50) 1 100) 2 500)))] := hD
  refine lv_aload_n hx hb dW_call_49 rfl (lv_at hl 0 rfl) ?_
  refine lv_iconst (v := 3) hx hb dW_call_50 (by decide) ?_
  refine lv_sipush (v := 1000) hx hb dW_call_51 (by decide) ?_
  refine va_iast hx hb hK hP hD hS 1 1 rfl rfl (by rw [vp_in_iff]; decide) dW_call_54 (fun H locs hP hD hS => ?_)
  have hP : va_P D [] [(q1, .inl (c1, 4, .inl (upd (upd (upd (upd (fun _ => 0) 0 1000) 1 5000) 2 20000) 3 2000000))), (q2, .inl (c2, 4, .inl (upd (upd (upd (upd (fun _ => 0) 0 50) 1 100) 2 500) 3 1000)))] H := hP
  have hD : va_D (A0 s) [(q1, .inl (c1, 4, .inl (upd (upd (upd (upd (fun _ => 0) 0 1000) 1 5000) 2 20000) 3 2000000))), (q2, .inl (c2, 4, .inl (upd (upd (upd (upd (fun _ => 0) 0 50) 1 100) 2 500) 3 1000)))] := hD
  generalize hf1 : (upd (upd (upd (upd (fun _ => 0) 0 1000) 1 5000) 2 20000) 3 2000000 : Nat → Int32) = f1 at hP hD
  generalize hf2 : (upd (upd (upd (upd (fun _ => 0) 0 50) 1 100) 2 500) 3 1000 : Nat → Int32) = f2 at hP hD
  have e1 : f1 0 = 1000 ∧ f1 1 = 5000 ∧ f1 2 = 20000 ∧ f1 3 = 2000000 := by subst hf1; exact ⟨rfl, rfl, rfl, rfl⟩
  have e2 : f2 0 = 50 ∧ f2 1 = 100 ∧ f2 2 = 500 ∧ f2 3 = 1000 := by subst hf2; exact ⟨rfl, rfl, rfl, rfl⟩
  refine lv_iconst (v := 0) hx hb dW_call_55 (by decide) ?_
  refine lv_istore (lv' := [(4, .int 0), (3, .ref q2), (2, .ref q1), (1, .int 0), (0, .int p0)]) hx hb dW_call_56 hl (by decide) rfl (fun ls hl => ?_)
  refine lv_iload hx hb dW_call_58 (lv_at hl 0 rfl) ?_
  refine lv_iconst (v := 4) hx hb dW_call_60 (by decide) ?_
  refine lv_icmp_ge (tgt := 115) hx hb dW_call_61 (by decide) (fun c_9 => ?_) (fun c_9 => ?_)
  · exact absurd c_9 (by decide)
  refine W_key (g2 := F0 m 80 ls (.int (cT p0 1000) :: [])) (fun key => ?_) ?_
  · refine lv_iload_n hx hb dW_call_64 rfl (lv_at hl 4 rfl) ?_
    refine lv_aload_n hx hb dW_call_65 rfl (lv_at hl 2 rfl) ?_
    refine lv_iload hx hb dW_call_66 (lv_at hl 0 rfl) ?_
    refine va_iald hx hb hK hP 0 0 rfl rfl (by rw [vp_in_iff]; decide) dW_call_68 ?_
    rw [show f1 ((0 : Int32)).toNatClampNeg = 1000 from e1.1]
    refine lv_icmp_ge (tgt := 76) hx hb dW_call_69 (by decide) (fun c_1 => ?_) (fun c_1 => ?_)
    · refine lv_aload_n hx hb dW_call_76 rfl (lv_at hl 2 rfl) ?_
      refine lv_iload hx hb dW_call_77 (lv_at hl 0 rfl) ?_
      refine va_iald hx hb hK hP 0 0 rfl rfl (by rw [vp_in_iff]; decide) dW_call_79 ?_
      rw [show f1 ((0 : Int32)).toNatClampNeg = 1000 from e1.1]
      exact W.eq (by rw [cT, if_pos c_1]) key
    · refine lv_iload_n hx hb dW_call_72 rfl (lv_at hl 4 rfl) ?_
      refine lv_goto (tgt := 80) hx hb dW_call_73 (by decide) ?_
      exact W.eq (by rw [cT, if_neg c_1]) key
  refine lv_istore (lv' := [(5, .int (cT p0 1000)), (4, .int 0), (3, .ref q2), (2, .ref q1), (1, .int 0), (0, .int p0)]) hx hb dW_call_80 hl (by decide) rfl (fun ls hl => ?_)
  refine lv_iload_n hx hb dW_call_82 rfl (lv_at hl 4 rfl) ?_
  refine W_key (g2 := F0 m 107 ls (.int (if cT p0 1000 ≤ 0 then 0 else (cT p0 1000 - 0) / 50 * 50) :: .int 0 :: [])) (fun key => ?_) ?_
  · refine lv_iload hx hb dW_call_83 (lv_at hl 0 rfl) ?_
    refine lv_iload_n hx hb dW_call_85 rfl (lv_at hl 4 rfl) ?_
    refine lv_icmp_le (tgt := 106) hx hb dW_call_86 (by decide) (fun c_1 => ?_) (fun c_1 => ?_)
    · refine lv_iconst (v := 0) hx hb dW_call_106 (by decide) ?_
      exact W.eq (by rw [if_pos c_1]) key
    · refine lv_iload hx hb dW_call_89 (lv_at hl 0 rfl) ?_
      refine lv_iload_n hx hb dW_call_91 rfl (lv_at hl 4 rfl) ?_
      refine lv_isub hx hb dW_call_92 ?_
      refine lv_aload_n hx hb dW_call_93 rfl (lv_at hl 2 rfl) ?_
      refine lv_iload hx hb dW_call_94 (lv_at hl 1 rfl) ?_
      refine va_iald hx hb hK hP 1 1 rfl rfl (by rw [vp_in_iff]; decide) dW_call_96 ?_
      rw [show f2 ((0 : Int32)).toNatClampNeg = 50 from e2.1]
      refine lv_idiv hx hb dW_call_97 (by decide) ?_
      refine lv_aload_n hx hb dW_call_98 rfl (lv_at hl 2 rfl) ?_
      refine lv_iload hx hb dW_call_99 (lv_at hl 1 rfl) ?_
      refine va_iald hx hb hK hP 1 1 rfl rfl (by rw [vp_in_iff]; decide) dW_call_101 ?_
      rw [show f2 ((0 : Int32)).toNatClampNeg = 50 from e2.1]
      refine lv_imul hx hb dW_call_102 ?_
      refine lv_goto (tgt := 107) hx hb dW_call_103 (by decide) ?_
      exact W.eq (by rw [if_neg c_1]) key
  refine lv_iadd hx hb dW_call_107 ?_
  refine W.eq (g2 := F0 m 108 ls (.int (cB p0 0 1000 50) :: [])) rfl ?_
  refine lv_istore_n (lv' := [(1, .int (cB p0 0 1000 50)), (5, .int (cT p0 1000)), (4, .int 0), (3, .ref q2), (2, .ref q1), (0, .int p0)]) hx hb dW_call_108 rfl hl (by decide) rfl (fun ls hl => ?_)
  refine lv_iinc (v := 1) (lv' := [(4, .int 1), (1, .int (cB p0 0 1000 50)), (5, .int (cT p0 1000)), (3, .ref q2), (2, .ref q1), (0, .int p0)]) hx hb dW_call_109 hl (k := 2) rfl (by decide) (by decide) rfl (fun ls hl => ?_)
  refine lv_goto (tgt := 58) hx hb dW_call_112 (by decide) ?_
  refine lv_iload hx hb dW_call_58 (lv_at hl 0 rfl) ?_
  refine lv_iconst (v := 4) hx hb dW_call_60 (by decide) ?_
  refine lv_icmp_ge (tgt := 115) hx hb dW_call_61 (by decide) (fun c_9 => ?_) (fun c_9 => ?_)
  · exact absurd c_9 (by decide)
  refine W_key (g2 := F0 m 80 ls (.int (cT p0 5000) :: [])) (fun key => ?_) ?_
  · refine lv_iload_n hx hb dW_call_64 rfl (lv_at hl 5 rfl) ?_
    refine lv_aload_n hx hb dW_call_65 rfl (lv_at hl 4 rfl) ?_
    refine lv_iload hx hb dW_call_66 (lv_at hl 0 rfl) ?_
    refine va_iald hx hb hK hP 0 0 rfl rfl (by rw [vp_in_iff]; decide) dW_call_68 ?_
    rw [show f1 ((1 : Int32)).toNatClampNeg = 5000 from e1.2.1]
    refine lv_icmp_ge (tgt := 76) hx hb dW_call_69 (by decide) (fun c_1 => ?_) (fun c_1 => ?_)
    · refine lv_aload_n hx hb dW_call_76 rfl (lv_at hl 4 rfl) ?_
      refine lv_iload hx hb dW_call_77 (lv_at hl 0 rfl) ?_
      refine va_iald hx hb hK hP 0 0 rfl rfl (by rw [vp_in_iff]; decide) dW_call_79 ?_
      rw [show f1 ((1 : Int32)).toNatClampNeg = 5000 from e1.2.1]
      exact W.eq (by rw [cT, if_pos c_1]) key
    · refine lv_iload_n hx hb dW_call_72 rfl (lv_at hl 5 rfl) ?_
      refine lv_goto (tgt := 80) hx hb dW_call_73 (by decide) ?_
      exact W.eq (by rw [cT, if_neg c_1]) key
  refine lv_istore (lv' := [(5, .int (cT p0 5000)), (4, .int 1), (1, .int (cB p0 0 1000 50)), (3, .ref q2), (2, .ref q1), (0, .int p0)]) hx hb dW_call_80 hl (by decide) rfl (fun ls hl => ?_)
  refine lv_iload_n hx hb dW_call_82 rfl (lv_at hl 2 rfl) ?_
  refine W_key (g2 := F0 m 107 ls (.int (if cT p0 5000 ≤ (cB p0 0 1000 50) then 0 else (cT p0 5000 - (cB p0 0 1000 50)) / 100 * 100) :: .int (cB p0 0 1000 50) :: [])) (fun key => ?_) ?_
  · refine lv_iload hx hb dW_call_83 (lv_at hl 0 rfl) ?_
    refine lv_iload_n hx hb dW_call_85 rfl (lv_at hl 2 rfl) ?_
    refine lv_icmp_le (tgt := 106) hx hb dW_call_86 (by decide) (fun c_1 => ?_) (fun c_1 => ?_)
    · refine lv_iconst (v := 0) hx hb dW_call_106 (by decide) ?_
      exact W.eq (by rw [if_pos c_1]) key
    · refine lv_iload hx hb dW_call_89 (lv_at hl 0 rfl) ?_
      refine lv_iload_n hx hb dW_call_91 rfl (lv_at hl 2 rfl) ?_
      refine lv_isub hx hb dW_call_92 ?_
      refine lv_aload_n hx hb dW_call_93 rfl (lv_at hl 3 rfl) ?_
      refine lv_iload hx hb dW_call_94 (lv_at hl 1 rfl) ?_
      refine va_iald hx hb hK hP 1 1 rfl rfl (by rw [vp_in_iff]; decide) dW_call_96 ?_
      rw [show f2 ((1 : Int32)).toNatClampNeg = 100 from e2.2.1]
      refine lv_idiv hx hb dW_call_97 (by decide) ?_
      refine lv_aload_n hx hb dW_call_98 rfl (lv_at hl 3 rfl) ?_
      refine lv_iload hx hb dW_call_99 (lv_at hl 1 rfl) ?_
      refine va_iald hx hb hK hP 1 1 rfl rfl (by rw [vp_in_iff]; decide) dW_call_101 ?_
      rw [show f2 ((1 : Int32)).toNatClampNeg = 100 from e2.2.1]
      refine lv_imul hx hb dW_call_102 ?_
      refine lv_goto (tgt := 107) hx hb dW_call_103 (by decide) ?_
      exact W.eq (by rw [if_neg c_1]) key
  refine lv_iadd hx hb dW_call_107 ?_
  refine W.eq (g2 := F0 m 108 ls (.int (cB p0 (cB p0 0 1000 50) 5000 100) :: [])) rfl ?_
  refine lv_istore_n (lv' := [(1, .int (cB p0 (cB p0 0 1000 50) 5000 100)), (5, .int (cT p0 5000)), (4, .int 1), (3, .ref q2), (2, .ref q1), (0, .int p0)]) hx hb dW_call_108 rfl hl (by decide) rfl (fun ls hl => ?_)
  refine lv_iinc (v := 2) (lv' := [(4, .int 2), (1, .int (cB p0 (cB p0 0 1000 50) 5000 100)), (5, .int (cT p0 5000)), (3, .ref q2), (2, .ref q1), (0, .int p0)]) hx hb dW_call_109 hl (k := 2) rfl (by decide) (by decide) rfl (fun ls hl => ?_)
  refine lv_goto (tgt := 58) hx hb dW_call_112 (by decide) ?_
  refine lv_iload hx hb dW_call_58 (lv_at hl 0 rfl) ?_
  refine lv_iconst (v := 4) hx hb dW_call_60 (by decide) ?_
  refine lv_icmp_ge (tgt := 115) hx hb dW_call_61 (by decide) (fun c_9 => ?_) (fun c_9 => ?_)
  · exact absurd c_9 (by decide)
  refine W_key (g2 := F0 m 80 ls (.int (cT p0 20000) :: [])) (fun key => ?_) ?_
  · refine lv_iload_n hx hb dW_call_64 rfl (lv_at hl 5 rfl) ?_
    refine lv_aload_n hx hb dW_call_65 rfl (lv_at hl 4 rfl) ?_
    refine lv_iload hx hb dW_call_66 (lv_at hl 0 rfl) ?_
    refine va_iald hx hb hK hP 0 0 rfl rfl (by rw [vp_in_iff]; decide) dW_call_68 ?_
    rw [show f1 ((2 : Int32)).toNatClampNeg = 20000 from e1.2.2.1]
    refine lv_icmp_ge (tgt := 76) hx hb dW_call_69 (by decide) (fun c_1 => ?_) (fun c_1 => ?_)
    · refine lv_aload_n hx hb dW_call_76 rfl (lv_at hl 4 rfl) ?_
      refine lv_iload hx hb dW_call_77 (lv_at hl 0 rfl) ?_
      refine va_iald hx hb hK hP 0 0 rfl rfl (by rw [vp_in_iff]; decide) dW_call_79 ?_
      rw [show f1 ((2 : Int32)).toNatClampNeg = 20000 from e1.2.2.1]
      exact W.eq (by rw [cT, if_pos c_1]) key
    · refine lv_iload_n hx hb dW_call_72 rfl (lv_at hl 5 rfl) ?_
      refine lv_goto (tgt := 80) hx hb dW_call_73 (by decide) ?_
      exact W.eq (by rw [cT, if_neg c_1]) key
  refine lv_istore (lv' := [(5, .int (cT p0 20000)), (4, .int 2), (1, .int (cB p0 (cB p0 0 1000 50) 5000 100)), (3, .ref q2), (2, .ref q1), (0, .int p0)]) hx hb dW_call_80 hl (by decide) rfl (fun ls hl => ?_)
  refine lv_iload_n hx hb dW_call_82 rfl (lv_at hl 2 rfl) ?_
  refine W_key (g2 := F0 m 107 ls (.int (if cT p0 20000 ≤ (cB p0 (cB p0 0 1000 50) 5000 100) then 0 else (cT p0 20000 - (cB p0 (cB p0 0 1000 50) 5000 100)) / 500 * 500) :: .int (cB p0 (cB p0 0 1000 50) 5000 100) :: [])) (fun key => ?_) ?_
  · refine lv_iload hx hb dW_call_83 (lv_at hl 0 rfl) ?_
    refine lv_iload_n hx hb dW_call_85 rfl (lv_at hl 2 rfl) ?_
    refine lv_icmp_le (tgt := 106) hx hb dW_call_86 (by decide) (fun c_1 => ?_) (fun c_1 => ?_)
    · refine lv_iconst (v := 0) hx hb dW_call_106 (by decide) ?_
      exact W.eq (by rw [if_pos c_1]) key
    · refine lv_iload hx hb dW_call_89 (lv_at hl 0 rfl) ?_
      refine lv_iload_n hx hb dW_call_91 rfl (lv_at hl 2 rfl) ?_
      refine lv_isub hx hb dW_call_92 ?_
      refine lv_aload_n hx hb dW_call_93 rfl (lv_at hl 3 rfl) ?_
      refine lv_iload hx hb dW_call_94 (lv_at hl 1 rfl) ?_
      refine va_iald hx hb hK hP 1 1 rfl rfl (by rw [vp_in_iff]; decide) dW_call_96 ?_
      rw [show f2 ((2 : Int32)).toNatClampNeg = 500 from e2.2.2.1]
      refine lv_idiv hx hb dW_call_97 (by decide) ?_
      refine lv_aload_n hx hb dW_call_98 rfl (lv_at hl 3 rfl) ?_
      refine lv_iload hx hb dW_call_99 (lv_at hl 1 rfl) ?_
      refine va_iald hx hb hK hP 1 1 rfl rfl (by rw [vp_in_iff]; decide) dW_call_101 ?_
      rw [show f2 ((2 : Int32)).toNatClampNeg = 500 from e2.2.2.1]
      refine lv_imul hx hb dW_call_102 ?_
      refine lv_goto (tgt := 107) hx hb dW_call_103 (by decide) ?_
      exact W.eq (by rw [if_neg c_1]) key
  refine lv_iadd hx hb dW_call_107 ?_
  refine W.eq (g2 := F0 m 108 ls (.int (cB p0 (cB p0 (cB p0 0 1000 50) 5000 100) 20000 500) :: [])) rfl ?_
  refine lv_istore_n (lv' := [(1, .int (cB p0 (cB p0 (cB p0 0 1000 50) 5000 100) 20000 500)), (5, .int (cT p0 20000)), (4, .int 2), (3, .ref q2), (2, .ref q1), (0, .int p0)]) hx hb dW_call_108 rfl hl (by decide) rfl (fun ls hl => ?_)
  refine lv_iinc (v := 3) (lv' := [(4, .int 3), (1, .int (cB p0 (cB p0 (cB p0 0 1000 50) 5000 100) 20000 500)), (5, .int (cT p0 20000)), (3, .ref q2), (2, .ref q1), (0, .int p0)]) hx hb dW_call_109 hl (k := 2) rfl (by decide) (by decide) rfl (fun ls hl => ?_)
  refine lv_goto (tgt := 58) hx hb dW_call_112 (by decide) ?_
  refine lv_iload hx hb dW_call_58 (lv_at hl 0 rfl) ?_
  refine lv_iconst (v := 4) hx hb dW_call_60 (by decide) ?_
  refine lv_icmp_ge (tgt := 115) hx hb dW_call_61 (by decide) (fun c_9 => ?_) (fun c_9 => ?_)
  · exact absurd c_9 (by decide)
  refine W_key (g2 := F0 m 80 ls (.int (cT p0 2000000) :: [])) (fun key => ?_) ?_
  · refine lv_iload_n hx hb dW_call_64 rfl (lv_at hl 5 rfl) ?_
    refine lv_aload_n hx hb dW_call_65 rfl (lv_at hl 4 rfl) ?_
    refine lv_iload hx hb dW_call_66 (lv_at hl 0 rfl) ?_
    refine va_iald hx hb hK hP 0 0 rfl rfl (by rw [vp_in_iff]; decide) dW_call_68 ?_
    rw [show f1 ((3 : Int32)).toNatClampNeg = 2000000 from e1.2.2.2]
    refine lv_icmp_ge (tgt := 76) hx hb dW_call_69 (by decide) (fun c_1 => ?_) (fun c_1 => ?_)
    · refine lv_aload_n hx hb dW_call_76 rfl (lv_at hl 4 rfl) ?_
      refine lv_iload hx hb dW_call_77 (lv_at hl 0 rfl) ?_
      refine va_iald hx hb hK hP 0 0 rfl rfl (by rw [vp_in_iff]; decide) dW_call_79 ?_
      rw [show f1 ((3 : Int32)).toNatClampNeg = 2000000 from e1.2.2.2]
      exact W.eq (by rw [cT, if_pos c_1]) key
    · refine lv_iload_n hx hb dW_call_72 rfl (lv_at hl 5 rfl) ?_
      refine lv_goto (tgt := 80) hx hb dW_call_73 (by decide) ?_
      exact W.eq (by rw [cT, if_neg c_1]) key
  refine lv_istore (lv' := [(5, .int (cT p0 2000000)), (4, .int 3), (1, .int (cB p0 (cB p0 (cB p0 0 1000 50) 5000 100) 20000 500)), (3, .ref q2), (2, .ref q1), (0, .int p0)]) hx hb dW_call_80 hl (by decide) rfl (fun ls hl => ?_)
  refine lv_iload_n hx hb dW_call_82 rfl (lv_at hl 2 rfl) ?_
  refine W_key (g2 := F0 m 107 ls (.int (if cT p0 2000000 ≤ (cB p0 (cB p0 (cB p0 0 1000 50) 5000 100) 20000 500) then 0 else (cT p0 2000000 - (cB p0 (cB p0 (cB p0 0 1000 50) 5000 100) 20000 500)) / 1000 * 1000) :: .int (cB p0 (cB p0 (cB p0 0 1000 50) 5000 100) 20000 500) :: [])) (fun key => ?_) ?_
  · refine lv_iload hx hb dW_call_83 (lv_at hl 0 rfl) ?_
    refine lv_iload_n hx hb dW_call_85 rfl (lv_at hl 2 rfl) ?_
    refine lv_icmp_le (tgt := 106) hx hb dW_call_86 (by decide) (fun c_1 => ?_) (fun c_1 => ?_)
    · refine lv_iconst (v := 0) hx hb dW_call_106 (by decide) ?_
      exact W.eq (by rw [if_pos c_1]) key
    · refine lv_iload hx hb dW_call_89 (lv_at hl 0 rfl) ?_
      refine lv_iload_n hx hb dW_call_91 rfl (lv_at hl 2 rfl) ?_
      refine lv_isub hx hb dW_call_92 ?_
      refine lv_aload_n hx hb dW_call_93 rfl (lv_at hl 3 rfl) ?_
      refine lv_iload hx hb dW_call_94 (lv_at hl 1 rfl) ?_
      refine va_iald hx hb hK hP 1 1 rfl rfl (by rw [vp_in_iff]; decide) dW_call_96 ?_
      rw [show f2 ((3 : Int32)).toNatClampNeg = 1000 from e2.2.2.2]
      refine lv_idiv hx hb dW_call_97 (by decide) ?_
      refine lv_aload_n hx hb dW_call_98 rfl (lv_at hl 3 rfl) ?_
      refine lv_iload hx hb dW_call_99 (lv_at hl 1 rfl) ?_
      refine va_iald hx hb hK hP 1 1 rfl rfl (by rw [vp_in_iff]; decide) dW_call_101 ?_
      rw [show f2 ((3 : Int32)).toNatClampNeg = 1000 from e2.2.2.2]
      refine lv_imul hx hb dW_call_102 ?_
      refine lv_goto (tgt := 107) hx hb dW_call_103 (by decide) ?_
      exact W.eq (by rw [if_neg c_1]) key
  refine lv_iadd hx hb dW_call_107 ?_
  refine W.eq (g2 := F0 m 108 ls (.int (cB p0 (cB p0 (cB p0 (cB p0 0 1000 50) 5000 100) 20000 500) 2000000 1000) :: [])) rfl ?_
  refine lv_istore_n (lv' := [(1, .int (cB p0 (cB p0 (cB p0 (cB p0 0 1000 50) 5000 100) 20000 500) 2000000 1000)), (5, .int (cT p0 2000000)), (4, .int 3), (3, .ref q2), (2, .ref q1), (0, .int p0)]) hx hb dW_call_108 rfl hl (by decide) rfl (fun ls hl => ?_)
  refine lv_iinc (v := 4) (lv' := [(4, .int 4), (1, .int (cB p0 (cB p0 (cB p0 (cB p0 0 1000 50) 5000 100) 20000 500) 2000000 1000)), (5, .int (cT p0 2000000)), (3, .ref q2), (2, .ref q1), (0, .int p0)]) hx hb dW_call_109 hl (k := 2) rfl (by decide) (by decide) rfl (fun ls hl => ?_)
  refine lv_goto (tgt := 58) hx hb dW_call_112 (by decide) ?_
  refine lv_iload hx hb dW_call_58 (lv_at hl 0 rfl) ?_
  refine lv_iconst (v := 4) hx hb dW_call_60 (by decide) ?_
  refine lv_icmp_ge (tgt := 115) hx hb dW_call_61 (by decide) (fun c_9 => ?_) (fun c_9 => ?_)
  rotate_left
  · exact absurd (by decide) c_9
  refine lv_iload_n hx hb dW_call_115 rfl (lv_at hl 1 rfl) ?_
  refine va_forget (fun q hq => hS.2.2 q hq) ?_
  exact W.iret (v := fW_call p0) hx hb hr (fun t ht hW => ⟨⟨_, (), rfl, rfl, trivial⟩, no_free hS ht⟩) (fun q h => nomatch h) dW_call_116
def fW_hundredths (p0 : Int32) (p1 : Int32) (p2 : Int32) (p3 : Int32) : Int32 := if (if p2 ≤ p0 then p2 else p0) ≤ p1 then 0 else (((if p2 ≤ p0 then p2 else p0) - p1) * p3) / 100
theorem hdyW_hundredths : yW_hundredths.cls ≠ "java/lang/invoke/MethodHandle" ∧ yW_hundredths.cls ≠ "java/lang/invoke/VarHandle" ∧ (parseMethodDescriptor yW_hundredths.desc).map (fun d => d.parameters.length) = some 4 := by decide +kernel
theorem dW_hundredths_0 : decode bW_hundredths 0 = .ok (.iload_n 0, 1) := by decide +kernel
theorem dW_hundredths_1 : decode bW_hundredths 1 = .ok (.iload_n 2, 1) := by decide +kernel
theorem dW_hundredths_2 : decode bW_hundredths 2 = .ok (.if_icmp .ge 7, 3) := by decide +kernel
theorem dW_hundredths_5 : decode bW_hundredths 5 = .ok (.iload_n 0, 1) := by decide +kernel
theorem dW_hundredths_6 : decode bW_hundredths 6 = .ok (.goto 4, 3) := by decide +kernel
theorem dW_hundredths_9 : decode bW_hundredths 9 = .ok (.iload_n 2, 1) := by decide +kernel
theorem dW_hundredths_10 : decode bW_hundredths 10 = .ok (.istore 4, 2) := by decide +kernel
theorem dW_hundredths_12 : decode bW_hundredths 12 = .ok (.iload 4, 2) := by decide +kernel
theorem dW_hundredths_14 : decode bW_hundredths 14 = .ok (.iload_n 1, 1) := by decide +kernel
theorem dW_hundredths_15 : decode bW_hundredths 15 = .ok (.if_icmp .le 15, 3) := by decide +kernel
theorem dW_hundredths_18 : decode bW_hundredths 18 = .ok (.iload 4, 2) := by decide +kernel
theorem dW_hundredths_20 : decode bW_hundredths 20 = .ok (.iload_n 1, 1) := by decide +kernel
theorem dW_hundredths_21 : decode bW_hundredths 21 = .ok (.isub, 1) := by decide +kernel
theorem dW_hundredths_22 : decode bW_hundredths 22 = .ok (.iload_n 3, 1) := by decide +kernel
theorem dW_hundredths_23 : decode bW_hundredths 23 = .ok (.imul, 1) := by decide +kernel
theorem dW_hundredths_24 : decode bW_hundredths 24 = .ok (.bipush 100, 2) := by decide +kernel
theorem dW_hundredths_26 : decode bW_hundredths 26 = .ok (.idiv, 1) := by decide +kernel
theorem dW_hundredths_27 : decode bW_hundredths 27 = .ok (.goto 4, 3) := by decide +kernel
theorem dW_hundredths_30 : decode bW_hundredths 30 = .ok (.iconst 0, 1) := by decide +kernel
theorem dW_hundredths_31 : decode bW_hundredths 31 = .ok (.ireturn, 1) := by decide +kernel
set_option maxHeartbeats 4000000 in
set_option maxRecDepth 100000 in
theorem cW_hundredths (l : Launch) (p0 : Int32) (p1 : Int32) (p2 : Int32) (p3 : Int32) : Met l yW_hundredths (Cond.code yW_hundredths bW_hundredths 5 (some FieldType.int) :: wNeed) { frames := 0, cells := 0, slots := 0, locals := 0 } (fun v _ => v = ([.int p0, .int p1, .int p2, .int p3] : List Value).toArray) (vp_Si fun r => r = fW_hundredths p0 p1 p2 p3) 0 0 (fun _ => False) := by
  refine en_N (av := [.int p0, .int p1, .int p2, .int p3]) (by decide) (Nat.le_of_ble_eq_true rfl) ?_
  intro p e s m below meth c hx hb hml hown hts hr hlocks ls hl
  replace hl : lv_has ls 5 [(0, .int p0), (1, .int p1), (2, .int p2), (3, .int p3)] := hl
  refine W_key (g2 := F0 m 10 ls (.int (if p2 ≤ p0 then p2 else p0) :: [])) (fun key => ?_) ?_
  · refine lv_iload_n hx hb dW_hundredths_0 rfl (lv_at hl 0 rfl) ?_
    refine lv_iload_n hx hb dW_hundredths_1 rfl (lv_at hl 2 rfl) ?_
    refine lv_icmp_ge (tgt := 9) hx hb dW_hundredths_2 (by decide) (fun c_1 => ?_) (fun c_1 => ?_)
    · refine lv_iload_n hx hb dW_hundredths_9 rfl (lv_at hl 2 rfl) ?_
      exact W.eq (by rw [if_pos c_1]) key
    · refine lv_iload_n hx hb dW_hundredths_5 rfl (lv_at hl 0 rfl) ?_
      refine lv_goto (tgt := 10) hx hb dW_hundredths_6 (by decide) ?_
      exact W.eq (by rw [if_neg c_1]) key
  refine lv_istore (lv' := [(4, .int (if p2 ≤ p0 then p2 else p0)), (0, .int p0), (1, .int p1), (2, .int p2), (3, .int p3)]) hx hb dW_hundredths_10 hl (by decide) rfl (fun ls hl => ?_)
  refine W_key (g2 := F0 m 31 ls (.int (if (if p2 ≤ p0 then p2 else p0) ≤ p1 then 0 else (((if p2 ≤ p0 then p2 else p0) - p1) * p3) / 100) :: [])) (fun key => ?_) ?_
  · refine lv_iload hx hb dW_hundredths_12 (lv_at hl 0 rfl) ?_
    refine lv_iload_n hx hb dW_hundredths_14 rfl (lv_at hl 2 rfl) ?_
    refine lv_icmp_le (tgt := 30) hx hb dW_hundredths_15 (by decide) (fun c_2 => ?_) (fun c_2 => ?_)
    · refine lv_iconst (v := 0) hx hb dW_hundredths_30 (by decide) ?_
      exact W.eq (by rw [if_pos c_2]) key
    · refine lv_iload hx hb dW_hundredths_18 (lv_at hl 0 rfl) ?_
      refine lv_iload_n hx hb dW_hundredths_20 rfl (lv_at hl 2 rfl) ?_
      refine lv_isub hx hb dW_hundredths_21 ?_
      refine lv_iload_n hx hb dW_hundredths_22 rfl (lv_at hl 4 rfl) ?_
      refine lv_imul hx hb dW_hundredths_23 ?_
      refine lv_bipush (v := 100) hx hb dW_hundredths_24 (by decide) ?_
      refine lv_idiv hx hb dW_hundredths_26 (by decide) ?_
      refine lv_goto (tgt := 31) hx hb dW_hundredths_27 (by decide) ?_
      exact W.eq (by rw [if_neg c_2]) key
  exact W.iret (v := if (if p2 ≤ p0 then p2 else p0) ≤ p1 then 0 else (((if p2 ≤ p0 then p2 else p0) - p1) * p3) / 100) hx hb hr (fun t ht hW => ⟨_, rfl, (by rw [fW_hundredths] <;> rfl), ht⟩) (fun q h => nomatch h) dW_hundredths_31
def fW_fee (p0 : Int32) : Int32 := ((fW_hundredths p0 0 10000 25) + (fW_hundredths p0 10000 50000 20)) + (fW_hundredths p0 50000 2000000 12)
theorem hdyW_fee : yW_fee.cls ≠ "java/lang/invoke/MethodHandle" ∧ yW_fee.cls ≠ "java/lang/invoke/VarHandle" ∧ (parseMethodDescriptor yW_fee.desc).map (fun d => d.parameters.length) = some 1 := by decide +kernel
theorem dW_fee_0 : decode bW_fee 0 = .ok (.iload_n 0, 1) := by decide +kernel
theorem dW_fee_1 : decode bW_fee 1 = .ok (.iconst 0, 1) := by decide +kernel
theorem dW_fee_2 : decode bW_fee 2 = .ok (.sipush 10000, 3) := by decide +kernel
theorem dW_fee_5 : decode bW_fee 5 = .ok (.bipush 25, 2) := by decide +kernel
theorem dW_fee_7 : decode bW_fee 7 = .ok (.invokestatic 14, 3) := by decide +kernel
theorem dW_fee_10 : decode bW_fee 10 = .ok (.iload_n 0, 1) := by decide +kernel
theorem dW_fee_11 : decode bW_fee 11 = .ok (.sipush 10000, 3) := by decide +kernel
theorem dW_fee_14 : decode bW_fee 14 = .ok (.ldc 18, 2) := by decide +kernel
theorem dW_fee_16 : decode bW_fee 16 = .ok (.bipush 20, 2) := by decide +kernel
theorem dW_fee_18 : decode bW_fee 18 = .ok (.invokestatic 14, 3) := by decide +kernel
theorem dW_fee_21 : decode bW_fee 21 = .ok (.iadd, 1) := by decide +kernel
theorem dW_fee_22 : decode bW_fee 22 = .ok (.iload_n 0, 1) := by decide +kernel
theorem dW_fee_23 : decode bW_fee 23 = .ok (.ldc 18, 2) := by decide +kernel
theorem dW_fee_25 : decode bW_fee 25 = .ok (.ldc 7, 2) := by decide +kernel
theorem dW_fee_27 : decode bW_fee 27 = .ok (.bipush 12, 2) := by decide +kernel
theorem dW_fee_29 : decode bW_fee 29 = .ok (.invokestatic 14, 3) := by decide +kernel
theorem dW_fee_32 : decode bW_fee 32 = .ok (.iadd, 1) := by decide +kernel
theorem dW_fee_33 : decode bW_fee 33 = .ok (.ireturn, 1) := by decide +kernel
set_option maxHeartbeats 4000000 in
set_option maxRecDepth 100000 in
theorem cW_fee (l : Launch) (p0 : Int32) : Met l yW_fee (Cond.code yW_fee bW_fee 1 (some FieldType.int) :: wNeed) { frames := 1, cells := 0, slots := 0, locals := 24 } (fun v _ => v = ([.int p0] : List Value).toArray) (vp_Si fun r => r = fW_fee p0) 0 0 (fun _ => False) := by
  refine en_N (av := [.int p0]) (by decide) (Nat.le_of_ble_eq_true rfl) ?_
  intro p e s m below meth c hx hb hml hown hts hr hlocks ls hl
  replace hl : lv_has ls 1 [(0, .int p0)] := hl
  refine lv_iload_n hx hb dW_fee_0 rfl (lv_at hl 0 rfl) ?_
  refine lv_iconst (v := 0) hx hb dW_fee_1 (by decide) ?_
  refine lv_sipush (v := 10000) hx hb dW_fee_2 (by decide) ?_
  refine lv_bipush (v := 25) hx hb dW_fee_5 (by decide) ?_
  refine rcS1 (rest := []) (As := [.int p0, .int 0, .int 10000, .int 25]) hx hb hml hown hts (cW_hundredths l p0 0 10000 25) (gS q_155 q_156 q_0 q_157) rfl rfl ⟨rfl, hdyW_hundredths⟩ ⟨Nat.le_of_ble_eq_true rfl, Nat.le_of_ble_eq_true rfl⟩ hl.1 rfl (Nat.le_of_ble_eq_true rfl) dW_fee_7 ⟨Nat.le_of_ble_eq_true rfl, Nat.le_of_ble_eq_true rfl⟩ ?_
  refine lv_iload_n hx hb dW_fee_10 rfl (lv_at hl 0 rfl) ?_
  refine lv_sipush (v := 10000) hx hb dW_fee_11 (by decide) ?_
  refine lv_ldc (v := 50000) hx hb hown (hts _ q_158) dW_fee_14 ?_
  refine lv_bipush (v := 20) hx hb dW_fee_16 (by decide) ?_
  refine rcS1 (rest := [.int (fW_hundredths p0 0 10000 25)]) (As := [.int p0, .int 10000, .int 50000, .int 20]) hx hb hml hown hts (cW_hundredths l p0 10000 50000 20) (gS q_155 q_156 q_0 q_157) rfl rfl ⟨rfl, hdyW_hundredths⟩ ⟨Nat.le_of_ble_eq_true rfl, Nat.le_of_ble_eq_true rfl⟩ hl.1 rfl (Nat.le_of_ble_eq_true rfl) dW_fee_18 ⟨Nat.le_of_ble_eq_true rfl, Nat.le_of_ble_eq_true rfl⟩ ?_
  refine lv_iadd hx hb dW_fee_21 ?_
  refine lv_iload_n hx hb dW_fee_22 rfl (lv_at hl 0 rfl) ?_
  refine lv_ldc (v := 50000) hx hb hown (hts _ q_158) dW_fee_23 ?_
  refine lv_ldc (v := 2000000) hx hb hown (hts _ q_151) dW_fee_25 ?_
  refine lv_bipush (v := 12) hx hb dW_fee_27 (by decide) ?_
  refine rcS1 (rest := [.int ((fW_hundredths p0 0 10000 25) + (fW_hundredths p0 10000 50000 20))]) (As := [.int p0, .int 50000, .int 2000000, .int 12]) hx hb hml hown hts (cW_hundredths l p0 50000 2000000 12) (gS q_155 q_156 q_0 q_157) rfl rfl ⟨rfl, hdyW_hundredths⟩ ⟨Nat.le_of_ble_eq_true rfl, Nat.le_of_ble_eq_true rfl⟩ hl.1 rfl (Nat.le_of_ble_eq_true rfl) dW_fee_29 ⟨Nat.le_of_ble_eq_true rfl, Nat.le_of_ble_eq_true rfl⟩ ?_
  refine lv_iadd hx hb dW_fee_32 ?_
  exact W.iret (v := ((fW_hundredths p0 0 10000 25) + (fW_hundredths p0 10000 50000 20)) + (fW_hundredths p0 50000 2000000 12)) hx hb hr (fun t ht hW => ⟨_, rfl, (by rw [fW_fee] <;> rfl), ht⟩) (fun q h => nomatch h) dW_fee_33
end
section
def stepN (k : Nat) : Nat := if k < 1000 then 50 else if k < 5000 then 100 else if k < 20000 then 500 else 1000
def callN (k : Nat) : Nat := k / stepN k * stepN k
theorem stepX_n {k : Nat} (hk : k < 2 ^ 31) : fX_stepOf (nI k) = nI (stepN k) := by
  have g1 : (1000 : Int32) ≤ nI k ↔ 1000 ≤ k := nI_leI (a := 1000) (by omega) hk
  have g2 : (5000 : Int32) ≤ nI k ↔ 5000 ≤ k := nI_leI (a := 5000) (by omega) hk
  have g3 : (20000 : Int32) ≤ nI k ↔ 20000 ≤ k := nI_leI (a := 20000) (by omega) hk
  unfold fX_stepOf stepN
  by_cases q1 : k < 1000
  · rw [if_neg (fun q => absurd (g1.1 q) (by omega)), if_pos q1]; rfl
  rw [if_pos (g1.2 (by omega)), if_neg q1]
  by_cases q2 : k < 5000
  · rw [if_neg (fun q => absurd (g2.1 q) (by omega)), if_pos q2]; rfl
  rw [if_pos (g2.2 (by omega)), if_neg q2]
  by_cases q3 : k < 20000
  · rw [if_neg (fun q => absurd (g3.1 q) (by omega)), if_pos q3]; rfl
  rw [if_pos (g3.2 (by omega)), if_neg q3]; rfl
theorem stepN_b (k : Nat) : 50 ≤ stepN k ∧ stepN k ≤ 1000 := by
  unfold stepN
  repeat' split
  all_goals omega
theorem callN_le (k : Nat) : callN k ≤ k := Nat.div_mul_le_self k (stepN k)
theorem callX_n {k : Nat} (hk : k < 2 ^ 30) : fX_calledAmount (nI k) = nI (callN k) := by
  have hs := stepN_b k
  have h2 : k / stepN k ≤ k := Nat.div_le_self _ _
  unfold fX_calledAmount
  rw [stepX_n (by omega), if_neg (show ¬ nI (stepN k) ≤ (0 : Int32) from fun q => absurd ((nI_leI (b := 0) (by omega) (by omega)).1 q) (by omega)), pk_div (by omega) (by omega) (by omega), pk_mul]
  rfl
theorem cT_n {p e : Nat} (hp : p < 2 ^ 30) (he : e < 2 ^ 30) : cT (nI p) (nI e) = nI (min p e) := by
  unfold cT
  by_cases h : e ≤ p
  · rw [if_pos ((nI_leI (by omega) (by omega)).2 h), Nat.min_eq_right h]
  · rw [if_neg (fun q => h ((nI_leI (by omega) (by omega)).1 q)), Nat.min_eq_left (by omega)]
theorem cB_n {p i e s : Nat} (hp : p < 2 ^ 30) (hi : i < 2 ^ 30) (he : e < 2 ^ 30) (h0 : 0 < s) (hs : s < 2 ^ 30) : cB (nI p) (nI i) (nI e) (nI s) = nI (i + (min p e - i) / s * s) := by
  unfold cB
  rw [cT_n hp he]
  by_cases h : min p e ≤ i
  · rw [if_pos ((nI_leI (by omega) (by omega)).2 h), show min p e - i = 0 by omega, Nat.zero_div, Nat.zero_mul]
    exact nI_add i 0
  · rw [if_neg (fun q => h ((nI_leI (by omega) (by omega)).1 q)), pk_sub (by omega), pk_div (by omega) h0 (by omega), pk_mul, nI_add]
theorem callW_n {k : Nat} (hk : k ≤ 2000000) : fW_call (nI k) = nI (callN k) := by
  show cB (nI k) (cB (nI k) (cB (nI k) (cB (nI k) (nI 0) (nI 1000) (nI 50)) (nI 5000) (nI 100)) (nI 20000) (nI 500)) (nI 2000000) (nI 1000) = _
  rw [cB_n (by omega) (by omega) (by omega) (by omega) (by omega)]
  obtain ⟨a, ea⟩ : ∃ a, a = 0 + (min k 1000 - 0) / 50 * 50 := ⟨_, rfl⟩
  rw [← ea, cB_n (by omega) (by omega) (by omega) (by omega) (by omega)]
  obtain ⟨b, eb⟩ : ∃ b, b = a + (min k 5000 - a) / 100 * 100 := ⟨_, rfl⟩
  rw [← eb, cB_n (by omega) (by omega) (by omega) (by omega) (by omega)]
  obtain ⟨d, ed⟩ : ∃ d, d = b + (min k 20000 - b) / 500 * 500 := ⟨_, rfl⟩
  rw [← ed, cB_n (by omega) (by omega) (by omega) (by omega) (by omega)]
  refine congrArg nI ?_
  unfold callN stepN
  repeat' split
  all_goals omega
/-- what a called amount is -/
def SS (s : Nat) : Prop := (s < 1000 ∧ s % 50 = 0) ∨ (1000 ≤ s ∧ s < 5000 ∧ s % 100 = 0) ∨ (5000 ≤ s ∧ s < 20000 ∧ s % 500 = 0) ∨ (20000 ≤ s ∧ s % 1000 = 0)
theorem callN_SS (k : Nat) : SS (callN k) := by
  unfold SS callN stepN
  repeat' split
  all_goals omega
theorem callN_id {k : Nat} : callN (callN k) = callN k := by
  unfold callN stepN
  repeat' split
  all_goals omega
theorem nx_no {s j : Nat} (h : SS s) (hj : 50 * (j + 1) < stepN s) : callN (s + 50 + 50 * j) ≠ s + 50 + 50 * j := by
  unfold SS at h
  unfold stepN at hj
  unfold callN stepN
  revert hj
  repeat' split
  all_goals omega
theorem nx_yes {s j : Nat} (h : SS s) (hj : 50 * (j + 1) = stepN s) : callN (s + 50 + 50 * j) = s + 50 + 50 * j := by
  unfold SS at h
  unfold stepN at hj
  unfold callN stepN
  revert hj
  repeat' split
  all_goals omega
/-- a called amount up to a million -/
def PC (x : Int32) : Prop := ∃ k : Nat, k ≤ 1000000 ∧ x = nI (callN k)
theorem PC.nat {x : Int32} (h : PC x) : ∃ s : Nat, s ≤ 1000000 ∧ SS s ∧ x = nI s := by
  obtain ⟨k, hk, rfl⟩ := h
  exact ⟨callN k, Nat.le_trans (callN_le k) hk, callN_SS k, rfl⟩
def fW_next (x : Int32) : Int32 := x + fX_stepOf x
theorem next_n {s : Nat} (hs : s ≤ 1000000) : fW_next (nI s) = nI (s + stepN s) := by
  unfold fW_next
  rw [stepX_n (by omega), nI_add]
theorem hdyW_next : yW_next.cls ≠ "java/lang/invoke/MethodHandle" ∧ yW_next.cls ≠ "java/lang/invoke/VarHandle" ∧ (parseMethodDescriptor yW_next.desc).map (fun d => d.parameters.length) = some 1 := by decide +kernel
theorem dW_next_0 : decode bW_next 0 = .ok (.iload_n 0, 1) := by decide +kernel
theorem dW_next_1 : decode bW_next 1 = .ok (.bipush 50, 2) := by decide +kernel
theorem dW_next_3 : decode bW_next 3 = .ok (.iadd, 1) := by decide +kernel
theorem dW_next_4 : decode bW_next 4 = .ok (.istore_n 1, 1) := by decide +kernel
theorem dW_next_5 : decode bW_next 5 = .ok (.iload_n 1, 1) := by decide +kernel
theorem dW_next_6 : decode bW_next 6 = .ok (.invokestatic 8, 3) := by decide +kernel
theorem dW_next_9 : decode bW_next 9 = .ok (.iload_n 1, 1) := by decide +kernel
theorem dW_next_10 : decode bW_next 10 = .ok (.if_icmp .eq 9, 3) := by decide +kernel
theorem dW_next_13 : decode bW_next 13 = .ok (.iinc 1 50, 3) := by decide +kernel
theorem dW_next_16 : decode bW_next 16 = .ok (.goto (-11), 3) := by decide +kernel
theorem dW_next_19 : decode bW_next 19 = .ok (.iload_n 1, 1) := by decide +kernel
theorem dW_next_20 : decode bW_next 20 = .ok (.ireturn, 1) := by decide +kernel
set_option maxHeartbeats 4000000 in
set_option maxRecDepth 100000 in
theorem cW_next (l : Launch) (D : va_G) (p0 : Int32) (hp : PC p0) : Met l yW_next (Cond.code yW_next bW_next 2 (some FieldType.int) :: wNeed) { frames := 1, cells := 42, slots := 168, locals := 25 } (fun v _ => v = ([.int p0] : List Value).toArray) (va_Qi (fun r (_ : Unit) => r = fW_next p0) (fun _ _ => True) (fun _ => False)) 42 168 (fun _ => False) := by
  refine en_N (av := [.int p0]) (by decide) (Nat.le_of_ble_eq_true rfl) ?_
  intro p e s m below meth c hx hb hml hown hts hr hlocks ls hl
  obtain ⟨S, hS6, hSS, rfl⟩ := hp.nat
  have hst := stepN_b S
  replace hl : lv_has ls 2 [(0, .int (nI S))] := hl
  have hS : va_S (A0 s) s.heap s.heap [] := va_S.rf
  have hloop : ∀ (f j : Nat), 50 * (j + 1) ≤ stepN S → stepN S = 50 * (j + f) → ∀ (H : Heap) (locs : List Loc) (ls : Array Slot) (cells slots : Nat), va_S (A0 s) s.heap H locs → lv_has ls 2 [(1, .int (nI (S + 50 + 50 * j))), (0, .int (nI S))] → cells + 2 * f ≤ 42 → slots + 8 * f ≤ 168 →
      W p l e { frames := 1, cells := 42, slots := 168, locals := 25 } s m #[.int (nI S)] below meth c H locs cells slots (MQ below (va_Qi (fun r (_ : Unit) => r = fW_next (nI S)) (fun _ _ => True) (fun _ => False)) #[.int (nI S)] s 42 168 (fun _ => False)) (F0 m 5 ls []) := by
    intro f
    induction f with
    | zero => intro j h1 h2; omega
    | succ f ih =>
      intro j h1 h2 H locs ls cells slots hS hl hc hs
      refine lv_iload_n hx hb dW_next_5 rfl (lv_at hl 0 rfl) ?_
      refine rcS1c (rest := []) (As := [.int (nI (S + 50 + 50 * j))]) hx hb hml hown hts hS (cW_call l D (nI (S + 50 + 50 * j))) (gS q_148 q_149 q_0 q_150) rfl rfl ⟨rfl, hdyW_call⟩ ⟨Nat.le_of_ble_eq_true rfl, Nat.le_of_ble_eq_true rfl⟩ hl.1 rfl (Nat.le_of_ble_eq_true rfl) dW_next_6 ⟨by show _ ≤ 42; omega, by show _ ≤ 168; omega⟩ (fun H1 locs hk9 hS => ?_)
      rw [callW_n (by omega)]
      refine lv_iload_n hx hb dW_next_9 rfl (lv_at hl 0 rfl) ?_
      have hle := callN_le (S + 50 + 50 * j)
      refine lv_icmp_eq (tgt := 19) hx hb dW_next_10 (by decide) (fun c_1 => ?_) (fun c_1 => ?_)
      · have e1 := (nI_eq (by omega) (by omega)).1 c_1
        have e2 : 50 * (j + 1) = stepN S := by
          rcases Nat.lt_or_ge (50 * (j + 1)) (stepN S) with q | q
          · exact absurd e1 (nx_no hSS q)
          · omega
        refine lv_iload_n hx hb dW_next_19 rfl (lv_at hl 0 rfl) ?_
        refine va_forget (fun q hq => hS.2.2 q hq) ?_
        refine W.widen (k := 42) (n := 168) (by omega) (by omega) ?_
        exact W.iret hx hb hr (fun t ht hW => ⟨⟨_, (), rfl, (by rw [next_n hS6]; exact congrArg nI (by omega)), trivial⟩, no_free hS ht⟩) (fun q h => nomatch h) dW_next_20
      · have e2 : 50 * (j + 1) ≠ stepN S := fun q => c_1 (congrArg nI (nx_yes hSS q))
        refine lv_iinc (v := nI (S + 50 + 50 * (j + 1))) (lv' := [(1, .int (nI (S + 50 + 50 * (j + 1)))), (0, .int (nI S))]) hx hb dW_next_13 hl (k := 0) rfl (by show nI (S + 50 + 50 * j) + nI 50 = _; rw [nI_add]; exact congrArg nI (by omega)) (by decide) rfl (fun ls hl => ?_)
        refine lv_goto (tgt := 5) hx hb dW_next_16 (by decide) ?_
        exact ih (j + 1) (by omega) (by omega) H1 locs ls _ _ hS hl (by omega) (by omega)
  refine lv_iload_n hx hb dW_next_0 rfl (lv_at hl 0 rfl) ?_
  refine lv_bipush (v := 50) hx hb dW_next_1 (by decide) ?_
  refine lv_iadd hx hb dW_next_3 ?_
  rw [show nI S + (50 : Int32) = nI (S + 50 + 50 * 0) from nI_add S 50]
  refine lv_istore_n (lv' := [(1, .int (nI (S + 50 + 50 * 0))), (0, .int (nI S))]) hx hb dW_next_4 rfl hl (by decide) rfl (fun ls hl => ?_)
  exact hloop (stepN S / 50) 0 (by omega) (by unfold stepN; (repeat' split) <;> omega) _ _ ls 0 0 hS hl (by omega) (by omega)
end
section
def wmax (a b : Int32) : Int32 := if a ≤ b then b else a
def wmin (a b : Int32) : Int32 := if b ≤ a then b else a
theorem grdW {i j : Nat} (hi : i < 6) (hj : j ≤ 10) (h : ¬ nI (10 * i + 10) ≤ nI (10 * i + j)) : j < 10 := by
  rw [nI_leI (by omega) (by omega)] at h
  omega
/-- the best place so far -/
def BW (sA : NA) (i : Nat) (x : Int32) : Prop := x = (-1) ∨ ∃ q : Nat, q < 10 ∧ x = nI (10 * i + q) ∧ 0 < sA 7 (10 * i + q)
theorem BW.ex {sA : NA} {i : Nat} {x : Int32} (h : BW sA i x) (hx : ¬ x < 0) : ∃ q : Nat, q < 10 ∧ x = nI (10 * i + q) ∧ 0 < sA 7 (10 * i + q) := h.resolve_left (fun e => hx (by rw [e]; decide))
theorem BW.vin {sA : NA} {i : Nat} {x : Int32} (h : BW sA i x) (hi : i < 6) (hx : ¬ x < 0) : vp_in x 60 := by
  obtain ⟨q, hq, e, -⟩ := h.ex hx
  rw [e]
  exact vp_in_nI (by omega) (by omega)
theorem BW.pc {sA : NA} {i : Nat} {x : Int32} (h : BW sA i x) (hi : i < 6) (hx : ¬ x < 0) (hpc : ∀ q : Nat, q < 10 → 0 < sA 7 (10 * i + q) → PC (sA 7 (10 * i + q) - 1)) : PC (sA 7 x.toNatClampNeg - 1) := by
  obtain ⟨q, hq, e, h0⟩ := h.ex hx
  rw [e, nI_clamp (by omega)]
  exact hpc q hq h0
theorem pos_of {x : Int32} (h : ¬ x ≤ 0) : 0 < x := Int32.not_le.mp h
theorem y_pc {y : Int32} (h : y = (-1) ∨ PC y) (hy : 0 ≤ y) : PC y := h.resolve_left (fun e => absurd hy (by rw [e]; decide))
def fW_share (sL : NL) (sA : NA) (i : Nat) : Int32 := if (sA 5 (10 * i + 3)) < 2 then 0 else (if (sA 5 (10 * i + 2)) < 0 then 0 else (if (sA 5 (10 * i + 5)) < 1000 then 0 else (if (sA 5 (10 * i + 2)) = 0 then if 12500 ≤ (((fW_hundredths (sA 5 (10 * i + 5)) 0 50000 4) + (fW_hundredths (sA 5 (10 * i + 5)) 50000 200000 3)) + (fW_hundredths (sA 5 (10 * i + 5)) 200000 2000000 1)) then 12500 else ((fW_hundredths (sA 5 (10 * i + 5)) 0 50000 4) + (fW_hundredths (sA 5 (10 * i + 5)) 50000 200000 3)) + (fW_hundredths (sA 5 (10 * i + 5)) 200000 2000000 1) else (if (2000 + ((sA 5 (10 * i + 6)) / 365)) ≤ ((sA 5 (10 * i + 2)) + 70) then if 12500 ≤ (((fW_hundredths (sA 5 (10 * i + 5)) 0 50000 4) + (fW_hundredths (sA 5 (10 * i + 5)) 50000 200000 3)) + (fW_hundredths (sA 5 (10 * i + 5)) 200000 2000000 1)) then 12500 else ((fW_hundredths (sA 5 (10 * i + 5)) 0 50000 4) + (fW_hundredths (sA 5 (10 * i + 5)) 50000 200000 3)) + (fW_hundredths (sA 5 (10 * i + 5)) 200000 2000000 1) else 0))))
theorem hdyW_share : yW_share.cls ≠ "java/lang/invoke/MethodHandle" ∧ yW_share.cls ≠ "java/lang/invoke/VarHandle" ∧ (parseMethodDescriptor yW_share.desc).map (fun d => d.parameters.length) = some 2 := by decide +kernel
theorem dW_share_0 : decode bW_share 0 = .ok (.aload_n 0, 1) := by decide +kernel
theorem dW_share_1 : decode bW_share 1 = .ok (.bipush 10, 2) := by decide +kernel
theorem dW_share_3 : decode bW_share 3 = .ok (.iload_n 1, 1) := by decide +kernel
theorem dW_share_4 : decode bW_share 4 = .ok (.imul, 1) := by decide +kernel
theorem dW_share_5 : decode bW_share 5 = .ok (.iconst 5, 1) := by decide +kernel
theorem dW_share_6 : decode bW_share 6 = .ok (.iadd, 1) := by decide +kernel
theorem dW_share_7 : decode bW_share 7 = .ok (.iaload, 1) := by decide +kernel
theorem dW_share_8 : decode bW_share 8 = .ok (.istore_n 2, 1) := by decide +kernel
theorem dW_share_9 : decode bW_share 9 = .ok (.aload_n 0, 1) := by decide +kernel
theorem dW_share_10 : decode bW_share 10 = .ok (.bipush 10, 2) := by decide +kernel
theorem dW_share_12 : decode bW_share 12 = .ok (.iload_n 1, 1) := by decide +kernel
theorem dW_share_13 : decode bW_share 13 = .ok (.imul, 1) := by decide +kernel
theorem dW_share_14 : decode bW_share 14 = .ok (.iconst 2, 1) := by decide +kernel
theorem dW_share_15 : decode bW_share 15 = .ok (.iadd, 1) := by decide +kernel
theorem dW_share_16 : decode bW_share 16 = .ok (.iaload, 1) := by decide +kernel
theorem dW_share_17 : decode bW_share 17 = .ok (.istore_n 3, 1) := by decide +kernel
theorem dW_share_18 : decode bW_share 18 = .ok (.sipush 2000, 3) := by decide +kernel
theorem dW_share_21 : decode bW_share 21 = .ok (.aload_n 0, 1) := by decide +kernel
theorem dW_share_22 : decode bW_share 22 = .ok (.bipush 10, 2) := by decide +kernel
theorem dW_share_24 : decode bW_share 24 = .ok (.iload_n 1, 1) := by decide +kernel
theorem dW_share_25 : decode bW_share 25 = .ok (.imul, 1) := by decide +kernel
theorem dW_share_26 : decode bW_share 26 = .ok (.bipush 6, 2) := by decide +kernel
theorem dW_share_28 : decode bW_share 28 = .ok (.iadd, 1) := by decide +kernel
theorem dW_share_29 : decode bW_share 29 = .ok (.iaload, 1) := by decide +kernel
theorem dW_share_30 : decode bW_share 30 = .ok (.sipush 365, 3) := by decide +kernel
theorem dW_share_33 : decode bW_share 33 = .ok (.idiv, 1) := by decide +kernel
theorem dW_share_34 : decode bW_share 34 = .ok (.iadd, 1) := by decide +kernel
theorem dW_share_35 : decode bW_share 35 = .ok (.istore 4, 2) := by decide +kernel
theorem dW_share_37 : decode bW_share 37 = .ok (.aload_n 0, 1) := by decide +kernel
theorem dW_share_38 : decode bW_share 38 = .ok (.bipush 10, 2) := by decide +kernel
theorem dW_share_40 : decode bW_share 40 = .ok (.iload_n 1, 1) := by decide +kernel
theorem dW_share_41 : decode bW_share 41 = .ok (.imul, 1) := by decide +kernel
theorem dW_share_42 : decode bW_share 42 = .ok (.iconst 3, 1) := by decide +kernel
theorem dW_share_43 : decode bW_share 43 = .ok (.iadd, 1) := by decide +kernel
theorem dW_share_44 : decode bW_share 44 = .ok (.iaload, 1) := by decide +kernel
theorem dW_share_45 : decode bW_share 45 = .ok (.iconst 2, 1) := by decide +kernel
theorem dW_share_46 : decode bW_share 46 = .ok (.if_icmp .lt 27, 3) := by decide +kernel
theorem dW_share_49 : decode bW_share 49 = .ok (.iload_n 3, 1) := by decide +kernel
theorem dW_share_50 : decode bW_share 50 = .ok (.ifCond .lt 23, 3) := by decide +kernel
theorem dW_share_53 : decode bW_share 53 = .ok (.iload_n 2, 1) := by decide +kernel
theorem dW_share_54 : decode bW_share 54 = .ok (.sipush 1000, 3) := by decide +kernel
theorem dW_share_57 : decode bW_share 57 = .ok (.if_icmp .lt 16, 3) := by decide +kernel
theorem dW_share_60 : decode bW_share 60 = .ok (.iload_n 3, 1) := by decide +kernel
theorem dW_share_61 : decode bW_share 61 = .ok (.ifCond .eq 14, 3) := by decide +kernel
theorem dW_share_64 : decode bW_share 64 = .ok (.iload_n 3, 1) := by decide +kernel
theorem dW_share_65 : decode bW_share 65 = .ok (.bipush 70, 2) := by decide +kernel
theorem dW_share_67 : decode bW_share 67 = .ok (.iadd, 1) := by decide +kernel
theorem dW_share_68 : decode bW_share 68 = .ok (.iload 4, 2) := by decide +kernel
theorem dW_share_70 : decode bW_share 70 = .ok (.if_icmp .ge 5, 3) := by decide +kernel
theorem dW_share_73 : decode bW_share 73 = .ok (.iconst 0, 1) := by decide +kernel
theorem dW_share_74 : decode bW_share 74 = .ok (.ireturn, 1) := by decide +kernel
theorem dW_share_75 : decode bW_share 75 = .ok (.iload_n 2, 1) := by decide +kernel
theorem dW_share_76 : decode bW_share 76 = .ok (.iconst 0, 1) := by decide +kernel
theorem dW_share_77 : decode bW_share 77 = .ok (.ldc 18, 2) := by decide +kernel
theorem dW_share_79 : decode bW_share 79 = .ok (.iconst 4, 1) := by decide +kernel
theorem dW_share_80 : decode bW_share 80 = .ok (.invokestatic 14, 3) := by decide +kernel
theorem dW_share_83 : decode bW_share 83 = .ok (.iload_n 2, 1) := by decide +kernel
theorem dW_share_84 : decode bW_share 84 = .ok (.ldc 18, 2) := by decide +kernel
theorem dW_share_86 : decode bW_share 86 = .ok (.ldc 19, 2) := by decide +kernel
theorem dW_share_88 : decode bW_share 88 = .ok (.iconst 3, 1) := by decide +kernel
theorem dW_share_89 : decode bW_share 89 = .ok (.invokestatic 14, 3) := by decide +kernel
theorem dW_share_92 : decode bW_share 92 = .ok (.iadd, 1) := by decide +kernel
theorem dW_share_93 : decode bW_share 93 = .ok (.iload_n 2, 1) := by decide +kernel
theorem dW_share_94 : decode bW_share 94 = .ok (.ldc 19, 2) := by decide +kernel
theorem dW_share_96 : decode bW_share 96 = .ok (.ldc 7, 2) := by decide +kernel
theorem dW_share_98 : decode bW_share 98 = .ok (.iconst 1, 1) := by decide +kernel
theorem dW_share_99 : decode bW_share 99 = .ok (.invokestatic 14, 3) := by decide +kernel
theorem dW_share_102 : decode bW_share 102 = .ok (.iadd, 1) := by decide +kernel
theorem dW_share_103 : decode bW_share 103 = .ok (.istore 5, 2) := by decide +kernel
theorem dW_share_105 : decode bW_share 105 = .ok (.iload 5, 2) := by decide +kernel
theorem dW_share_107 : decode bW_share 107 = .ok (.sipush 12500, 3) := by decide +kernel
theorem dW_share_110 : decode bW_share 110 = .ok (.if_icmp .ge 8, 3) := by decide +kernel
theorem dW_share_113 : decode bW_share 113 = .ok (.iload 5, 2) := by decide +kernel
theorem dW_share_115 : decode bW_share 115 = .ok (.goto 6, 3) := by decide +kernel
theorem dW_share_118 : decode bW_share 118 = .ok (.sipush 12500, 3) := by decide +kernel
theorem dW_share_121 : decode bW_share 121 = .ok (.ireturn, 1) := by decide +kernel
set_option maxHeartbeats 4000000 in
set_option maxRecDepth 100000 in
theorem cW_share (l : Launch) (D : va_G) (tI tJ tL : ClassId) (A : Nat → Prop) (sg ad : Nat → Nat) (n : Nat) (sL : NL) (sA : NA) (i : Nat) (hi : i < 6) : Met l yW_share (Cond.code yW_share bW_share 6 (some FieldType.int) :: wNeed) { frames := 1, cells := 0, slots := 0, locals := 24 } (va_Pc [.ref (ad 5), .int (nI i)] (GP D tI tJ tL A sg ad n sL sA)) (vp_Si fun r => r = fW_share sL sA i) 0 0 (fun _ => False) := by
  refine en_M (av := [.ref (ad 5), .int (nI i)]) (by decide) (Nat.le_of_ble_eq_true rfl) ?_
  intro p e s m below meth c hx hb hml hown hts hr hlocks hmname hP ls hl
  obtain ⟨hG, hC⟩ := hP
  have hS : va_S A s.heap s.heap [] := va_S.rf
  replace hl : lv_has ls 6 [(0, .ref (ad 5)), (1, .int (nI i))] := hl
  refine lv_aload_n hx hb dW_share_0 rfl (lv_at hl 0 rfl) ?_
  refine lv_bipush (v := 10) hx hb dW_share_1 (by decide) ?_
  refine lv_iload_n hx hb dW_share_3 rfl (lv_at hl 1 rfl) ?_
  refine lv_imul hx hb dW_share_4 ?_
  rw [show (10 : Int32) * (nI i) = nI (10 * i) from pk_mul 10 i]
  refine lv_iconst (v := 5) hx hb dW_share_5 (by decide) ?_
  refine lv_iadd hx hb dW_share_6 ?_
  rw [show (nI (10 * i)) + (5 : Int32) = nI (10 * i + 5) from nI_add (10 * i) 5]
  refine ra_ld hx hb hC hG 5 60 (by omega) (fun _ _ => rfl) (vp_in_nI (by omega) (by omega)) dW_share_7 ?_
  rw [show (nI (10 * i + 5)).toNatClampNeg = (10 * i + 5) from nI_clamp (by omega)]
  refine lv_istore_n (lv' := [(2, .int (sA 5 (10 * i + 5))), (0, .ref (ad 5)), (1, .int (nI i))]) hx hb dW_share_8 rfl hl (by decide) rfl (fun ls hl => ?_)
  refine lv_aload_n hx hb dW_share_9 rfl (lv_at hl 1 rfl) ?_
  refine lv_bipush (v := 10) hx hb dW_share_10 (by decide) ?_
  refine lv_iload_n hx hb dW_share_12 rfl (lv_at hl 2 rfl) ?_
  refine lv_imul hx hb dW_share_13 ?_
  rw [show (10 : Int32) * (nI i) = nI (10 * i) from pk_mul 10 i]
  refine lv_iconst (v := 2) hx hb dW_share_14 (by decide) ?_
  refine lv_iadd hx hb dW_share_15 ?_
  rw [show (nI (10 * i)) + (2 : Int32) = nI (10 * i + 2) from nI_add (10 * i) 2]
  refine ra_ld hx hb hC hG 5 60 (by omega) (fun _ _ => rfl) (vp_in_nI (by omega) (by omega)) dW_share_16 ?_
  rw [show (nI (10 * i + 2)).toNatClampNeg = (10 * i + 2) from nI_clamp (by omega)]
  refine lv_istore_n (lv' := [(3, .int (sA 5 (10 * i + 2))), (2, .int (sA 5 (10 * i + 5))), (0, .ref (ad 5)), (1, .int (nI i))]) hx hb dW_share_17 rfl hl (by decide) rfl (fun ls hl => ?_)
  refine lv_sipush (v := 2000) hx hb dW_share_18 (by decide) ?_
  refine lv_aload_n hx hb dW_share_21 rfl (lv_at hl 2 rfl) ?_
  refine lv_bipush (v := 10) hx hb dW_share_22 (by decide) ?_
  refine lv_iload_n hx hb dW_share_24 rfl (lv_at hl 3 rfl) ?_
  refine lv_imul hx hb dW_share_25 ?_
  rw [show (10 : Int32) * (nI i) = nI (10 * i) from pk_mul 10 i]
  refine lv_bipush (v := 6) hx hb dW_share_26 (by decide) ?_
  refine lv_iadd hx hb dW_share_28 ?_
  rw [show (nI (10 * i)) + (6 : Int32) = nI (10 * i + 6) from nI_add (10 * i) 6]
  refine ra_ld hx hb hC hG 5 60 (by omega) (fun _ _ => rfl) (vp_in_nI (by omega) (by omega)) dW_share_29 ?_
  rw [show (nI (10 * i + 6)).toNatClampNeg = (10 * i + 6) from nI_clamp (by omega)]
  refine lv_sipush (v := 365) hx hb dW_share_30 (by decide) ?_
  refine lv_idiv hx hb dW_share_33 (by decide) ?_
  refine lv_iadd hx hb dW_share_34 ?_
  refine lv_istore (lv' := [(4, .int (2000 + ((sA 5 (10 * i + 6)) / 365))), (3, .int (sA 5 (10 * i + 2))), (2, .int (sA 5 (10 * i + 5))), (0, .ref (ad 5)), (1, .int (nI i))]) hx hb dW_share_35 hl (by decide) rfl (fun ls hl => ?_)
  refine lv_aload_n hx hb dW_share_37 rfl (lv_at hl 3 rfl) ?_
  refine lv_bipush (v := 10) hx hb dW_share_38 (by decide) ?_
  refine lv_iload_n hx hb dW_share_40 rfl (lv_at hl 4 rfl) ?_
  refine lv_imul hx hb dW_share_41 ?_
  rw [show (10 : Int32) * (nI i) = nI (10 * i) from pk_mul 10 i]
  refine lv_iconst (v := 3) hx hb dW_share_42 (by decide) ?_
  refine lv_iadd hx hb dW_share_43 ?_
  rw [show (nI (10 * i)) + (3 : Int32) = nI (10 * i + 3) from nI_add (10 * i) 3]
  refine ra_ld hx hb hC hG 5 60 (by omega) (fun _ _ => rfl) (vp_in_nI (by omega) (by omega)) dW_share_44 ?_
  rw [show (nI (10 * i + 3)).toNatClampNeg = (10 * i + 3) from nI_clamp (by omega)]
  refine lv_iconst (v := 2) hx hb dW_share_45 (by decide) ?_
  refine lv_icmp_lt (tgt := 73) hx hb dW_share_46 (by decide) (fun c_1 => ?_) (fun c_1 => ?_)
  · refine lv_iconst (v := 0) hx hb dW_share_73 (by decide) ?_
    exact W.iret (v := 0) hx hb hr (fun t ht hW => ⟨_, rfl, (by rw [fW_share, if_pos c_1] <;> rfl), ht⟩) (fun q h => nomatch h) dW_share_74
  · refine lv_iload_n hx hb dW_share_49 rfl (lv_at hl 1 rfl) ?_
    refine lv_if_lt (tgt := 73) hx hb dW_share_50 (by decide) (fun c_2 => ?_) (fun c_2 => ?_)
    · refine lv_iconst (v := 0) hx hb dW_share_73 (by decide) ?_
      exact W.iret (v := 0) hx hb hr (fun t ht hW => ⟨_, rfl, (by rw [fW_share, if_neg c_1, if_pos c_2] <;> rfl), ht⟩) (fun q h => nomatch h) dW_share_74
    · refine lv_iload_n hx hb dW_share_53 rfl (lv_at hl 2 rfl) ?_
      refine lv_sipush (v := 1000) hx hb dW_share_54 (by decide) ?_
      refine lv_icmp_lt (tgt := 73) hx hb dW_share_57 (by decide) (fun c_3 => ?_) (fun c_3 => ?_)
      · refine lv_iconst (v := 0) hx hb dW_share_73 (by decide) ?_
        exact W.iret (v := 0) hx hb hr (fun t ht hW => ⟨_, rfl, (by rw [fW_share, if_neg c_1, if_neg c_2, if_pos c_3] <;> rfl), ht⟩) (fun q h => nomatch h) dW_share_74
      · refine lv_iload_n hx hb dW_share_60 rfl (lv_at hl 1 rfl) ?_
        refine lv_if_eq (tgt := 75) hx hb dW_share_61 (by decide) (fun c_4 => ?_) (fun c_4 => ?_)
        · refine lv_iload_n hx hb dW_share_75 rfl (lv_at hl 2 rfl) ?_
          refine lv_iconst (v := 0) hx hb dW_share_76 (by decide) ?_
          refine lv_ldc (v := 50000) hx hb hown (hts _ q_158) dW_share_77 ?_
          refine lv_iconst (v := 4) hx hb dW_share_79 (by decide) ?_
          refine rcS1 (rest := []) (As := [.int (sA 5 (10 * i + 5)), .int 0, .int 50000, .int 4]) hx hb hml hown hts (cW_hundredths l (sA 5 (10 * i + 5)) 0 50000 4) (gS q_155 q_156 q_0 q_157) rfl rfl ⟨rfl, hdyW_hundredths⟩ ⟨Nat.le_of_ble_eq_true rfl, Nat.le_of_ble_eq_true rfl⟩ hl.1 rfl (Nat.le_of_ble_eq_true rfl) dW_share_80 ⟨Nat.le_of_ble_eq_true rfl, Nat.le_of_ble_eq_true rfl⟩ ?_
          refine lv_iload_n hx hb dW_share_83 rfl (lv_at hl 2 rfl) ?_
          refine lv_ldc (v := 50000) hx hb hown (hts _ q_158) dW_share_84 ?_
          refine lv_ldc (v := 200000) hx hb hown (hts _ q_162) dW_share_86 ?_
          refine lv_iconst (v := 3) hx hb dW_share_88 (by decide) ?_
          refine rcS1 (rest := [.int (fW_hundredths (sA 5 (10 * i + 5)) 0 50000 4)]) (As := [.int (sA 5 (10 * i + 5)), .int 50000, .int 200000, .int 3]) hx hb hml hown hts (cW_hundredths l (sA 5 (10 * i + 5)) 50000 200000 3) (gS q_155 q_156 q_0 q_157) rfl rfl ⟨rfl, hdyW_hundredths⟩ ⟨Nat.le_of_ble_eq_true rfl, Nat.le_of_ble_eq_true rfl⟩ hl.1 rfl (Nat.le_of_ble_eq_true rfl) dW_share_89 ⟨Nat.le_of_ble_eq_true rfl, Nat.le_of_ble_eq_true rfl⟩ ?_
          refine lv_iadd hx hb dW_share_92 ?_
          refine lv_iload_n hx hb dW_share_93 rfl (lv_at hl 2 rfl) ?_
          refine lv_ldc (v := 200000) hx hb hown (hts _ q_162) dW_share_94 ?_
          refine lv_ldc (v := 2000000) hx hb hown (hts _ q_151) dW_share_96 ?_
          refine lv_iconst (v := 1) hx hb dW_share_98 (by decide) ?_
          refine rcS1 (rest := [.int ((fW_hundredths (sA 5 (10 * i + 5)) 0 50000 4) + (fW_hundredths (sA 5 (10 * i + 5)) 50000 200000 3))]) (As := [.int (sA 5 (10 * i + 5)), .int 200000, .int 2000000, .int 1]) hx hb hml hown hts (cW_hundredths l (sA 5 (10 * i + 5)) 200000 2000000 1) (gS q_155 q_156 q_0 q_157) rfl rfl ⟨rfl, hdyW_hundredths⟩ ⟨Nat.le_of_ble_eq_true rfl, Nat.le_of_ble_eq_true rfl⟩ hl.1 rfl (Nat.le_of_ble_eq_true rfl) dW_share_99 ⟨Nat.le_of_ble_eq_true rfl, Nat.le_of_ble_eq_true rfl⟩ ?_
          refine lv_iadd hx hb dW_share_102 ?_
          refine lv_istore (lv' := [(5, .int (((fW_hundredths (sA 5 (10 * i + 5)) 0 50000 4) + (fW_hundredths (sA 5 (10 * i + 5)) 50000 200000 3)) + (fW_hundredths (sA 5 (10 * i + 5)) 200000 2000000 1))), (4, .int (2000 + ((sA 5 (10 * i + 6)) / 365))), (3, .int (sA 5 (10 * i + 2))), (2, .int (sA 5 (10 * i + 5))), (0, .ref (ad 5)), (1, .int (nI i))]) hx hb dW_share_103 hl (by decide) rfl (fun ls hl => ?_)
          refine W_key (g2 := F0 m 121 ls (.int (if 12500 ≤ (((fW_hundredths (sA 5 (10 * i + 5)) 0 50000 4) + (fW_hundredths (sA 5 (10 * i + 5)) 50000 200000 3)) + (fW_hundredths (sA 5 (10 * i + 5)) 200000 2000000 1)) then 12500 else ((fW_hundredths (sA 5 (10 * i + 5)) 0 50000 4) + (fW_hundredths (sA 5 (10 * i + 5)) 50000 200000 3)) + (fW_hundredths (sA 5 (10 * i + 5)) 200000 2000000 1)) :: [])) (fun key => ?_) ?_
          · refine lv_iload hx hb dW_share_105 (lv_at hl 0 rfl) ?_
            refine lv_sipush (v := 12500) hx hb dW_share_107 (by decide) ?_
            refine lv_icmp_ge (tgt := 118) hx hb dW_share_110 (by decide) (fun c_5 => ?_) (fun c_5 => ?_)
            · refine lv_sipush (v := 12500) hx hb dW_share_118 (by decide) ?_
              exact W.eq (by rw [if_pos c_5]) key
            · refine lv_iload hx hb dW_share_113 (lv_at hl 0 rfl) ?_
              refine lv_goto (tgt := 121) hx hb dW_share_115 (by decide) ?_
              exact W.eq (by rw [if_neg c_5]) key
          exact W.iret (v := if 12500 ≤ (((fW_hundredths (sA 5 (10 * i + 5)) 0 50000 4) + (fW_hundredths (sA 5 (10 * i + 5)) 50000 200000 3)) + (fW_hundredths (sA 5 (10 * i + 5)) 200000 2000000 1)) then 12500 else ((fW_hundredths (sA 5 (10 * i + 5)) 0 50000 4) + (fW_hundredths (sA 5 (10 * i + 5)) 50000 200000 3)) + (fW_hundredths (sA 5 (10 * i + 5)) 200000 2000000 1)) hx hb hr (fun t ht hW => ⟨_, rfl, (by rw [fW_share, if_neg c_1, if_neg c_2, if_neg c_3, if_pos c_4] <;> rfl), ht⟩) (fun q h => nomatch h) dW_share_121
        · refine lv_iload_n hx hb dW_share_64 rfl (lv_at hl 1 rfl) ?_
          refine lv_bipush (v := 70) hx hb dW_share_65 (by decide) ?_
          refine lv_iadd hx hb dW_share_67 ?_
          refine lv_iload hx hb dW_share_68 (lv_at hl 0 rfl) ?_
          refine lv_icmp_ge (tgt := 75) hx hb dW_share_70 (by decide) (fun c_6 => ?_) (fun c_6 => ?_)
          · refine lv_iload_n hx hb dW_share_75 rfl (lv_at hl 2 rfl) ?_
            refine lv_iconst (v := 0) hx hb dW_share_76 (by decide) ?_
            refine lv_ldc (v := 50000) hx hb hown (hts _ q_158) dW_share_77 ?_
            refine lv_iconst (v := 4) hx hb dW_share_79 (by decide) ?_
            refine rcS1 (rest := []) (As := [.int (sA 5 (10 * i + 5)), .int 0, .int 50000, .int 4]) hx hb hml hown hts (cW_hundredths l (sA 5 (10 * i + 5)) 0 50000 4) (gS q_155 q_156 q_0 q_157) rfl rfl ⟨rfl, hdyW_hundredths⟩ ⟨Nat.le_of_ble_eq_true rfl, Nat.le_of_ble_eq_true rfl⟩ hl.1 rfl (Nat.le_of_ble_eq_true rfl) dW_share_80 ⟨Nat.le_of_ble_eq_true rfl, Nat.le_of_ble_eq_true rfl⟩ ?_
            refine lv_iload_n hx hb dW_share_83 rfl (lv_at hl 2 rfl) ?_
            refine lv_ldc (v := 50000) hx hb hown (hts _ q_158) dW_share_84 ?_
            refine lv_ldc (v := 200000) hx hb hown (hts _ q_162) dW_share_86 ?_
            refine lv_iconst (v := 3) hx hb dW_share_88 (by decide) ?_
            refine rcS1 (rest := [.int (fW_hundredths (sA 5 (10 * i + 5)) 0 50000 4)]) (As := [.int (sA 5 (10 * i + 5)), .int 50000, .int 200000, .int 3]) hx hb hml hown hts (cW_hundredths l (sA 5 (10 * i + 5)) 50000 200000 3) (gS q_155 q_156 q_0 q_157) rfl rfl ⟨rfl, hdyW_hundredths⟩ ⟨Nat.le_of_ble_eq_true rfl, Nat.le_of_ble_eq_true rfl⟩ hl.1 rfl (Nat.le_of_ble_eq_true rfl) dW_share_89 ⟨Nat.le_of_ble_eq_true rfl, Nat.le_of_ble_eq_true rfl⟩ ?_
            refine lv_iadd hx hb dW_share_92 ?_
            refine lv_iload_n hx hb dW_share_93 rfl (lv_at hl 2 rfl) ?_
            refine lv_ldc (v := 200000) hx hb hown (hts _ q_162) dW_share_94 ?_
            refine lv_ldc (v := 2000000) hx hb hown (hts _ q_151) dW_share_96 ?_
            refine lv_iconst (v := 1) hx hb dW_share_98 (by decide) ?_
            refine rcS1 (rest := [.int ((fW_hundredths (sA 5 (10 * i + 5)) 0 50000 4) + (fW_hundredths (sA 5 (10 * i + 5)) 50000 200000 3))]) (As := [.int (sA 5 (10 * i + 5)), .int 200000, .int 2000000, .int 1]) hx hb hml hown hts (cW_hundredths l (sA 5 (10 * i + 5)) 200000 2000000 1) (gS q_155 q_156 q_0 q_157) rfl rfl ⟨rfl, hdyW_hundredths⟩ ⟨Nat.le_of_ble_eq_true rfl, Nat.le_of_ble_eq_true rfl⟩ hl.1 rfl (Nat.le_of_ble_eq_true rfl) dW_share_99 ⟨Nat.le_of_ble_eq_true rfl, Nat.le_of_ble_eq_true rfl⟩ ?_
            refine lv_iadd hx hb dW_share_102 ?_
            refine lv_istore (lv' := [(5, .int (((fW_hundredths (sA 5 (10 * i + 5)) 0 50000 4) + (fW_hundredths (sA 5 (10 * i + 5)) 50000 200000 3)) + (fW_hundredths (sA 5 (10 * i + 5)) 200000 2000000 1))), (4, .int (2000 + ((sA 5 (10 * i + 6)) / 365))), (3, .int (sA 5 (10 * i + 2))), (2, .int (sA 5 (10 * i + 5))), (0, .ref (ad 5)), (1, .int (nI i))]) hx hb dW_share_103 hl (by decide) rfl (fun ls hl => ?_)
            refine W_key (g2 := F0 m 121 ls (.int (if 12500 ≤ (((fW_hundredths (sA 5 (10 * i + 5)) 0 50000 4) + (fW_hundredths (sA 5 (10 * i + 5)) 50000 200000 3)) + (fW_hundredths (sA 5 (10 * i + 5)) 200000 2000000 1)) then 12500 else ((fW_hundredths (sA 5 (10 * i + 5)) 0 50000 4) + (fW_hundredths (sA 5 (10 * i + 5)) 50000 200000 3)) + (fW_hundredths (sA 5 (10 * i + 5)) 200000 2000000 1)) :: [])) (fun key => ?_) ?_
            · refine lv_iload hx hb dW_share_105 (lv_at hl 0 rfl) ?_
              refine lv_sipush (v := 12500) hx hb dW_share_107 (by decide) ?_
              refine lv_icmp_ge (tgt := 118) hx hb dW_share_110 (by decide) (fun c_7 => ?_) (fun c_7 => ?_)
              · refine lv_sipush (v := 12500) hx hb dW_share_118 (by decide) ?_
                exact W.eq (by rw [if_pos c_7]) key
              · refine lv_iload hx hb dW_share_113 (lv_at hl 0 rfl) ?_
                refine lv_goto (tgt := 121) hx hb dW_share_115 (by decide) ?_
                exact W.eq (by rw [if_neg c_7]) key
            exact W.iret (v := if 12500 ≤ (((fW_hundredths (sA 5 (10 * i + 5)) 0 50000 4) + (fW_hundredths (sA 5 (10 * i + 5)) 50000 200000 3)) + (fW_hundredths (sA 5 (10 * i + 5)) 200000 2000000 1)) then 12500 else ((fW_hundredths (sA 5 (10 * i + 5)) 0 50000 4) + (fW_hundredths (sA 5 (10 * i + 5)) 50000 200000 3)) + (fW_hundredths (sA 5 (10 * i + 5)) 200000 2000000 1)) hx hb hr (fun t ht hW => ⟨_, rfl, (by rw [fW_share, if_neg c_1, if_neg c_2, if_neg c_3, if_neg c_4, if_pos c_6] <;> rfl), ht⟩) (fun q h => nomatch h) dW_share_121
          · refine lv_iconst (v := 0) hx hb dW_share_73 (by decide) ?_
            exact W.iret (v := 0) hx hb hr (fun t ht hW => ⟨_, rfl, (by rw [fW_share, if_neg c_1, if_neg c_2, if_neg c_3, if_neg c_4, if_neg c_6] <;> rfl), ht⟩) (fun q h => nomatch h) dW_share_74
def fW_interest (sL : NL) (sA : NA) (i : Nat) : Int32 := if (sA 5 (10 * i + 3)) = 4 then sA 6 (3 * i + 2) else (((((sA 6 (3 * i) : Int32).toInt64) * (((sA 4 2) - (sA 6 (3 * i + 1)) : Int32).toInt64)) * ((sA 4 3 : Int32).toInt64)) / 100000 : Int64).toInt32
theorem hdyW_interest : yW_interest.cls ≠ "java/lang/invoke/MethodHandle" ∧ yW_interest.cls ≠ "java/lang/invoke/VarHandle" ∧ (parseMethodDescriptor yW_interest.desc).map (fun d => d.parameters.length) = some 4 := by decide +kernel
theorem dW_interest_0 : decode bW_interest 0 = .ok (.aload_n 2, 1) := by decide +kernel
theorem dW_interest_1 : decode bW_interest 1 = .ok (.iconst 3, 1) := by decide +kernel
theorem dW_interest_2 : decode bW_interest 2 = .ok (.iload_n 3, 1) := by decide +kernel
theorem dW_interest_3 : decode bW_interest 3 = .ok (.imul, 1) := by decide +kernel
theorem dW_interest_4 : decode bW_interest 4 = .ok (.iaload, 1) := by decide +kernel
theorem dW_interest_5 : decode bW_interest 5 = .ok (.i2l, 1) := by decide +kernel
theorem dW_interest_6 : decode bW_interest 6 = .ok (.aload_n 0, 1) := by decide +kernel
theorem dW_interest_7 : decode bW_interest 7 = .ok (.iconst 2, 1) := by decide +kernel
theorem dW_interest_8 : decode bW_interest 8 = .ok (.iaload, 1) := by decide +kernel
theorem dW_interest_9 : decode bW_interest 9 = .ok (.aload_n 2, 1) := by decide +kernel
theorem dW_interest_10 : decode bW_interest 10 = .ok (.iconst 3, 1) := by decide +kernel
theorem dW_interest_11 : decode bW_interest 11 = .ok (.iload_n 3, 1) := by decide +kernel
theorem dW_interest_12 : decode bW_interest 12 = .ok (.imul, 1) := by decide +kernel
theorem dW_interest_13 : decode bW_interest 13 = .ok (.iconst 1, 1) := by decide +kernel
theorem dW_interest_14 : decode bW_interest 14 = .ok (.iadd, 1) := by decide +kernel
theorem dW_interest_15 : decode bW_interest 15 = .ok (.iaload, 1) := by decide +kernel
theorem dW_interest_16 : decode bW_interest 16 = .ok (.isub, 1) := by decide +kernel
theorem dW_interest_17 : decode bW_interest 17 = .ok (.i2l, 1) := by decide +kernel
theorem dW_interest_18 : decode bW_interest 18 = .ok (.lmul, 1) := by decide +kernel
theorem dW_interest_19 : decode bW_interest 19 = .ok (.aload_n 0, 1) := by decide +kernel
theorem dW_interest_20 : decode bW_interest 20 = .ok (.iconst 3, 1) := by decide +kernel
theorem dW_interest_21 : decode bW_interest 21 = .ok (.iaload, 1) := by decide +kernel
theorem dW_interest_22 : decode bW_interest 22 = .ok (.i2l, 1) := by decide +kernel
theorem dW_interest_23 : decode bW_interest 23 = .ok (.lmul, 1) := by decide +kernel
theorem dW_interest_24 : decode bW_interest 24 = .ok (.lstore 4, 2) := by decide +kernel
theorem dW_interest_26 : decode bW_interest 26 = .ok (.aload_n 1, 1) := by decide +kernel
theorem dW_interest_27 : decode bW_interest 27 = .ok (.bipush 10, 2) := by decide +kernel
theorem dW_interest_29 : decode bW_interest 29 = .ok (.iload_n 3, 1) := by decide +kernel
theorem dW_interest_30 : decode bW_interest 30 = .ok (.imul, 1) := by decide +kernel
theorem dW_interest_31 : decode bW_interest 31 = .ok (.iconst 3, 1) := by decide +kernel
theorem dW_interest_32 : decode bW_interest 32 = .ok (.iadd, 1) := by decide +kernel
theorem dW_interest_33 : decode bW_interest 33 = .ok (.iaload, 1) := by decide +kernel
theorem dW_interest_34 : decode bW_interest 34 = .ok (.iconst 4, 1) := by decide +kernel
theorem dW_interest_35 : decode bW_interest 35 = .ok (.if_icmp .ne 13, 3) := by decide +kernel
theorem dW_interest_38 : decode bW_interest 38 = .ok (.aload_n 2, 1) := by decide +kernel
theorem dW_interest_39 : decode bW_interest 39 = .ok (.iconst 3, 1) := by decide +kernel
theorem dW_interest_40 : decode bW_interest 40 = .ok (.iload_n 3, 1) := by decide +kernel
theorem dW_interest_41 : decode bW_interest 41 = .ok (.imul, 1) := by decide +kernel
theorem dW_interest_42 : decode bW_interest 42 = .ok (.iconst 2, 1) := by decide +kernel
theorem dW_interest_43 : decode bW_interest 43 = .ok (.iadd, 1) := by decide +kernel
theorem dW_interest_44 : decode bW_interest 44 = .ok (.iaload, 1) := by decide +kernel
theorem dW_interest_45 : decode bW_interest 45 = .ok (.goto 10, 3) := by decide +kernel
theorem dW_interest_48 : decode bW_interest 48 = .ok (.lload 4, 2) := by decide +kernel
theorem dW_interest_50 : decode bW_interest 50 = .ok (.ldc2_w 20, 3) := by decide +kernel
theorem dW_interest_53 : decode bW_interest 53 = .ok (.ldiv, 1) := by decide +kernel
theorem dW_interest_54 : decode bW_interest 54 = .ok (.l2i, 1) := by decide +kernel
theorem dW_interest_55 : decode bW_interest 55 = .ok (.ireturn, 1) := by decide +kernel
set_option maxHeartbeats 4000000 in
set_option maxRecDepth 100000 in
theorem cW_interest (l : Launch) (D : va_G) (tI tJ tL : ClassId) (A : Nat → Prop) (sg ad : Nat → Nat) (n : Nat) (sL : NL) (sA : NA) (i : Nat) (hi : i < 6) : Met l yW_interest (Cond.code yW_interest bW_interest 6 (some FieldType.int) :: wNeed) { frames := 0, cells := 0, slots := 0, locals := 0 } (va_Pc [.ref (ad 4), .ref (ad 5), .ref (ad 6), .int (nI i)] (GP D tI tJ tL A sg ad n sL sA)) (vp_Si fun r => r = fW_interest sL sA i) 0 0 (fun _ => False) := by
  refine en_M (av := [.ref (ad 4), .ref (ad 5), .ref (ad 6), .int (nI i)]) (by decide) (Nat.le_of_ble_eq_true rfl) ?_
  intro p e s m below meth c hx hb hml hown hts hr hlocks hmname hP ls hl
  obtain ⟨hG, hC⟩ := hP
  have hS : va_S A s.heap s.heap [] := va_S.rf
  replace hl : lv_has ls 6 [(0, .ref (ad 4)), (1, .ref (ad 5)), (2, .ref (ad 6)), (3, .int (nI i))] := hl
  refine lv_aload_n hx hb dW_interest_0 rfl (lv_at hl 2 rfl) ?_
  refine lv_iconst (v := 3) hx hb dW_interest_1 (by decide) ?_
  refine lv_iload_n hx hb dW_interest_2 rfl (lv_at hl 3 rfl) ?_
  refine lv_imul hx hb dW_interest_3 ?_
  rw [show (3 : Int32) * (nI i) = nI (3 * i) from pk_mul 3 i]
  refine ra_ld hx hb hC hG 6 18 (by omega) (fun _ _ => rfl) (vp_in_nI (by omega) (by omega)) dW_interest_4 ?_
  rw [show (nI (3 * i)).toNatClampNeg = (3 * i) from nI_clamp (by omega)]
  refine lv_i2l (v := (sA 6 (3 * i) : Int32).toInt64) hx hb dW_interest_5 rfl ?_
  refine lv_aload_n hx hb dW_interest_6 rfl (lv_at hl 0 rfl) ?_
  refine lv_iconst (v := 2) hx hb dW_interest_7 (by decide) ?_
  refine ra_ld hx hb hC hG 4 5 (by omega) (fun _ _ => rfl) (by rw [vp_in_iff]; decide) dW_interest_8 ?_
  rw [show (2 : Int32).toNatClampNeg = 2 from rfl]
  refine lv_aload_n hx hb dW_interest_9 rfl (lv_at hl 2 rfl) ?_
  refine lv_iconst (v := 3) hx hb dW_interest_10 (by decide) ?_
  refine lv_iload_n hx hb dW_interest_11 rfl (lv_at hl 3 rfl) ?_
  refine lv_imul hx hb dW_interest_12 ?_
  rw [show (3 : Int32) * (nI i) = nI (3 * i) from pk_mul 3 i]
  refine lv_iconst (v := 1) hx hb dW_interest_13 (by decide) ?_
  refine lv_iadd hx hb dW_interest_14 ?_
  rw [show (nI (3 * i)) + (1 : Int32) = nI (3 * i + 1) from nI_add (3 * i) 1]
  refine ra_ld hx hb hC hG 6 18 (by omega) (fun _ _ => rfl) (vp_in_nI (by omega) (by omega)) dW_interest_15 ?_
  rw [show (nI (3 * i + 1)).toNatClampNeg = (3 * i + 1) from nI_clamp (by omega)]
  refine lv_isub hx hb dW_interest_16 ?_
  refine lv_i2l (v := ((sA 4 2) - (sA 6 (3 * i + 1)) : Int32).toInt64) hx hb dW_interest_17 rfl ?_
  refine lv_lmul hx hb dW_interest_18 ?_
  refine lv_aload_n hx hb dW_interest_19 rfl (lv_at hl 0 rfl) ?_
  refine lv_iconst (v := 3) hx hb dW_interest_20 (by decide) ?_
  refine ra_ld hx hb hC hG 4 5 (by omega) (fun _ _ => rfl) (by rw [vp_in_iff]; decide) dW_interest_21 ?_
  rw [show (3 : Int32).toNatClampNeg = 3 from rfl]
  refine lv_i2l (v := (sA 4 3 : Int32).toInt64) hx hb dW_interest_22 rfl ?_
  refine lv_lmul hx hb dW_interest_23 ?_
  refine lv_lstore (lv' := [(4, .long ((((sA 6 (3 * i) : Int32).toInt64) * (((sA 4 2) - (sA 6 (3 * i + 1)) : Int32).toInt64)) * ((sA 4 3 : Int32).toInt64))), (0, .ref (ad 4)), (1, .ref (ad 5)), (2, .ref (ad 6)), (3, .int (nI i))]) hx hb dW_interest_24 hl (by decide) rfl (fun ls hl => ?_)
  refine lv_aload_n hx hb dW_interest_26 rfl (lv_at hl 2 rfl) ?_
  refine lv_bipush (v := 10) hx hb dW_interest_27 (by decide) ?_
  refine lv_iload_n hx hb dW_interest_29 rfl (lv_at hl 4 rfl) ?_
  refine lv_imul hx hb dW_interest_30 ?_
  rw [show (10 : Int32) * (nI i) = nI (10 * i) from pk_mul 10 i]
  refine lv_iconst (v := 3) hx hb dW_interest_31 (by decide) ?_
  refine lv_iadd hx hb dW_interest_32 ?_
  rw [show (nI (10 * i)) + (3 : Int32) = nI (10 * i + 3) from nI_add (10 * i) 3]
  refine ra_ld hx hb hC hG 5 60 (by omega) (fun _ _ => rfl) (vp_in_nI (by omega) (by omega)) dW_interest_33 ?_
  rw [show (nI (10 * i + 3)).toNatClampNeg = (10 * i + 3) from nI_clamp (by omega)]
  refine lv_iconst (v := 4) hx hb dW_interest_34 (by decide) ?_
  refine lv_icmp_ne (tgt := 48) hx hb dW_interest_35 (by decide) (fun c_1 => ?_) (fun c_1 => ?_)
  · refine lv_lload hx hb dW_interest_48 (lv_at hl 0 rfl) ?_
    refine lv_ldc2 (v := 100000) hx hb hown (hts _ q_166) dW_interest_50 ?_
    refine lv_ldiv hx hb dW_interest_53 (by decide) ?_
    refine lv_l2i (v := (((((sA 6 (3 * i) : Int32).toInt64) * (((sA 4 2) - (sA 6 (3 * i + 1)) : Int32).toInt64)) * ((sA 4 3 : Int32).toInt64)) / 100000 : Int64).toInt32) hx hb dW_interest_54 rfl ?_
    exact W.iret (v := (((((sA 6 (3 * i) : Int32).toInt64) * (((sA 4 2) - (sA 6 (3 * i + 1)) : Int32).toInt64)) * ((sA 4 3 : Int32).toInt64)) / 100000 : Int64).toInt32) hx hb hr (fun t ht hW => ⟨_, rfl, (by rw [fW_interest, if_neg c_1] <;> rfl), ht⟩) (fun q h => nomatch h) dW_interest_55
  · refine lv_aload_n hx hb dW_interest_38 rfl (lv_at hl 3 rfl) ?_
    refine lv_iconst (v := 3) hx hb dW_interest_39 (by decide) ?_
    refine lv_iload_n hx hb dW_interest_40 rfl (lv_at hl 4 rfl) ?_
    refine lv_imul hx hb dW_interest_41 ?_
    rw [show (3 : Int32) * (nI i) = nI (3 * i) from pk_mul 3 i]
    refine lv_iconst (v := 2) hx hb dW_interest_42 (by decide) ?_
    refine lv_iadd hx hb dW_interest_43 ?_
    rw [show (nI (3 * i)) + (2 : Int32) = nI (3 * i + 2) from nI_add (3 * i) 2]
    refine ra_ld hx hb hC hG 6 18 (by omega) (fun _ _ => rfl) (vp_in_nI (by omega) (by omega)) dW_interest_44 ?_
    rw [show (nI (3 * i + 2)).toNatClampNeg = (3 * i + 2) from nI_clamp (by omega)]
    refine lv_goto (tgt := 55) hx hb dW_interest_45 (by decide) ?_
    exact W.iret (v := sA 6 (3 * i + 2)) hx hb hr (fun t ht hW => ⟨_, rfl, (by rw [fW_interest, if_pos c_1] <;> rfl), ht⟩) (fun q h => nomatch h) dW_interest_55
def lW_clears (sL : NL) (i : Nat) : Nat → Nat → Int32 → NA → Int32 × NL × NA
  | 0, _, _, _ => (0, sL, fun _ _ => 0)
  | f + 1, j, x, sA1 => if (nI (10 * i + 10)) ≤ (nI (10 * i + j)) then (x, sL, sA1) else (if (sA1 7 (10 * i + j)) ≤ 0 then lW_clears sL i f (j + 1) (x + 0) (up2 sA1 7 (10 * i + j) 0) else lW_clears sL i f (j + 1) (x + 1) (up2 sA1 7 (10 * i + j) 0))
def fW_clears (sL : NL) (sA : NA) (i : Nat) : Int32 × NL × NA := lW_clears sL i 11 0 0 sA
theorem hdyW_clears : yW_clears.cls ≠ "java/lang/invoke/MethodHandle" ∧ yW_clears.cls ≠ "java/lang/invoke/VarHandle" ∧ (parseMethodDescriptor yW_clears.desc).map (fun d => d.parameters.length) = some 2 := by decide +kernel
theorem dW_clears_0 : decode bW_clears 0 = .ok (.iconst 0, 1) := by decide +kernel
theorem dW_clears_1 : decode bW_clears 1 = .ok (.istore_n 2, 1) := by decide +kernel
theorem dW_clears_2 : decode bW_clears 2 = .ok (.bipush 10, 2) := by decide +kernel
theorem dW_clears_4 : decode bW_clears 4 = .ok (.iload_n 1, 1) := by decide +kernel
theorem dW_clears_5 : decode bW_clears 5 = .ok (.imul, 1) := by decide +kernel
theorem dW_clears_6 : decode bW_clears 6 = .ok (.istore_n 3, 1) := by decide +kernel
theorem dW_clears_7 : decode bW_clears 7 = .ok (.iload_n 3, 1) := by decide +kernel
theorem dW_clears_8 : decode bW_clears 8 = .ok (.bipush 10, 2) := by decide +kernel
theorem dW_clears_10 : decode bW_clears 10 = .ok (.iload_n 1, 1) := by decide +kernel
theorem dW_clears_11 : decode bW_clears 11 = .ok (.imul, 1) := by decide +kernel
theorem dW_clears_12 : decode bW_clears 12 = .ok (.bipush 10, 2) := by decide +kernel
theorem dW_clears_14 : decode bW_clears 14 = .ok (.iadd, 1) := by decide +kernel
theorem dW_clears_15 : decode bW_clears 15 = .ok (.if_icmp .ge 27, 3) := by decide +kernel
theorem dW_clears_18 : decode bW_clears 18 = .ok (.iload_n 2, 1) := by decide +kernel
theorem dW_clears_19 : decode bW_clears 19 = .ok (.aload_n 0, 1) := by decide +kernel
theorem dW_clears_20 : decode bW_clears 20 = .ok (.iload_n 3, 1) := by decide +kernel
theorem dW_clears_21 : decode bW_clears 21 = .ok (.iaload, 1) := by decide +kernel
theorem dW_clears_22 : decode bW_clears 22 = .ok (.ifCond .le 7, 3) := by decide +kernel
theorem dW_clears_25 : decode bW_clears 25 = .ok (.iconst 1, 1) := by decide +kernel
theorem dW_clears_26 : decode bW_clears 26 = .ok (.goto 4, 3) := by decide +kernel
theorem dW_clears_29 : decode bW_clears 29 = .ok (.iconst 0, 1) := by decide +kernel
theorem dW_clears_30 : decode bW_clears 30 = .ok (.iadd, 1) := by decide +kernel
theorem dW_clears_31 : decode bW_clears 31 = .ok (.istore_n 2, 1) := by decide +kernel
theorem dW_clears_32 : decode bW_clears 32 = .ok (.aload_n 0, 1) := by decide +kernel
theorem dW_clears_33 : decode bW_clears 33 = .ok (.iload_n 3, 1) := by decide +kernel
theorem dW_clears_34 : decode bW_clears 34 = .ok (.iconst 0, 1) := by decide +kernel
theorem dW_clears_35 : decode bW_clears 35 = .ok (.iastore, 1) := by decide +kernel
theorem dW_clears_36 : decode bW_clears 36 = .ok (.iinc 3 1, 3) := by decide +kernel
theorem dW_clears_39 : decode bW_clears 39 = .ok (.goto (-32), 3) := by decide +kernel
theorem dW_clears_42 : decode bW_clears 42 = .ok (.iload_n 2, 1) := by decide +kernel
theorem dW_clears_43 : decode bW_clears 43 = .ok (.ireturn, 1) := by decide +kernel
set_option maxHeartbeats 4000000 in
set_option maxRecDepth 100000 in
theorem cW_clears (l : Launch) (D : va_G) (tI tJ tL : ClassId) (A : Nat → Prop) (sg ad : Nat → Nat) (n : Nat) (sL : NL) (sA : NA) (i : Nat) (hi : i < 6) : Met l yW_clears (Cond.code yW_clears bW_clears 4 (some FieldType.int) :: wNeed) { frames := 0, cells := 0, slots := 0, locals := 0 } (va_Pc [.ref (ad 7), .int (nI i)] (GP D tI tJ tL A sg ad n sL sA)) (va_Qi (fun r (u : NL × NA) => fW_clears sL sA i = (r, u.1, u.2)) (fun u t => GW D tI tJ tL A ad n u.1 u.2 t.heap) A) 0 0 A := by
  refine en_G (av := [.ref (ad 7), .int (nI i)]) (by decide) (Nat.le_of_ble_eq_true rfl) ?_
  intro p e s m below meth c hx hb hml hown hts hr hlocks hmname hC H locs hG hS ls hl
  replace hl : lv_has ls 4 [(0, .ref (ad 7)), (1, .int (nI i))] := hl
  refine lv_iconst (v := 0) hx hb dW_clears_0 (by decide) ?_
  refine lv_istore_n (lv' := [(2, .int 0), (0, .ref (ad 7)), (1, .int (nI i))]) hx hb dW_clears_1 rfl hl (by decide) rfl (fun ls hl => ?_)
  refine lv_bipush (v := 10) hx hb dW_clears_2 (by decide) ?_
  refine lv_iload_n hx hb dW_clears_4 rfl (lv_at hl 2 rfl) ?_
  refine lv_imul hx hb dW_clears_5 ?_
  rw [show (10 : Int32) * (nI i) = nI (10 * i) from pk_mul 10 i]
  refine lv_istore_n (lv' := [(3, .int (nI (10 * i))), (2, .int 0), (0, .ref (ad 7)), (1, .int (nI i))]) hx hb dW_clears_6 rfl hl (by decide) rfl (fun ls hl => ?_)
  replace hl : ∃ (f : Nat) (j : Nat) (x : Int32) (sA1 : NA), j + f = 11 ∧ j ≤ 10 ∧ fW_clears sL sA i = lW_clears sL i f j x sA1 ∧ GW D tI tJ tL A ad n sL sA1 H ∧ lv_has ls 4 [(3, .int (nI (10 * i + j))), (2, .int x), (0, .ref (ad 7)), (1, .int (nI i))] := ⟨11, 0, 0, sA, rfl, by omega, (by rw [fW_clears] <;> rfl), hG, hl⟩
  clear hG
  obtain ⟨f, j, x, sA1, hf, hj, hF, hG, hl⟩ := hl
  induction f generalizing j x sA1 H locs ls with
  | zero => exact absurd hf (by omega)
  | succ f ih =>
    refine lv_iload_n hx hb dW_clears_7 rfl (lv_at hl 0 rfl) ?_
    refine lv_bipush (v := 10) hx hb dW_clears_8 (by decide) ?_
    refine lv_iload_n hx hb dW_clears_10 rfl (lv_at hl 3 rfl) ?_
    refine lv_imul hx hb dW_clears_11 ?_
    rw [show (10 : Int32) * (nI i) = nI (10 * i) from pk_mul 10 i]
    refine lv_bipush (v := 10) hx hb dW_clears_12 (by decide) ?_
    refine lv_iadd hx hb dW_clears_14 ?_
    rw [show (nI (10 * i)) + (10 : Int32) = nI (10 * i + 10) from nI_add (10 * i) 10]
    refine lv_icmp_ge (tgt := 42) hx hb dW_clears_15 (by decide) (fun c_1 => ?_) (fun c_1 => ?_)
    · refine lv_iload_n hx hb dW_clears_42 rfl (lv_at hl 1 rfl) ?_
      refine W.widen (k := 0) (n := 0) (Nat.le_of_ble_eq_true rfl) (Nat.le_of_ble_eq_true rfl) ?_
      exact W.iret (v := x) hx hb hr (fun t ht hW => ⟨⟨x, (sL, sA1), rfl, (by rw [hF, lW_clears, if_pos c_1] <;> rfl), gw_at hG ht⟩, hS.F ht⟩) hS.2.2 dW_clears_43
    · refine lv_iload_n hx hb dW_clears_18 rfl (lv_at hl 1 rfl) ?_
      refine lv_aload_n hx hb dW_clears_19 rfl (lv_at hl 2 rfl) ?_
      refine lv_iload_n hx hb dW_clears_20 rfl (lv_at hl 0 rfl) ?_
      refine ra_ld hx hb hC hG 7 60 (by omega) (fun _ _ => rfl) (vp_in_nI (by have hlt := grdW hi (by omega) c_1; omega) (by omega)) dW_clears_21 ?_
      rw [show (nI (10 * i + j)).toNatClampNeg = (10 * i + j) from nI_clamp (by omega)]
      refine lv_if_le (tgt := 29) hx hb dW_clears_22 (by decide) (fun c_2 => ?_) (fun c_2 => ?_)
      · refine lv_iconst (v := 0) hx hb dW_clears_29 (by decide) ?_
        refine lv_iadd hx hb dW_clears_30 ?_
        refine lv_istore_n (lv' := [(2, .int (x + 0)), (3, .int (nI (10 * i + j))), (0, .ref (ad 7)), (1, .int (nI i))]) hx hb dW_clears_31 rfl hl (by decide) rfl (fun ls hl => ?_)
        refine lv_aload_n hx hb dW_clears_32 rfl (lv_at hl 2 rfl) ?_
        refine lv_iload_n hx hb dW_clears_33 rfl (lv_at hl 1 rfl) ?_
        refine lv_iconst (v := 0) hx hb dW_clears_34 (by decide) ?_
        refine ra_st hx hb hC hG hS 7 60 (by omega) (fun _ _ => rfl) (vp_in_nI (by have hlt := grdW hi (by omega) c_1; omega) (by omega)) dW_clears_35 (fun H locs hG hS => ?_)
        rw [show (nI (10 * i + j)).toNatClampNeg = (10 * i + j) from nI_clamp (by omega)] at hG
        refine lv_iinc (v := nI (10 * i + j + 1)) (lv' := [(3, .int (nI (10 * i + j + 1))), (2, .int (x + 0)), (0, .ref (ad 7)), (1, .int (nI i))]) hx hb dW_clears_36 hl (k := 1) rfl (nI_1 (10 * i + j)) (by decide) rfl (fun ls hl => ?_)
        refine lv_goto (tgt := 7) hx hb dW_clears_39 (by decide) ?_
        exact ih (j := j + 1) (x := x + 0) (sA1 := (up2 sA1 7 (10 * i + j) 0)) (H := H) (locs := locs) (hS := hS) (hG := hG) (ls := ls) (hf := by omega) (hj := by have hlt := grdW hi (by omega) c_1; omega) (hF := by rw [hF, lW_clears, if_neg c_1, if_pos c_2] <;> rfl) (hl := lv_sub hl [0, 1, 2, 3] rfl)
      · refine lv_iconst (v := 1) hx hb dW_clears_25 (by decide) ?_
        refine lv_goto (tgt := 30) hx hb dW_clears_26 (by decide) ?_
        refine lv_iadd hx hb dW_clears_30 ?_
        refine lv_istore_n (lv' := [(2, .int (x + 1)), (3, .int (nI (10 * i + j))), (0, .ref (ad 7)), (1, .int (nI i))]) hx hb dW_clears_31 rfl hl (by decide) rfl (fun ls hl => ?_)
        refine lv_aload_n hx hb dW_clears_32 rfl (lv_at hl 2 rfl) ?_
        refine lv_iload_n hx hb dW_clears_33 rfl (lv_at hl 1 rfl) ?_
        refine lv_iconst (v := 0) hx hb dW_clears_34 (by decide) ?_
        refine ra_st hx hb hC hG hS 7 60 (by omega) (fun _ _ => rfl) (vp_in_nI (by have hlt := grdW hi (by omega) c_1; omega) (by omega)) dW_clears_35 (fun H locs hG hS => ?_)
        rw [show (nI (10 * i + j)).toNatClampNeg = (10 * i + j) from nI_clamp (by omega)] at hG
        refine lv_iinc (v := nI (10 * i + j + 1)) (lv' := [(3, .int (nI (10 * i + j + 1))), (2, .int (x + 1)), (0, .ref (ad 7)), (1, .int (nI i))]) hx hb dW_clears_36 hl (k := 1) rfl (nI_1 (10 * i + j)) (by decide) rfl (fun ls hl => ?_)
        refine lv_goto (tgt := 7) hx hb dW_clears_39 (by decide) ?_
        exact ih (j := j + 1) (x := x + 1) (sA1 := (up2 sA1 7 (10 * i + j) 0)) (H := H) (locs := locs) (hS := hS) (hG := hG) (ls := ls) (hf := by omega) (hj := by have hlt := grdW hi (by omega) c_1; omega) (hF := by rw [hF, lW_clears, if_neg c_1, if_neg c_2] <;> rfl) (hl := lv_sub hl [0, 1, 2, 3] rfl)
def lW_falls (sL : NL) (sA : NA) (i : Nat) : Nat → Nat → Int32 → Int32 → Int32 × NL × NA
  | 0, _, _, _ => (0, sL, sA)
  | f + 1, j, x, y => if 10 ≤ (nI j) then (if x < 0 then ((-1), sL, (up2 sA 5 (10 * i + 3) 1)) else (if (sA 5 (10 * i + 1)) ≤ ((sA 7 x.toNatClampNeg) - 1) then (if 0 ≤ y then (wmin (wmax (fW_next y) (sA 5 (10 * i + 1))) ((sA 7 x.toNatClampNeg) - 1), sL, (up2 (up2 (up2 (up2 sA 5 (10 * i + 3) 2) 5 (10 * i + 4) (x - x / 10 * 10)) 5 (10 * i + 5) (wmin (wmax (fW_next y) (sA 5 (10 * i + 1))) ((sA 7 x.toNatClampNeg) - 1))) 5 (10 * i + 6) (sA 4 2))) else (if (sA 5 (10 * i + 1)) = 0 then (wmin (wmax 50 (sA 5 (10 * i + 1))) ((sA 7 x.toNatClampNeg) - 1), sL, (up2 (up2 (up2 (up2 sA 5 (10 * i + 3) 2) 5 (10 * i + 4) (x - x / 10 * 10)) 5 (10 * i + 5) (wmin (wmax 50 (sA 5 (10 * i + 1))) ((sA 7 x.toNatClampNeg) - 1))) 5 (10 * i + 6) (sA 4 2))) else (wmin (wmax (sA 5 (10 * i + 1)) (sA 5 (10 * i + 1))) ((sA 7 x.toNatClampNeg) - 1), sL, (up2 (up2 (up2 (up2 sA 5 (10 * i + 3) 2) 5 (10 * i + 4) (x - x / 10 * 10)) 5 (10 * i + 5) (wmin (wmax (sA 5 (10 * i + 1)) (sA 5 (10 * i + 1))) ((sA 7 x.toNatClampNeg) - 1))) 5 (10 * i + 6) (sA 4 2))))) else ((-1), sL, (up2 sA 5 (10 * i + 3) 1)))) else (if (sA 7 (10 * i + j)) ≤ 0 then lW_falls sL sA i f (j + 1) x y else (if x < 0 then lW_falls sL sA i f (j + 1) (nI (10 * i + j)) (-1) else (if (sA 7 x.toNatClampNeg) < (sA 7 (10 * i + j)) then lW_falls sL sA i f (j + 1) (nI (10 * i + j)) ((sA 7 x.toNatClampNeg) - 1) else (if (sA 7 (10 * i + j)) = (sA 7 x.toNatClampNeg) then (if (sA 8 x.toNatClampNeg) ≤ (sA 8 (10 * i + j)) then (if ((sA 7 (10 * i + j)) - 1) ≤ y then lW_falls sL sA i f (j + 1) x y else lW_falls sL sA i f (j + 1) x ((sA 7 (10 * i + j)) - 1)) else lW_falls sL sA i f (j + 1) (nI (10 * i + j)) ((sA 7 x.toNatClampNeg) - 1)) else (if ((sA 7 (10 * i + j)) - 1) ≤ y then lW_falls sL sA i f (j + 1) x y else lW_falls sL sA i f (j + 1) x ((sA 7 (10 * i + j)) - 1))))))
def fW_falls (sL : NL) (sA : NA) (i : Nat) : Int32 × NL × NA := lW_falls sL sA i 11 0 (-1) (-1)
theorem hdyW_falls : yW_falls.cls ≠ "java/lang/invoke/MethodHandle" ∧ yW_falls.cls ≠ "java/lang/invoke/VarHandle" ∧ (parseMethodDescriptor yW_falls.desc).map (fun d => d.parameters.length) = some 5 := by decide +kernel
theorem dW_falls_0 : decode bW_falls 0 = .ok (.iconst (-1), 1) := by decide +kernel
theorem dW_falls_1 : decode bW_falls 1 = .ok (.istore 5, 2) := by decide +kernel
theorem dW_falls_3 : decode bW_falls 3 = .ok (.iconst (-1), 1) := by decide +kernel
theorem dW_falls_4 : decode bW_falls 4 = .ok (.istore 6, 2) := by decide +kernel
theorem dW_falls_6 : decode bW_falls 6 = .ok (.iconst 0, 1) := by decide +kernel
theorem dW_falls_7 : decode bW_falls 7 = .ok (.istore 7, 2) := by decide +kernel
theorem dW_falls_9 : decode bW_falls 9 = .ok (.iload 7, 2) := by decide +kernel
theorem dW_falls_11 : decode bW_falls 11 = .ok (.bipush 10, 2) := by decide +kernel
theorem dW_falls_13 : decode bW_falls 13 = .ok (.if_icmp .ge 139, 3) := by decide +kernel
theorem dW_falls_16 : decode bW_falls 16 = .ok (.bipush 10, 2) := by decide +kernel
theorem dW_falls_18 : decode bW_falls 18 = .ok (.iload 4, 2) := by decide +kernel
theorem dW_falls_20 : decode bW_falls 20 = .ok (.imul, 1) := by decide +kernel
theorem dW_falls_21 : decode bW_falls 21 = .ok (.iload 7, 2) := by decide +kernel
theorem dW_falls_23 : decode bW_falls 23 = .ok (.iadd, 1) := by decide +kernel
theorem dW_falls_24 : decode bW_falls 24 = .ok (.istore 8, 2) := by decide +kernel
theorem dW_falls_26 : decode bW_falls 26 = .ok (.aload_n 2, 1) := by decide +kernel
theorem dW_falls_27 : decode bW_falls 27 = .ok (.iload 8, 2) := by decide +kernel
theorem dW_falls_29 : decode bW_falls 29 = .ok (.iaload, 1) := by decide +kernel
theorem dW_falls_30 : decode bW_falls 30 = .ok (.ifCond .le 45, 3) := by decide +kernel
theorem dW_falls_33 : decode bW_falls 33 = .ok (.iload 5, 2) := by decide +kernel
theorem dW_falls_35 : decode bW_falls 35 = .ok (.ifCond .lt 36, 3) := by decide +kernel
theorem dW_falls_38 : decode bW_falls 38 = .ok (.aload_n 2, 1) := by decide +kernel
theorem dW_falls_39 : decode bW_falls 39 = .ok (.iload 8, 2) := by decide +kernel
theorem dW_falls_41 : decode bW_falls 41 = .ok (.iaload, 1) := by decide +kernel
theorem dW_falls_42 : decode bW_falls 42 = .ok (.aload_n 2, 1) := by decide +kernel
theorem dW_falls_43 : decode bW_falls 43 = .ok (.iload 5, 2) := by decide +kernel
theorem dW_falls_45 : decode bW_falls 45 = .ok (.iaload, 1) := by decide +kernel
theorem dW_falls_46 : decode bW_falls 46 = .ok (.if_icmp .gt 25, 3) := by decide +kernel
theorem dW_falls_49 : decode bW_falls 49 = .ok (.aload_n 2, 1) := by decide +kernel
theorem dW_falls_50 : decode bW_falls 50 = .ok (.iload 8, 2) := by decide +kernel
theorem dW_falls_52 : decode bW_falls 52 = .ok (.iaload, 1) := by decide +kernel
theorem dW_falls_53 : decode bW_falls 53 = .ok (.aload_n 2, 1) := by decide +kernel
theorem dW_falls_54 : decode bW_falls 54 = .ok (.iload 5, 2) := by decide +kernel
theorem dW_falls_56 : decode bW_falls 56 = .ok (.iaload, 1) := by decide +kernel
theorem dW_falls_57 : decode bW_falls 57 = .ok (.if_icmp .ne 18, 3) := by decide +kernel
theorem dW_falls_60 : decode bW_falls 60 = .ok (.aload_n 3, 1) := by decide +kernel
theorem dW_falls_61 : decode bW_falls 61 = .ok (.iload 8, 2) := by decide +kernel
theorem dW_falls_63 : decode bW_falls 63 = .ok (.iaload, 1) := by decide +kernel
theorem dW_falls_64 : decode bW_falls 64 = .ok (.aload_n 3, 1) := by decide +kernel
theorem dW_falls_65 : decode bW_falls 65 = .ok (.iload 5, 2) := by decide +kernel
theorem dW_falls_67 : decode bW_falls 67 = .ok (.iaload, 1) := by decide +kernel
theorem dW_falls_68 : decode bW_falls 68 = .ok (.if_icmp .ge 7, 3) := by decide +kernel
theorem dW_falls_71 : decode bW_falls 71 = .ok (.iconst 1, 1) := by decide +kernel
theorem dW_falls_72 : decode bW_falls 72 = .ok (.goto 4, 3) := by decide +kernel
theorem dW_falls_75 : decode bW_falls 75 = .ok (.iconst 0, 1) := by decide +kernel
theorem dW_falls_76 : decode bW_falls 76 = .ok (.istore 9, 2) := by decide +kernel
theorem dW_falls_78 : decode bW_falls 78 = .ok (.iload 9, 2) := by decide +kernel
theorem dW_falls_80 : decode bW_falls 80 = .ok (.ifCond .eq 21, 3) := by decide +kernel
theorem dW_falls_83 : decode bW_falls 83 = .ok (.iload 5, 2) := by decide +kernel
theorem dW_falls_85 : decode bW_falls 85 = .ok (.ifCond .ge 7, 3) := by decide +kernel
theorem dW_falls_88 : decode bW_falls 88 = .ok (.iconst (-1), 1) := by decide +kernel
theorem dW_falls_89 : decode bW_falls 89 = .ok (.goto 41, 3) := by decide +kernel
theorem dW_falls_92 : decode bW_falls 92 = .ok (.aload_n 2, 1) := by decide +kernel
theorem dW_falls_93 : decode bW_falls 93 = .ok (.iload 5, 2) := by decide +kernel
theorem dW_falls_95 : decode bW_falls 95 = .ok (.iaload, 1) := by decide +kernel
theorem dW_falls_96 : decode bW_falls 96 = .ok (.iconst 1, 1) := by decide +kernel
theorem dW_falls_97 : decode bW_falls 97 = .ok (.isub, 1) := by decide +kernel
theorem dW_falls_98 : decode bW_falls 98 = .ok (.goto 32, 3) := by decide +kernel
theorem dW_falls_101 : decode bW_falls 101 = .ok (.aload_n 2, 1) := by decide +kernel
theorem dW_falls_102 : decode bW_falls 102 = .ok (.iload 8, 2) := by decide +kernel
theorem dW_falls_104 : decode bW_falls 104 = .ok (.iaload, 1) := by decide +kernel
theorem dW_falls_105 : decode bW_falls 105 = .ok (.ifCond .le 23, 3) := by decide +kernel
theorem dW_falls_108 : decode bW_falls 108 = .ok (.aload_n 2, 1) := by decide +kernel
theorem dW_falls_109 : decode bW_falls 109 = .ok (.iload 8, 2) := by decide +kernel
theorem dW_falls_111 : decode bW_falls 111 = .ok (.iaload, 1) := by decide +kernel
theorem dW_falls_112 : decode bW_falls 112 = .ok (.iconst 1, 1) := by decide +kernel
theorem dW_falls_113 : decode bW_falls 113 = .ok (.isub, 1) := by decide +kernel
theorem dW_falls_114 : decode bW_falls 114 = .ok (.iload 6, 2) := by decide +kernel
theorem dW_falls_116 : decode bW_falls 116 = .ok (.if_icmp .le 12, 3) := by decide +kernel
theorem dW_falls_119 : decode bW_falls 119 = .ok (.aload_n 2, 1) := by decide +kernel
theorem dW_falls_120 : decode bW_falls 120 = .ok (.iload 8, 2) := by decide +kernel
theorem dW_falls_122 : decode bW_falls 122 = .ok (.iaload, 1) := by decide +kernel
theorem dW_falls_123 : decode bW_falls 123 = .ok (.iconst 1, 1) := by decide +kernel
theorem dW_falls_124 : decode bW_falls 124 = .ok (.isub, 1) := by decide +kernel
theorem dW_falls_125 : decode bW_falls 125 = .ok (.goto 5, 3) := by decide +kernel
theorem dW_falls_128 : decode bW_falls 128 = .ok (.iload 6, 2) := by decide +kernel
theorem dW_falls_130 : decode bW_falls 130 = .ok (.istore 6, 2) := by decide +kernel
theorem dW_falls_132 : decode bW_falls 132 = .ok (.iload 9, 2) := by decide +kernel
theorem dW_falls_134 : decode bW_falls 134 = .ok (.ifCond .eq 8, 3) := by decide +kernel
theorem dW_falls_137 : decode bW_falls 137 = .ok (.iload 8, 2) := by decide +kernel
theorem dW_falls_139 : decode bW_falls 139 = .ok (.goto 5, 3) := by decide +kernel
theorem dW_falls_142 : decode bW_falls 142 = .ok (.iload 5, 2) := by decide +kernel
theorem dW_falls_144 : decode bW_falls 144 = .ok (.istore 5, 2) := by decide +kernel
theorem dW_falls_146 : decode bW_falls 146 = .ok (.iinc 7 1, 3) := by decide +kernel
theorem dW_falls_149 : decode bW_falls 149 = .ok (.goto (-140), 3) := by decide +kernel
theorem dW_falls_152 : decode bW_falls 152 = .ok (.aload_n 1, 1) := by decide +kernel
theorem dW_falls_153 : decode bW_falls 153 = .ok (.bipush 10, 2) := by decide +kernel
theorem dW_falls_155 : decode bW_falls 155 = .ok (.iload 4, 2) := by decide +kernel
theorem dW_falls_157 : decode bW_falls 157 = .ok (.imul, 1) := by decide +kernel
theorem dW_falls_158 : decode bW_falls 158 = .ok (.iconst 1, 1) := by decide +kernel
theorem dW_falls_159 : decode bW_falls 159 = .ok (.iadd, 1) := by decide +kernel
theorem dW_falls_160 : decode bW_falls 160 = .ok (.iaload, 1) := by decide +kernel
theorem dW_falls_161 : decode bW_falls 161 = .ok (.istore 7, 2) := by decide +kernel
theorem dW_falls_163 : decode bW_falls 163 = .ok (.iload 5, 2) := by decide +kernel
theorem dW_falls_165 : decode bW_falls 165 = .ok (.ifCond .lt 14, 3) := by decide +kernel
theorem dW_falls_168 : decode bW_falls 168 = .ok (.aload_n 2, 1) := by decide +kernel
theorem dW_falls_169 : decode bW_falls 169 = .ok (.iload 5, 2) := by decide +kernel
theorem dW_falls_171 : decode bW_falls 171 = .ok (.iaload, 1) := by decide +kernel
theorem dW_falls_172 : decode bW_falls 172 = .ok (.iconst 1, 1) := by decide +kernel
theorem dW_falls_173 : decode bW_falls 173 = .ok (.isub, 1) := by decide +kernel
theorem dW_falls_174 : decode bW_falls 174 = .ok (.iload 7, 2) := by decide +kernel
theorem dW_falls_176 : decode bW_falls 176 = .ok (.if_icmp .ge 15, 3) := by decide +kernel
theorem dW_falls_179 : decode bW_falls 179 = .ok (.aload_n 1, 1) := by decide +kernel
theorem dW_falls_180 : decode bW_falls 180 = .ok (.bipush 10, 2) := by decide +kernel
theorem dW_falls_182 : decode bW_falls 182 = .ok (.iload 4, 2) := by decide +kernel
theorem dW_falls_184 : decode bW_falls 184 = .ok (.imul, 1) := by decide +kernel
theorem dW_falls_185 : decode bW_falls 185 = .ok (.iconst 3, 1) := by decide +kernel
theorem dW_falls_186 : decode bW_falls 186 = .ok (.iadd, 1) := by decide +kernel
theorem dW_falls_187 : decode bW_falls 187 = .ok (.iconst 1, 1) := by decide +kernel
theorem dW_falls_188 : decode bW_falls 188 = .ok (.iastore, 1) := by decide +kernel
theorem dW_falls_189 : decode bW_falls 189 = .ok (.iconst (-1), 1) := by decide +kernel
theorem dW_falls_190 : decode bW_falls 190 = .ok (.ireturn, 1) := by decide +kernel
theorem dW_falls_191 : decode bW_falls 191 = .ok (.iload 6, 2) := by decide +kernel
theorem dW_falls_193 : decode bW_falls 193 = .ok (.ifCond .ge 18, 3) := by decide +kernel
theorem dW_falls_196 : decode bW_falls 196 = .ok (.iload 7, 2) := by decide +kernel
theorem dW_falls_198 : decode bW_falls 198 = .ok (.ifCond .ne 8, 3) := by decide +kernel
theorem dW_falls_201 : decode bW_falls 201 = .ok (.bipush 50, 2) := by decide +kernel
theorem dW_falls_203 : decode bW_falls 203 = .ok (.goto 13, 3) := by decide +kernel
theorem dW_falls_206 : decode bW_falls 206 = .ok (.iload 7, 2) := by decide +kernel
theorem dW_falls_208 : decode bW_falls 208 = .ok (.goto 8, 3) := by decide +kernel
theorem dW_falls_211 : decode bW_falls 211 = .ok (.iload 6, 2) := by decide +kernel
theorem dW_falls_213 : decode bW_falls 213 = .ok (.invokestatic 22, 3) := by decide +kernel
theorem dW_falls_216 : decode bW_falls 216 = .ok (.istore 8, 2) := by decide +kernel
theorem dW_falls_218 : decode bW_falls 218 = .ok (.iload 8, 2) := by decide +kernel
theorem dW_falls_220 : decode bW_falls 220 = .ok (.iload 7, 2) := by decide +kernel
theorem dW_falls_222 : decode bW_falls 222 = .ok (.if_icmp .le 8, 3) := by decide +kernel
theorem dW_falls_225 : decode bW_falls 225 = .ok (.iload 8, 2) := by decide +kernel
theorem dW_falls_227 : decode bW_falls 227 = .ok (.goto 5, 3) := by decide +kernel
theorem dW_falls_230 : decode bW_falls 230 = .ok (.iload 7, 2) := by decide +kernel
theorem dW_falls_232 : decode bW_falls 232 = .ok (.istore 8, 2) := by decide +kernel
theorem dW_falls_234 : decode bW_falls 234 = .ok (.iload 8, 2) := by decide +kernel
theorem dW_falls_236 : decode bW_falls 236 = .ok (.aload_n 2, 1) := by decide +kernel
theorem dW_falls_237 : decode bW_falls 237 = .ok (.iload 5, 2) := by decide +kernel
theorem dW_falls_239 : decode bW_falls 239 = .ok (.iaload, 1) := by decide +kernel
theorem dW_falls_240 : decode bW_falls 240 = .ok (.iconst 1, 1) := by decide +kernel
theorem dW_falls_241 : decode bW_falls 241 = .ok (.isub, 1) := by decide +kernel
theorem dW_falls_242 : decode bW_falls 242 = .ok (.if_icmp .ge 8, 3) := by decide +kernel
theorem dW_falls_245 : decode bW_falls 245 = .ok (.iload 8, 2) := by decide +kernel
theorem dW_falls_247 : decode bW_falls 247 = .ok (.goto 9, 3) := by decide +kernel
theorem dW_falls_250 : decode bW_falls 250 = .ok (.aload_n 2, 1) := by decide +kernel
theorem dW_falls_251 : decode bW_falls 251 = .ok (.iload 5, 2) := by decide +kernel
theorem dW_falls_253 : decode bW_falls 253 = .ok (.iaload, 1) := by decide +kernel
theorem dW_falls_254 : decode bW_falls 254 = .ok (.iconst 1, 1) := by decide +kernel
theorem dW_falls_255 : decode bW_falls 255 = .ok (.isub, 1) := by decide +kernel
theorem dW_falls_256 : decode bW_falls 256 = .ok (.istore 8, 2) := by decide +kernel
theorem dW_falls_258 : decode bW_falls 258 = .ok (.aload_n 1, 1) := by decide +kernel
theorem dW_falls_259 : decode bW_falls 259 = .ok (.bipush 10, 2) := by decide +kernel
theorem dW_falls_261 : decode bW_falls 261 = .ok (.iload 4, 2) := by decide +kernel
theorem dW_falls_263 : decode bW_falls 263 = .ok (.imul, 1) := by decide +kernel
theorem dW_falls_264 : decode bW_falls 264 = .ok (.iconst 3, 1) := by decide +kernel
theorem dW_falls_265 : decode bW_falls 265 = .ok (.iadd, 1) := by decide +kernel
theorem dW_falls_266 : decode bW_falls 266 = .ok (.iconst 2, 1) := by decide +kernel
theorem dW_falls_267 : decode bW_falls 267 = .ok (.iastore, 1) := by decide +kernel
theorem dW_falls_268 : decode bW_falls 268 = .ok (.aload_n 1, 1) := by decide +kernel
theorem dW_falls_269 : decode bW_falls 269 = .ok (.bipush 10, 2) := by decide +kernel
theorem dW_falls_271 : decode bW_falls 271 = .ok (.iload 4, 2) := by decide +kernel
theorem dW_falls_273 : decode bW_falls 273 = .ok (.imul, 1) := by decide +kernel
theorem dW_falls_274 : decode bW_falls 274 = .ok (.iconst 4, 1) := by decide +kernel
theorem dW_falls_275 : decode bW_falls 275 = .ok (.iadd, 1) := by decide +kernel
theorem dW_falls_276 : decode bW_falls 276 = .ok (.iload 5, 2) := by decide +kernel
theorem dW_falls_278 : decode bW_falls 278 = .ok (.bipush 10, 2) := by decide +kernel
theorem dW_falls_280 : decode bW_falls 280 = .ok (.irem, 1) := by decide +kernel
theorem dW_falls_281 : decode bW_falls 281 = .ok (.iastore, 1) := by decide +kernel
theorem dW_falls_282 : decode bW_falls 282 = .ok (.aload_n 1, 1) := by decide +kernel
theorem dW_falls_283 : decode bW_falls 283 = .ok (.bipush 10, 2) := by decide +kernel
theorem dW_falls_285 : decode bW_falls 285 = .ok (.iload 4, 2) := by decide +kernel
theorem dW_falls_287 : decode bW_falls 287 = .ok (.imul, 1) := by decide +kernel
theorem dW_falls_288 : decode bW_falls 288 = .ok (.iconst 5, 1) := by decide +kernel
theorem dW_falls_289 : decode bW_falls 289 = .ok (.iadd, 1) := by decide +kernel
theorem dW_falls_290 : decode bW_falls 290 = .ok (.iload 8, 2) := by decide +kernel
theorem dW_falls_292 : decode bW_falls 292 = .ok (.iastore, 1) := by decide +kernel
theorem dW_falls_293 : decode bW_falls 293 = .ok (.aload_n 1, 1) := by decide +kernel
theorem dW_falls_294 : decode bW_falls 294 = .ok (.bipush 10, 2) := by decide +kernel
theorem dW_falls_296 : decode bW_falls 296 = .ok (.iload 4, 2) := by decide +kernel
theorem dW_falls_298 : decode bW_falls 298 = .ok (.imul, 1) := by decide +kernel
theorem dW_falls_299 : decode bW_falls 299 = .ok (.bipush 6, 2) := by decide +kernel
theorem dW_falls_301 : decode bW_falls 301 = .ok (.iadd, 1) := by decide +kernel
theorem dW_falls_302 : decode bW_falls 302 = .ok (.aload_n 0, 1) := by decide +kernel
theorem dW_falls_303 : decode bW_falls 303 = .ok (.iconst 2, 1) := by decide +kernel
theorem dW_falls_304 : decode bW_falls 304 = .ok (.iaload, 1) := by decide +kernel
theorem dW_falls_305 : decode bW_falls 305 = .ok (.iastore, 1) := by decide +kernel
theorem dW_falls_306 : decode bW_falls 306 = .ok (.iload 8, 2) := by decide +kernel
theorem dW_falls_308 : decode bW_falls 308 = .ok (.ireturn, 1) := by decide +kernel
set_option maxHeartbeats 4000000 in
set_option maxRecDepth 100000 in
theorem cW_falls (l : Launch) (D : va_G) (tI tJ tL : ClassId) (A : Nat → Prop) (sg ad : Nat → Nat) (n : Nat) (sL : NL) (sA : NA) (i : Nat) (hi : i < 6) (hpc : ∀ q : Nat, q < 10 → 0 < sA 7 (10 * i + q) → PC (sA 7 (10 * i + q) - 1)) : Met l yW_falls (Cond.code yW_falls bW_falls 10 (some FieldType.int) :: wNeed) { frames := 2, cells := 42, slots := 168, locals := 46 } (va_Pc [.ref (ad 4), .ref (ad 5), .ref (ad 7), .ref (ad 8), .int (nI i)] (GP D tI tJ tL A sg ad n sL sA)) (va_Qi (fun r (u : NL × NA) => fW_falls sL sA i = (r, u.1, u.2)) (fun u t => GW D tI tJ tL A ad n u.1 u.2 t.heap) A) 42 168 A := by
  refine en_G (av := [.ref (ad 4), .ref (ad 5), .ref (ad 7), .ref (ad 8), .int (nI i)]) (by decide) (Nat.le_of_ble_eq_true rfl) ?_
  intro p e s m below meth c hx hb hml hown hts hr hlocks hmname hC H locs hG hS ls hl
  replace hl : lv_has ls 10 [(0, .ref (ad 4)), (1, .ref (ad 5)), (2, .ref (ad 7)), (3, .ref (ad 8)), (4, .int (nI i))] := hl
  refine lv_iconst (v := (-1)) hx hb dW_falls_0 (by decide) ?_
  refine lv_istore (lv' := [(5, .int (-1)), (0, .ref (ad 4)), (1, .ref (ad 5)), (2, .ref (ad 7)), (3, .ref (ad 8)), (4, .int (nI i))]) hx hb dW_falls_1 hl (by decide) rfl (fun ls hl => ?_)
  refine lv_iconst (v := (-1)) hx hb dW_falls_3 (by decide) ?_
  refine lv_istore (lv' := [(6, .int (-1)), (5, .int (-1)), (0, .ref (ad 4)), (1, .ref (ad 5)), (2, .ref (ad 7)), (3, .ref (ad 8)), (4, .int (nI i))]) hx hb dW_falls_4 hl (by decide) rfl (fun ls hl => ?_)
  refine lv_iconst (v := 0) hx hb dW_falls_6 (by decide) ?_
  refine lv_istore (lv' := [(7, .int 0), (6, .int (-1)), (5, .int (-1)), (0, .ref (ad 4)), (1, .ref (ad 5)), (2, .ref (ad 7)), (3, .ref (ad 8)), (4, .int (nI i))]) hx hb dW_falls_7 hl (by decide) rfl (fun ls hl => ?_)
  replace hl : ∃ (f : Nat) (j : Nat) (x : Int32) (y : Int32), j + f = 11 ∧ j ≤ 10 ∧ BW sA i x ∧ (y = (-1) ∨ PC y) ∧ fW_falls sL sA i = lW_falls sL sA i f j x y ∧ lv_has ls 10 [(7, .int (nI j)), (6, .int y), (5, .int x), (0, .ref (ad 4)), (1, .ref (ad 5)), (2, .ref (ad 7)), (3, .ref (ad 8)), (4, .int (nI i))] := ⟨11, 0, (-1), (-1), rfl, by omega, Or.inl rfl, Or.inl rfl, (by rw [fW_falls] <;> rfl), hl⟩
  obtain ⟨f, j, x, y, hf, hj, hx9, hy, hF, hl⟩ := hl
  induction f generalizing j x y ls with
  | zero => exact absurd hf (by omega)
  | succ f ih =>
    refine lv_iload hx hb dW_falls_9 (lv_at hl 0 rfl) ?_
    refine lv_bipush (v := 10) hx hb dW_falls_11 (by decide) ?_
    refine lv_icmp_ge (tgt := 152) hx hb dW_falls_13 (by decide) (fun c_1 => ?_) (fun c_1 => ?_)
    · refine lv_aload_n hx hb dW_falls_152 rfl (lv_at hl 4 rfl) ?_
      refine lv_bipush (v := 10) hx hb dW_falls_153 (by decide) ?_
      refine lv_iload hx hb dW_falls_155 (lv_at hl 7 rfl) ?_
      refine lv_imul hx hb dW_falls_157 ?_
      rw [show (10 : Int32) * (nI i) = nI (10 * i) from pk_mul 10 i]
      refine lv_iconst (v := 1) hx hb dW_falls_158 (by decide) ?_
      refine lv_iadd hx hb dW_falls_159 ?_
      rw [show (nI (10 * i)) + (1 : Int32) = nI (10 * i + 1) from nI_add (10 * i) 1]
      refine ra_ld hx hb hC hG 5 60 (by omega) (fun _ _ => rfl) (vp_in_nI (by omega) (by omega)) dW_falls_160 ?_
      rw [show (nI (10 * i + 1)).toNatClampNeg = (10 * i + 1) from nI_clamp (by omega)]
      refine lv_istore (lv' := [(7, .int (sA 5 (10 * i + 1))), (6, .int y), (5, .int x), (0, .ref (ad 4)), (1, .ref (ad 5)), (2, .ref (ad 7)), (3, .ref (ad 8)), (4, .int (nI i))]) hx hb dW_falls_161 hl (by decide) rfl (fun ls hl => ?_)
      refine lv_iload hx hb dW_falls_163 (lv_at hl 2 rfl) ?_
      refine lv_if_lt (tgt := 179) hx hb dW_falls_165 (by decide) (fun c_2 => ?_) (fun c_2 => ?_)
      · refine lv_aload_n hx hb dW_falls_179 rfl (lv_at hl 4 rfl) ?_
        refine lv_bipush (v := 10) hx hb dW_falls_180 (by decide) ?_
        refine lv_iload hx hb dW_falls_182 (lv_at hl 7 rfl) ?_
        refine lv_imul hx hb dW_falls_184 ?_
        rw [show (10 : Int32) * (nI i) = nI (10 * i) from pk_mul 10 i]
        refine lv_iconst (v := 3) hx hb dW_falls_185 (by decide) ?_
        refine lv_iadd hx hb dW_falls_186 ?_
        rw [show (nI (10 * i)) + (3 : Int32) = nI (10 * i + 3) from nI_add (10 * i) 3]
        refine lv_iconst (v := 1) hx hb dW_falls_187 (by decide) ?_
        refine ra_st hx hb hC hG hS 5 60 (by omega) (fun _ _ => rfl) (vp_in_nI (by omega) (by omega)) dW_falls_188 (fun H locs hG hS => ?_)
        rw [show (nI (10 * i + 3)).toNatClampNeg = (10 * i + 3) from nI_clamp (by omega)] at hG
        refine lv_iconst (v := (-1)) hx hb dW_falls_189 (by decide) ?_
        refine W.widen (k := 42) (n := 168) (Nat.le_of_ble_eq_true rfl) (Nat.le_of_ble_eq_true rfl) ?_
        exact W.iret (v := (-1)) hx hb hr (fun t ht hW => ⟨⟨(-1), (sL, (up2 sA 5 (10 * i + 3) 1)), rfl, (by rw [hF, lW_falls, if_pos c_1, if_pos c_2] <;> rfl), gw_at hG ht⟩, hS.F ht⟩) hS.2.2 dW_falls_190
      · refine lv_aload_n hx hb dW_falls_168 rfl (lv_at hl 5 rfl) ?_
        refine lv_iload hx hb dW_falls_169 (lv_at hl 2 rfl) ?_
        refine ra_ld hx hb hC hG 7 60 (by omega) (fun _ _ => rfl) (hx9.vin hi c_2) dW_falls_171 ?_
        refine lv_iconst (v := 1) hx hb dW_falls_172 (by decide) ?_
        refine lv_isub hx hb dW_falls_173 ?_
        refine lv_iload hx hb dW_falls_174 (lv_at hl 0 rfl) ?_
        refine lv_icmp_ge (tgt := 191) hx hb dW_falls_176 (by decide) (fun c_3 => ?_) (fun c_3 => ?_)
        · refine lv_iload hx hb dW_falls_191 (lv_at hl 1 rfl) ?_
          refine lv_if_ge (tgt := 211) hx hb dW_falls_193 (by decide) (fun c_4 => ?_) (fun c_4 => ?_)
          · refine lv_iload hx hb dW_falls_211 (lv_at hl 1 rfl) ?_
            refine rcS1c (rest := []) (As := [.int y]) hx hb hml hown hts hS (cW_next l D y (y_pc hy c_4)) (gS q_170 q_171 q_0 q_172) rfl rfl ⟨rfl, hdyW_next⟩ ⟨Nat.le_of_ble_eq_true rfl, Nat.le_of_ble_eq_true rfl⟩ hl.1 rfl (Nat.le_of_ble_eq_true rfl) dW_falls_213 ⟨Nat.le_of_ble_eq_true rfl, Nat.le_of_ble_eq_true rfl⟩ (fun H1 locs hk9 hS => ?_)
            replace hG := hG.kept hk9
            clear hk9
            generalize H1 = H at hG hS ⊢
            refine lv_istore (lv' := [(8, .int (fW_next y)), (7, .int (sA 5 (10 * i + 1))), (6, .int y), (5, .int x), (0, .ref (ad 4)), (1, .ref (ad 5)), (2, .ref (ad 7)), (3, .ref (ad 8)), (4, .int (nI i))]) hx hb dW_falls_216 hl (by decide) rfl (fun ls hl => ?_)
            refine W_key (g2 := F0 m 232 ls (.int (wmax (fW_next y) (sA 5 (10 * i + 1))) :: [])) (fun key => ?_) ?_
            · refine lv_iload hx hb dW_falls_218 (lv_at hl 0 rfl) ?_
              refine lv_iload hx hb dW_falls_220 (lv_at hl 1 rfl) ?_
              refine lv_icmp_le (tgt := 230) hx hb dW_falls_222 (by decide) (fun c_5 => ?_) (fun c_5 => ?_)
              · refine lv_iload hx hb dW_falls_230 (lv_at hl 1 rfl) ?_
                exact W.eq (by rw [wmax, if_pos c_5]) key
              · refine lv_iload hx hb dW_falls_225 (lv_at hl 0 rfl) ?_
                refine lv_goto (tgt := 232) hx hb dW_falls_227 (by decide) ?_
                exact W.eq (by rw [wmax, if_neg c_5]) key
            refine lv_istore (lv' := [(8, .int (wmax (fW_next y) (sA 5 (10 * i + 1)))), (7, .int (sA 5 (10 * i + 1))), (6, .int y), (5, .int x), (0, .ref (ad 4)), (1, .ref (ad 5)), (2, .ref (ad 7)), (3, .ref (ad 8)), (4, .int (nI i))]) hx hb dW_falls_232 hl (by decide) rfl (fun ls hl => ?_)
            refine W_key (g2 := F0 m 256 ls (.int (wmin (wmax (fW_next y) (sA 5 (10 * i + 1))) ((sA 7 x.toNatClampNeg) - 1)) :: [])) (fun key => ?_) ?_
            · refine lv_iload hx hb dW_falls_234 (lv_at hl 0 rfl) ?_
              refine lv_aload_n hx hb dW_falls_236 rfl (lv_at hl 6 rfl) ?_
              refine lv_iload hx hb dW_falls_237 (lv_at hl 3 rfl) ?_
              refine ra_ld hx hb hC hG 7 60 (by omega) (fun _ _ => rfl) (hx9.vin hi c_2) dW_falls_239 ?_
              refine lv_iconst (v := 1) hx hb dW_falls_240 (by decide) ?_
              refine lv_isub hx hb dW_falls_241 ?_
              refine lv_icmp_ge (tgt := 250) hx hb dW_falls_242 (by decide) (fun c_6 => ?_) (fun c_6 => ?_)
              · refine lv_aload_n hx hb dW_falls_250 rfl (lv_at hl 6 rfl) ?_
                refine lv_iload hx hb dW_falls_251 (lv_at hl 3 rfl) ?_
                refine ra_ld hx hb hC hG 7 60 (by omega) (fun _ _ => rfl) (hx9.vin hi c_2) dW_falls_253 ?_
                refine lv_iconst (v := 1) hx hb dW_falls_254 (by decide) ?_
                refine lv_isub hx hb dW_falls_255 ?_
                exact W.eq (by rw [wmin, if_pos c_6]) key
              · refine lv_iload hx hb dW_falls_245 (lv_at hl 0 rfl) ?_
                refine lv_goto (tgt := 256) hx hb dW_falls_247 (by decide) ?_
                exact W.eq (by rw [wmin, if_neg c_6]) key
            refine lv_istore (lv' := [(8, .int (wmin (wmax (fW_next y) (sA 5 (10 * i + 1))) ((sA 7 x.toNatClampNeg) - 1))), (7, .int (sA 5 (10 * i + 1))), (6, .int y), (5, .int x), (0, .ref (ad 4)), (1, .ref (ad 5)), (2, .ref (ad 7)), (3, .ref (ad 8)), (4, .int (nI i))]) hx hb dW_falls_256 hl (by decide) rfl (fun ls hl => ?_)
            refine lv_aload_n hx hb dW_falls_258 rfl (lv_at hl 5 rfl) ?_
            refine lv_bipush (v := 10) hx hb dW_falls_259 (by decide) ?_
            refine lv_iload hx hb dW_falls_261 (lv_at hl 8 rfl) ?_
            refine lv_imul hx hb dW_falls_263 ?_
            rw [show (10 : Int32) * (nI i) = nI (10 * i) from pk_mul 10 i]
            refine lv_iconst (v := 3) hx hb dW_falls_264 (by decide) ?_
            refine lv_iadd hx hb dW_falls_265 ?_
            rw [show (nI (10 * i)) + (3 : Int32) = nI (10 * i + 3) from nI_add (10 * i) 3]
            refine lv_iconst (v := 2) hx hb dW_falls_266 (by decide) ?_
            refine ra_st hx hb hC hG hS 5 60 (by omega) (fun _ _ => rfl) (vp_in_nI (by omega) (by omega)) dW_falls_267 (fun H locs hG hS => ?_)
            rw [show (nI (10 * i + 3)).toNatClampNeg = (10 * i + 3) from nI_clamp (by omega)] at hG
            refine lv_aload_n hx hb dW_falls_268 rfl (lv_at hl 5 rfl) ?_
            refine lv_bipush (v := 10) hx hb dW_falls_269 (by decide) ?_
            refine lv_iload hx hb dW_falls_271 (lv_at hl 8 rfl) ?_
            refine lv_imul hx hb dW_falls_273 ?_
            rw [show (10 : Int32) * (nI i) = nI (10 * i) from pk_mul 10 i]
            refine lv_iconst (v := 4) hx hb dW_falls_274 (by decide) ?_
            refine lv_iadd hx hb dW_falls_275 ?_
            rw [show (nI (10 * i)) + (4 : Int32) = nI (10 * i + 4) from nI_add (10 * i) 4]
            refine lv_iload hx hb dW_falls_276 (lv_at hl 3 rfl) ?_
            refine lv_bipush (v := 10) hx hb dW_falls_278 (by decide) ?_
            refine lv_irem hx hb dW_falls_280 (by decide) ?_
            refine ra_st hx hb hC hG hS 5 60 (by omega) (fun _ _ => rfl) (vp_in_nI (by omega) (by omega)) dW_falls_281 (fun H locs hG hS => ?_)
            rw [show (nI (10 * i + 4)).toNatClampNeg = (10 * i + 4) from nI_clamp (by omega)] at hG
            refine lv_aload_n hx hb dW_falls_282 rfl (lv_at hl 5 rfl) ?_
            refine lv_bipush (v := 10) hx hb dW_falls_283 (by decide) ?_
            refine lv_iload hx hb dW_falls_285 (lv_at hl 8 rfl) ?_
            refine lv_imul hx hb dW_falls_287 ?_
            rw [show (10 : Int32) * (nI i) = nI (10 * i) from pk_mul 10 i]
            refine lv_iconst (v := 5) hx hb dW_falls_288 (by decide) ?_
            refine lv_iadd hx hb dW_falls_289 ?_
            rw [show (nI (10 * i)) + (5 : Int32) = nI (10 * i + 5) from nI_add (10 * i) 5]
            refine lv_iload hx hb dW_falls_290 (lv_at hl 0 rfl) ?_
            refine ra_st hx hb hC hG hS 5 60 (by omega) (fun _ _ => rfl) (vp_in_nI (by omega) (by omega)) dW_falls_292 (fun H locs hG hS => ?_)
            rw [show (nI (10 * i + 5)).toNatClampNeg = (10 * i + 5) from nI_clamp (by omega)] at hG
            refine lv_aload_n hx hb dW_falls_293 rfl (lv_at hl 5 rfl) ?_
            refine lv_bipush (v := 10) hx hb dW_falls_294 (by decide) ?_
            refine lv_iload hx hb dW_falls_296 (lv_at hl 8 rfl) ?_
            refine lv_imul hx hb dW_falls_298 ?_
            rw [show (10 : Int32) * (nI i) = nI (10 * i) from pk_mul 10 i]
            refine lv_bipush (v := 6) hx hb dW_falls_299 (by decide) ?_
            refine lv_iadd hx hb dW_falls_301 ?_
            rw [show (nI (10 * i)) + (6 : Int32) = nI (10 * i + 6) from nI_add (10 * i) 6]
            refine lv_aload_n hx hb dW_falls_302 rfl (lv_at hl 4 rfl) ?_
            refine lv_iconst (v := 2) hx hb dW_falls_303 (by decide) ?_
            refine ra_ld hx hb hC hG 4 5 (by omega) (fun _ _ => rfl) (by rw [vp_in_iff]; decide) dW_falls_304 ?_
            rw [show (2 : Int32).toNatClampNeg = 2 from rfl]
            refine W.eq (g2 := F0 m 305 ls (.int (sA 4 2) :: .int (nI (10 * i + 6)) :: .ref (ad 5) :: [])) (by simp [up2, upd]) ?_
            refine ra_st hx hb hC hG hS 5 60 (by omega) (fun _ _ => rfl) (vp_in_nI (by omega) (by omega)) dW_falls_305 (fun H locs hG hS => ?_)
            rw [show (nI (10 * i + 6)).toNatClampNeg = (10 * i + 6) from nI_clamp (by omega)] at hG
            refine lv_iload hx hb dW_falls_306 (lv_at hl 0 rfl) ?_
            refine W.widen (k := 42) (n := 168) (Nat.le_of_ble_eq_true rfl) (Nat.le_of_ble_eq_true rfl) ?_
            exact W.iret (v := wmin (wmax (fW_next y) (sA 5 (10 * i + 1))) ((sA 7 x.toNatClampNeg) - 1)) hx hb hr (fun t ht hW => ⟨⟨(wmin (wmax (fW_next y) (sA 5 (10 * i + 1))) ((sA 7 x.toNatClampNeg) - 1)), (sL, (up2 (up2 (up2 (up2 sA 5 (10 * i + 3) 2) 5 (10 * i + 4) (x - x / 10 * 10)) 5 (10 * i + 5) (wmin (wmax (fW_next y) (sA 5 (10 * i + 1))) ((sA 7 x.toNatClampNeg) - 1))) 5 (10 * i + 6) (sA 4 2))), rfl, (by rw [hF, lW_falls, if_pos c_1, if_neg c_2, if_pos c_3, if_pos c_4] <;> rfl), gw_at hG ht⟩, hS.F ht⟩) hS.2.2 dW_falls_308
          · refine lv_iload hx hb dW_falls_196 (lv_at hl 0 rfl) ?_
            refine lv_if_ne (tgt := 206) hx hb dW_falls_198 (by decide) (fun c_7 => ?_) (fun c_7 => ?_)
            · refine lv_iload hx hb dW_falls_206 (lv_at hl 0 rfl) ?_
              refine lv_goto (tgt := 216) hx hb dW_falls_208 (by decide) ?_
              refine lv_istore (lv' := [(8, .int (sA 5 (10 * i + 1))), (7, .int (sA 5 (10 * i + 1))), (6, .int y), (5, .int x), (0, .ref (ad 4)), (1, .ref (ad 5)), (2, .ref (ad 7)), (3, .ref (ad 8)), (4, .int (nI i))]) hx hb dW_falls_216 hl (by decide) rfl (fun ls hl => ?_)
              refine W_key (g2 := F0 m 232 ls (.int (wmax (sA 5 (10 * i + 1)) (sA 5 (10 * i + 1))) :: [])) (fun key => ?_) ?_
              · refine lv_iload hx hb dW_falls_218 (lv_at hl 0 rfl) ?_
                refine lv_iload hx hb dW_falls_220 (lv_at hl 1 rfl) ?_
                refine lv_icmp_le (tgt := 230) hx hb dW_falls_222 (by decide) (fun c_8 => ?_) (fun c_8 => ?_)
                · refine lv_iload hx hb dW_falls_230 (lv_at hl 1 rfl) ?_
                  exact W.eq (by rw [wmax, if_pos c_8]) key
                · refine lv_iload hx hb dW_falls_225 (lv_at hl 0 rfl) ?_
                  refine lv_goto (tgt := 232) hx hb dW_falls_227 (by decide) ?_
                  exact W.eq (by rw [wmax, if_neg c_8]) key
              refine lv_istore (lv' := [(8, .int (wmax (sA 5 (10 * i + 1)) (sA 5 (10 * i + 1)))), (7, .int (sA 5 (10 * i + 1))), (6, .int y), (5, .int x), (0, .ref (ad 4)), (1, .ref (ad 5)), (2, .ref (ad 7)), (3, .ref (ad 8)), (4, .int (nI i))]) hx hb dW_falls_232 hl (by decide) rfl (fun ls hl => ?_)
              refine W_key (g2 := F0 m 256 ls (.int (wmin (wmax (sA 5 (10 * i + 1)) (sA 5 (10 * i + 1))) ((sA 7 x.toNatClampNeg) - 1)) :: [])) (fun key => ?_) ?_
              · refine lv_iload hx hb dW_falls_234 (lv_at hl 0 rfl) ?_
                refine lv_aload_n hx hb dW_falls_236 rfl (lv_at hl 6 rfl) ?_
                refine lv_iload hx hb dW_falls_237 (lv_at hl 3 rfl) ?_
                refine ra_ld hx hb hC hG 7 60 (by omega) (fun _ _ => rfl) (hx9.vin hi c_2) dW_falls_239 ?_
                refine lv_iconst (v := 1) hx hb dW_falls_240 (by decide) ?_
                refine lv_isub hx hb dW_falls_241 ?_
                refine lv_icmp_ge (tgt := 250) hx hb dW_falls_242 (by decide) (fun c_9 => ?_) (fun c_9 => ?_)
                · refine lv_aload_n hx hb dW_falls_250 rfl (lv_at hl 6 rfl) ?_
                  refine lv_iload hx hb dW_falls_251 (lv_at hl 3 rfl) ?_
                  refine ra_ld hx hb hC hG 7 60 (by omega) (fun _ _ => rfl) (hx9.vin hi c_2) dW_falls_253 ?_
                  refine lv_iconst (v := 1) hx hb dW_falls_254 (by decide) ?_
                  refine lv_isub hx hb dW_falls_255 ?_
                  exact W.eq (by rw [wmin, if_pos c_9]) key
                · refine lv_iload hx hb dW_falls_245 (lv_at hl 0 rfl) ?_
                  refine lv_goto (tgt := 256) hx hb dW_falls_247 (by decide) ?_
                  exact W.eq (by rw [wmin, if_neg c_9]) key
              refine lv_istore (lv' := [(8, .int (wmin (wmax (sA 5 (10 * i + 1)) (sA 5 (10 * i + 1))) ((sA 7 x.toNatClampNeg) - 1))), (7, .int (sA 5 (10 * i + 1))), (6, .int y), (5, .int x), (0, .ref (ad 4)), (1, .ref (ad 5)), (2, .ref (ad 7)), (3, .ref (ad 8)), (4, .int (nI i))]) hx hb dW_falls_256 hl (by decide) rfl (fun ls hl => ?_)
              refine lv_aload_n hx hb dW_falls_258 rfl (lv_at hl 5 rfl) ?_
              refine lv_bipush (v := 10) hx hb dW_falls_259 (by decide) ?_
              refine lv_iload hx hb dW_falls_261 (lv_at hl 8 rfl) ?_
              refine lv_imul hx hb dW_falls_263 ?_
              rw [show (10 : Int32) * (nI i) = nI (10 * i) from pk_mul 10 i]
              refine lv_iconst (v := 3) hx hb dW_falls_264 (by decide) ?_
              refine lv_iadd hx hb dW_falls_265 ?_
              rw [show (nI (10 * i)) + (3 : Int32) = nI (10 * i + 3) from nI_add (10 * i) 3]
              refine lv_iconst (v := 2) hx hb dW_falls_266 (by decide) ?_
              refine ra_st hx hb hC hG hS 5 60 (by omega) (fun _ _ => rfl) (vp_in_nI (by omega) (by omega)) dW_falls_267 (fun H locs hG hS => ?_)
              rw [show (nI (10 * i + 3)).toNatClampNeg = (10 * i + 3) from nI_clamp (by omega)] at hG
              refine lv_aload_n hx hb dW_falls_268 rfl (lv_at hl 5 rfl) ?_
              refine lv_bipush (v := 10) hx hb dW_falls_269 (by decide) ?_
              refine lv_iload hx hb dW_falls_271 (lv_at hl 8 rfl) ?_
              refine lv_imul hx hb dW_falls_273 ?_
              rw [show (10 : Int32) * (nI i) = nI (10 * i) from pk_mul 10 i]
              refine lv_iconst (v := 4) hx hb dW_falls_274 (by decide) ?_
              refine lv_iadd hx hb dW_falls_275 ?_
              rw [show (nI (10 * i)) + (4 : Int32) = nI (10 * i + 4) from nI_add (10 * i) 4]
              refine lv_iload hx hb dW_falls_276 (lv_at hl 3 rfl) ?_
              refine lv_bipush (v := 10) hx hb dW_falls_278 (by decide) ?_
              refine lv_irem hx hb dW_falls_280 (by decide) ?_
              refine ra_st hx hb hC hG hS 5 60 (by omega) (fun _ _ => rfl) (vp_in_nI (by omega) (by omega)) dW_falls_281 (fun H locs hG hS => ?_)
              rw [show (nI (10 * i + 4)).toNatClampNeg = (10 * i + 4) from nI_clamp (by omega)] at hG
              refine lv_aload_n hx hb dW_falls_282 rfl (lv_at hl 5 rfl) ?_
              refine lv_bipush (v := 10) hx hb dW_falls_283 (by decide) ?_
              refine lv_iload hx hb dW_falls_285 (lv_at hl 8 rfl) ?_
              refine lv_imul hx hb dW_falls_287 ?_
              rw [show (10 : Int32) * (nI i) = nI (10 * i) from pk_mul 10 i]
              refine lv_iconst (v := 5) hx hb dW_falls_288 (by decide) ?_
              refine lv_iadd hx hb dW_falls_289 ?_
              rw [show (nI (10 * i)) + (5 : Int32) = nI (10 * i + 5) from nI_add (10 * i) 5]
              refine lv_iload hx hb dW_falls_290 (lv_at hl 0 rfl) ?_
              refine ra_st hx hb hC hG hS 5 60 (by omega) (fun _ _ => rfl) (vp_in_nI (by omega) (by omega)) dW_falls_292 (fun H locs hG hS => ?_)
              rw [show (nI (10 * i + 5)).toNatClampNeg = (10 * i + 5) from nI_clamp (by omega)] at hG
              refine lv_aload_n hx hb dW_falls_293 rfl (lv_at hl 5 rfl) ?_
              refine lv_bipush (v := 10) hx hb dW_falls_294 (by decide) ?_
              refine lv_iload hx hb dW_falls_296 (lv_at hl 8 rfl) ?_
              refine lv_imul hx hb dW_falls_298 ?_
              rw [show (10 : Int32) * (nI i) = nI (10 * i) from pk_mul 10 i]
              refine lv_bipush (v := 6) hx hb dW_falls_299 (by decide) ?_
              refine lv_iadd hx hb dW_falls_301 ?_
              rw [show (nI (10 * i)) + (6 : Int32) = nI (10 * i + 6) from nI_add (10 * i) 6]
              refine lv_aload_n hx hb dW_falls_302 rfl (lv_at hl 4 rfl) ?_
              refine lv_iconst (v := 2) hx hb dW_falls_303 (by decide) ?_
              refine ra_ld hx hb hC hG 4 5 (by omega) (fun _ _ => rfl) (by rw [vp_in_iff]; decide) dW_falls_304 ?_
              rw [show (2 : Int32).toNatClampNeg = 2 from rfl]
              refine W.eq (g2 := F0 m 305 ls (.int (sA 4 2) :: .int (nI (10 * i + 6)) :: .ref (ad 5) :: [])) (by simp [up2, upd]) ?_
              refine ra_st hx hb hC hG hS 5 60 (by omega) (fun _ _ => rfl) (vp_in_nI (by omega) (by omega)) dW_falls_305 (fun H locs hG hS => ?_)
              rw [show (nI (10 * i + 6)).toNatClampNeg = (10 * i + 6) from nI_clamp (by omega)] at hG
              refine lv_iload hx hb dW_falls_306 (lv_at hl 0 rfl) ?_
              refine W.widen (k := 42) (n := 168) (Nat.le_of_ble_eq_true rfl) (Nat.le_of_ble_eq_true rfl) ?_
              exact W.iret (v := wmin (wmax (sA 5 (10 * i + 1)) (sA 5 (10 * i + 1))) ((sA 7 x.toNatClampNeg) - 1)) hx hb hr (fun t ht hW => ⟨⟨(wmin (wmax (sA 5 (10 * i + 1)) (sA 5 (10 * i + 1))) ((sA 7 x.toNatClampNeg) - 1)), (sL, (up2 (up2 (up2 (up2 sA 5 (10 * i + 3) 2) 5 (10 * i + 4) (x - x / 10 * 10)) 5 (10 * i + 5) (wmin (wmax (sA 5 (10 * i + 1)) (sA 5 (10 * i + 1))) ((sA 7 x.toNatClampNeg) - 1))) 5 (10 * i + 6) (sA 4 2))), rfl, (by rw [hF, lW_falls, if_pos c_1, if_neg c_2, if_pos c_3, if_neg c_4, if_neg c_7] <;> rfl), gw_at hG ht⟩, hS.F ht⟩) hS.2.2 dW_falls_308
            · refine lv_bipush (v := 50) hx hb dW_falls_201 (by decide) ?_
              refine lv_goto (tgt := 216) hx hb dW_falls_203 (by decide) ?_
              refine lv_istore (lv' := [(8, .int 50), (7, .int (sA 5 (10 * i + 1))), (6, .int y), (5, .int x), (0, .ref (ad 4)), (1, .ref (ad 5)), (2, .ref (ad 7)), (3, .ref (ad 8)), (4, .int (nI i))]) hx hb dW_falls_216 hl (by decide) rfl (fun ls hl => ?_)
              refine W_key (g2 := F0 m 232 ls (.int (wmax 50 (sA 5 (10 * i + 1))) :: [])) (fun key => ?_) ?_
              · refine lv_iload hx hb dW_falls_218 (lv_at hl 0 rfl) ?_
                refine lv_iload hx hb dW_falls_220 (lv_at hl 1 rfl) ?_
                refine lv_icmp_le (tgt := 230) hx hb dW_falls_222 (by decide) (fun c_10 => ?_) (fun c_10 => ?_)
                · refine lv_iload hx hb dW_falls_230 (lv_at hl 1 rfl) ?_
                  exact W.eq (by rw [wmax, if_pos c_10]) key
                · refine lv_iload hx hb dW_falls_225 (lv_at hl 0 rfl) ?_
                  refine lv_goto (tgt := 232) hx hb dW_falls_227 (by decide) ?_
                  exact W.eq (by rw [wmax, if_neg c_10]) key
              refine lv_istore (lv' := [(8, .int (wmax 50 (sA 5 (10 * i + 1)))), (7, .int (sA 5 (10 * i + 1))), (6, .int y), (5, .int x), (0, .ref (ad 4)), (1, .ref (ad 5)), (2, .ref (ad 7)), (3, .ref (ad 8)), (4, .int (nI i))]) hx hb dW_falls_232 hl (by decide) rfl (fun ls hl => ?_)
              refine W_key (g2 := F0 m 256 ls (.int (wmin (wmax 50 (sA 5 (10 * i + 1))) ((sA 7 x.toNatClampNeg) - 1)) :: [])) (fun key => ?_) ?_
              · refine lv_iload hx hb dW_falls_234 (lv_at hl 0 rfl) ?_
                refine lv_aload_n hx hb dW_falls_236 rfl (lv_at hl 6 rfl) ?_
                refine lv_iload hx hb dW_falls_237 (lv_at hl 3 rfl) ?_
                refine ra_ld hx hb hC hG 7 60 (by omega) (fun _ _ => rfl) (hx9.vin hi c_2) dW_falls_239 ?_
                refine lv_iconst (v := 1) hx hb dW_falls_240 (by decide) ?_
                refine lv_isub hx hb dW_falls_241 ?_
                refine lv_icmp_ge (tgt := 250) hx hb dW_falls_242 (by decide) (fun c_11 => ?_) (fun c_11 => ?_)
                · refine lv_aload_n hx hb dW_falls_250 rfl (lv_at hl 6 rfl) ?_
                  refine lv_iload hx hb dW_falls_251 (lv_at hl 3 rfl) ?_
                  refine ra_ld hx hb hC hG 7 60 (by omega) (fun _ _ => rfl) (hx9.vin hi c_2) dW_falls_253 ?_
                  refine lv_iconst (v := 1) hx hb dW_falls_254 (by decide) ?_
                  refine lv_isub hx hb dW_falls_255 ?_
                  exact W.eq (by rw [wmin, if_pos c_11]) key
                · refine lv_iload hx hb dW_falls_245 (lv_at hl 0 rfl) ?_
                  refine lv_goto (tgt := 256) hx hb dW_falls_247 (by decide) ?_
                  exact W.eq (by rw [wmin, if_neg c_11]) key
              refine lv_istore (lv' := [(8, .int (wmin (wmax 50 (sA 5 (10 * i + 1))) ((sA 7 x.toNatClampNeg) - 1))), (7, .int (sA 5 (10 * i + 1))), (6, .int y), (5, .int x), (0, .ref (ad 4)), (1, .ref (ad 5)), (2, .ref (ad 7)), (3, .ref (ad 8)), (4, .int (nI i))]) hx hb dW_falls_256 hl (by decide) rfl (fun ls hl => ?_)
              refine lv_aload_n hx hb dW_falls_258 rfl (lv_at hl 5 rfl) ?_
              refine lv_bipush (v := 10) hx hb dW_falls_259 (by decide) ?_
              refine lv_iload hx hb dW_falls_261 (lv_at hl 8 rfl) ?_
              refine lv_imul hx hb dW_falls_263 ?_
              rw [show (10 : Int32) * (nI i) = nI (10 * i) from pk_mul 10 i]
              refine lv_iconst (v := 3) hx hb dW_falls_264 (by decide) ?_
              refine lv_iadd hx hb dW_falls_265 ?_
              rw [show (nI (10 * i)) + (3 : Int32) = nI (10 * i + 3) from nI_add (10 * i) 3]
              refine lv_iconst (v := 2) hx hb dW_falls_266 (by decide) ?_
              refine ra_st hx hb hC hG hS 5 60 (by omega) (fun _ _ => rfl) (vp_in_nI (by omega) (by omega)) dW_falls_267 (fun H locs hG hS => ?_)
              rw [show (nI (10 * i + 3)).toNatClampNeg = (10 * i + 3) from nI_clamp (by omega)] at hG
              refine lv_aload_n hx hb dW_falls_268 rfl (lv_at hl 5 rfl) ?_
              refine lv_bipush (v := 10) hx hb dW_falls_269 (by decide) ?_
              refine lv_iload hx hb dW_falls_271 (lv_at hl 8 rfl) ?_
              refine lv_imul hx hb dW_falls_273 ?_
              rw [show (10 : Int32) * (nI i) = nI (10 * i) from pk_mul 10 i]
              refine lv_iconst (v := 4) hx hb dW_falls_274 (by decide) ?_
              refine lv_iadd hx hb dW_falls_275 ?_
              rw [show (nI (10 * i)) + (4 : Int32) = nI (10 * i + 4) from nI_add (10 * i) 4]
              refine lv_iload hx hb dW_falls_276 (lv_at hl 3 rfl) ?_
              refine lv_bipush (v := 10) hx hb dW_falls_278 (by decide) ?_
              refine lv_irem hx hb dW_falls_280 (by decide) ?_
              refine ra_st hx hb hC hG hS 5 60 (by omega) (fun _ _ => rfl) (vp_in_nI (by omega) (by omega)) dW_falls_281 (fun H locs hG hS => ?_)
              rw [show (nI (10 * i + 4)).toNatClampNeg = (10 * i + 4) from nI_clamp (by omega)] at hG
              refine lv_aload_n hx hb dW_falls_282 rfl (lv_at hl 5 rfl) ?_
              refine lv_bipush (v := 10) hx hb dW_falls_283 (by decide) ?_
              refine lv_iload hx hb dW_falls_285 (lv_at hl 8 rfl) ?_
              refine lv_imul hx hb dW_falls_287 ?_
              rw [show (10 : Int32) * (nI i) = nI (10 * i) from pk_mul 10 i]
              refine lv_iconst (v := 5) hx hb dW_falls_288 (by decide) ?_
              refine lv_iadd hx hb dW_falls_289 ?_
              rw [show (nI (10 * i)) + (5 : Int32) = nI (10 * i + 5) from nI_add (10 * i) 5]
              refine lv_iload hx hb dW_falls_290 (lv_at hl 0 rfl) ?_
              refine ra_st hx hb hC hG hS 5 60 (by omega) (fun _ _ => rfl) (vp_in_nI (by omega) (by omega)) dW_falls_292 (fun H locs hG hS => ?_)
              rw [show (nI (10 * i + 5)).toNatClampNeg = (10 * i + 5) from nI_clamp (by omega)] at hG
              refine lv_aload_n hx hb dW_falls_293 rfl (lv_at hl 5 rfl) ?_
              refine lv_bipush (v := 10) hx hb dW_falls_294 (by decide) ?_
              refine lv_iload hx hb dW_falls_296 (lv_at hl 8 rfl) ?_
              refine lv_imul hx hb dW_falls_298 ?_
              rw [show (10 : Int32) * (nI i) = nI (10 * i) from pk_mul 10 i]
              refine lv_bipush (v := 6) hx hb dW_falls_299 (by decide) ?_
              refine lv_iadd hx hb dW_falls_301 ?_
              rw [show (nI (10 * i)) + (6 : Int32) = nI (10 * i + 6) from nI_add (10 * i) 6]
              refine lv_aload_n hx hb dW_falls_302 rfl (lv_at hl 4 rfl) ?_
              refine lv_iconst (v := 2) hx hb dW_falls_303 (by decide) ?_
              refine ra_ld hx hb hC hG 4 5 (by omega) (fun _ _ => rfl) (by rw [vp_in_iff]; decide) dW_falls_304 ?_
              rw [show (2 : Int32).toNatClampNeg = 2 from rfl]
              refine W.eq (g2 := F0 m 305 ls (.int (sA 4 2) :: .int (nI (10 * i + 6)) :: .ref (ad 5) :: [])) (by simp [up2, upd]) ?_
              refine ra_st hx hb hC hG hS 5 60 (by omega) (fun _ _ => rfl) (vp_in_nI (by omega) (by omega)) dW_falls_305 (fun H locs hG hS => ?_)
              rw [show (nI (10 * i + 6)).toNatClampNeg = (10 * i + 6) from nI_clamp (by omega)] at hG
              refine lv_iload hx hb dW_falls_306 (lv_at hl 0 rfl) ?_
              refine W.widen (k := 42) (n := 168) (Nat.le_of_ble_eq_true rfl) (Nat.le_of_ble_eq_true rfl) ?_
              exact W.iret (v := wmin (wmax 50 (sA 5 (10 * i + 1))) ((sA 7 x.toNatClampNeg) - 1)) hx hb hr (fun t ht hW => ⟨⟨(wmin (wmax 50 (sA 5 (10 * i + 1))) ((sA 7 x.toNatClampNeg) - 1)), (sL, (up2 (up2 (up2 (up2 sA 5 (10 * i + 3) 2) 5 (10 * i + 4) (x - x / 10 * 10)) 5 (10 * i + 5) (wmin (wmax 50 (sA 5 (10 * i + 1))) ((sA 7 x.toNatClampNeg) - 1))) 5 (10 * i + 6) (sA 4 2))), rfl, (by rw [hF, lW_falls, if_pos c_1, if_neg c_2, if_pos c_3, if_neg c_4, if_pos c_7] <;> rfl), gw_at hG ht⟩, hS.F ht⟩) hS.2.2 dW_falls_308
        · refine lv_aload_n hx hb dW_falls_179 rfl (lv_at hl 4 rfl) ?_
          refine lv_bipush (v := 10) hx hb dW_falls_180 (by decide) ?_
          refine lv_iload hx hb dW_falls_182 (lv_at hl 7 rfl) ?_
          refine lv_imul hx hb dW_falls_184 ?_
          rw [show (10 : Int32) * (nI i) = nI (10 * i) from pk_mul 10 i]
          refine lv_iconst (v := 3) hx hb dW_falls_185 (by decide) ?_
          refine lv_iadd hx hb dW_falls_186 ?_
          rw [show (nI (10 * i)) + (3 : Int32) = nI (10 * i + 3) from nI_add (10 * i) 3]
          refine lv_iconst (v := 1) hx hb dW_falls_187 (by decide) ?_
          refine ra_st hx hb hC hG hS 5 60 (by omega) (fun _ _ => rfl) (vp_in_nI (by omega) (by omega)) dW_falls_188 (fun H locs hG hS => ?_)
          rw [show (nI (10 * i + 3)).toNatClampNeg = (10 * i + 3) from nI_clamp (by omega)] at hG
          refine lv_iconst (v := (-1)) hx hb dW_falls_189 (by decide) ?_
          refine W.widen (k := 42) (n := 168) (Nat.le_of_ble_eq_true rfl) (Nat.le_of_ble_eq_true rfl) ?_
          exact W.iret (v := (-1)) hx hb hr (fun t ht hW => ⟨⟨(-1), (sL, (up2 sA 5 (10 * i + 3) 1)), rfl, (by rw [hF, lW_falls, if_pos c_1, if_neg c_2, if_neg c_3] <;> rfl), gw_at hG ht⟩, hS.F ht⟩) hS.2.2 dW_falls_190
    · refine lv_bipush (v := 10) hx hb dW_falls_16 (by decide) ?_
      refine lv_iload hx hb dW_falls_18 (lv_at hl 7 rfl) ?_
      refine lv_imul hx hb dW_falls_20 ?_
      rw [show (10 : Int32) * (nI i) = nI (10 * i) from pk_mul 10 i]
      refine lv_iload hx hb dW_falls_21 (lv_at hl 0 rfl) ?_
      refine lv_iadd hx hb dW_falls_23 ?_
      rw [show (nI (10 * i)) + (nI j) = nI (10 * i + j) from nI_add (10 * i) j]
      refine lv_istore (lv' := [(8, .int (nI (10 * i + j))), (7, .int (nI j)), (6, .int y), (5, .int x), (0, .ref (ad 4)), (1, .ref (ad 5)), (2, .ref (ad 7)), (3, .ref (ad 8)), (4, .int (nI i))]) hx hb dW_falls_24 hl (by decide) rfl (fun ls hl => ?_)
      refine lv_aload_n hx hb dW_falls_26 rfl (lv_at hl 6 rfl) ?_
      refine lv_iload hx hb dW_falls_27 (lv_at hl 0 rfl) ?_
      refine ra_ld hx hb hC hG 7 60 (by omega) (fun _ _ => rfl) (vp_in_nI (by have hlt := lt_guard10 (by omega) c_1; omega) (by omega)) dW_falls_29 ?_
      rw [show (nI (10 * i + j)).toNatClampNeg = (10 * i + j) from nI_clamp (by omega)]
      refine lv_if_le (tgt := 75) hx hb dW_falls_30 (by decide) (fun c_12 => ?_) (fun c_12 => ?_)
      · refine lv_iconst (v := 0) hx hb dW_falls_75 (by decide) ?_
        refine lv_istore (lv' := [(9, .int 0), (8, .int (nI (10 * i + j))), (7, .int (nI j)), (6, .int y), (5, .int x), (0, .ref (ad 4)), (1, .ref (ad 5)), (2, .ref (ad 7)), (3, .ref (ad 8)), (4, .int (nI i))]) hx hb dW_falls_76 hl (by decide) rfl (fun ls hl => ?_)
        refine lv_iload hx hb dW_falls_78 (lv_at hl 0 rfl) ?_
        refine lv_if_eq (tgt := 101) hx hb dW_falls_80 (by decide) (fun c_13 => ?_) (fun c_13 => ?_)
        · refine lv_aload_n hx hb dW_falls_101 rfl (lv_at hl 7 rfl) ?_
          refine lv_iload hx hb dW_falls_102 (lv_at hl 1 rfl) ?_
          refine ra_ld hx hb hC hG 7 60 (by omega) (fun _ _ => rfl) (vp_in_nI (by have hlt := lt_guard10 (by omega) c_1; omega) (by omega)) dW_falls_104 ?_
          rw [show (nI (10 * i + j)).toNatClampNeg = (10 * i + j) from nI_clamp (by omega)]
          refine lv_if_le (tgt := 128) hx hb dW_falls_105 (by decide) (fun c_14 => ?_) (fun c_14 => ?_)
          · refine lv_iload hx hb dW_falls_128 (lv_at hl 3 rfl) ?_
            refine lv_istore (lv' := [(6, .int y), (9, .int 0), (8, .int (nI (10 * i + j))), (7, .int (nI j)), (5, .int x), (0, .ref (ad 4)), (1, .ref (ad 5)), (2, .ref (ad 7)), (3, .ref (ad 8)), (4, .int (nI i))]) hx hb dW_falls_130 hl (by decide) rfl (fun ls hl => ?_)
            refine lv_iload hx hb dW_falls_132 (lv_at hl 1 rfl) ?_
            refine lv_if_eq (tgt := 142) hx hb dW_falls_134 (by decide) (fun c_15 => ?_) (fun c_15 => ?_)
            · refine lv_iload hx hb dW_falls_142 (lv_at hl 4 rfl) ?_
              refine lv_istore (lv' := [(5, .int x), (6, .int y), (9, .int 0), (8, .int (nI (10 * i + j))), (7, .int (nI j)), (0, .ref (ad 4)), (1, .ref (ad 5)), (2, .ref (ad 7)), (3, .ref (ad 8)), (4, .int (nI i))]) hx hb dW_falls_144 hl (by decide) rfl (fun ls hl => ?_)
              refine lv_iinc (v := nI (j + 1)) (lv' := [(7, .int (nI (j + 1))), (5, .int x), (6, .int y), (9, .int 0), (8, .int (nI (10 * i + j))), (0, .ref (ad 4)), (1, .ref (ad 5)), (2, .ref (ad 7)), (3, .ref (ad 8)), (4, .int (nI i))]) hx hb dW_falls_146 hl (k := 4) rfl (nI_1 j) (by decide) rfl (fun ls hl => ?_)
              refine lv_goto (tgt := 9) hx hb dW_falls_149 (by decide) ?_
              exact ih (j := j + 1) (x := x) (y := y) (ls := ls) (hf := by omega) (hj := by have hlt := lt_guard10 (by omega) c_1; omega) (hx9 := hx9) (hy := hy) (hF := by rw [hF, lW_falls, if_neg c_1, if_pos c_12] <;> rfl) (hl := lv_sub hl [0, 2, 1, 5, 6, 7, 8, 9] rfl)
            · exact absurd c_15 (by decide)
          · exact (by first | exact absurd c_12 c_14 | exact absurd c_14 c_12)
        · exact absurd c_13 (by decide)
      · refine lv_iload hx hb dW_falls_33 (lv_at hl 3 rfl) ?_
        refine lv_if_lt (tgt := 71) hx hb dW_falls_35 (by decide) (fun c_16 => ?_) (fun c_16 => ?_)
        · refine lv_iconst (v := 1) hx hb dW_falls_71 (by decide) ?_
          refine lv_goto (tgt := 76) hx hb dW_falls_72 (by decide) ?_
          refine lv_istore (lv' := [(9, .int 1), (8, .int (nI (10 * i + j))), (7, .int (nI j)), (6, .int y), (5, .int x), (0, .ref (ad 4)), (1, .ref (ad 5)), (2, .ref (ad 7)), (3, .ref (ad 8)), (4, .int (nI i))]) hx hb dW_falls_76 hl (by decide) rfl (fun ls hl => ?_)
          refine lv_iload hx hb dW_falls_78 (lv_at hl 0 rfl) ?_
          refine lv_if_eq (tgt := 101) hx hb dW_falls_80 (by decide) (fun c_17 => ?_) (fun c_17 => ?_)
          · exact absurd c_17 (by decide)
          · refine lv_iload hx hb dW_falls_83 (lv_at hl 4 rfl) ?_
            refine lv_if_ge (tgt := 92) hx hb dW_falls_85 (by decide) (fun c_18 => ?_) (fun c_18 => ?_)
            · exact absurd c_18 (Int32.not_le.mpr c_16)
            · refine lv_iconst (v := (-1)) hx hb dW_falls_88 (by decide) ?_
              refine lv_goto (tgt := 130) hx hb dW_falls_89 (by decide) ?_
              refine lv_istore (lv' := [(6, .int (-1)), (9, .int 1), (8, .int (nI (10 * i + j))), (7, .int (nI j)), (5, .int x), (0, .ref (ad 4)), (1, .ref (ad 5)), (2, .ref (ad 7)), (3, .ref (ad 8)), (4, .int (nI i))]) hx hb dW_falls_130 hl (by decide) rfl (fun ls hl => ?_)
              refine lv_iload hx hb dW_falls_132 (lv_at hl 1 rfl) ?_
              refine lv_if_eq (tgt := 142) hx hb dW_falls_134 (by decide) (fun c_19 => ?_) (fun c_19 => ?_)
              · exact absurd c_19 (by decide)
              · refine lv_iload hx hb dW_falls_137 (lv_at hl 2 rfl) ?_
                refine lv_goto (tgt := 144) hx hb dW_falls_139 (by decide) ?_
                refine lv_istore (lv' := [(5, .int (nI (10 * i + j))), (6, .int (-1)), (9, .int 1), (8, .int (nI (10 * i + j))), (7, .int (nI j)), (0, .ref (ad 4)), (1, .ref (ad 5)), (2, .ref (ad 7)), (3, .ref (ad 8)), (4, .int (nI i))]) hx hb dW_falls_144 hl (by decide) rfl (fun ls hl => ?_)
                refine lv_iinc (v := nI (j + 1)) (lv' := [(7, .int (nI (j + 1))), (5, .int (nI (10 * i + j))), (6, .int (-1)), (9, .int 1), (8, .int (nI (10 * i + j))), (0, .ref (ad 4)), (1, .ref (ad 5)), (2, .ref (ad 7)), (3, .ref (ad 8)), (4, .int (nI i))]) hx hb dW_falls_146 hl (k := 4) rfl (nI_1 j) (by decide) rfl (fun ls hl => ?_)
                refine lv_goto (tgt := 9) hx hb dW_falls_149 (by decide) ?_
                exact ih (j := j + 1) (x := nI (10 * i + j)) (y := (-1)) (ls := ls) (hf := by omega) (hj := by have hlt := lt_guard10 (by omega) c_1; omega) (hx9 := Or.inr ⟨j, lt_guard10 (by omega) c_1, rfl, pos_of c_12⟩) (hy := Or.inl rfl) (hF := by rw [hF, lW_falls, if_neg c_1, if_neg c_12, if_pos c_16] <;> rfl) (hl := lv_sub hl [0, 2, 1, 5, 6, 7, 8, 9] rfl)
        · refine lv_aload_n hx hb dW_falls_38 rfl (lv_at hl 6 rfl) ?_
          refine lv_iload hx hb dW_falls_39 (lv_at hl 0 rfl) ?_
          refine ra_ld hx hb hC hG 7 60 (by omega) (fun _ _ => rfl) (vp_in_nI (by have hlt := lt_guard10 (by omega) c_1; omega) (by omega)) dW_falls_41 ?_
          rw [show (nI (10 * i + j)).toNatClampNeg = (10 * i + j) from nI_clamp (by omega)]
          refine lv_aload_n hx hb dW_falls_42 rfl (lv_at hl 6 rfl) ?_
          refine lv_iload hx hb dW_falls_43 (lv_at hl 3 rfl) ?_
          refine ra_ld hx hb hC hG 7 60 (by omega) (fun _ _ => rfl) (hx9.vin hi c_16) dW_falls_45 ?_
          refine lv_icmp_gt (tgt := 71) hx hb dW_falls_46 (by decide) (fun c_20 => ?_) (fun c_20 => ?_)
          · refine lv_iconst (v := 1) hx hb dW_falls_71 (by decide) ?_
            refine lv_goto (tgt := 76) hx hb dW_falls_72 (by decide) ?_
            refine lv_istore (lv' := [(9, .int 1), (8, .int (nI (10 * i + j))), (7, .int (nI j)), (6, .int y), (5, .int x), (0, .ref (ad 4)), (1, .ref (ad 5)), (2, .ref (ad 7)), (3, .ref (ad 8)), (4, .int (nI i))]) hx hb dW_falls_76 hl (by decide) rfl (fun ls hl => ?_)
            refine lv_iload hx hb dW_falls_78 (lv_at hl 0 rfl) ?_
            refine lv_if_eq (tgt := 101) hx hb dW_falls_80 (by decide) (fun c_21 => ?_) (fun c_21 => ?_)
            · exact absurd c_21 (by decide)
            · refine lv_iload hx hb dW_falls_83 (lv_at hl 4 rfl) ?_
              refine lv_if_ge (tgt := 92) hx hb dW_falls_85 (by decide) (fun c_22 => ?_) (fun c_22 => ?_)
              · refine lv_aload_n hx hb dW_falls_92 rfl (lv_at hl 7 rfl) ?_
                refine lv_iload hx hb dW_falls_93 (lv_at hl 4 rfl) ?_
                refine ra_ld hx hb hC hG 7 60 (by omega) (fun _ _ => rfl) (hx9.vin hi c_16) dW_falls_95 ?_
                refine lv_iconst (v := 1) hx hb dW_falls_96 (by decide) ?_
                refine lv_isub hx hb dW_falls_97 ?_
                refine lv_goto (tgt := 130) hx hb dW_falls_98 (by decide) ?_
                refine lv_istore (lv' := [(6, .int ((sA 7 x.toNatClampNeg) - 1)), (9, .int 1), (8, .int (nI (10 * i + j))), (7, .int (nI j)), (5, .int x), (0, .ref (ad 4)), (1, .ref (ad 5)), (2, .ref (ad 7)), (3, .ref (ad 8)), (4, .int (nI i))]) hx hb dW_falls_130 hl (by decide) rfl (fun ls hl => ?_)
                refine lv_iload hx hb dW_falls_132 (lv_at hl 1 rfl) ?_
                refine lv_if_eq (tgt := 142) hx hb dW_falls_134 (by decide) (fun c_23 => ?_) (fun c_23 => ?_)
                · exact absurd c_23 (by decide)
                · refine lv_iload hx hb dW_falls_137 (lv_at hl 2 rfl) ?_
                  refine lv_goto (tgt := 144) hx hb dW_falls_139 (by decide) ?_
                  refine lv_istore (lv' := [(5, .int (nI (10 * i + j))), (6, .int ((sA 7 x.toNatClampNeg) - 1)), (9, .int 1), (8, .int (nI (10 * i + j))), (7, .int (nI j)), (0, .ref (ad 4)), (1, .ref (ad 5)), (2, .ref (ad 7)), (3, .ref (ad 8)), (4, .int (nI i))]) hx hb dW_falls_144 hl (by decide) rfl (fun ls hl => ?_)
                  refine lv_iinc (v := nI (j + 1)) (lv' := [(7, .int (nI (j + 1))), (5, .int (nI (10 * i + j))), (6, .int ((sA 7 x.toNatClampNeg) - 1)), (9, .int 1), (8, .int (nI (10 * i + j))), (0, .ref (ad 4)), (1, .ref (ad 5)), (2, .ref (ad 7)), (3, .ref (ad 8)), (4, .int (nI i))]) hx hb dW_falls_146 hl (k := 4) rfl (nI_1 j) (by decide) rfl (fun ls hl => ?_)
                  refine lv_goto (tgt := 9) hx hb dW_falls_149 (by decide) ?_
                  exact ih (j := j + 1) (x := nI (10 * i + j)) (y := (sA 7 x.toNatClampNeg) - 1) (ls := ls) (hf := by omega) (hj := by have hlt := lt_guard10 (by omega) c_1; omega) (hx9 := Or.inr ⟨j, lt_guard10 (by omega) c_1, rfl, pos_of c_12⟩) (hy := Or.inr (hx9.pc hi c_16 hpc)) (hF := by rw [hF, lW_falls, if_neg c_1, if_neg c_12, if_neg c_16, if_pos c_20] <;> rfl) (hl := lv_sub hl [0, 2, 1, 5, 6, 7, 8, 9] rfl)
              · exact absurd c_22 (fun q => q (Int32.not_lt.mp c_16))
          · refine lv_aload_n hx hb dW_falls_49 rfl (lv_at hl 6 rfl) ?_
            refine lv_iload hx hb dW_falls_50 (lv_at hl 0 rfl) ?_
            refine ra_ld hx hb hC hG 7 60 (by omega) (fun _ _ => rfl) (vp_in_nI (by have hlt := lt_guard10 (by omega) c_1; omega) (by omega)) dW_falls_52 ?_
            rw [show (nI (10 * i + j)).toNatClampNeg = (10 * i + j) from nI_clamp (by omega)]
            refine lv_aload_n hx hb dW_falls_53 rfl (lv_at hl 6 rfl) ?_
            refine lv_iload hx hb dW_falls_54 (lv_at hl 3 rfl) ?_
            refine ra_ld hx hb hC hG 7 60 (by omega) (fun _ _ => rfl) (hx9.vin hi c_16) dW_falls_56 ?_
            refine lv_icmp_ne (tgt := 75) hx hb dW_falls_57 (by decide) (fun c_24 => ?_) (fun c_24 => ?_)
            · refine lv_iconst (v := 0) hx hb dW_falls_75 (by decide) ?_
              refine lv_istore (lv' := [(9, .int 0), (8, .int (nI (10 * i + j))), (7, .int (nI j)), (6, .int y), (5, .int x), (0, .ref (ad 4)), (1, .ref (ad 5)), (2, .ref (ad 7)), (3, .ref (ad 8)), (4, .int (nI i))]) hx hb dW_falls_76 hl (by decide) rfl (fun ls hl => ?_)
              refine lv_iload hx hb dW_falls_78 (lv_at hl 0 rfl) ?_
              refine lv_if_eq (tgt := 101) hx hb dW_falls_80 (by decide) (fun c_25 => ?_) (fun c_25 => ?_)
              · refine lv_aload_n hx hb dW_falls_101 rfl (lv_at hl 7 rfl) ?_
                refine lv_iload hx hb dW_falls_102 (lv_at hl 1 rfl) ?_
                refine ra_ld hx hb hC hG 7 60 (by omega) (fun _ _ => rfl) (vp_in_nI (by have hlt := lt_guard10 (by omega) c_1; omega) (by omega)) dW_falls_104 ?_
                rw [show (nI (10 * i + j)).toNatClampNeg = (10 * i + j) from nI_clamp (by omega)]
                refine lv_if_le (tgt := 128) hx hb dW_falls_105 (by decide) (fun c_26 => ?_) (fun c_26 => ?_)
                · exact (by first | exact absurd c_12 c_26 | exact absurd c_26 c_12)
                · refine lv_aload_n hx hb dW_falls_108 rfl (lv_at hl 7 rfl) ?_
                  refine lv_iload hx hb dW_falls_109 (lv_at hl 1 rfl) ?_
                  refine ra_ld hx hb hC hG 7 60 (by omega) (fun _ _ => rfl) (vp_in_nI (by have hlt := lt_guard10 (by omega) c_1; omega) (by omega)) dW_falls_111 ?_
                  rw [show (nI (10 * i + j)).toNatClampNeg = (10 * i + j) from nI_clamp (by omega)]
                  refine lv_iconst (v := 1) hx hb dW_falls_112 (by decide) ?_
                  refine lv_isub hx hb dW_falls_113 ?_
                  refine lv_iload hx hb dW_falls_114 (lv_at hl 3 rfl) ?_
                  refine lv_icmp_le (tgt := 128) hx hb dW_falls_116 (by decide) (fun c_27 => ?_) (fun c_27 => ?_)
                  · refine lv_iload hx hb dW_falls_128 (lv_at hl 3 rfl) ?_
                    refine lv_istore (lv' := [(6, .int y), (9, .int 0), (8, .int (nI (10 * i + j))), (7, .int (nI j)), (5, .int x), (0, .ref (ad 4)), (1, .ref (ad 5)), (2, .ref (ad 7)), (3, .ref (ad 8)), (4, .int (nI i))]) hx hb dW_falls_130 hl (by decide) rfl (fun ls hl => ?_)
                    refine lv_iload hx hb dW_falls_132 (lv_at hl 1 rfl) ?_
                    refine lv_if_eq (tgt := 142) hx hb dW_falls_134 (by decide) (fun c_28 => ?_) (fun c_28 => ?_)
                    · refine lv_iload hx hb dW_falls_142 (lv_at hl 4 rfl) ?_
                      refine lv_istore (lv' := [(5, .int x), (6, .int y), (9, .int 0), (8, .int (nI (10 * i + j))), (7, .int (nI j)), (0, .ref (ad 4)), (1, .ref (ad 5)), (2, .ref (ad 7)), (3, .ref (ad 8)), (4, .int (nI i))]) hx hb dW_falls_144 hl (by decide) rfl (fun ls hl => ?_)
                      refine lv_iinc (v := nI (j + 1)) (lv' := [(7, .int (nI (j + 1))), (5, .int x), (6, .int y), (9, .int 0), (8, .int (nI (10 * i + j))), (0, .ref (ad 4)), (1, .ref (ad 5)), (2, .ref (ad 7)), (3, .ref (ad 8)), (4, .int (nI i))]) hx hb dW_falls_146 hl (k := 4) rfl (nI_1 j) (by decide) rfl (fun ls hl => ?_)
                      refine lv_goto (tgt := 9) hx hb dW_falls_149 (by decide) ?_
                      exact ih (j := j + 1) (x := x) (y := y) (ls := ls) (hf := by omega) (hj := by have hlt := lt_guard10 (by omega) c_1; omega) (hx9 := hx9) (hy := hy) (hF := by rw [hF, lW_falls, if_neg c_1, if_neg c_12, if_neg c_16, if_neg c_20, if_neg c_24, if_pos c_27] <;> rfl) (hl := lv_sub hl [0, 2, 1, 5, 6, 7, 8, 9] rfl)
                    · exact absurd c_28 (by decide)
                  · refine lv_aload_n hx hb dW_falls_119 rfl (lv_at hl 7 rfl) ?_
                    refine lv_iload hx hb dW_falls_120 (lv_at hl 1 rfl) ?_
                    refine ra_ld hx hb hC hG 7 60 (by omega) (fun _ _ => rfl) (vp_in_nI (by have hlt := lt_guard10 (by omega) c_1; omega) (by omega)) dW_falls_122 ?_
                    rw [show (nI (10 * i + j)).toNatClampNeg = (10 * i + j) from nI_clamp (by omega)]
                    refine lv_iconst (v := 1) hx hb dW_falls_123 (by decide) ?_
                    refine lv_isub hx hb dW_falls_124 ?_
                    refine lv_goto (tgt := 130) hx hb dW_falls_125 (by decide) ?_
                    refine lv_istore (lv' := [(6, .int ((sA 7 (10 * i + j)) - 1)), (9, .int 0), (8, .int (nI (10 * i + j))), (7, .int (nI j)), (5, .int x), (0, .ref (ad 4)), (1, .ref (ad 5)), (2, .ref (ad 7)), (3, .ref (ad 8)), (4, .int (nI i))]) hx hb dW_falls_130 hl (by decide) rfl (fun ls hl => ?_)
                    refine lv_iload hx hb dW_falls_132 (lv_at hl 1 rfl) ?_
                    refine lv_if_eq (tgt := 142) hx hb dW_falls_134 (by decide) (fun c_29 => ?_) (fun c_29 => ?_)
                    · refine lv_iload hx hb dW_falls_142 (lv_at hl 4 rfl) ?_
                      refine lv_istore (lv' := [(5, .int x), (6, .int ((sA 7 (10 * i + j)) - 1)), (9, .int 0), (8, .int (nI (10 * i + j))), (7, .int (nI j)), (0, .ref (ad 4)), (1, .ref (ad 5)), (2, .ref (ad 7)), (3, .ref (ad 8)), (4, .int (nI i))]) hx hb dW_falls_144 hl (by decide) rfl (fun ls hl => ?_)
                      refine lv_iinc (v := nI (j + 1)) (lv' := [(7, .int (nI (j + 1))), (5, .int x), (6, .int ((sA 7 (10 * i + j)) - 1)), (9, .int 0), (8, .int (nI (10 * i + j))), (0, .ref (ad 4)), (1, .ref (ad 5)), (2, .ref (ad 7)), (3, .ref (ad 8)), (4, .int (nI i))]) hx hb dW_falls_146 hl (k := 4) rfl (nI_1 j) (by decide) rfl (fun ls hl => ?_)
                      refine lv_goto (tgt := 9) hx hb dW_falls_149 (by decide) ?_
                      exact ih (j := j + 1) (x := x) (y := (sA 7 (10 * i + j)) - 1) (ls := ls) (hf := by omega) (hj := by have hlt := lt_guard10 (by omega) c_1; omega) (hx9 := hx9) (hy := Or.inr (hpc j (lt_guard10 (by omega) c_1) (pos_of c_12))) (hF := by rw [hF, lW_falls, if_neg c_1, if_neg c_12, if_neg c_16, if_neg c_20, if_neg c_24, if_neg c_27] <;> rfl) (hl := lv_sub hl [0, 2, 1, 5, 6, 7, 8, 9] rfl)
                    · exact absurd c_29 (by decide)
              · exact absurd c_25 (by decide)
            · refine lv_aload_n hx hb dW_falls_60 rfl (lv_at hl 7 rfl) ?_
              refine lv_iload hx hb dW_falls_61 (lv_at hl 0 rfl) ?_
              refine ra_ld hx hb hC hG 8 60 (by omega) (fun _ _ => rfl) (vp_in_nI (by have hlt := lt_guard10 (by omega) c_1; omega) (by omega)) dW_falls_63 ?_
              rw [show (nI (10 * i + j)).toNatClampNeg = (10 * i + j) from nI_clamp (by omega)]
              refine lv_aload_n hx hb dW_falls_64 rfl (lv_at hl 7 rfl) ?_
              refine lv_iload hx hb dW_falls_65 (lv_at hl 3 rfl) ?_
              refine ra_ld hx hb hC hG 8 60 (by omega) (fun _ _ => rfl) (hx9.vin hi c_16) dW_falls_67 ?_
              refine lv_icmp_ge (tgt := 75) hx hb dW_falls_68 (by decide) (fun c_30 => ?_) (fun c_30 => ?_)
              · refine lv_iconst (v := 0) hx hb dW_falls_75 (by decide) ?_
                refine lv_istore (lv' := [(9, .int 0), (8, .int (nI (10 * i + j))), (7, .int (nI j)), (6, .int y), (5, .int x), (0, .ref (ad 4)), (1, .ref (ad 5)), (2, .ref (ad 7)), (3, .ref (ad 8)), (4, .int (nI i))]) hx hb dW_falls_76 hl (by decide) rfl (fun ls hl => ?_)
                refine lv_iload hx hb dW_falls_78 (lv_at hl 0 rfl) ?_
                refine lv_if_eq (tgt := 101) hx hb dW_falls_80 (by decide) (fun c_31 => ?_) (fun c_31 => ?_)
                · refine lv_aload_n hx hb dW_falls_101 rfl (lv_at hl 7 rfl) ?_
                  refine lv_iload hx hb dW_falls_102 (lv_at hl 1 rfl) ?_
                  refine ra_ld hx hb hC hG 7 60 (by omega) (fun _ _ => rfl) (vp_in_nI (by have hlt := lt_guard10 (by omega) c_1; omega) (by omega)) dW_falls_104 ?_
                  rw [show (nI (10 * i + j)).toNatClampNeg = (10 * i + j) from nI_clamp (by omega)]
                  refine lv_if_le (tgt := 128) hx hb dW_falls_105 (by decide) (fun c_32 => ?_) (fun c_32 => ?_)
                  · exact (by first | exact absurd c_12 c_32 | exact absurd c_32 c_12)
                  · refine lv_aload_n hx hb dW_falls_108 rfl (lv_at hl 7 rfl) ?_
                    refine lv_iload hx hb dW_falls_109 (lv_at hl 1 rfl) ?_
                    refine ra_ld hx hb hC hG 7 60 (by omega) (fun _ _ => rfl) (vp_in_nI (by have hlt := lt_guard10 (by omega) c_1; omega) (by omega)) dW_falls_111 ?_
                    rw [show (nI (10 * i + j)).toNatClampNeg = (10 * i + j) from nI_clamp (by omega)]
                    refine lv_iconst (v := 1) hx hb dW_falls_112 (by decide) ?_
                    refine lv_isub hx hb dW_falls_113 ?_
                    refine lv_iload hx hb dW_falls_114 (lv_at hl 3 rfl) ?_
                    refine lv_icmp_le (tgt := 128) hx hb dW_falls_116 (by decide) (fun c_33 => ?_) (fun c_33 => ?_)
                    · refine lv_iload hx hb dW_falls_128 (lv_at hl 3 rfl) ?_
                      refine lv_istore (lv' := [(6, .int y), (9, .int 0), (8, .int (nI (10 * i + j))), (7, .int (nI j)), (5, .int x), (0, .ref (ad 4)), (1, .ref (ad 5)), (2, .ref (ad 7)), (3, .ref (ad 8)), (4, .int (nI i))]) hx hb dW_falls_130 hl (by decide) rfl (fun ls hl => ?_)
                      refine lv_iload hx hb dW_falls_132 (lv_at hl 1 rfl) ?_
                      refine lv_if_eq (tgt := 142) hx hb dW_falls_134 (by decide) (fun c_34 => ?_) (fun c_34 => ?_)
                      · refine lv_iload hx hb dW_falls_142 (lv_at hl 4 rfl) ?_
                        refine lv_istore (lv' := [(5, .int x), (6, .int y), (9, .int 0), (8, .int (nI (10 * i + j))), (7, .int (nI j)), (0, .ref (ad 4)), (1, .ref (ad 5)), (2, .ref (ad 7)), (3, .ref (ad 8)), (4, .int (nI i))]) hx hb dW_falls_144 hl (by decide) rfl (fun ls hl => ?_)
                        refine lv_iinc (v := nI (j + 1)) (lv' := [(7, .int (nI (j + 1))), (5, .int x), (6, .int y), (9, .int 0), (8, .int (nI (10 * i + j))), (0, .ref (ad 4)), (1, .ref (ad 5)), (2, .ref (ad 7)), (3, .ref (ad 8)), (4, .int (nI i))]) hx hb dW_falls_146 hl (k := 4) rfl (nI_1 j) (by decide) rfl (fun ls hl => ?_)
                        refine lv_goto (tgt := 9) hx hb dW_falls_149 (by decide) ?_
                        exact ih (j := j + 1) (x := x) (y := y) (ls := ls) (hf := by omega) (hj := by have hlt := lt_guard10 (by omega) c_1; omega) (hx9 := hx9) (hy := hy) (hF := by rw [hF, lW_falls, if_neg c_1, if_neg c_12, if_neg c_16, if_neg c_20, if_pos c_24, if_pos c_30, if_pos c_33] <;> rfl) (hl := lv_sub hl [0, 2, 1, 5, 6, 7, 8, 9] rfl)
                      · exact absurd c_34 (by decide)
                    · refine lv_aload_n hx hb dW_falls_119 rfl (lv_at hl 7 rfl) ?_
                      refine lv_iload hx hb dW_falls_120 (lv_at hl 1 rfl) ?_
                      refine ra_ld hx hb hC hG 7 60 (by omega) (fun _ _ => rfl) (vp_in_nI (by have hlt := lt_guard10 (by omega) c_1; omega) (by omega)) dW_falls_122 ?_
                      rw [show (nI (10 * i + j)).toNatClampNeg = (10 * i + j) from nI_clamp (by omega)]
                      refine lv_iconst (v := 1) hx hb dW_falls_123 (by decide) ?_
                      refine lv_isub hx hb dW_falls_124 ?_
                      refine lv_goto (tgt := 130) hx hb dW_falls_125 (by decide) ?_
                      refine lv_istore (lv' := [(6, .int ((sA 7 (10 * i + j)) - 1)), (9, .int 0), (8, .int (nI (10 * i + j))), (7, .int (nI j)), (5, .int x), (0, .ref (ad 4)), (1, .ref (ad 5)), (2, .ref (ad 7)), (3, .ref (ad 8)), (4, .int (nI i))]) hx hb dW_falls_130 hl (by decide) rfl (fun ls hl => ?_)
                      refine lv_iload hx hb dW_falls_132 (lv_at hl 1 rfl) ?_
                      refine lv_if_eq (tgt := 142) hx hb dW_falls_134 (by decide) (fun c_35 => ?_) (fun c_35 => ?_)
                      · refine lv_iload hx hb dW_falls_142 (lv_at hl 4 rfl) ?_
                        refine lv_istore (lv' := [(5, .int x), (6, .int ((sA 7 (10 * i + j)) - 1)), (9, .int 0), (8, .int (nI (10 * i + j))), (7, .int (nI j)), (0, .ref (ad 4)), (1, .ref (ad 5)), (2, .ref (ad 7)), (3, .ref (ad 8)), (4, .int (nI i))]) hx hb dW_falls_144 hl (by decide) rfl (fun ls hl => ?_)
                        refine lv_iinc (v := nI (j + 1)) (lv' := [(7, .int (nI (j + 1))), (5, .int x), (6, .int ((sA 7 (10 * i + j)) - 1)), (9, .int 0), (8, .int (nI (10 * i + j))), (0, .ref (ad 4)), (1, .ref (ad 5)), (2, .ref (ad 7)), (3, .ref (ad 8)), (4, .int (nI i))]) hx hb dW_falls_146 hl (k := 4) rfl (nI_1 j) (by decide) rfl (fun ls hl => ?_)
                        refine lv_goto (tgt := 9) hx hb dW_falls_149 (by decide) ?_
                        exact ih (j := j + 1) (x := x) (y := (sA 7 (10 * i + j)) - 1) (ls := ls) (hf := by omega) (hj := by have hlt := lt_guard10 (by omega) c_1; omega) (hx9 := hx9) (hy := Or.inr (hpc j (lt_guard10 (by omega) c_1) (pos_of c_12))) (hF := by rw [hF, lW_falls, if_neg c_1, if_neg c_12, if_neg c_16, if_neg c_20, if_pos c_24, if_pos c_30, if_neg c_33] <;> rfl) (hl := lv_sub hl [0, 2, 1, 5, 6, 7, 8, 9] rfl)
                      · exact absurd c_35 (by decide)
                · exact absurd c_31 (by decide)
              · refine lv_iconst (v := 1) hx hb dW_falls_71 (by decide) ?_
                refine lv_goto (tgt := 76) hx hb dW_falls_72 (by decide) ?_
                refine lv_istore (lv' := [(9, .int 1), (8, .int (nI (10 * i + j))), (7, .int (nI j)), (6, .int y), (5, .int x), (0, .ref (ad 4)), (1, .ref (ad 5)), (2, .ref (ad 7)), (3, .ref (ad 8)), (4, .int (nI i))]) hx hb dW_falls_76 hl (by decide) rfl (fun ls hl => ?_)
                refine lv_iload hx hb dW_falls_78 (lv_at hl 0 rfl) ?_
                refine lv_if_eq (tgt := 101) hx hb dW_falls_80 (by decide) (fun c_36 => ?_) (fun c_36 => ?_)
                · exact absurd c_36 (by decide)
                · refine lv_iload hx hb dW_falls_83 (lv_at hl 4 rfl) ?_
                  refine lv_if_ge (tgt := 92) hx hb dW_falls_85 (by decide) (fun c_37 => ?_) (fun c_37 => ?_)
                  · refine lv_aload_n hx hb dW_falls_92 rfl (lv_at hl 7 rfl) ?_
                    refine lv_iload hx hb dW_falls_93 (lv_at hl 4 rfl) ?_
                    refine ra_ld hx hb hC hG 7 60 (by omega) (fun _ _ => rfl) (hx9.vin hi c_16) dW_falls_95 ?_
                    refine lv_iconst (v := 1) hx hb dW_falls_96 (by decide) ?_
                    refine lv_isub hx hb dW_falls_97 ?_
                    refine lv_goto (tgt := 130) hx hb dW_falls_98 (by decide) ?_
                    refine lv_istore (lv' := [(6, .int ((sA 7 x.toNatClampNeg) - 1)), (9, .int 1), (8, .int (nI (10 * i + j))), (7, .int (nI j)), (5, .int x), (0, .ref (ad 4)), (1, .ref (ad 5)), (2, .ref (ad 7)), (3, .ref (ad 8)), (4, .int (nI i))]) hx hb dW_falls_130 hl (by decide) rfl (fun ls hl => ?_)
                    refine lv_iload hx hb dW_falls_132 (lv_at hl 1 rfl) ?_
                    refine lv_if_eq (tgt := 142) hx hb dW_falls_134 (by decide) (fun c_38 => ?_) (fun c_38 => ?_)
                    · exact absurd c_38 (by decide)
                    · refine lv_iload hx hb dW_falls_137 (lv_at hl 2 rfl) ?_
                      refine lv_goto (tgt := 144) hx hb dW_falls_139 (by decide) ?_
                      refine lv_istore (lv' := [(5, .int (nI (10 * i + j))), (6, .int ((sA 7 x.toNatClampNeg) - 1)), (9, .int 1), (8, .int (nI (10 * i + j))), (7, .int (nI j)), (0, .ref (ad 4)), (1, .ref (ad 5)), (2, .ref (ad 7)), (3, .ref (ad 8)), (4, .int (nI i))]) hx hb dW_falls_144 hl (by decide) rfl (fun ls hl => ?_)
                      refine lv_iinc (v := nI (j + 1)) (lv' := [(7, .int (nI (j + 1))), (5, .int (nI (10 * i + j))), (6, .int ((sA 7 x.toNatClampNeg) - 1)), (9, .int 1), (8, .int (nI (10 * i + j))), (0, .ref (ad 4)), (1, .ref (ad 5)), (2, .ref (ad 7)), (3, .ref (ad 8)), (4, .int (nI i))]) hx hb dW_falls_146 hl (k := 4) rfl (nI_1 j) (by decide) rfl (fun ls hl => ?_)
                      refine lv_goto (tgt := 9) hx hb dW_falls_149 (by decide) ?_
                      exact ih (j := j + 1) (x := nI (10 * i + j)) (y := (sA 7 x.toNatClampNeg) - 1) (ls := ls) (hf := by omega) (hj := by have hlt := lt_guard10 (by omega) c_1; omega) (hx9 := Or.inr ⟨j, lt_guard10 (by omega) c_1, rfl, pos_of c_12⟩) (hy := Or.inr (hx9.pc hi c_16 hpc)) (hF := by rw [hF, lW_falls, if_neg c_1, if_neg c_12, if_neg c_16, if_neg c_20, if_pos c_24, if_neg c_30] <;> rfl) (hl := lv_sub hl [0, 2, 1, 5, 6, 7, 8, 9] rfl)
                  · exact absurd c_37 (fun q => q (Int32.not_lt.mp c_16))
end
