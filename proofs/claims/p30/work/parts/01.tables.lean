-- ===== PART A: goes FIRST, ahead of the names: the tables' words, and 'selects' of the private methods out of them =====
/-- a private method of a class that the tables say can be made, by its rows of tables_1 -/
def lw_okq (q : MethodName × Nat) : Prop := (q.1.cls ≠ "java/lang/invoke/MethodHandle" ∧ q.1.cls ≠ "java/lang/invoke/VarHandle") ∧ Cond.instantiable q.1.cls q.2 ∈ tables_1 ∧ Cond.privateMethod q.1 ∈ tables_1 ∧ Cond.instanceMethod q.1 ∈ tables_1
theorem lw_p0 : lw_okq (⟨"java/lang/Throwable", "fillInStackTrace", "(I)Ljava/lang/Throwable;"⟩, 6) := ⟨⟨by decide +kernel, by decide +kernel⟩, List.mem_of_getElem? (i := 96) (by decide +kernel), List.mem_of_getElem? (i := 94) (by decide +kernel), List.mem_of_getElem? (i := 95) (by decide +kernel)⟩
theorem lw_p1 : lw_okq (⟨"DroitLine", "findLot", "(I)LDroitLine$Lot;"⟩, 9) := ⟨⟨by decide +kernel, by decide +kernel⟩, List.mem_of_getElem? (i := 12) (by decide +kernel), List.mem_of_getElem? (i := 289) (by decide +kernel), List.mem_of_getElem? (i := 290) (by decide +kernel)⟩
theorem lw_p2 : lw_okq (⟨"DroitLine", "closeGap", "(LDroitLine$Lot;)V"⟩, 9) := ⟨⟨by decide +kernel, by decide +kernel⟩, List.mem_of_getElem? (i := 12) (by decide +kernel), List.mem_of_getElem? (i := 357) (by decide +kernel), List.mem_of_getElem? (i := 358) (by decide +kernel)⟩
theorem lw_p3 : lw_okq (⟨"DroitLine", "addToDebt", "(II)V"⟩, 9) := ⟨⟨by decide +kernel, by decide +kernel⟩, List.mem_of_getElem? (i := 12) (by decide +kernel), List.mem_of_getElem? (i := 361) (by decide +kernel), List.mem_of_getElem? (i := 362) (by decide +kernel)⟩
theorem lw_p4 : lw_okq (⟨"DroitLine", "owedBy", "(I)I"⟩, 9) := ⟨⟨by decide +kernel, by decide +kernel⟩, List.mem_of_getElem? (i := 12) (by decide +kernel), List.mem_of_getElem? (i := 373) (by decide +kernel), List.mem_of_getElem? (i := 374) (by decide +kernel)⟩
theorem lw_p5 : lw_okq (⟨"DroitLine", "hundredthsOf", "(I)I"⟩, 9) := ⟨⟨by decide +kernel, by decide +kernel⟩, List.mem_of_getElem? (i := 12) (by decide +kernel), List.mem_of_getElem? (i := 387) (by decide +kernel), List.mem_of_getElem? (i := 388) (by decide +kernel)⟩
theorem lw_p6 : lw_okq (⟨"DroitLine", "interestOf", "(LDroitLine$Lot;)I"⟩, 9) := ⟨⟨by decide +kernel, by decide +kernel⟩, List.mem_of_getElem? (i := 12) (by decide +kernel), List.mem_of_getElem? (i := 398) (by decide +kernel), List.mem_of_getElem? (i := 399) (by decide +kernel)⟩
def lw_privs_1 : List (MethodName × Nat) := [(⟨"java/lang/Throwable", "fillInStackTrace", "(I)Ljava/lang/Throwable;"⟩, 6), (⟨"DroitLine", "findLot", "(I)LDroitLine$Lot;"⟩, 9), (⟨"DroitLine", "closeGap", "(LDroitLine$Lot;)V"⟩, 9), (⟨"DroitLine", "addToDebt", "(II)V"⟩, 9), (⟨"DroitLine", "owedBy", "(I)I"⟩, 9), (⟨"DroitLine", "hundredthsOf", "(I)I"⟩, 9), (⟨"DroitLine", "interestOf", "(LDroitLine$Lot;)I"⟩, 9)]
theorem lw_r1 : ∀ q ∈ lw_privs_1, lw_okq q := List.forall_mem_cons.mpr ⟨lw_p0, List.forall_mem_cons.mpr ⟨lw_p1, List.forall_mem_cons.mpr ⟨lw_p2, List.forall_mem_cons.mpr ⟨lw_p3, List.forall_mem_cons.mpr ⟨lw_p4, List.forall_mem_cons.mpr ⟨lw_p5, List.forall_mem_cons.mpr ⟨lw_p6, fun _ h => absurd h List.not_mem_nil⟩⟩⟩⟩⟩⟩⟩
def lw_privs : List (MethodName × Nat) := lw_privs_1
def lw_tbl : List Cond := k2_sels lw_privs ++ tables_1
theorem lw_privs_ok : ∀ q ∈ lw_privs, lw_okq q := lw_r1

/-! THE CLAIM OUT OF ONE WALK OF THE LAW'S BODY. Your part is whole_start (and what it stands on); all else here is the same for every law, but numbers. -/
def R_law : String := "DroitLineLaw"
def lw_P (b : Addr) (xs : List Int32) (args : Array Value) (s : State) : Prop := args = #[.ref b] ∧ s.IntsAt b xs ∧ xs.length ≤ 260 ∧ (Jvm.Cond.and given_1 narrow_1).before args s = true
def lw_Q (_ : Array Value) (s : State) (o : Outcome) (t : State) : Prop := o = .returned (some (.int 1)) ∧ Framed s o t [] 796740 6711247
def lw_Z (below : List Frame) (a : Array Value) (s : State) : State → Prop := fun t => ∃ o, t.status = .running ∧ Ended t below o ∧ lw_Q a s o t
/-- the law's own end, with 1 on the stack, nothing written that was there before, its room as the claim has it -/
theorem lw_ret {p : Program} {l : Launch} {e : Env} {s : State} {m : MethodId} {below : List Frame} {meth : Method} {c : Code} {b : Nat} (hx : p.tables.exec = Jvm.exec) (hb : c.code = code) (hr : meth.sig.returnType = ret) (hlocks : meth.locks = false) {pc : Nat} {H : Heap} {ls : Array Slot} (hdg : decode code pc = .ok (.ireturn, 1)) : W p l e room_1 s m #[Value.ref b] below meth c H [] 796740 6711247 (lw_Z below #[Value.ref b] s) (F0 m pc ls [.int 1]) := by
  intro T hT X
  obtain ⟨fs, hret, hrun, hended, hW, hframe⟩ := X.leave (v := some (.int 1)) (hlocks := hlocks) (fun h => by rw [hr] at h; cases h)
  have hmeth' : T.vm.method? m = some meth := X.method'
  refine ⟨T.setFrames fs, ?_, .returned (some (.int 1)), hrun, hended, rfl, ⟨_, rfl⟩, hW, hframe⟩
  jvm_step X.here [X.here.top, hx, hb, hdg, hmeth', hr, ret, narrow_b1]
  (try refine ⟨rfl, ?_⟩); (try refine ⟨rfl, ?_⟩)
  first | (intro acts; rw [hret _ acts rfl rfl rfl]) | rw [hret _ _ rfl rfl rfl]
  exact Steps.refl _
/-- what holds at the law's entry: the machine, the code, the tables' words (any of lw_tbl by 'hts w (by decide +kernel)'), the script of L ints xs at the cell b, what the Statement gives of the start (any of its parts by flat_of_before) -/
def lw_At (p : Program) (s : State) (m : MethodId) (meth : Method) (c : Code) (b L : Nat) (xs : Nat → Int32) : Prop :=
  p.tables.exec = Jvm.exec ∧ c.code = code ∧ meth.sig.returnType = ret ∧ c.maxLocals = 22 ∧ s.vm.findClass R_law = some m.cls ∧ (∀ w ∈ lw_tbl, w.before #[Value.ref b] s = true) ∧ va_X b L xs s s.heap ∧ b < s.heap.size ∧ meth.locks = false ∧ (Jvm.Cond.and given_1 narrow_1).before #[Value.ref b] s = true

def wNeed : List Cond := lw_tbl.filter goodWord
theorem wNeed_sub : ∀ w ∈ wNeed, w ∈ lw_tbl := fun _ h => (List.mem_filter.mp h).1
theorem gi {ws : List Cond} (h : ∀ w ∈ ws, w ∈ wNeed) : GoodIn wNeed ws := fun w hw => ⟨h w hw, good_of_word (List.mem_filter.mp (h w hw)).2⟩
theorem gi_c {w : Cond} {ws : List Cond} (h : w ∈ wNeed) (hs : ∀ w ∈ ws, w ∈ wNeed) : ∀ w' ∈ w :: ws, w' ∈ wNeed := fun _ h' => (List.mem_cons.mp h').elim (fun e => e ▸ h) (hs _)
theorem gV {own C : String} {idx n : Nat} {y : MethodName} {b : ByteArray} {r : Option FieldType} (h1 : Cond.methodLink own idx y ∈ wNeed) (h2 : Cond.instanceMethod y ∈ wNeed) (h3 : Cond.selects C y y ∈ wNeed) (h4 : Cond.initialized C ∈ wNeed) (h5 : Cond.code y b n r ∈ wNeed) : GoodIn wNeed (wsV own idx C y (Cond.code y b n r :: wNeed)) := gi (gi_c h1 (gi_c h2 (gi_c h3 (gi_c h4 (gi_c h5 (fun _ h => h))))))
theorem gS {own : String} {idx n : Nat} {y : MethodName} {b : ByteArray} {r : Option FieldType} (h1 : Cond.methodLink own idx y ∈ wNeed) (h2 : Cond.static y ∈ wNeed) (h4 : Cond.initialized own ∈ wNeed) (h5 : Cond.code y b n r ∈ wNeed) : GoodIn wNeed (wsS own idx y (Cond.code y b n r :: wNeed)) := gi (gi_c h1 (gi_c h2 (gi_c h4 (gi_c h5 (fun _ h => h)))))
theorem gI {n : Nat} {y : MethodName} {b : ByteArray} {r : Option FieldType} (h5 : Cond.code y b n r ∈ wNeed) : GoodIn wNeed (Cond.code y b n r :: wNeed) := gi (gi_c h5 (fun _ h => h))
theorem gW {own : String} {idx n : Nat} {y : MethodName} {b : ByteArray} {r : Option FieldType} {hh : List (Nat × Nat × Nat × Nat)} (h1 : Cond.methodLink own idx y ∈ wNeed) (h2 : Cond.static y ∈ wNeed) (h4 : Cond.initialized y.cls ∈ wNeed) (h5 : Cond.codeWith y b n r hh ∈ wNeed) : GoodIn wNeed (va_wsS own idx y (Cond.codeWith y b n r hh :: wNeed)) := gi (gi_c h1 (gi_c h2 (gi_c h4 (gi_c h5 (fun _ h => h)))))
def F_X : u_T := fun k => match k with
  | 0 => ("DroitLine", "house", "[LDroitLine$Lot;", true)
  | 1 => ("DroitLine", "commissions", "[I", true)
  | 2 => ("DroitLine", "owedForGaps", "[I", true)
  | 3 => ("DroitLine", "lotCount", "I", false)
  | 4 => ("DroitLine", "today", "I", false)
  | 5 => ("DroitLine", "dailyRate", "I", false)
  | 6 => ("DroitLine", "received", "J", false)
  | 7 => ("DroitLine", "paidOut", "J", false)
  | _ => ("DroitLine", "earned", "J", false)
def t_X : Nat → FieldType := fun k => match k with
  | 0 => .array (.object "DroitLine$Lot")
  | 1 => .array (.int)
  | 2 => .array (.int)
  | 3 => .int
  | 4 => .int
  | 5 => .int
  | 6 => .long
  | 7 => .long
  | _ => .long
theorem n_X : ∀ a, a < 9 → ∀ b, b < 9 → a ≠ b → (F_X a).2.1 ≠ (F_X b).2.1 := by decide +kernel
theorem t_X_ok : ∀ k, k < 9 → parseFieldDescriptor (F_X k).2.2.1 = some (t_X k) := by decide +kernel
def F_L : u_T := fun k => match k with
  | 0 => ("DroitLine$Lot", "seller", "I", true)
  | 1 => ("DroitLine$Lot", "artist", "I", true)
  | 2 => ("DroitLine$Lot", "offers", "LDroitLine$Offers;", true)
  | 3 => ("DroitLine$Lot", "reserve", "I", false)
  | 4 => ("DroitLine$Lot", "state", "I", false)
  | 5 => ("DroitLine$Lot", "winner", "I", false)
  | 6 => ("DroitLine$Lot", "hammerPrice", "I", false)
  | 7 => ("DroitLine$Lot", "saleYear", "I", false)
  | 8 => ("DroitLine$Lot", "gapBuyer", "I", false)
  | 9 => ("DroitLine$Lot", "gapPrice", "I", false)
  | 10 => ("DroitLine$Lot", "advanced", "I", false)
  | 11 => ("DroitLine$Lot", "advanceDay", "I", false)
  | _ => ("DroitLine$Lot", "interestAtSettling", "I", false)
def t_L : Nat → FieldType := fun k => match k with
  | 0 => .int
  | 1 => .int
  | 2 => .object "DroitLine$Offers"
  | 3 => .int
  | 4 => .int
  | 5 => .int
  | 6 => .int
  | 7 => .int
  | 8 => .int
  | 9 => .int
  | 10 => .int
  | 11 => .int
  | _ => .int
theorem n_L : ∀ a, a < 13 → ∀ b, b < 13 → a ≠ b → (F_L a).2.1 ≠ (F_L b).2.1 := by decide +kernel
theorem t_L_ok : ∀ k, k < 13 → parseFieldDescriptor (F_L k).2.2.1 = some (t_L k) := by decide +kernel
def F_O : u_T := fun k => match k with
  | 0 => ("DroitLine$Offers", "buyers", "[I", true)
  | 1 => ("DroitLine$Offers", "amounts", "[I", true)
  | _ => ("DroitLine$Offers", "count", "I", false)
def t_O : Nat → FieldType := fun k => match k with
  | 0 => .array (.int)
  | 1 => .array (.int)
  | _ => .int
theorem n_O : ∀ a, a < 3 → ∀ b, b < 3 → a ≠ b → (F_O a).2.1 ≠ (F_O b).2.1 := by decide +kernel
theorem t_O_ok : ∀ k, k < 3 → parseFieldDescriptor (F_O k).2.2.1 = some (t_O k) := by decide +kernel
abbrev classes : List vw_C := [("DroitLine", F_X, 9), ("DroitLine$Lot", F_L, 13), ("DroitLine$Offers", F_O, 3)]
abbrev bX_init : ByteArray := prog_1_method_1_code
abbrev yX_init : MethodName := { cls := "DroitLine", name := "<init>", desc := "()V" }
abbrev bX_lot : ByteArray := prog_1_method_2_code
abbrev yX_lot : MethodName := { cls := "DroitLine", name := "lot", desc := "(III)I" }
abbrev bX_bid : ByteArray := prog_1_method_3_code
abbrev yX_bid : MethodName := { cls := "DroitLine", name := "bid", desc := "(III)I" }
abbrev bX_hammer : ByteArray := prog_1_method_4_code
abbrev yX_hammer : MethodName := { cls := "DroitLine", name := "hammer", desc := "(I)I" }
abbrev bX_again : ByteArray := prog_1_method_5_code
abbrev yX_again : MethodName := { cls := "DroitLine", name := "again", desc := "(II)I" }
abbrev bX_lots : ByteArray := prog_1_method_6_code
abbrev yX_lots : MethodName := { cls := "DroitLine", name := "lots", desc := "()I" }
abbrev bX_callOf : ByteArray := prog_1_method_7_code
abbrev yX_callOf : MethodName := { cls := "DroitLine", name := "callOf", desc := "(I)I" }
abbrev bX_pay : ByteArray := prog_1_method_8_code
abbrev yX_pay : MethodName := { cls := "DroitLine", name := "pay", desc := "(I)I" }
abbrev bX_defaults : ByteArray := prog_1_method_9_code
abbrev yX_defaults : MethodName := { cls := "DroitLine", name := "defaults", desc := "(I)I" }
abbrev bX_payGaps : ByteArray := prog_1_method_10_code
abbrev yX_payGaps : MethodName := { cls := "DroitLine", name := "payGaps", desc := "(I)I" }
abbrev bX_advance : ByteArray := prog_1_method_11_code
abbrev yX_advance : MethodName := { cls := "DroitLine", name := "advance", desc := "(II)I" }
abbrev bX_settle : ByteArray := prog_1_method_12_code
abbrev yX_settle : MethodName := { cls := "DroitLine", name := "settle", desc := "(I)I" }
abbrev bX_commission : ByteArray := prog_1_method_13_code
abbrev yX_commission : MethodName := { cls := "DroitLine", name := "commission", desc := "(II)I" }
abbrev bX_rate : ByteArray := prog_1_method_14_code
abbrev yX_rate : MethodName := { cls := "DroitLine", name := "rate", desc := "(I)I" }
abbrev bX_days : ByteArray := prog_1_method_15_code
abbrev yX_days : MethodName := { cls := "DroitLine", name := "days", desc := "(I)I" }
abbrev bX_state : ByteArray := prog_1_method_16_code
abbrev yX_state : MethodName := { cls := "DroitLine", name := "state", desc := "(I)I" }
abbrev bX_buyerOf : ByteArray := prog_1_method_17_code
abbrev yX_buyerOf : MethodName := { cls := "DroitLine", name := "buyerOf", desc := "(I)I" }
abbrev bX_price : ByteArray := prog_1_method_18_code
abbrev yX_price : MethodName := { cls := "DroitLine", name := "price", desc := "(I)I" }
abbrev bX_bids : ByteArray := prog_1_method_19_code
abbrev yX_bids : MethodName := { cls := "DroitLine", name := "bids", desc := "(I)I" }
abbrev bX_fee : ByteArray := prog_1_method_20_code
abbrev yX_fee : MethodName := { cls := "DroitLine", name := "fee", desc := "(I)I" }
abbrev bX_share : ByteArray := prog_1_method_21_code
abbrev yX_share : MethodName := { cls := "DroitLine", name := "share", desc := "(I)I" }
abbrev bX_interest : ByteArray := prog_1_method_22_code
abbrev yX_interest : MethodName := { cls := "DroitLine", name := "interest", desc := "(I)I" }
abbrev bX_owes : ByteArray := prog_1_method_23_code
abbrev yX_owes : MethodName := { cls := "DroitLine", name := "owes", desc := "(I)I" }
abbrev bX_in : ByteArray := prog_1_method_24_code
abbrev yX_in : MethodName := { cls := "DroitLine", name := "in", desc := "()J" }
abbrev bX_out : ByteArray := prog_1_method_25_code
abbrev yX_out : MethodName := { cls := "DroitLine", name := "out", desc := "()J" }
abbrev bX_kept : ByteArray := prog_1_method_26_code
abbrev yX_kept : MethodName := { cls := "DroitLine", name := "kept", desc := "()J" }
abbrev bX_held : ByteArray := prog_1_method_27_code
abbrev yX_held : MethodName := { cls := "DroitLine", name := "held", desc := "()J" }
abbrev bX_heldByLots : ByteArray := prog_1_method_28_code
abbrev yX_heldByLots : MethodName := { cls := "DroitLine", name := "heldByLots", desc := "()J" }
abbrev bX_findLot : ByteArray := prog_1_method_29_code
abbrev yX_findLot : MethodName := { cls := "DroitLine", name := "findLot", desc := "(I)LDroitLine$Lot;" }
abbrev bX_checkSeller : ByteArray := prog_1_method_30_code
abbrev yX_checkSeller : MethodName := { cls := "DroitLine", name := "checkSeller", desc := "(I)V" }
abbrev bX_checkBuyer : ByteArray := prog_1_method_31_code
abbrev yX_checkBuyer : MethodName := { cls := "DroitLine", name := "checkBuyer", desc := "(I)V" }
abbrev bX_checkRange : ByteArray := prog_1_method_32_code
abbrev yX_checkRange : MethodName := { cls := "DroitLine", name := "checkRange", desc := "(III)V" }
abbrev bX_checkArtist : ByteArray := prog_1_method_33_code
abbrev yX_checkArtist : MethodName := { cls := "DroitLine", name := "checkArtist", desc := "(I)V" }
abbrev bX_checkState : ByteArray := prog_1_method_34_code
abbrev yX_checkState : MethodName := { cls := "DroitLine", name := "checkState", desc := "(LDroitLine$Lot;I)V" }
abbrev bX_stepOf : ByteArray := prog_1_method_35_code
abbrev yX_stepOf : MethodName := { cls := "DroitLine", name := "stepOf", desc := "(I)I" }
abbrev bX_calledAmount : ByteArray := prog_1_method_36_code
abbrev yX_calledAmount : MethodName := { cls := "DroitLine", name := "calledAmount", desc := "(I)I" }
abbrev bX_priceFor : ByteArray := prog_1_method_37_code
abbrev yX_priceFor : MethodName := { cls := "DroitLine", name := "priceFor", desc := "(III)I" }
abbrev bX_ofBand : ByteArray := prog_1_method_38_code
abbrev yX_ofBand : MethodName := { cls := "DroitLine", name := "ofBand", desc := "(IIII)I" }
abbrev bX_feeFor : ByteArray := prog_1_method_39_code
abbrev yX_feeFor : MethodName := { cls := "DroitLine", name := "feeFor", desc := "(I)I" }
abbrev bX_shareOf : ByteArray := prog_1_method_40_code
abbrev yX_shareOf : MethodName := { cls := "DroitLine", name := "shareOf", desc := "(LDroitLine$Lot;)I" }
abbrev bX_isTooLongDead : ByteArray := prog_1_method_41_code
abbrev yX_isTooLongDead : MethodName := { cls := "DroitLine", name := "isTooLongDead", desc := "(LDroitLine$Lot;)Z" }
abbrev bX_interestOf : ByteArray := prog_1_method_42_code
abbrev yX_interestOf : MethodName := { cls := "DroitLine", name := "interestOf", desc := "(LDroitLine$Lot;)I" }
abbrev bX_hundredthsOf : ByteArray := prog_1_method_43_code
abbrev yX_hundredthsOf : MethodName := { cls := "DroitLine", name := "hundredthsOf", desc := "(I)I" }
abbrev bX_closeGap : ByteArray := prog_1_method_44_code
abbrev yX_closeGap : MethodName := { cls := "DroitLine", name := "closeGap", desc := "(LDroitLine$Lot;)V" }
abbrev bX_owedBy : ByteArray := prog_1_method_45_code
abbrev yX_owedBy : MethodName := { cls := "DroitLine", name := "owedBy", desc := "(I)I" }
abbrev bX_addToDebt : ByteArray := prog_1_method_46_code
abbrev yX_addToDebt : MethodName := { cls := "DroitLine", name := "addToDebt", desc := "(II)V" }
abbrev bL_init : ByteArray := prog_2_method_1_code
abbrev yL_init : MethodName := { cls := "DroitLine$Lot", name := "<init>", desc := "(III)V" }
abbrev bL_open : ByteArray := prog_2_method_2_code
abbrev yL_open : MethodName := { cls := "DroitLine$Lot", name := "open", desc := "(I)V" }
abbrev bL_heldForIt : ByteArray := prog_2_method_3_code
abbrev yL_heldForIt : MethodName := { cls := "DroitLine$Lot", name := "heldForIt", desc := "()I" }
abbrev bO_init : ByteArray := prog_3_method_1_code
abbrev yO_init : MethodName := { cls := "DroitLine$Offers", name := "<init>", desc := "()V" }
abbrev bO_leave : ByteArray := prog_3_method_2_code
abbrev yO_leave : MethodName := { cls := "DroitLine$Offers", name := "leave", desc := "(II)V" }
abbrev bO_buyerAt : ByteArray := prog_3_method_3_code
abbrev yO_buyerAt : MethodName := { cls := "DroitLine$Offers", name := "buyerAt", desc := "(I)I" }
abbrev bO_amountAt : ByteArray := prog_3_method_4_code
abbrev yO_amountAt : MethodName := { cls := "DroitLine$Offers", name := "amountAt", desc := "(I)I" }
abbrev bO_placeOfBest : ByteArray := prog_3_method_5_code
abbrev yO_placeOfBest : MethodName := { cls := "DroitLine$Offers", name := "placeOfBest", desc := "()I" }
abbrev bO_highestBeside : ByteArray := prog_3_method_6_code
abbrev yO_highestBeside : MethodName := { cls := "DroitLine$Offers", name := "highestBeside", desc := "(I)I" }
abbrev bW_call : ByteArray := method_2_code
abbrev yW_call : MethodName := { cls := "DroitLineLaw", name := "call", desc := "(I)I" }
abbrev bW_next : ByteArray := method_3_code
abbrev yW_next : MethodName := { cls := "DroitLineLaw", name := "next", desc := "(I)I" }
abbrev bW_hundredths : ByteArray := method_4_code
abbrev yW_hundredths : MethodName := { cls := "DroitLineLaw", name := "hundredths", desc := "(IIII)I" }
abbrev bW_fee : ByteArray := method_5_code
abbrev yW_fee : MethodName := { cls := "DroitLineLaw", name := "fee", desc := "(I)I" }
abbrev bW_share : ByteArray := method_6_code
abbrev yW_share : MethodName := { cls := "DroitLineLaw", name := "share", desc := "([II)I" }
abbrev bW_interest : ByteArray := method_7_code
abbrev yW_interest : MethodName := { cls := "DroitLineLaw", name := "interest", desc := "([I[I[II)I" }
abbrev bW_falls : ByteArray := method_8_code
abbrev yW_falls : MethodName := { cls := "DroitLineLaw", name := "falls", desc := "([I[I[I[II)I" }
abbrev bW_clears : ByteArray := method_9_code
abbrev yW_clears : MethodName := { cls := "DroitLineLaw", name := "clears", desc := "([II)I" }
abbrev bW_does : ByteArray := method_10_code
abbrev yW_does : MethodName := { cls := "DroitLineLaw", name := "does", desc := "(LDroitLine;IIII)I" }
abbrev bW_isHouse : ByteArray := method_11_code
abbrev yW_isHouse : MethodName := { cls := "DroitLineLaw", name := "isHouse", desc := "(LDroitLine;[I[I[I[I[II)Z" }
abbrev bW_law : ByteArray := code
theorem q_p1 : Cond.selects "DroitLine" ({ cls := "DroitLine", name := "findLot", desc := "(I)LDroitLine$Lot;" } : MethodName) ({ cls := "DroitLine", name := "findLot", desc := "(I)LDroitLine$Lot;" } : MethodName) ∈ wNeed := List.mem_filter.mpr ⟨List.mem_of_getElem? (i := 1) (by decide +kernel), by decide +kernel⟩
theorem q_p2 : Cond.selects "DroitLine" ({ cls := "DroitLine", name := "closeGap", desc := "(LDroitLine$Lot;)V" } : MethodName) ({ cls := "DroitLine", name := "closeGap", desc := "(LDroitLine$Lot;)V" } : MethodName) ∈ wNeed := List.mem_filter.mpr ⟨List.mem_of_getElem? (i := 2) (by decide +kernel), by decide +kernel⟩
theorem q_p3 : Cond.selects "DroitLine" ({ cls := "DroitLine", name := "addToDebt", desc := "(II)V" } : MethodName) ({ cls := "DroitLine", name := "addToDebt", desc := "(II)V" } : MethodName) ∈ wNeed := List.mem_filter.mpr ⟨List.mem_of_getElem? (i := 3) (by decide +kernel), by decide +kernel⟩
theorem q_p4 : Cond.selects "DroitLine" ({ cls := "DroitLine", name := "owedBy", desc := "(I)I" } : MethodName) ({ cls := "DroitLine", name := "owedBy", desc := "(I)I" } : MethodName) ∈ wNeed := List.mem_filter.mpr ⟨List.mem_of_getElem? (i := 4) (by decide +kernel), by decide +kernel⟩
theorem q_p5 : Cond.selects "DroitLine" ({ cls := "DroitLine", name := "hundredthsOf", desc := "(I)I" } : MethodName) ({ cls := "DroitLine", name := "hundredthsOf", desc := "(I)I" } : MethodName) ∈ wNeed := List.mem_filter.mpr ⟨List.mem_of_getElem? (i := 5) (by decide +kernel), by decide +kernel⟩
theorem q_p6 : Cond.selects "DroitLine" ({ cls := "DroitLine", name := "interestOf", desc := "(LDroitLine$Lot;)I" } : MethodName) ({ cls := "DroitLine", name := "interestOf", desc := "(LDroitLine$Lot;)I" } : MethodName) ∈ wNeed := List.mem_filter.mpr ⟨List.mem_of_getElem? (i := 6) (by decide +kernel), by decide +kernel⟩
theorem q_0 : (Jvm.Cond.initialized "DroitLineLaw") ∈ wNeed := List.mem_filter.mpr ⟨List.mem_of_getElem? (i := 7) (by decide +kernel), by decide +kernel⟩
theorem q_1 : (Jvm.Cond.initialized "DroitLine") ∈ wNeed := List.mem_filter.mpr ⟨List.mem_of_getElem? (i := 8) (by decide +kernel), by decide +kernel⟩
theorem q_2 : (Jvm.Cond.initialized "java/lang/Throwable") ∈ wNeed := List.mem_filter.mpr ⟨List.mem_of_getElem? (i := 9) (by decide +kernel), by decide +kernel⟩
theorem q_3 : (Jvm.Cond.initialized "java/lang/Exception") ∈ wNeed := List.mem_filter.mpr ⟨List.mem_of_getElem? (i := 10) (by decide +kernel), by decide +kernel⟩
theorem q_4 : (Jvm.Cond.initialized "java/lang/RuntimeException") ∈ wNeed := List.mem_filter.mpr ⟨List.mem_of_getElem? (i := 11) (by decide +kernel), by decide +kernel⟩
theorem q_5 : (Jvm.Cond.initialized "java/lang/IndexOutOfBoundsException") ∈ wNeed := List.mem_filter.mpr ⟨List.mem_of_getElem? (i := 12) (by decide +kernel), by decide +kernel⟩
theorem q_6 : (Jvm.Cond.initialized "java/lang/Math") ∈ wNeed := List.mem_filter.mpr ⟨List.mem_of_getElem? (i := 13) (by decide +kernel), by decide +kernel⟩
theorem q_7 : (Jvm.Cond.initialized "java/lang/IllegalArgumentException") ∈ wNeed := List.mem_filter.mpr ⟨List.mem_of_getElem? (i := 14) (by decide +kernel), by decide +kernel⟩
theorem q_8 : (Jvm.Cond.initialized "java/lang/IllegalStateException") ∈ wNeed := List.mem_filter.mpr ⟨List.mem_of_getElem? (i := 15) (by decide +kernel), by decide +kernel⟩
theorem q_9 : (Jvm.Cond.initialized "DroitLine$Lot") ∈ wNeed := List.mem_filter.mpr ⟨List.mem_of_getElem? (i := 16) (by decide +kernel), by decide +kernel⟩
theorem q_10 : (Jvm.Cond.initialized "DroitLine$Offers") ∈ wNeed := List.mem_filter.mpr ⟨List.mem_of_getElem? (i := 17) (by decide +kernel), by decide +kernel⟩
theorem q_11 : (Jvm.Cond.classLink "DroitLineLaw" (26 : Nat) "DroitLine") ∈ wNeed := List.mem_filter.mpr ⟨List.mem_of_getElem? (i := 18) (by decide +kernel), by decide +kernel⟩
theorem q_12 : (Jvm.Cond.instantiable "DroitLine" (9 : Nat)) ∈ wNeed := List.mem_filter.mpr ⟨List.mem_of_getElem? (i := 19) (by decide +kernel), by decide +kernel⟩
theorem q_13 : (Jvm.Cond.methodLink "DroitLineLaw" (123 : Nat) ({ cls := "DroitLine", name := "<init>", desc := "()V" } : Jvm.MethodName)) ∈ wNeed := List.mem_filter.mpr ⟨List.mem_of_getElem? (i := 20) (by decide +kernel), by decide +kernel⟩
theorem q_14 : (Jvm.Cond.instanceMethod ({ cls := "DroitLine", name := "<init>", desc := "()V" } : Jvm.MethodName)) ∈ wNeed := List.mem_filter.mpr ⟨List.mem_of_getElem? (i := 21) (by decide +kernel), by decide +kernel⟩
theorem q_15 : (Jvm.Cond.code ({ cls := "DroitLine", name := "<init>", desc := "()V" } : Jvm.MethodName) prog_1_method_1_code (2 : Nat) (Option.none : Option Jvm.ClassFile.FieldType)) ∈ wNeed := List.mem_filter.mpr ⟨List.mem_of_getElem? (i := 22) (by decide +kernel), by decide +kernel⟩
theorem q_16 : (Jvm.Cond.methodLink "DroitLine" (1 : Nat) ({ cls := "java/lang/Object", name := "<init>", desc := "()V" } : Jvm.MethodName)) ∈ wNeed := List.mem_filter.mpr ⟨List.mem_of_getElem? (i := 23) (by decide +kernel), by decide +kernel⟩
theorem q_17 : (Jvm.Cond.instanceMethod ({ cls := "java/lang/Object", name := "<init>", desc := "()V" } : Jvm.MethodName)) ∈ wNeed := List.mem_filter.mpr ⟨List.mem_of_getElem? (i := 24) (by decide +kernel), by decide +kernel⟩
theorem q_18 : (Jvm.Cond.code ({ cls := "java/lang/Object", name := "<init>", desc := "()V" } : Jvm.MethodName) object_method_1_code (1 : Nat) (Option.none : Option Jvm.ClassFile.FieldType)) ∈ wNeed := List.mem_filter.mpr ⟨List.mem_of_getElem? (i := 25) (by decide +kernel), by decide +kernel⟩
theorem q_19 : (Jvm.Cond.classLink "DroitLine" (9 : Nat) "DroitLine$Lot") ∈ wNeed := List.mem_filter.mpr ⟨List.mem_of_getElem? (i := 26) (by decide +kernel), by decide +kernel⟩
theorem q_21 : (Jvm.Cond.fieldLink "DroitLine" (11 : Nat) "DroitLine" "house" "[LDroitLine$Lot;") ∈ wNeed := List.mem_filter.mpr ⟨List.mem_of_getElem? (i := 28) (by decide +kernel), by decide +kernel⟩
theorem q_22 : (Jvm.Cond.fieldLink "DroitLine" (15 : Nat) "DroitLine" "commissions" "[I") ∈ wNeed := List.mem_filter.mpr ⟨List.mem_of_getElem? (i := 29) (by decide +kernel), by decide +kernel⟩
theorem q_23 : (Jvm.Cond.fieldLink "DroitLine" (19 : Nat) "DroitLine" "owedForGaps" "[I") ∈ wNeed := List.mem_filter.mpr ⟨List.mem_of_getElem? (i := 30) (by decide +kernel), by decide +kernel⟩
theorem q_24 : (Jvm.Cond.fieldLink "DroitLine" (38 : Nat) "DroitLine" "lotCount" "I") ∈ wNeed := List.mem_filter.mpr ⟨List.mem_of_getElem? (i := 31) (by decide +kernel), by decide +kernel⟩
theorem q_25 : (Jvm.Cond.fieldLink "DroitLine" (104 : Nat) "DroitLine" "today" "I") ∈ wNeed := List.mem_filter.mpr ⟨List.mem_of_getElem? (i := 32) (by decide +kernel), by decide +kernel⟩
theorem q_26 : (Jvm.Cond.fieldLink "DroitLine" (22 : Nat) "DroitLine" "dailyRate" "I") ∈ wNeed := List.mem_filter.mpr ⟨List.mem_of_getElem? (i := 33) (by decide +kernel), by decide +kernel⟩
theorem q_27 : (Jvm.Cond.fieldLink "DroitLine" (119 : Nat) "DroitLine" "received" "J") ∈ wNeed := List.mem_filter.mpr ⟨List.mem_of_getElem? (i := 34) (by decide +kernel), by decide +kernel⟩
theorem q_28 : (Jvm.Cond.fieldLink "DroitLine" (152 : Nat) "DroitLine" "paidOut" "J") ∈ wNeed := List.mem_filter.mpr ⟨List.mem_of_getElem? (i := 35) (by decide +kernel), by decide +kernel⟩
theorem q_29 : (Jvm.Cond.fieldLink "DroitLine" (123 : Nat) "DroitLine" "earned" "J") ∈ wNeed := List.mem_filter.mpr ⟨List.mem_of_getElem? (i := 36) (by decide +kernel), by decide +kernel⟩
theorem q_30 : (Jvm.Cond.laysFinal "DroitLine" "DroitLine" "house" "[LDroitLine$Lot;") ∈ wNeed := List.mem_filter.mpr ⟨List.mem_of_getElem? (i := 37) (by decide +kernel), by decide +kernel⟩
theorem q_32 : (Jvm.Cond.laysFinal "DroitLine" "DroitLine" "commissions" "[I") ∈ wNeed := List.mem_filter.mpr ⟨List.mem_of_getElem? (i := 39) (by decide +kernel), by decide +kernel⟩
theorem q_34 : (Jvm.Cond.laysFinal "DroitLine" "DroitLine" "owedForGaps" "[I") ∈ wNeed := List.mem_filter.mpr ⟨List.mem_of_getElem? (i := 41) (by decide +kernel), by decide +kernel⟩
theorem q_36 : (Jvm.Cond.lays "DroitLine" "DroitLine" "lotCount" "I") ∈ wNeed := List.mem_filter.mpr ⟨List.mem_of_getElem? (i := 43) (by decide +kernel), by decide +kernel⟩
theorem q_38 : (Jvm.Cond.lays "DroitLine" "DroitLine" "today" "I") ∈ wNeed := List.mem_filter.mpr ⟨List.mem_of_getElem? (i := 45) (by decide +kernel), by decide +kernel⟩
theorem q_40 : (Jvm.Cond.lays "DroitLine" "DroitLine" "dailyRate" "I") ∈ wNeed := List.mem_filter.mpr ⟨List.mem_of_getElem? (i := 47) (by decide +kernel), by decide +kernel⟩
theorem q_42 : (Jvm.Cond.lays "DroitLine" "DroitLine" "received" "J") ∈ wNeed := List.mem_filter.mpr ⟨List.mem_of_getElem? (i := 49) (by decide +kernel), by decide +kernel⟩
theorem q_44 : (Jvm.Cond.lays "DroitLine" "DroitLine" "paidOut" "J") ∈ wNeed := List.mem_filter.mpr ⟨List.mem_of_getElem? (i := 51) (by decide +kernel), by decide +kernel⟩
theorem q_46 : (Jvm.Cond.lays "DroitLine" "DroitLine" "earned" "J") ∈ wNeed := List.mem_filter.mpr ⟨List.mem_of_getElem? (i := 53) (by decide +kernel), by decide +kernel⟩
theorem q_48 : (Jvm.Cond.superclass "DroitLine" "java/lang/Object") ∈ wNeed := List.mem_filter.mpr ⟨List.mem_of_getElem? (i := 55) (by decide +kernel), by decide +kernel⟩
theorem q_49 : (Jvm.Cond.arrayClass Jvm.ClassFile.FieldType.int) ∈ wNeed := List.mem_filter.mpr ⟨List.mem_of_getElem? (i := 56) (by decide +kernel), by decide +kernel⟩
theorem q_50 : (Jvm.Cond.methodLink "DroitLineLaw" (142 : Nat) ({ cls := "DroitLine", name := "commission", desc := "(II)I" } : Jvm.MethodName)) ∈ wNeed := List.mem_filter.mpr ⟨List.mem_of_getElem? (i := 57) (by decide +kernel), by decide +kernel⟩
theorem q_51 : (Jvm.Cond.instanceMethod ({ cls := "DroitLine", name := "commission", desc := "(II)I" } : Jvm.MethodName)) ∈ wNeed := List.mem_filter.mpr ⟨List.mem_of_getElem? (i := 58) (by decide +kernel), by decide +kernel⟩
theorem q_52 : (Jvm.Cond.selects "DroitLine" ({ cls := "DroitLine", name := "commission", desc := "(II)I" } : Jvm.MethodName) ({ cls := "DroitLine", name := "commission", desc := "(II)I" } : Jvm.MethodName)) ∈ wNeed := List.mem_filter.mpr ⟨List.mem_of_getElem? (i := 59) (by decide +kernel), by decide +kernel⟩
theorem q_53 : (Jvm.Cond.code ({ cls := "DroitLine", name := "commission", desc := "(II)I" } : Jvm.MethodName) prog_1_method_13_code (4 : Nat) (Option.some Jvm.ClassFile.FieldType.int)) ∈ wNeed := List.mem_filter.mpr ⟨List.mem_of_getElem? (i := 60) (by decide +kernel), by decide +kernel⟩
theorem q_54 : (Jvm.Cond.methodLink "DroitLine" (26 : Nat) ({ cls := "DroitLine", name := "checkSeller", desc := "(I)V" } : Jvm.MethodName)) ∈ wNeed := List.mem_filter.mpr ⟨List.mem_of_getElem? (i := 61) (by decide +kernel), by decide +kernel⟩
theorem q_55 : (Jvm.Cond.static ({ cls := "DroitLine", name := "checkSeller", desc := "(I)V" } : Jvm.MethodName)) ∈ wNeed := List.mem_filter.mpr ⟨List.mem_of_getElem? (i := 62) (by decide +kernel), by decide +kernel⟩
theorem q_56 : (Jvm.Cond.code ({ cls := "DroitLine", name := "checkSeller", desc := "(I)V" } : Jvm.MethodName) prog_1_method_30_code (1 : Nat) (Option.none : Option Jvm.ClassFile.FieldType)) ∈ wNeed := List.mem_filter.mpr ⟨List.mem_of_getElem? (i := 63) (by decide +kernel), by decide +kernel⟩
theorem q_57 : (Jvm.Cond.classLink "DroitLine" (176 : Nat) "java/lang/IndexOutOfBoundsException") ∈ wNeed := List.mem_filter.mpr ⟨List.mem_of_getElem? (i := 64) (by decide +kernel), by decide +kernel⟩
theorem q_58 : (Jvm.Cond.instantiable "java/lang/IndexOutOfBoundsException" (6 : Nat)) ∈ wNeed := List.mem_filter.mpr ⟨List.mem_of_getElem? (i := 65) (by decide +kernel), by decide +kernel⟩
theorem q_66 : (Jvm.Cond.selects "java/lang/IndexOutOfBoundsException" ({ cls := "java/lang/Throwable", name := "fillInStackTrace", desc := "(I)Ljava/lang/Throwable;" } : Jvm.MethodName) ({ cls := "java/lang/Throwable", name := "fillInStackTrace", desc := "(I)Ljava/lang/Throwable;" } : Jvm.MethodName)) ∈ wNeed := List.mem_filter.mpr ⟨List.mem_of_getElem? (i := 73) (by decide +kernel), by decide +kernel⟩
theorem q_67 : (Jvm.Cond.selects "java/lang/IndexOutOfBoundsException" ({ cls := "java/lang/Throwable", name := "fillInStackTrace", desc := "()Ljava/lang/Throwable;" } : Jvm.MethodName) ({ cls := "java/lang/Throwable", name := "fillInStackTrace", desc := "()Ljava/lang/Throwable;" } : Jvm.MethodName)) ∈ wNeed := List.mem_filter.mpr ⟨List.mem_of_getElem? (i := 74) (by decide +kernel), by decide +kernel⟩
theorem q_68 : (Jvm.Cond.lays "java/lang/IndexOutOfBoundsException" "java/lang/Throwable" "cause" "Ljava/lang/Throwable;") ∈ wNeed := List.mem_filter.mpr ⟨List.mem_of_getElem? (i := 75) (by decide +kernel), by decide +kernel⟩
theorem q_69 : (Jvm.Cond.lays "java/lang/Throwable" "java/lang/Throwable" "cause" "Ljava/lang/Throwable;") ∈ wNeed := List.mem_filter.mpr ⟨List.mem_of_getElem? (i := 76) (by decide +kernel), by decide +kernel⟩
theorem q_70 : (Jvm.Cond.lays "java/lang/IndexOutOfBoundsException" "java/lang/Throwable" "stackTrace" "[Ljava/lang/StackTraceElement;") ∈ wNeed := List.mem_filter.mpr ⟨List.mem_of_getElem? (i := 77) (by decide +kernel), by decide +kernel⟩
theorem q_71 : (Jvm.Cond.lays "java/lang/Throwable" "java/lang/Throwable" "stackTrace" "[Ljava/lang/StackTraceElement;") ∈ wNeed := List.mem_filter.mpr ⟨List.mem_of_getElem? (i := 78) (by decide +kernel), by decide +kernel⟩
theorem q_72 : (Jvm.Cond.lays "java/lang/IndexOutOfBoundsException" "java/lang/Throwable" "suppressedExceptions" "Ljava/util/List;") ∈ wNeed := List.mem_filter.mpr ⟨List.mem_of_getElem? (i := 79) (by decide +kernel), by decide +kernel⟩
theorem q_73 : (Jvm.Cond.lays "java/lang/Throwable" "java/lang/Throwable" "suppressedExceptions" "Ljava/util/List;") ∈ wNeed := List.mem_filter.mpr ⟨List.mem_of_getElem? (i := 80) (by decide +kernel), by decide +kernel⟩
theorem q_74 : (Jvm.Cond.lays "java/lang/IndexOutOfBoundsException" "java/lang/Throwable" "detailMessage" "Ljava/lang/String;") ∈ wNeed := List.mem_filter.mpr ⟨List.mem_of_getElem? (i := 81) (by decide +kernel), by decide +kernel⟩
theorem q_75 : (Jvm.Cond.lays "java/lang/Throwable" "java/lang/Throwable" "detailMessage" "Ljava/lang/String;") ∈ wNeed := List.mem_filter.mpr ⟨List.mem_of_getElem? (i := 82) (by decide +kernel), by decide +kernel⟩
theorem q_76 : (Jvm.Cond.lays "java/lang/IndexOutOfBoundsException" "java/lang/Throwable" "backtrace" "Ljava/lang/Object;") ∈ wNeed := List.mem_filter.mpr ⟨List.mem_of_getElem? (i := 83) (by decide +kernel), by decide +kernel⟩
theorem q_77 : (Jvm.Cond.lays "java/lang/Throwable" "java/lang/Throwable" "backtrace" "Ljava/lang/Object;") ∈ wNeed := List.mem_filter.mpr ⟨List.mem_of_getElem? (i := 84) (by decide +kernel), by decide +kernel⟩
theorem q_78 : (Jvm.Cond.fieldLink "java/lang/Throwable" (198 : Nat) "java/lang/Throwable" "backtrace" "Ljava/lang/Object;") ∈ wNeed := List.mem_filter.mpr ⟨List.mem_of_getElem? (i := 85) (by decide +kernel), by decide +kernel⟩
theorem q_79 : (Jvm.Cond.superclass "java/lang/Throwable" "java/lang/Object") ∈ wNeed := List.mem_filter.mpr ⟨List.mem_of_getElem? (i := 86) (by decide +kernel), by decide +kernel⟩
theorem q_80 : (Jvm.Cond.instanceMethod ({ cls := "java/lang/Throwable", name := "<init>", desc := "()V" } : Jvm.MethodName)) ∈ wNeed := List.mem_filter.mpr ⟨List.mem_of_getElem? (i := 87) (by decide +kernel), by decide +kernel⟩
theorem q_81 : (Jvm.Cond.code ({ cls := "java/lang/Throwable", name := "<init>", desc := "()V" } : Jvm.MethodName) prog_13_method_1_code (1 : Nat) (Option.none : Option Jvm.ClassFile.FieldType)) ∈ wNeed := List.mem_filter.mpr ⟨List.mem_of_getElem? (i := 88) (by decide +kernel), by decide +kernel⟩
theorem q_82 : (Jvm.Cond.methodLink "java/lang/Throwable" (1 : Nat) ({ cls := "java/lang/Object", name := "<init>", desc := "()V" } : Jvm.MethodName)) ∈ wNeed := List.mem_filter.mpr ⟨List.mem_of_getElem? (i := 89) (by decide +kernel), by decide +kernel⟩
theorem q_83 : (Jvm.Cond.fieldLink "java/lang/Throwable" (13 : Nat) "java/lang/Throwable" "UNASSIGNED_STACK" "[Ljava/lang/StackTraceElement;") ∈ wNeed := List.mem_filter.mpr ⟨List.mem_of_getElem? (i := 90) (by decide +kernel), by decide +kernel⟩
theorem q_85 : (Jvm.Cond.fieldLink "java/lang/Throwable" (20 : Nat) "java/lang/Throwable" "SUPPRESSED_SENTINEL" "Ljava/util/List;") ∈ wNeed := List.mem_filter.mpr ⟨List.mem_of_getElem? (i := 92) (by decide +kernel), by decide +kernel⟩
theorem q_87 : (Jvm.Cond.methodLink "java/lang/Throwable" (27 : Nat) ({ cls := "java/lang/Throwable", name := "fillInStackTrace", desc := "()Ljava/lang/Throwable;" } : Jvm.MethodName)) ∈ wNeed := List.mem_filter.mpr ⟨List.mem_of_getElem? (i := 94) (by decide +kernel), by decide +kernel⟩
theorem q_88 : (Jvm.Cond.instanceMethod ({ cls := "java/lang/Throwable", name := "fillInStackTrace", desc := "()Ljava/lang/Throwable;" } : Jvm.MethodName)) ∈ wNeed := List.mem_filter.mpr ⟨List.mem_of_getElem? (i := 95) (by decide +kernel), by decide +kernel⟩
theorem q_89 : (Jvm.Cond.sameMethod "java/lang/Throwable" "java/lang/Throwable" "fillInStackTrace" "()Ljava/lang/Throwable;") ∈ wNeed := List.mem_filter.mpr ⟨List.mem_of_getElem? (i := 96) (by decide +kernel), by decide +kernel⟩
theorem q_90 : (Jvm.Cond.selects "java/lang/IllegalArgumentException" ({ cls := "java/lang/Throwable", name := "fillInStackTrace", desc := "()Ljava/lang/Throwable;" } : Jvm.MethodName) ({ cls := "java/lang/Throwable", name := "fillInStackTrace", desc := "()Ljava/lang/Throwable;" } : Jvm.MethodName)) ∈ wNeed := List.mem_filter.mpr ⟨List.mem_of_getElem? (i := 97) (by decide +kernel), by decide +kernel⟩
theorem q_91 : (Jvm.Cond.selects "java/lang/IllegalStateException" ({ cls := "java/lang/Throwable", name := "fillInStackTrace", desc := "()Ljava/lang/Throwable;" } : Jvm.MethodName) ({ cls := "java/lang/Throwable", name := "fillInStackTrace", desc := "()Ljava/lang/Throwable;" } : Jvm.MethodName)) ∈ wNeed := List.mem_filter.mpr ⟨List.mem_of_getElem? (i := 98) (by decide +kernel), by decide +kernel⟩
theorem q_92 : (Jvm.Cond.codeSync ({ cls := "java/lang/Throwable", name := "fillInStackTrace", desc := "()Ljava/lang/Throwable;" } : Jvm.MethodName) prog_13_method_18_code (1 : Nat) (Option.some (Jvm.ClassFile.FieldType.object "java/lang/Throwable"))) ∈ wNeed := List.mem_filter.mpr ⟨List.mem_of_getElem? (i := 99) (by decide +kernel), by decide +kernel⟩
theorem q_93 : (Jvm.Cond.methodLink "java/lang/Throwable" (202 : Nat) ({ cls := "java/lang/Throwable", name := "fillInStackTrace", desc := "(I)Ljava/lang/Throwable;" } : Jvm.MethodName)) ∈ wNeed := List.mem_filter.mpr ⟨List.mem_of_getElem? (i := 100) (by decide +kernel), by decide +kernel⟩
theorem q_95 : (Jvm.Cond.instanceMethod ({ cls := "java/lang/Throwable", name := "fillInStackTrace", desc := "(I)Ljava/lang/Throwable;" } : Jvm.MethodName)) ∈ wNeed := List.mem_filter.mpr ⟨List.mem_of_getElem? (i := 102) (by decide +kernel), by decide +kernel⟩
theorem q_96 : (Jvm.Cond.instantiable "java/lang/Throwable" (6 : Nat)) ∈ wNeed := List.mem_filter.mpr ⟨List.mem_of_getElem? (i := 103) (by decide +kernel), by decide +kernel⟩
theorem q_97 : (Jvm.Cond.native ({ cls := "java/lang/Throwable", name := "fillInStackTrace", desc := "(I)Ljava/lang/Throwable;" } : Jvm.MethodName)) ∈ wNeed := List.mem_filter.mpr ⟨List.mem_of_getElem? (i := 104) (by decide +kernel), by decide +kernel⟩
theorem q_99 : (Jvm.Cond.methodLink "DroitLine" (180 : Nat) ({ cls := "java/lang/IndexOutOfBoundsException", name := "<init>", desc := "(Ljava/lang/String;)V" } : Jvm.MethodName)) ∈ wNeed := List.mem_filter.mpr ⟨List.mem_of_getElem? (i := 106) (by decide +kernel), by decide +kernel⟩
theorem q_100 : (Jvm.Cond.instanceMethod ({ cls := "java/lang/IndexOutOfBoundsException", name := "<init>", desc := "(Ljava/lang/String;)V" } : Jvm.MethodName)) ∈ wNeed := List.mem_filter.mpr ⟨List.mem_of_getElem? (i := 107) (by decide +kernel), by decide +kernel⟩
theorem q_101 : (Jvm.Cond.code ({ cls := "java/lang/IndexOutOfBoundsException", name := "<init>", desc := "(Ljava/lang/String;)V" } : Jvm.MethodName) prog_9_method_2_code (2 : Nat) (Option.none : Option Jvm.ClassFile.FieldType)) ∈ wNeed := List.mem_filter.mpr ⟨List.mem_of_getElem? (i := 108) (by decide +kernel), by decide +kernel⟩
theorem q_102 : (Jvm.Cond.methodLink "java/lang/IndexOutOfBoundsException" (7 : Nat) ({ cls := "java/lang/RuntimeException", name := "<init>", desc := "(Ljava/lang/String;)V" } : Jvm.MethodName)) ∈ wNeed := List.mem_filter.mpr ⟨List.mem_of_getElem? (i := 109) (by decide +kernel), by decide +kernel⟩
theorem q_103 : (Jvm.Cond.instanceMethod ({ cls := "java/lang/RuntimeException", name := "<init>", desc := "(Ljava/lang/String;)V" } : Jvm.MethodName)) ∈ wNeed := List.mem_filter.mpr ⟨List.mem_of_getElem? (i := 110) (by decide +kernel), by decide +kernel⟩
theorem q_104 : (Jvm.Cond.code ({ cls := "java/lang/RuntimeException", name := "<init>", desc := "(Ljava/lang/String;)V" } : Jvm.MethodName) prog_11_method_2_code (2 : Nat) (Option.none : Option Jvm.ClassFile.FieldType)) ∈ wNeed := List.mem_filter.mpr ⟨List.mem_of_getElem? (i := 111) (by decide +kernel), by decide +kernel⟩
theorem q_105 : (Jvm.Cond.methodLink "java/lang/RuntimeException" (7 : Nat) ({ cls := "java/lang/Exception", name := "<init>", desc := "(Ljava/lang/String;)V" } : Jvm.MethodName)) ∈ wNeed := List.mem_filter.mpr ⟨List.mem_of_getElem? (i := 112) (by decide +kernel), by decide +kernel⟩
theorem q_106 : (Jvm.Cond.instanceMethod ({ cls := "java/lang/Exception", name := "<init>", desc := "(Ljava/lang/String;)V" } : Jvm.MethodName)) ∈ wNeed := List.mem_filter.mpr ⟨List.mem_of_getElem? (i := 113) (by decide +kernel), by decide +kernel⟩
theorem q_107 : (Jvm.Cond.code ({ cls := "java/lang/Exception", name := "<init>", desc := "(Ljava/lang/String;)V" } : Jvm.MethodName) prog_6_method_2_code (2 : Nat) (Option.none : Option Jvm.ClassFile.FieldType)) ∈ wNeed := List.mem_filter.mpr ⟨List.mem_of_getElem? (i := 114) (by decide +kernel), by decide +kernel⟩
theorem q_108 : (Jvm.Cond.methodLink "java/lang/Exception" (7 : Nat) ({ cls := "java/lang/Throwable", name := "<init>", desc := "(Ljava/lang/String;)V" } : Jvm.MethodName)) ∈ wNeed := List.mem_filter.mpr ⟨List.mem_of_getElem? (i := 115) (by decide +kernel), by decide +kernel⟩
theorem q_109 : (Jvm.Cond.instanceMethod ({ cls := "java/lang/Throwable", name := "<init>", desc := "(Ljava/lang/String;)V" } : Jvm.MethodName)) ∈ wNeed := List.mem_filter.mpr ⟨List.mem_of_getElem? (i := 116) (by decide +kernel), by decide +kernel⟩
theorem q_110 : (Jvm.Cond.code ({ cls := "java/lang/Throwable", name := "<init>", desc := "(Ljava/lang/String;)V" } : Jvm.MethodName) prog_13_method_2_code (2 : Nat) (Option.none : Option Jvm.ClassFile.FieldType)) ∈ wNeed := List.mem_filter.mpr ⟨List.mem_of_getElem? (i := 117) (by decide +kernel), by decide +kernel⟩
theorem q_111 : (Jvm.Cond.fieldLink "java/lang/Throwable" (198 : Nat) "java/lang/Throwable" "backtrace" "Ljava/lang/Object;") ∈ wNeed := List.mem_filter.mpr ⟨List.mem_of_getElem? (i := 118) (by decide +kernel), by decide +kernel⟩
theorem q_112 : (Jvm.Cond.fieldLink "java/lang/Throwable" (31 : Nat) "java/lang/Throwable" "detailMessage" "Ljava/lang/String;") ∈ wNeed := List.mem_filter.mpr ⟨List.mem_of_getElem? (i := 119) (by decide +kernel), by decide +kernel⟩
theorem q_113 : (Jvm.Cond.fieldLink "java/lang/Throwable" (7 : Nat) "java/lang/Throwable" "cause" "Ljava/lang/Throwable;") ∈ wNeed := List.mem_filter.mpr ⟨List.mem_of_getElem? (i := 120) (by decide +kernel), by decide +kernel⟩
theorem q_114 : (Jvm.Cond.fieldLink "java/lang/Throwable" (17 : Nat) "java/lang/Throwable" "stackTrace" "[Ljava/lang/StackTraceElement;") ∈ wNeed := List.mem_filter.mpr ⟨List.mem_of_getElem? (i := 121) (by decide +kernel), by decide +kernel⟩
theorem q_115 : (Jvm.Cond.fieldLink "java/lang/Throwable" (24 : Nat) "java/lang/Throwable" "suppressedExceptions" "Ljava/util/List;") ∈ wNeed := List.mem_filter.mpr ⟨List.mem_of_getElem? (i := 122) (by decide +kernel), by decide +kernel⟩
theorem q_120 : (Jvm.Cond.lays "java/lang/IndexOutOfBoundsException" "java/lang/Throwable" "depth" "I") ∈ wNeed := List.mem_filter.mpr ⟨List.mem_of_getElem? (i := 127) (by decide +kernel), by decide +kernel⟩
theorem q_123 : (Jvm.Cond.superclass "java/lang/IndexOutOfBoundsException" "java/lang/RuntimeException") ∈ wNeed := List.mem_filter.mpr ⟨List.mem_of_getElem? (i := 130) (by decide +kernel), by decide +kernel⟩
theorem q_124 : (Jvm.Cond.arrayClass Jvm.ClassFile.FieldType.byte) ∈ wNeed := List.mem_filter.mpr ⟨List.mem_of_getElem? (i := 131) (by decide +kernel), by decide +kernel⟩
theorem q_125 : (Jvm.Cond.methodLink "DroitLine" (31 : Nat) ({ cls := "DroitLine", name := "checkRange", desc := "(III)V" } : Jvm.MethodName)) ∈ wNeed := List.mem_filter.mpr ⟨List.mem_of_getElem? (i := 132) (by decide +kernel), by decide +kernel⟩
theorem q_126 : (Jvm.Cond.static ({ cls := "DroitLine", name := "checkRange", desc := "(III)V" } : Jvm.MethodName)) ∈ wNeed := List.mem_filter.mpr ⟨List.mem_of_getElem? (i := 133) (by decide +kernel), by decide +kernel⟩
theorem q_127 : (Jvm.Cond.code ({ cls := "DroitLine", name := "checkRange", desc := "(III)V" } : Jvm.MethodName) prog_1_method_32_code (3 : Nat) (Option.none : Option Jvm.ClassFile.FieldType)) ∈ wNeed := List.mem_filter.mpr ⟨List.mem_of_getElem? (i := 134) (by decide +kernel), by decide +kernel⟩
theorem q_128 : (Jvm.Cond.classLink "DroitLine" (185 : Nat) "java/lang/IllegalArgumentException") ∈ wNeed := List.mem_filter.mpr ⟨List.mem_of_getElem? (i := 135) (by decide +kernel), by decide +kernel⟩
theorem q_129 : (Jvm.Cond.instantiable "java/lang/IllegalArgumentException" (6 : Nat)) ∈ wNeed := List.mem_filter.mpr ⟨List.mem_of_getElem? (i := 136) (by decide +kernel), by decide +kernel⟩
theorem q_131 : (Jvm.Cond.selects "java/lang/IllegalArgumentException" ({ cls := "java/lang/Throwable", name := "fillInStackTrace", desc := "(I)Ljava/lang/Throwable;" } : Jvm.MethodName) ({ cls := "java/lang/Throwable", name := "fillInStackTrace", desc := "(I)Ljava/lang/Throwable;" } : Jvm.MethodName)) ∈ wNeed := List.mem_filter.mpr ⟨List.mem_of_getElem? (i := 138) (by decide +kernel), by decide +kernel⟩
theorem q_132 : (Jvm.Cond.lays "java/lang/IllegalArgumentException" "java/lang/Throwable" "cause" "Ljava/lang/Throwable;") ∈ wNeed := List.mem_filter.mpr ⟨List.mem_of_getElem? (i := 139) (by decide +kernel), by decide +kernel⟩
theorem q_133 : (Jvm.Cond.lays "java/lang/IllegalArgumentException" "java/lang/Throwable" "stackTrace" "[Ljava/lang/StackTraceElement;") ∈ wNeed := List.mem_filter.mpr ⟨List.mem_of_getElem? (i := 140) (by decide +kernel), by decide +kernel⟩
theorem q_134 : (Jvm.Cond.lays "java/lang/IllegalArgumentException" "java/lang/Throwable" "suppressedExceptions" "Ljava/util/List;") ∈ wNeed := List.mem_filter.mpr ⟨List.mem_of_getElem? (i := 141) (by decide +kernel), by decide +kernel⟩
theorem q_135 : (Jvm.Cond.lays "java/lang/IllegalArgumentException" "java/lang/Throwable" "detailMessage" "Ljava/lang/String;") ∈ wNeed := List.mem_filter.mpr ⟨List.mem_of_getElem? (i := 142) (by decide +kernel), by decide +kernel⟩
theorem q_136 : (Jvm.Cond.lays "java/lang/IllegalArgumentException" "java/lang/Throwable" "backtrace" "Ljava/lang/Object;") ∈ wNeed := List.mem_filter.mpr ⟨List.mem_of_getElem? (i := 143) (by decide +kernel), by decide +kernel⟩
theorem q_138 : (Jvm.Cond.methodLink "DroitLine" (189 : Nat) ({ cls := "java/lang/IllegalArgumentException", name := "<init>", desc := "(Ljava/lang/String;)V" } : Jvm.MethodName)) ∈ wNeed := List.mem_filter.mpr ⟨List.mem_of_getElem? (i := 145) (by decide +kernel), by decide +kernel⟩
theorem q_139 : (Jvm.Cond.instanceMethod ({ cls := "java/lang/IllegalArgumentException", name := "<init>", desc := "(Ljava/lang/String;)V" } : Jvm.MethodName)) ∈ wNeed := List.mem_filter.mpr ⟨List.mem_of_getElem? (i := 146) (by decide +kernel), by decide +kernel⟩
theorem q_140 : (Jvm.Cond.code ({ cls := "java/lang/IllegalArgumentException", name := "<init>", desc := "(Ljava/lang/String;)V" } : Jvm.MethodName) prog_7_method_2_code (2 : Nat) (Option.none : Option Jvm.ClassFile.FieldType)) ∈ wNeed := List.mem_filter.mpr ⟨List.mem_of_getElem? (i := 147) (by decide +kernel), by decide +kernel⟩
theorem q_141 : (Jvm.Cond.methodLink "java/lang/IllegalArgumentException" (7 : Nat) ({ cls := "java/lang/RuntimeException", name := "<init>", desc := "(Ljava/lang/String;)V" } : Jvm.MethodName)) ∈ wNeed := List.mem_filter.mpr ⟨List.mem_of_getElem? (i := 148) (by decide +kernel), by decide +kernel⟩
theorem q_142 : (Jvm.Cond.lays "java/lang/IllegalArgumentException" "java/lang/Throwable" "depth" "I") ∈ wNeed := List.mem_filter.mpr ⟨List.mem_of_getElem? (i := 149) (by decide +kernel), by decide +kernel⟩
theorem q_143 : (Jvm.Cond.superclass "java/lang/IllegalArgumentException" "java/lang/RuntimeException") ∈ wNeed := List.mem_filter.mpr ⟨List.mem_of_getElem? (i := 150) (by decide +kernel), by decide +kernel⟩
theorem q_144 : (Jvm.Cond.methodLink "DroitLineLaw" (145 : Nat) ({ cls := "DroitLine", name := "rate", desc := "(I)I" } : Jvm.MethodName)) ∈ wNeed := List.mem_filter.mpr ⟨List.mem_of_getElem? (i := 151) (by decide +kernel), by decide +kernel⟩
theorem q_145 : (Jvm.Cond.instanceMethod ({ cls := "DroitLine", name := "rate", desc := "(I)I" } : Jvm.MethodName)) ∈ wNeed := List.mem_filter.mpr ⟨List.mem_of_getElem? (i := 152) (by decide +kernel), by decide +kernel⟩
theorem q_146 : (Jvm.Cond.selects "DroitLine" ({ cls := "DroitLine", name := "rate", desc := "(I)I" } : Jvm.MethodName) ({ cls := "DroitLine", name := "rate", desc := "(I)I" } : Jvm.MethodName)) ∈ wNeed := List.mem_filter.mpr ⟨List.mem_of_getElem? (i := 153) (by decide +kernel), by decide +kernel⟩
theorem q_147 : (Jvm.Cond.code ({ cls := "DroitLine", name := "rate", desc := "(I)I" } : Jvm.MethodName) prog_1_method_14_code (3 : Nat) (Option.some Jvm.ClassFile.FieldType.int)) ∈ wNeed := List.mem_filter.mpr ⟨List.mem_of_getElem? (i := 154) (by decide +kernel), by decide +kernel⟩
theorem q_148 : (Jvm.Cond.methodLink "DroitLineLaw" (8 : Nat) ({ cls := "DroitLineLaw", name := "call", desc := "(I)I" } : Jvm.MethodName)) ∈ wNeed := List.mem_filter.mpr ⟨List.mem_of_getElem? (i := 155) (by decide +kernel), by decide +kernel⟩
theorem q_149 : (Jvm.Cond.static ({ cls := "DroitLineLaw", name := "call", desc := "(I)I" } : Jvm.MethodName)) ∈ wNeed := List.mem_filter.mpr ⟨List.mem_of_getElem? (i := 156) (by decide +kernel), by decide +kernel⟩
theorem q_150 : (Jvm.Cond.code ({ cls := "DroitLineLaw", name := "call", desc := "(I)I" } : Jvm.MethodName) method_2_code (6 : Nat) (Option.some Jvm.ClassFile.FieldType.int)) ∈ wNeed := List.mem_filter.mpr ⟨List.mem_of_getElem? (i := 157) (by decide +kernel), by decide +kernel⟩
theorem q_151 : (Jvm.Cond.constant "DroitLineLaw" (7 : Nat) (2000000 : Int32)) ∈ wNeed := List.mem_filter.mpr ⟨List.mem_of_getElem? (i := 158) (by decide +kernel), by decide +kernel⟩
theorem q_152 : (Jvm.Cond.methodLink "DroitLineLaw" (96 : Nat) ({ cls := "DroitLineLaw", name := "fee", desc := "(I)I" } : Jvm.MethodName)) ∈ wNeed := List.mem_filter.mpr ⟨List.mem_of_getElem? (i := 159) (by decide +kernel), by decide +kernel⟩
theorem q_153 : (Jvm.Cond.static ({ cls := "DroitLineLaw", name := "fee", desc := "(I)I" } : Jvm.MethodName)) ∈ wNeed := List.mem_filter.mpr ⟨List.mem_of_getElem? (i := 160) (by decide +kernel), by decide +kernel⟩
theorem q_154 : (Jvm.Cond.code ({ cls := "DroitLineLaw", name := "fee", desc := "(I)I" } : Jvm.MethodName) method_5_code (1 : Nat) (Option.some Jvm.ClassFile.FieldType.int)) ∈ wNeed := List.mem_filter.mpr ⟨List.mem_of_getElem? (i := 161) (by decide +kernel), by decide +kernel⟩
theorem q_155 : (Jvm.Cond.methodLink "DroitLineLaw" (14 : Nat) ({ cls := "DroitLineLaw", name := "hundredths", desc := "(IIII)I" } : Jvm.MethodName)) ∈ wNeed := List.mem_filter.mpr ⟨List.mem_of_getElem? (i := 162) (by decide +kernel), by decide +kernel⟩
theorem q_156 : (Jvm.Cond.static ({ cls := "DroitLineLaw", name := "hundredths", desc := "(IIII)I" } : Jvm.MethodName)) ∈ wNeed := List.mem_filter.mpr ⟨List.mem_of_getElem? (i := 163) (by decide +kernel), by decide +kernel⟩
theorem q_157 : (Jvm.Cond.code ({ cls := "DroitLineLaw", name := "hundredths", desc := "(IIII)I" } : Jvm.MethodName) method_4_code (5 : Nat) (Option.some Jvm.ClassFile.FieldType.int)) ∈ wNeed := List.mem_filter.mpr ⟨List.mem_of_getElem? (i := 164) (by decide +kernel), by decide +kernel⟩
theorem q_158 : (Jvm.Cond.constant "DroitLineLaw" (18 : Nat) (50000 : Int32)) ∈ wNeed := List.mem_filter.mpr ⟨List.mem_of_getElem? (i := 165) (by decide +kernel), by decide +kernel⟩
theorem q_159 : (Jvm.Cond.methodLink "DroitLineLaw" (87 : Nat) ({ cls := "DroitLineLaw", name := "share", desc := "([II)I" } : Jvm.MethodName)) ∈ wNeed := List.mem_filter.mpr ⟨List.mem_of_getElem? (i := 166) (by decide +kernel), by decide +kernel⟩
theorem q_160 : (Jvm.Cond.static ({ cls := "DroitLineLaw", name := "share", desc := "([II)I" } : Jvm.MethodName)) ∈ wNeed := List.mem_filter.mpr ⟨List.mem_of_getElem? (i := 167) (by decide +kernel), by decide +kernel⟩
theorem q_161 : (Jvm.Cond.code ({ cls := "DroitLineLaw", name := "share", desc := "([II)I" } : Jvm.MethodName) method_6_code (6 : Nat) (Option.some Jvm.ClassFile.FieldType.int)) ∈ wNeed := List.mem_filter.mpr ⟨List.mem_of_getElem? (i := 168) (by decide +kernel), by decide +kernel⟩
theorem q_162 : (Jvm.Cond.constant "DroitLineLaw" (19 : Nat) (200000 : Int32)) ∈ wNeed := List.mem_filter.mpr ⟨List.mem_of_getElem? (i := 169) (by decide +kernel), by decide +kernel⟩
theorem q_163 : (Jvm.Cond.methodLink "DroitLineLaw" (93 : Nat) ({ cls := "DroitLineLaw", name := "interest", desc := "([I[I[II)I" } : Jvm.MethodName)) ∈ wNeed := List.mem_filter.mpr ⟨List.mem_of_getElem? (i := 170) (by decide +kernel), by decide +kernel⟩
theorem q_164 : (Jvm.Cond.static ({ cls := "DroitLineLaw", name := "interest", desc := "([I[I[II)I" } : Jvm.MethodName)) ∈ wNeed := List.mem_filter.mpr ⟨List.mem_of_getElem? (i := 171) (by decide +kernel), by decide +kernel⟩
theorem q_165 : (Jvm.Cond.code ({ cls := "DroitLineLaw", name := "interest", desc := "([I[I[II)I" } : Jvm.MethodName) method_7_code (6 : Nat) (Option.some Jvm.ClassFile.FieldType.int)) ∈ wNeed := List.mem_filter.mpr ⟨List.mem_of_getElem? (i := 172) (by decide +kernel), by decide +kernel⟩
theorem q_166 : (Jvm.Cond.constantLong "DroitLineLaw" (20 : Nat) (100000 : Int64)) ∈ wNeed := List.mem_filter.mpr ⟨List.mem_of_getElem? (i := 173) (by decide +kernel), by decide +kernel⟩
theorem q_167 : (Jvm.Cond.methodLink "DroitLineLaw" (135 : Nat) ({ cls := "DroitLineLaw", name := "falls", desc := "([I[I[I[II)I" } : Jvm.MethodName)) ∈ wNeed := List.mem_filter.mpr ⟨List.mem_of_getElem? (i := 174) (by decide +kernel), by decide +kernel⟩
theorem q_168 : (Jvm.Cond.static ({ cls := "DroitLineLaw", name := "falls", desc := "([I[I[I[II)I" } : Jvm.MethodName)) ∈ wNeed := List.mem_filter.mpr ⟨List.mem_of_getElem? (i := 175) (by decide +kernel), by decide +kernel⟩
theorem q_169 : (Jvm.Cond.code ({ cls := "DroitLineLaw", name := "falls", desc := "([I[I[I[II)I" } : Jvm.MethodName) method_8_code (10 : Nat) (Option.some Jvm.ClassFile.FieldType.int)) ∈ wNeed := List.mem_filter.mpr ⟨List.mem_of_getElem? (i := 176) (by decide +kernel), by decide +kernel⟩
theorem q_170 : (Jvm.Cond.methodLink "DroitLineLaw" (22 : Nat) ({ cls := "DroitLineLaw", name := "next", desc := "(I)I" } : Jvm.MethodName)) ∈ wNeed := List.mem_filter.mpr ⟨List.mem_of_getElem? (i := 177) (by decide +kernel), by decide +kernel⟩
theorem q_171 : (Jvm.Cond.static ({ cls := "DroitLineLaw", name := "next", desc := "(I)I" } : Jvm.MethodName)) ∈ wNeed := List.mem_filter.mpr ⟨List.mem_of_getElem? (i := 178) (by decide +kernel), by decide +kernel⟩
theorem q_172 : (Jvm.Cond.code ({ cls := "DroitLineLaw", name := "next", desc := "(I)I" } : Jvm.MethodName) method_3_code (2 : Nat) (Option.some Jvm.ClassFile.FieldType.int)) ∈ wNeed := List.mem_filter.mpr ⟨List.mem_of_getElem? (i := 179) (by decide +kernel), by decide +kernel⟩
theorem q_173 : (Jvm.Cond.methodLink "DroitLineLaw" (139 : Nat) ({ cls := "DroitLineLaw", name := "clears", desc := "([II)I" } : Jvm.MethodName)) ∈ wNeed := List.mem_filter.mpr ⟨List.mem_of_getElem? (i := 180) (by decide +kernel), by decide +kernel⟩
theorem q_174 : (Jvm.Cond.static ({ cls := "DroitLineLaw", name := "clears", desc := "([II)I" } : Jvm.MethodName)) ∈ wNeed := List.mem_filter.mpr ⟨List.mem_of_getElem? (i := 181) (by decide +kernel), by decide +kernel⟩
theorem q_175 : (Jvm.Cond.code ({ cls := "DroitLineLaw", name := "clears", desc := "([II)I" } : Jvm.MethodName) method_9_code (4 : Nat) (Option.some Jvm.ClassFile.FieldType.int)) ∈ wNeed := List.mem_filter.mpr ⟨List.mem_of_getElem? (i := 182) (by decide +kernel), by decide +kernel⟩
theorem q_176 : (Jvm.Cond.methodLink "DroitLineLaw" (131 : Nat) ({ cls := "DroitLineLaw", name := "does", desc := "(LDroitLine;IIII)I" } : Jvm.MethodName)) ∈ wNeed := List.mem_filter.mpr ⟨List.mem_of_getElem? (i := 183) (by decide +kernel), by decide +kernel⟩
theorem q_177 : (Jvm.Cond.static ({ cls := "DroitLineLaw", name := "does", desc := "(LDroitLine;IIII)I" } : Jvm.MethodName)) ∈ wNeed := List.mem_filter.mpr ⟨List.mem_of_getElem? (i := 184) (by decide +kernel), by decide +kernel⟩
theorem q_178 : (Jvm.Cond.codeWith ({ cls := "DroitLineLaw", name := "does", desc := "(LDroitLine;IIII)I" } : Jvm.MethodName) method_10_code (6 : Nat) (Option.some Jvm.ClassFile.FieldType.int) [((0 : Nat), (132 : Nat), (133 : Nat), (59 : Nat)), ((0 : Nat), (132 : Nat), (138 : Nat), (62 : Nat)), ((0 : Nat), (132 : Nat), (143 : Nat), (65 : Nat))]) ∈ wNeed := List.mem_filter.mpr ⟨List.mem_of_getElem? (i := 185) (by decide +kernel), by decide +kernel⟩
theorem q_179 : (Jvm.Cond.classLink "DroitLineLaw" (59 : Nat) "java/lang/IndexOutOfBoundsException") ∈ wNeed := List.mem_filter.mpr ⟨List.mem_of_getElem? (i := 186) (by decide +kernel), by decide +kernel⟩
theorem q_180 : (Jvm.Cond.classLink "DroitLineLaw" (62 : Nat) "java/lang/IllegalArgumentException") ∈ wNeed := List.mem_filter.mpr ⟨List.mem_of_getElem? (i := 187) (by decide +kernel), by decide +kernel⟩
theorem q_181 : (Jvm.Cond.classLink "DroitLineLaw" (65 : Nat) "java/lang/IllegalStateException") ∈ wNeed := List.mem_filter.mpr ⟨List.mem_of_getElem? (i := 188) (by decide +kernel), by decide +kernel⟩
theorem q_182 : (Jvm.Cond.methodLink "DroitLineLaw" (25 : Nat) ({ cls := "DroitLine", name := "lot", desc := "(III)I" } : Jvm.MethodName)) ∈ wNeed := List.mem_filter.mpr ⟨List.mem_of_getElem? (i := 189) (by decide +kernel), by decide +kernel⟩
theorem q_183 : (Jvm.Cond.instanceMethod ({ cls := "DroitLine", name := "lot", desc := "(III)I" } : Jvm.MethodName)) ∈ wNeed := List.mem_filter.mpr ⟨List.mem_of_getElem? (i := 190) (by decide +kernel), by decide +kernel⟩
theorem q_184 : (Jvm.Cond.selects "DroitLine" ({ cls := "DroitLine", name := "lot", desc := "(III)I" } : Jvm.MethodName) ({ cls := "DroitLine", name := "lot", desc := "(III)I" } : Jvm.MethodName)) ∈ wNeed := List.mem_filter.mpr ⟨List.mem_of_getElem? (i := 191) (by decide +kernel), by decide +kernel⟩
theorem q_185 : (Jvm.Cond.code ({ cls := "DroitLine", name := "lot", desc := "(III)I" } : Jvm.MethodName) prog_1_method_2_code (5 : Nat) (Option.some Jvm.ClassFile.FieldType.int)) ∈ wNeed := List.mem_filter.mpr ⟨List.mem_of_getElem? (i := 192) (by decide +kernel), by decide +kernel⟩
theorem q_186 : (Jvm.Cond.constant "DroitLine" (30 : Nat) (1000000 : Int32)) ∈ wNeed := List.mem_filter.mpr ⟨List.mem_of_getElem? (i := 193) (by decide +kernel), by decide +kernel⟩
theorem q_187 : (Jvm.Cond.methodLink "DroitLine" (35 : Nat) ({ cls := "DroitLine", name := "checkArtist", desc := "(I)V" } : Jvm.MethodName)) ∈ wNeed := List.mem_filter.mpr ⟨List.mem_of_getElem? (i := 194) (by decide +kernel), by decide +kernel⟩
theorem q_188 : (Jvm.Cond.static ({ cls := "DroitLine", name := "checkArtist", desc := "(I)V" } : Jvm.MethodName)) ∈ wNeed := List.mem_filter.mpr ⟨List.mem_of_getElem? (i := 195) (by decide +kernel), by decide +kernel⟩
theorem q_189 : (Jvm.Cond.code ({ cls := "DroitLine", name := "checkArtist", desc := "(I)V" } : Jvm.MethodName) prog_1_method_33_code (1 : Nat) (Option.none : Option Jvm.ClassFile.FieldType)) ∈ wNeed := List.mem_filter.mpr ⟨List.mem_of_getElem? (i := 196) (by decide +kernel), by decide +kernel⟩
theorem q_190 : (Jvm.Cond.classLink "DroitLine" (41 : Nat) "java/lang/IllegalStateException") ∈ wNeed := List.mem_filter.mpr ⟨List.mem_of_getElem? (i := 197) (by decide +kernel), by decide +kernel⟩
theorem q_191 : (Jvm.Cond.instantiable "java/lang/IllegalStateException" (6 : Nat)) ∈ wNeed := List.mem_filter.mpr ⟨List.mem_of_getElem? (i := 198) (by decide +kernel), by decide +kernel⟩
theorem q_193 : (Jvm.Cond.selects "java/lang/IllegalStateException" ({ cls := "java/lang/Throwable", name := "fillInStackTrace", desc := "(I)Ljava/lang/Throwable;" } : Jvm.MethodName) ({ cls := "java/lang/Throwable", name := "fillInStackTrace", desc := "(I)Ljava/lang/Throwable;" } : Jvm.MethodName)) ∈ wNeed := List.mem_filter.mpr ⟨List.mem_of_getElem? (i := 200) (by decide +kernel), by decide +kernel⟩
theorem q_194 : (Jvm.Cond.lays "java/lang/IllegalStateException" "java/lang/Throwable" "cause" "Ljava/lang/Throwable;") ∈ wNeed := List.mem_filter.mpr ⟨List.mem_of_getElem? (i := 201) (by decide +kernel), by decide +kernel⟩
theorem q_195 : (Jvm.Cond.lays "java/lang/IllegalStateException" "java/lang/Throwable" "stackTrace" "[Ljava/lang/StackTraceElement;") ∈ wNeed := List.mem_filter.mpr ⟨List.mem_of_getElem? (i := 202) (by decide +kernel), by decide +kernel⟩
theorem q_196 : (Jvm.Cond.lays "java/lang/IllegalStateException" "java/lang/Throwable" "suppressedExceptions" "Ljava/util/List;") ∈ wNeed := List.mem_filter.mpr ⟨List.mem_of_getElem? (i := 203) (by decide +kernel), by decide +kernel⟩
theorem q_197 : (Jvm.Cond.lays "java/lang/IllegalStateException" "java/lang/Throwable" "detailMessage" "Ljava/lang/String;") ∈ wNeed := List.mem_filter.mpr ⟨List.mem_of_getElem? (i := 204) (by decide +kernel), by decide +kernel⟩
theorem q_198 : (Jvm.Cond.lays "java/lang/IllegalStateException" "java/lang/Throwable" "backtrace" "Ljava/lang/Object;") ∈ wNeed := List.mem_filter.mpr ⟨List.mem_of_getElem? (i := 205) (by decide +kernel), by decide +kernel⟩
theorem q_200 : (Jvm.Cond.methodLink "DroitLine" (45 : Nat) ({ cls := "java/lang/IllegalStateException", name := "<init>", desc := "(Ljava/lang/String;)V" } : Jvm.MethodName)) ∈ wNeed := List.mem_filter.mpr ⟨List.mem_of_getElem? (i := 207) (by decide +kernel), by decide +kernel⟩
theorem q_201 : (Jvm.Cond.instanceMethod ({ cls := "java/lang/IllegalStateException", name := "<init>", desc := "(Ljava/lang/String;)V" } : Jvm.MethodName)) ∈ wNeed := List.mem_filter.mpr ⟨List.mem_of_getElem? (i := 208) (by decide +kernel), by decide +kernel⟩
theorem q_202 : (Jvm.Cond.code ({ cls := "java/lang/IllegalStateException", name := "<init>", desc := "(Ljava/lang/String;)V" } : Jvm.MethodName) prog_8_method_2_code (2 : Nat) (Option.none : Option Jvm.ClassFile.FieldType)) ∈ wNeed := List.mem_filter.mpr ⟨List.mem_of_getElem? (i := 209) (by decide +kernel), by decide +kernel⟩
theorem q_203 : (Jvm.Cond.methodLink "java/lang/IllegalStateException" (7 : Nat) ({ cls := "java/lang/RuntimeException", name := "<init>", desc := "(Ljava/lang/String;)V" } : Jvm.MethodName)) ∈ wNeed := List.mem_filter.mpr ⟨List.mem_of_getElem? (i := 210) (by decide +kernel), by decide +kernel⟩
theorem q_204 : (Jvm.Cond.lays "java/lang/IllegalStateException" "java/lang/Throwable" "depth" "I") ∈ wNeed := List.mem_filter.mpr ⟨List.mem_of_getElem? (i := 211) (by decide +kernel), by decide +kernel⟩
theorem q_205 : (Jvm.Cond.superclass "java/lang/IllegalStateException" "java/lang/RuntimeException") ∈ wNeed := List.mem_filter.mpr ⟨List.mem_of_getElem? (i := 212) (by decide +kernel), by decide +kernel⟩
theorem q_206 : (Jvm.Cond.instantiable "DroitLine$Lot" (13 : Nat)) ∈ wNeed := List.mem_filter.mpr ⟨List.mem_of_getElem? (i := 213) (by decide +kernel), by decide +kernel⟩
theorem q_207 : (Jvm.Cond.methodLink "DroitLine" (48 : Nat) ({ cls := "DroitLine", name := "calledAmount", desc := "(I)I" } : Jvm.MethodName)) ∈ wNeed := List.mem_filter.mpr ⟨List.mem_of_getElem? (i := 214) (by decide +kernel), by decide +kernel⟩
theorem q_208 : (Jvm.Cond.static ({ cls := "DroitLine", name := "calledAmount", desc := "(I)I" } : Jvm.MethodName)) ∈ wNeed := List.mem_filter.mpr ⟨List.mem_of_getElem? (i := 215) (by decide +kernel), by decide +kernel⟩
theorem q_209 : (Jvm.Cond.code ({ cls := "DroitLine", name := "calledAmount", desc := "(I)I" } : Jvm.MethodName) prog_1_method_36_code (2 : Nat) (Option.some Jvm.ClassFile.FieldType.int)) ∈ wNeed := List.mem_filter.mpr ⟨List.mem_of_getElem? (i := 216) (by decide +kernel), by decide +kernel⟩
theorem q_210 : (Jvm.Cond.methodLink "DroitLine" (192 : Nat) ({ cls := "DroitLine", name := "stepOf", desc := "(I)I" } : Jvm.MethodName)) ∈ wNeed := List.mem_filter.mpr ⟨List.mem_of_getElem? (i := 217) (by decide +kernel), by decide +kernel⟩
theorem q_211 : (Jvm.Cond.static ({ cls := "DroitLine", name := "stepOf", desc := "(I)I" } : Jvm.MethodName)) ∈ wNeed := List.mem_filter.mpr ⟨List.mem_of_getElem? (i := 218) (by decide +kernel), by decide +kernel⟩
theorem q_212 : (Jvm.Cond.code ({ cls := "DroitLine", name := "stepOf", desc := "(I)I" } : Jvm.MethodName) prog_1_method_35_code (1 : Nat) (Option.some Jvm.ClassFile.FieldType.int)) ∈ wNeed := List.mem_filter.mpr ⟨List.mem_of_getElem? (i := 219) (by decide +kernel), by decide +kernel⟩
theorem q_213 : (Jvm.Cond.methodLink "DroitLine" (52 : Nat) ({ cls := "DroitLine$Lot", name := "<init>", desc := "(III)V" } : Jvm.MethodName)) ∈ wNeed := List.mem_filter.mpr ⟨List.mem_of_getElem? (i := 220) (by decide +kernel), by decide +kernel⟩
theorem q_214 : (Jvm.Cond.instanceMethod ({ cls := "DroitLine$Lot", name := "<init>", desc := "(III)V" } : Jvm.MethodName)) ∈ wNeed := List.mem_filter.mpr ⟨List.mem_of_getElem? (i := 221) (by decide +kernel), by decide +kernel⟩
theorem q_215 : (Jvm.Cond.code ({ cls := "DroitLine$Lot", name := "<init>", desc := "(III)V" } : Jvm.MethodName) prog_2_method_1_code (4 : Nat) (Option.none : Option Jvm.ClassFile.FieldType)) ∈ wNeed := List.mem_filter.mpr ⟨List.mem_of_getElem? (i := 222) (by decide +kernel), by decide +kernel⟩
theorem q_216 : (Jvm.Cond.methodLink "DroitLine$Lot" (3 : Nat) ({ cls := "java/lang/Object", name := "<init>", desc := "()V" } : Jvm.MethodName)) ∈ wNeed := List.mem_filter.mpr ⟨List.mem_of_getElem? (i := 223) (by decide +kernel), by decide +kernel⟩
theorem q_217 : (Jvm.Cond.classLink "DroitLine$Lot" (21 : Nat) "DroitLine$Offers") ∈ wNeed := List.mem_filter.mpr ⟨List.mem_of_getElem? (i := 224) (by decide +kernel), by decide +kernel⟩
theorem q_218 : (Jvm.Cond.instantiable "DroitLine$Offers" (3 : Nat)) ∈ wNeed := List.mem_filter.mpr ⟨List.mem_of_getElem? (i := 225) (by decide +kernel), by decide +kernel⟩
theorem q_220 : (Jvm.Cond.instanceMethod ({ cls := "DroitLine$Offers", name := "<init>", desc := "()V" } : Jvm.MethodName)) ∈ wNeed := List.mem_filter.mpr ⟨List.mem_of_getElem? (i := 227) (by decide +kernel), by decide +kernel⟩
theorem q_221 : (Jvm.Cond.code ({ cls := "DroitLine$Offers", name := "<init>", desc := "()V" } : Jvm.MethodName) prog_3_method_1_code (1 : Nat) (Option.none : Option Jvm.ClassFile.FieldType)) ∈ wNeed := List.mem_filter.mpr ⟨List.mem_of_getElem? (i := 228) (by decide +kernel), by decide +kernel⟩
theorem q_222 : (Jvm.Cond.methodLink "DroitLine$Offers" (3 : Nat) ({ cls := "java/lang/Object", name := "<init>", desc := "()V" } : Jvm.MethodName)) ∈ wNeed := List.mem_filter.mpr ⟨List.mem_of_getElem? (i := 229) (by decide +kernel), by decide +kernel⟩
theorem q_223 : (Jvm.Cond.fieldLink "DroitLine$Offers" (9 : Nat) "DroitLine$Offers" "buyers" "[I") ∈ wNeed := List.mem_filter.mpr ⟨List.mem_of_getElem? (i := 230) (by decide +kernel), by decide +kernel⟩
theorem q_224 : (Jvm.Cond.fieldLink "DroitLine$Offers" (15 : Nat) "DroitLine$Offers" "amounts" "[I") ∈ wNeed := List.mem_filter.mpr ⟨List.mem_of_getElem? (i := 231) (by decide +kernel), by decide +kernel⟩
theorem q_225 : (Jvm.Cond.fieldLink "DroitLine$Offers" (18 : Nat) "DroitLine$Offers" "count" "I") ∈ wNeed := List.mem_filter.mpr ⟨List.mem_of_getElem? (i := 232) (by decide +kernel), by decide +kernel⟩
theorem q_228 : (Jvm.Cond.laysFinal "DroitLine$Offers" "DroitLine$Offers" "buyers" "[I") ∈ wNeed := List.mem_filter.mpr ⟨List.mem_of_getElem? (i := 235) (by decide +kernel), by decide +kernel⟩
theorem q_230 : (Jvm.Cond.laysFinal "DroitLine$Offers" "DroitLine$Offers" "amounts" "[I") ∈ wNeed := List.mem_filter.mpr ⟨List.mem_of_getElem? (i := 237) (by decide +kernel), by decide +kernel⟩
theorem q_232 : (Jvm.Cond.lays "DroitLine$Offers" "DroitLine$Offers" "count" "I") ∈ wNeed := List.mem_filter.mpr ⟨List.mem_of_getElem? (i := 239) (by decide +kernel), by decide +kernel⟩
theorem q_234 : (Jvm.Cond.superclass "DroitLine$Offers" "java/lang/Object") ∈ wNeed := List.mem_filter.mpr ⟨List.mem_of_getElem? (i := 241) (by decide +kernel), by decide +kernel⟩
theorem q_235 : (Jvm.Cond.fieldLink "DroitLine$Lot" (9 : Nat) "DroitLine$Lot" "seller" "I") ∈ wNeed := List.mem_filter.mpr ⟨List.mem_of_getElem? (i := 242) (by decide +kernel), by decide +kernel⟩
theorem q_237 : (Jvm.Cond.fieldLink "DroitLine$Lot" (15 : Nat) "DroitLine$Lot" "artist" "I") ∈ wNeed := List.mem_filter.mpr ⟨List.mem_of_getElem? (i := 244) (by decide +kernel), by decide +kernel⟩
theorem q_239 : (Jvm.Cond.fieldLink "DroitLine$Lot" (24 : Nat) "DroitLine$Lot" "offers" "LDroitLine$Offers;") ∈ wNeed := List.mem_filter.mpr ⟨List.mem_of_getElem? (i := 246) (by decide +kernel), by decide +kernel⟩
theorem q_241 : (Jvm.Cond.fieldLink "DroitLine$Lot" (18 : Nat) "DroitLine$Lot" "reserve" "I") ∈ wNeed := List.mem_filter.mpr ⟨List.mem_of_getElem? (i := 248) (by decide +kernel), by decide +kernel⟩
theorem q_243 : (Jvm.Cond.fieldLink "DroitLine$Lot" (28 : Nat) "DroitLine$Lot" "state" "I") ∈ wNeed := List.mem_filter.mpr ⟨List.mem_of_getElem? (i := 250) (by decide +kernel), by decide +kernel⟩
theorem q_245 : (Jvm.Cond.fieldLink "DroitLine$Lot" (31 : Nat) "DroitLine$Lot" "winner" "I") ∈ wNeed := List.mem_filter.mpr ⟨List.mem_of_getElem? (i := 252) (by decide +kernel), by decide +kernel⟩
theorem q_247 : (Jvm.Cond.fieldLink "DroitLine$Lot" (34 : Nat) "DroitLine$Lot" "hammerPrice" "I") ∈ wNeed := List.mem_filter.mpr ⟨List.mem_of_getElem? (i := 254) (by decide +kernel), by decide +kernel⟩
theorem q_250 : (Jvm.Cond.fieldLink "DroitLine$Lot" (37 : Nat) "DroitLine$Lot" "gapBuyer" "I") ∈ wNeed := List.mem_filter.mpr ⟨List.mem_of_getElem? (i := 257) (by decide +kernel), by decide +kernel⟩
theorem q_253 : (Jvm.Cond.fieldLink "DroitLine$Lot" (43 : Nat) "DroitLine$Lot" "advanced" "I") ∈ wNeed := List.mem_filter.mpr ⟨List.mem_of_getElem? (i := 260) (by decide +kernel), by decide +kernel⟩
theorem q_257 : (Jvm.Cond.laysFinal "DroitLine$Lot" "DroitLine$Lot" "seller" "I") ∈ wNeed := List.mem_filter.mpr ⟨List.mem_of_getElem? (i := 264) (by decide +kernel), by decide +kernel⟩
theorem q_259 : (Jvm.Cond.laysFinal "DroitLine$Lot" "DroitLine$Lot" "artist" "I") ∈ wNeed := List.mem_filter.mpr ⟨List.mem_of_getElem? (i := 266) (by decide +kernel), by decide +kernel⟩
theorem q_261 : (Jvm.Cond.laysFinal "DroitLine$Lot" "DroitLine$Lot" "offers" "LDroitLine$Offers;") ∈ wNeed := List.mem_filter.mpr ⟨List.mem_of_getElem? (i := 268) (by decide +kernel), by decide +kernel⟩
theorem q_263 : (Jvm.Cond.lays "DroitLine$Lot" "DroitLine$Lot" "reserve" "I") ∈ wNeed := List.mem_filter.mpr ⟨List.mem_of_getElem? (i := 270) (by decide +kernel), by decide +kernel⟩
theorem q_265 : (Jvm.Cond.lays "DroitLine$Lot" "DroitLine$Lot" "state" "I") ∈ wNeed := List.mem_filter.mpr ⟨List.mem_of_getElem? (i := 272) (by decide +kernel), by decide +kernel⟩
theorem q_267 : (Jvm.Cond.lays "DroitLine$Lot" "DroitLine$Lot" "winner" "I") ∈ wNeed := List.mem_filter.mpr ⟨List.mem_of_getElem? (i := 274) (by decide +kernel), by decide +kernel⟩
theorem q_269 : (Jvm.Cond.lays "DroitLine$Lot" "DroitLine$Lot" "hammerPrice" "I") ∈ wNeed := List.mem_filter.mpr ⟨List.mem_of_getElem? (i := 276) (by decide +kernel), by decide +kernel⟩
theorem q_271 : (Jvm.Cond.lays "DroitLine$Lot" "DroitLine$Lot" "saleYear" "I") ∈ wNeed := List.mem_filter.mpr ⟨List.mem_of_getElem? (i := 278) (by decide +kernel), by decide +kernel⟩
theorem q_273 : (Jvm.Cond.lays "DroitLine$Lot" "DroitLine$Lot" "gapBuyer" "I") ∈ wNeed := List.mem_filter.mpr ⟨List.mem_of_getElem? (i := 280) (by decide +kernel), by decide +kernel⟩
theorem q_275 : (Jvm.Cond.lays "DroitLine$Lot" "DroitLine$Lot" "gapPrice" "I") ∈ wNeed := List.mem_filter.mpr ⟨List.mem_of_getElem? (i := 282) (by decide +kernel), by decide +kernel⟩
theorem q_277 : (Jvm.Cond.lays "DroitLine$Lot" "DroitLine$Lot" "advanced" "I") ∈ wNeed := List.mem_filter.mpr ⟨List.mem_of_getElem? (i := 284) (by decide +kernel), by decide +kernel⟩
theorem q_279 : (Jvm.Cond.lays "DroitLine$Lot" "DroitLine$Lot" "advanceDay" "I") ∈ wNeed := List.mem_filter.mpr ⟨List.mem_of_getElem? (i := 286) (by decide +kernel), by decide +kernel⟩
theorem q_281 : (Jvm.Cond.lays "DroitLine$Lot" "DroitLine$Lot" "interestAtSettling" "I") ∈ wNeed := List.mem_filter.mpr ⟨List.mem_of_getElem? (i := 288) (by decide +kernel), by decide +kernel⟩
theorem q_283 : (Jvm.Cond.superclass "DroitLine$Lot" "java/lang/Object") ∈ wNeed := List.mem_filter.mpr ⟨List.mem_of_getElem? (i := 290) (by decide +kernel), by decide +kernel⟩
theorem q_284 : (Jvm.Cond.methodLink "DroitLineLaw" (31 : Nat) ({ cls := "DroitLine", name := "bid", desc := "(III)I" } : Jvm.MethodName)) ∈ wNeed := List.mem_filter.mpr ⟨List.mem_of_getElem? (i := 291) (by decide +kernel), by decide +kernel⟩
theorem q_285 : (Jvm.Cond.instanceMethod ({ cls := "DroitLine", name := "bid", desc := "(III)I" } : Jvm.MethodName)) ∈ wNeed := List.mem_filter.mpr ⟨List.mem_of_getElem? (i := 292) (by decide +kernel), by decide +kernel⟩
theorem q_286 : (Jvm.Cond.selects "DroitLine" ({ cls := "DroitLine", name := "bid", desc := "(III)I" } : Jvm.MethodName) ({ cls := "DroitLine", name := "bid", desc := "(III)I" } : Jvm.MethodName)) ∈ wNeed := List.mem_filter.mpr ⟨List.mem_of_getElem? (i := 293) (by decide +kernel), by decide +kernel⟩
theorem q_287 : (Jvm.Cond.code ({ cls := "DroitLine", name := "bid", desc := "(III)I" } : Jvm.MethodName) prog_1_method_3_code (6 : Nat) (Option.some Jvm.ClassFile.FieldType.int)) ∈ wNeed := List.mem_filter.mpr ⟨List.mem_of_getElem? (i := 294) (by decide +kernel), by decide +kernel⟩
theorem q_288 : (Jvm.Cond.methodLink "DroitLine" (54 : Nat) ({ cls := "DroitLine", name := "findLot", desc := "(I)LDroitLine$Lot;" } : Jvm.MethodName)) ∈ wNeed := List.mem_filter.mpr ⟨List.mem_of_getElem? (i := 295) (by decide +kernel), by decide +kernel⟩
theorem q_290 : (Jvm.Cond.instanceMethod ({ cls := "DroitLine", name := "findLot", desc := "(I)LDroitLine$Lot;" } : Jvm.MethodName)) ∈ wNeed := List.mem_filter.mpr ⟨List.mem_of_getElem? (i := 297) (by decide +kernel), by decide +kernel⟩
theorem q_291 : (Jvm.Cond.code ({ cls := "DroitLine", name := "findLot", desc := "(I)LDroitLine$Lot;" } : Jvm.MethodName) prog_1_method_29_code (3 : Nat) (Option.some (Jvm.ClassFile.FieldType.object "DroitLine$Lot"))) ∈ wNeed := List.mem_filter.mpr ⟨List.mem_of_getElem? (i := 298) (by decide +kernel), by decide +kernel⟩
theorem q_293 : (Jvm.Cond.methodLink "DroitLine" (58 : Nat) ({ cls := "DroitLine", name := "checkBuyer", desc := "(I)V" } : Jvm.MethodName)) ∈ wNeed := List.mem_filter.mpr ⟨List.mem_of_getElem? (i := 300) (by decide +kernel), by decide +kernel⟩
theorem q_294 : (Jvm.Cond.static ({ cls := "DroitLine", name := "checkBuyer", desc := "(I)V" } : Jvm.MethodName)) ∈ wNeed := List.mem_filter.mpr ⟨List.mem_of_getElem? (i := 301) (by decide +kernel), by decide +kernel⟩
theorem q_295 : (Jvm.Cond.code ({ cls := "DroitLine", name := "checkBuyer", desc := "(I)V" } : Jvm.MethodName) prog_1_method_31_code (1 : Nat) (Option.none : Option Jvm.ClassFile.FieldType)) ∈ wNeed := List.mem_filter.mpr ⟨List.mem_of_getElem? (i := 302) (by decide +kernel), by decide +kernel⟩
theorem q_297 : (Jvm.Cond.methodLink "DroitLine" (61 : Nat) ({ cls := "DroitLine", name := "checkState", desc := "(LDroitLine$Lot;I)V" } : Jvm.MethodName)) ∈ wNeed := List.mem_filter.mpr ⟨List.mem_of_getElem? (i := 304) (by decide +kernel), by decide +kernel⟩
theorem q_298 : (Jvm.Cond.static ({ cls := "DroitLine", name := "checkState", desc := "(LDroitLine$Lot;I)V" } : Jvm.MethodName)) ∈ wNeed := List.mem_filter.mpr ⟨List.mem_of_getElem? (i := 305) (by decide +kernel), by decide +kernel⟩
theorem q_299 : (Jvm.Cond.code ({ cls := "DroitLine", name := "checkState", desc := "(LDroitLine$Lot;I)V" } : Jvm.MethodName) prog_1_method_34_code (2 : Nat) (Option.none : Option Jvm.ClassFile.FieldType)) ∈ wNeed := List.mem_filter.mpr ⟨List.mem_of_getElem? (i := 306) (by decide +kernel), by decide +kernel⟩
theorem q_301 : (Jvm.Cond.methodLink "DroitLine" (69 : Nat) ({ cls := "DroitLine$Offers", name := "leave", desc := "(II)V" } : Jvm.MethodName)) ∈ wNeed := List.mem_filter.mpr ⟨List.mem_of_getElem? (i := 308) (by decide +kernel), by decide +kernel⟩
theorem q_302 : (Jvm.Cond.instanceMethod ({ cls := "DroitLine$Offers", name := "leave", desc := "(II)V" } : Jvm.MethodName)) ∈ wNeed := List.mem_filter.mpr ⟨List.mem_of_getElem? (i := 309) (by decide +kernel), by decide +kernel⟩
theorem q_303 : (Jvm.Cond.selects "DroitLine$Offers" ({ cls := "DroitLine$Offers", name := "leave", desc := "(II)V" } : Jvm.MethodName) ({ cls := "DroitLine$Offers", name := "leave", desc := "(II)V" } : Jvm.MethodName)) ∈ wNeed := List.mem_filter.mpr ⟨List.mem_of_getElem? (i := 310) (by decide +kernel), by decide +kernel⟩
theorem q_304 : (Jvm.Cond.code ({ cls := "DroitLine$Offers", name := "leave", desc := "(II)V" } : Jvm.MethodName) prog_3_method_2_code (4 : Nat) (Option.none : Option Jvm.ClassFile.FieldType)) ∈ wNeed := List.mem_filter.mpr ⟨List.mem_of_getElem? (i := 311) (by decide +kernel), by decide +kernel⟩
theorem q_305 : (Jvm.Cond.methodLink "DroitLine$Offers" (22 : Nat) ({ cls := "DroitLine$Offers", name := "buyerAt", desc := "(I)I" } : Jvm.MethodName)) ∈ wNeed := List.mem_filter.mpr ⟨List.mem_of_getElem? (i := 312) (by decide +kernel), by decide +kernel⟩
theorem q_306 : (Jvm.Cond.instanceMethod ({ cls := "DroitLine$Offers", name := "buyerAt", desc := "(I)I" } : Jvm.MethodName)) ∈ wNeed := List.mem_filter.mpr ⟨List.mem_of_getElem? (i := 313) (by decide +kernel), by decide +kernel⟩
theorem q_307 : (Jvm.Cond.selects "DroitLine$Offers" ({ cls := "DroitLine$Offers", name := "buyerAt", desc := "(I)I" } : Jvm.MethodName) ({ cls := "DroitLine$Offers", name := "buyerAt", desc := "(I)I" } : Jvm.MethodName)) ∈ wNeed := List.mem_filter.mpr ⟨List.mem_of_getElem? (i := 314) (by decide +kernel), by decide +kernel⟩
theorem q_308 : (Jvm.Cond.code ({ cls := "DroitLine$Offers", name := "buyerAt", desc := "(I)I" } : Jvm.MethodName) prog_3_method_3_code (2 : Nat) (Option.some Jvm.ClassFile.FieldType.int)) ∈ wNeed := List.mem_filter.mpr ⟨List.mem_of_getElem? (i := 315) (by decide +kernel), by decide +kernel⟩
theorem q_309 : (Jvm.Cond.methodLink "DroitLine$Offers" (26 : Nat) ({ cls := "java/lang/Math", name := "max", desc := "(II)I" } : Jvm.MethodName)) ∈ wNeed := List.mem_filter.mpr ⟨List.mem_of_getElem? (i := 316) (by decide +kernel), by decide +kernel⟩
theorem q_310 : (Jvm.Cond.static ({ cls := "java/lang/Math", name := "max", desc := "(II)I" } : Jvm.MethodName)) ∈ wNeed := List.mem_filter.mpr ⟨List.mem_of_getElem? (i := 317) (by decide +kernel), by decide +kernel⟩
theorem q_311 : (Jvm.Cond.code ({ cls := "java/lang/Math", name := "max", desc := "(II)I" } : Jvm.MethodName) prog_10_method_65_code (2 : Nat) (Option.some Jvm.ClassFile.FieldType.int)) ∈ wNeed := List.mem_filter.mpr ⟨List.mem_of_getElem? (i := 318) (by decide +kernel), by decide +kernel⟩
theorem q_312 : (Jvm.Cond.methodLink "DroitLineLaw" (34 : Nat) ({ cls := "DroitLine", name := "hammer", desc := "(I)I" } : Jvm.MethodName)) ∈ wNeed := List.mem_filter.mpr ⟨List.mem_of_getElem? (i := 319) (by decide +kernel), by decide +kernel⟩
theorem q_313 : (Jvm.Cond.instanceMethod ({ cls := "DroitLine", name := "hammer", desc := "(I)I" } : Jvm.MethodName)) ∈ wNeed := List.mem_filter.mpr ⟨List.mem_of_getElem? (i := 320) (by decide +kernel), by decide +kernel⟩
theorem q_314 : (Jvm.Cond.selects "DroitLine" ({ cls := "DroitLine", name := "hammer", desc := "(I)I" } : Jvm.MethodName) ({ cls := "DroitLine", name := "hammer", desc := "(I)I" } : Jvm.MethodName)) ∈ wNeed := List.mem_filter.mpr ⟨List.mem_of_getElem? (i := 321) (by decide +kernel), by decide +kernel⟩
theorem q_315 : (Jvm.Cond.code ({ cls := "DroitLine", name := "hammer", desc := "(I)I" } : Jvm.MethodName) prog_1_method_4_code (6 : Nat) (Option.some Jvm.ClassFile.FieldType.int)) ∈ wNeed := List.mem_filter.mpr ⟨List.mem_of_getElem? (i := 322) (by decide +kernel), by decide +kernel⟩
theorem q_316 : (Jvm.Cond.methodLink "DroitLine" (75 : Nat) ({ cls := "DroitLine$Offers", name := "placeOfBest", desc := "()I" } : Jvm.MethodName)) ∈ wNeed := List.mem_filter.mpr ⟨List.mem_of_getElem? (i := 323) (by decide +kernel), by decide +kernel⟩
theorem q_317 : (Jvm.Cond.instanceMethod ({ cls := "DroitLine$Offers", name := "placeOfBest", desc := "()I" } : Jvm.MethodName)) ∈ wNeed := List.mem_filter.mpr ⟨List.mem_of_getElem? (i := 324) (by decide +kernel), by decide +kernel⟩
theorem q_318 : (Jvm.Cond.selects "DroitLine$Offers" ({ cls := "DroitLine$Offers", name := "placeOfBest", desc := "()I" } : Jvm.MethodName) ({ cls := "DroitLine$Offers", name := "placeOfBest", desc := "()I" } : Jvm.MethodName)) ∈ wNeed := List.mem_filter.mpr ⟨List.mem_of_getElem? (i := 325) (by decide +kernel), by decide +kernel⟩
theorem q_319 : (Jvm.Cond.code ({ cls := "DroitLine$Offers", name := "placeOfBest", desc := "()I" } : Jvm.MethodName) prog_3_method_5_code (3 : Nat) (Option.some Jvm.ClassFile.FieldType.int)) ∈ wNeed := List.mem_filter.mpr ⟨List.mem_of_getElem? (i := 326) (by decide +kernel), by decide +kernel⟩
theorem q_320 : (Jvm.Cond.methodLink "DroitLine$Offers" (32 : Nat) ({ cls := "DroitLine$Offers", name := "amountAt", desc := "(I)I" } : Jvm.MethodName)) ∈ wNeed := List.mem_filter.mpr ⟨List.mem_of_getElem? (i := 327) (by decide +kernel), by decide +kernel⟩
theorem q_321 : (Jvm.Cond.instanceMethod ({ cls := "DroitLine$Offers", name := "amountAt", desc := "(I)I" } : Jvm.MethodName)) ∈ wNeed := List.mem_filter.mpr ⟨List.mem_of_getElem? (i := 328) (by decide +kernel), by decide +kernel⟩
theorem q_322 : (Jvm.Cond.selects "DroitLine$Offers" ({ cls := "DroitLine$Offers", name := "amountAt", desc := "(I)I" } : Jvm.MethodName) ({ cls := "DroitLine$Offers", name := "amountAt", desc := "(I)I" } : Jvm.MethodName)) ∈ wNeed := List.mem_filter.mpr ⟨List.mem_of_getElem? (i := 329) (by decide +kernel), by decide +kernel⟩
theorem q_323 : (Jvm.Cond.code ({ cls := "DroitLine$Offers", name := "amountAt", desc := "(I)I" } : Jvm.MethodName) prog_3_method_4_code (2 : Nat) (Option.some Jvm.ClassFile.FieldType.int)) ∈ wNeed := List.mem_filter.mpr ⟨List.mem_of_getElem? (i := 330) (by decide +kernel), by decide +kernel⟩
theorem q_324 : (Jvm.Cond.methodLink "DroitLine" (79 : Nat) ({ cls := "DroitLine$Offers", name := "amountAt", desc := "(I)I" } : Jvm.MethodName)) ∈ wNeed := List.mem_filter.mpr ⟨List.mem_of_getElem? (i := 331) (by decide +kernel), by decide +kernel⟩
theorem q_325 : (Jvm.Cond.methodLink "DroitLine" (88 : Nat) ({ cls := "DroitLine$Offers", name := "buyerAt", desc := "(I)I" } : Jvm.MethodName)) ∈ wNeed := List.mem_filter.mpr ⟨List.mem_of_getElem? (i := 332) (by decide +kernel), by decide +kernel⟩
theorem q_326 : (Jvm.Cond.methodLink "DroitLine" (94 : Nat) ({ cls := "DroitLine$Offers", name := "highestBeside", desc := "(I)I" } : Jvm.MethodName)) ∈ wNeed := List.mem_filter.mpr ⟨List.mem_of_getElem? (i := 333) (by decide +kernel), by decide +kernel⟩
theorem q_327 : (Jvm.Cond.instanceMethod ({ cls := "DroitLine$Offers", name := "highestBeside", desc := "(I)I" } : Jvm.MethodName)) ∈ wNeed := List.mem_filter.mpr ⟨List.mem_of_getElem? (i := 334) (by decide +kernel), by decide +kernel⟩
theorem q_328 : (Jvm.Cond.selects "DroitLine$Offers" ({ cls := "DroitLine$Offers", name := "highestBeside", desc := "(I)I" } : Jvm.MethodName) ({ cls := "DroitLine$Offers", name := "highestBeside", desc := "(I)I" } : Jvm.MethodName)) ∈ wNeed := List.mem_filter.mpr ⟨List.mem_of_getElem? (i := 335) (by decide +kernel), by decide +kernel⟩
theorem q_329 : (Jvm.Cond.code ({ cls := "DroitLine$Offers", name := "highestBeside", desc := "(I)I" } : Jvm.MethodName) prog_3_method_6_code (4 : Nat) (Option.some Jvm.ClassFile.FieldType.int)) ∈ wNeed := List.mem_filter.mpr ⟨List.mem_of_getElem? (i := 336) (by decide +kernel), by decide +kernel⟩
theorem q_330 : (Jvm.Cond.methodLink "DroitLine" (97 : Nat) ({ cls := "DroitLine", name := "priceFor", desc := "(III)I" } : Jvm.MethodName)) ∈ wNeed := List.mem_filter.mpr ⟨List.mem_of_getElem? (i := 337) (by decide +kernel), by decide +kernel⟩
theorem q_331 : (Jvm.Cond.static ({ cls := "DroitLine", name := "priceFor", desc := "(III)I" } : Jvm.MethodName)) ∈ wNeed := List.mem_filter.mpr ⟨List.mem_of_getElem? (i := 338) (by decide +kernel), by decide +kernel⟩
theorem q_332 : (Jvm.Cond.code ({ cls := "DroitLine", name := "priceFor", desc := "(III)I" } : Jvm.MethodName) prog_1_method_37_code (4 : Nat) (Option.some Jvm.ClassFile.FieldType.int)) ∈ wNeed := List.mem_filter.mpr ⟨List.mem_of_getElem? (i := 339) (by decide +kernel), by decide +kernel⟩
theorem q_333 : (Jvm.Cond.methodLink "DroitLine" (195 : Nat) ({ cls := "java/lang/Math", name := "min", desc := "(II)I" } : Jvm.MethodName)) ∈ wNeed := List.mem_filter.mpr ⟨List.mem_of_getElem? (i := 340) (by decide +kernel), by decide +kernel⟩
theorem q_334 : (Jvm.Cond.static ({ cls := "java/lang/Math", name := "min", desc := "(II)I" } : Jvm.MethodName)) ∈ wNeed := List.mem_filter.mpr ⟨List.mem_of_getElem? (i := 341) (by decide +kernel), by decide +kernel⟩
theorem q_335 : (Jvm.Cond.code ({ cls := "java/lang/Math", name := "min", desc := "(II)I" } : Jvm.MethodName) prog_10_method_69_code (2 : Nat) (Option.some Jvm.ClassFile.FieldType.int)) ∈ wNeed := List.mem_filter.mpr ⟨List.mem_of_getElem? (i := 342) (by decide +kernel), by decide +kernel⟩
theorem q_336 : (Jvm.Cond.methodLink "DroitLine" (201 : Nat) ({ cls := "java/lang/Math", name := "max", desc := "(II)I" } : Jvm.MethodName)) ∈ wNeed := List.mem_filter.mpr ⟨List.mem_of_getElem? (i := 343) (by decide +kernel), by decide +kernel⟩
theorem q_337 : (Jvm.Cond.methodLink "DroitLineLaw" (37 : Nat) ({ cls := "DroitLine", name := "again", desc := "(II)I" } : Jvm.MethodName)) ∈ wNeed := List.mem_filter.mpr ⟨List.mem_of_getElem? (i := 344) (by decide +kernel), by decide +kernel⟩
theorem q_338 : (Jvm.Cond.instanceMethod ({ cls := "DroitLine", name := "again", desc := "(II)I" } : Jvm.MethodName)) ∈ wNeed := List.mem_filter.mpr ⟨List.mem_of_getElem? (i := 345) (by decide +kernel), by decide +kernel⟩
theorem q_339 : (Jvm.Cond.selects "DroitLine" ({ cls := "DroitLine", name := "again", desc := "(II)I" } : Jvm.MethodName) ({ cls := "DroitLine", name := "again", desc := "(II)I" } : Jvm.MethodName)) ∈ wNeed := List.mem_filter.mpr ⟨List.mem_of_getElem? (i := 346) (by decide +kernel), by decide +kernel⟩
theorem q_340 : (Jvm.Cond.code ({ cls := "DroitLine", name := "again", desc := "(II)I" } : Jvm.MethodName) prog_1_method_5_code (5 : Nat) (Option.some Jvm.ClassFile.FieldType.int)) ∈ wNeed := List.mem_filter.mpr ⟨List.mem_of_getElem? (i := 347) (by decide +kernel), by decide +kernel⟩
theorem q_341 : (Jvm.Cond.methodLink "DroitLine" (113 : Nat) ({ cls := "DroitLine$Lot", name := "open", desc := "(I)V" } : Jvm.MethodName)) ∈ wNeed := List.mem_filter.mpr ⟨List.mem_of_getElem? (i := 348) (by decide +kernel), by decide +kernel⟩
theorem q_342 : (Jvm.Cond.instanceMethod ({ cls := "DroitLine$Lot", name := "open", desc := "(I)V" } : Jvm.MethodName)) ∈ wNeed := List.mem_filter.mpr ⟨List.mem_of_getElem? (i := 349) (by decide +kernel), by decide +kernel⟩
theorem q_343 : (Jvm.Cond.selects "DroitLine$Lot" ({ cls := "DroitLine$Lot", name := "open", desc := "(I)V" } : Jvm.MethodName) ({ cls := "DroitLine$Lot", name := "open", desc := "(I)V" } : Jvm.MethodName)) ∈ wNeed := List.mem_filter.mpr ⟨List.mem_of_getElem? (i := 350) (by decide +kernel), by decide +kernel⟩
theorem q_344 : (Jvm.Cond.code ({ cls := "DroitLine$Lot", name := "open", desc := "(I)V" } : Jvm.MethodName) prog_2_method_2_code (2 : Nat) (Option.none : Option Jvm.ClassFile.FieldType)) ∈ wNeed := List.mem_filter.mpr ⟨List.mem_of_getElem? (i := 351) (by decide +kernel), by decide +kernel⟩
theorem q_345 : (Jvm.Cond.methodLink "DroitLineLaw" (41 : Nat) ({ cls := "DroitLine", name := "pay", desc := "(I)I" } : Jvm.MethodName)) ∈ wNeed := List.mem_filter.mpr ⟨List.mem_of_getElem? (i := 352) (by decide +kernel), by decide +kernel⟩
theorem q_346 : (Jvm.Cond.instanceMethod ({ cls := "DroitLine", name := "pay", desc := "(I)I" } : Jvm.MethodName)) ∈ wNeed := List.mem_filter.mpr ⟨List.mem_of_getElem? (i := 353) (by decide +kernel), by decide +kernel⟩
theorem q_347 : (Jvm.Cond.selects "DroitLine" ({ cls := "DroitLine", name := "pay", desc := "(I)I" } : Jvm.MethodName) ({ cls := "DroitLine", name := "pay", desc := "(I)I" } : Jvm.MethodName)) ∈ wNeed := List.mem_filter.mpr ⟨List.mem_of_getElem? (i := 354) (by decide +kernel), by decide +kernel⟩
theorem q_348 : (Jvm.Cond.code ({ cls := "DroitLine", name := "pay", desc := "(I)I" } : Jvm.MethodName) prog_1_method_8_code (4 : Nat) (Option.some Jvm.ClassFile.FieldType.int)) ∈ wNeed := List.mem_filter.mpr ⟨List.mem_of_getElem? (i := 355) (by decide +kernel), by decide +kernel⟩
theorem q_349 : (Jvm.Cond.methodLink "DroitLine" (116 : Nat) ({ cls := "DroitLine", name := "feeFor", desc := "(I)I" } : Jvm.MethodName)) ∈ wNeed := List.mem_filter.mpr ⟨List.mem_of_getElem? (i := 356) (by decide +kernel), by decide +kernel⟩
theorem q_350 : (Jvm.Cond.static ({ cls := "DroitLine", name := "feeFor", desc := "(I)I" } : Jvm.MethodName)) ∈ wNeed := List.mem_filter.mpr ⟨List.mem_of_getElem? (i := 357) (by decide +kernel), by decide +kernel⟩
theorem q_351 : (Jvm.Cond.code ({ cls := "DroitLine", name := "feeFor", desc := "(I)I" } : Jvm.MethodName) prog_1_method_39_code (1 : Nat) (Option.some Jvm.ClassFile.FieldType.int)) ∈ wNeed := List.mem_filter.mpr ⟨List.mem_of_getElem? (i := 358) (by decide +kernel), by decide +kernel⟩
theorem q_352 : (Jvm.Cond.methodLink "DroitLine" (204 : Nat) ({ cls := "DroitLine", name := "ofBand", desc := "(IIII)I" } : Jvm.MethodName)) ∈ wNeed := List.mem_filter.mpr ⟨List.mem_of_getElem? (i := 359) (by decide +kernel), by decide +kernel⟩
theorem q_353 : (Jvm.Cond.static ({ cls := "DroitLine", name := "ofBand", desc := "(IIII)I" } : Jvm.MethodName)) ∈ wNeed := List.mem_filter.mpr ⟨List.mem_of_getElem? (i := 360) (by decide +kernel), by decide +kernel⟩
theorem q_354 : (Jvm.Cond.code ({ cls := "DroitLine", name := "ofBand", desc := "(IIII)I" } : Jvm.MethodName) prog_1_method_38_code (4 : Nat) (Option.some Jvm.ClassFile.FieldType.int)) ∈ wNeed := List.mem_filter.mpr ⟨List.mem_of_getElem? (i := 361) (by decide +kernel), by decide +kernel⟩
theorem q_355 : (Jvm.Cond.constant "DroitLine" (208 : Nat) (50000 : Int32)) ∈ wNeed := List.mem_filter.mpr ⟨List.mem_of_getElem? (i := 362) (by decide +kernel), by decide +kernel⟩
theorem q_356 : (Jvm.Cond.methodLink "DroitLine" (126 : Nat) ({ cls := "DroitLine", name := "closeGap", desc := "(LDroitLine$Lot;)V" } : Jvm.MethodName)) ∈ wNeed := List.mem_filter.mpr ⟨List.mem_of_getElem? (i := 363) (by decide +kernel), by decide +kernel⟩
theorem q_358 : (Jvm.Cond.instanceMethod ({ cls := "DroitLine", name := "closeGap", desc := "(LDroitLine$Lot;)V" } : Jvm.MethodName)) ∈ wNeed := List.mem_filter.mpr ⟨List.mem_of_getElem? (i := 365) (by decide +kernel), by decide +kernel⟩
theorem q_359 : (Jvm.Cond.code ({ cls := "DroitLine", name := "closeGap", desc := "(LDroitLine$Lot;)V" } : Jvm.MethodName) prog_1_method_44_code (2 : Nat) (Option.none : Option Jvm.ClassFile.FieldType)) ∈ wNeed := List.mem_filter.mpr ⟨List.mem_of_getElem? (i := 366) (by decide +kernel), by decide +kernel⟩
theorem q_360 : (Jvm.Cond.methodLink "DroitLine" (141 : Nat) ({ cls := "DroitLine", name := "addToDebt", desc := "(II)V" } : Jvm.MethodName)) ∈ wNeed := List.mem_filter.mpr ⟨List.mem_of_getElem? (i := 367) (by decide +kernel), by decide +kernel⟩
theorem q_362 : (Jvm.Cond.instanceMethod ({ cls := "DroitLine", name := "addToDebt", desc := "(II)V" } : Jvm.MethodName)) ∈ wNeed := List.mem_filter.mpr ⟨List.mem_of_getElem? (i := 369) (by decide +kernel), by decide +kernel⟩
theorem q_363 : (Jvm.Cond.code ({ cls := "DroitLine", name := "addToDebt", desc := "(II)V" } : Jvm.MethodName) prog_1_method_46_code (3 : Nat) (Option.none : Option Jvm.ClassFile.FieldType)) ∈ wNeed := List.mem_filter.mpr ⟨List.mem_of_getElem? (i := 370) (by decide +kernel), by decide +kernel⟩
theorem q_364 : (Jvm.Cond.methodLink "DroitLineLaw" (44 : Nat) ({ cls := "DroitLine", name := "defaults", desc := "(I)I" } : Jvm.MethodName)) ∈ wNeed := List.mem_filter.mpr ⟨List.mem_of_getElem? (i := 371) (by decide +kernel), by decide +kernel⟩
theorem q_365 : (Jvm.Cond.instanceMethod ({ cls := "DroitLine", name := "defaults", desc := "(I)I" } : Jvm.MethodName)) ∈ wNeed := List.mem_filter.mpr ⟨List.mem_of_getElem? (i := 372) (by decide +kernel), by decide +kernel⟩
theorem q_366 : (Jvm.Cond.selects "DroitLine" ({ cls := "DroitLine", name := "defaults", desc := "(I)I" } : Jvm.MethodName) ({ cls := "DroitLine", name := "defaults", desc := "(I)I" } : Jvm.MethodName)) ∈ wNeed := List.mem_filter.mpr ⟨List.mem_of_getElem? (i := 373) (by decide +kernel), by decide +kernel⟩
theorem q_367 : (Jvm.Cond.code ({ cls := "DroitLine", name := "defaults", desc := "(I)I" } : Jvm.MethodName) prog_1_method_9_code (4 : Nat) (Option.some Jvm.ClassFile.FieldType.int)) ∈ wNeed := List.mem_filter.mpr ⟨List.mem_of_getElem? (i := 374) (by decide +kernel), by decide +kernel⟩
theorem q_368 : (Jvm.Cond.methodLink "DroitLineLaw" (47 : Nat) ({ cls := "DroitLine", name := "payGaps", desc := "(I)I" } : Jvm.MethodName)) ∈ wNeed := List.mem_filter.mpr ⟨List.mem_of_getElem? (i := 375) (by decide +kernel), by decide +kernel⟩
theorem q_369 : (Jvm.Cond.instanceMethod ({ cls := "DroitLine", name := "payGaps", desc := "(I)I" } : Jvm.MethodName)) ∈ wNeed := List.mem_filter.mpr ⟨List.mem_of_getElem? (i := 376) (by decide +kernel), by decide +kernel⟩
theorem q_370 : (Jvm.Cond.selects "DroitLine" ({ cls := "DroitLine", name := "payGaps", desc := "(I)I" } : Jvm.MethodName) ({ cls := "DroitLine", name := "payGaps", desc := "(I)I" } : Jvm.MethodName)) ∈ wNeed := List.mem_filter.mpr ⟨List.mem_of_getElem? (i := 377) (by decide +kernel), by decide +kernel⟩
theorem q_371 : (Jvm.Cond.code ({ cls := "DroitLine", name := "payGaps", desc := "(I)I" } : Jvm.MethodName) prog_1_method_10_code (3 : Nat) (Option.some Jvm.ClassFile.FieldType.int)) ∈ wNeed := List.mem_filter.mpr ⟨List.mem_of_getElem? (i := 378) (by decide +kernel), by decide +kernel⟩
theorem q_372 : (Jvm.Cond.methodLink "DroitLine" (136 : Nat) ({ cls := "DroitLine", name := "owedBy", desc := "(I)I" } : Jvm.MethodName)) ∈ wNeed := List.mem_filter.mpr ⟨List.mem_of_getElem? (i := 379) (by decide +kernel), by decide +kernel⟩
theorem q_374 : (Jvm.Cond.instanceMethod ({ cls := "DroitLine", name := "owedBy", desc := "(I)I" } : Jvm.MethodName)) ∈ wNeed := List.mem_filter.mpr ⟨List.mem_of_getElem? (i := 381) (by decide +kernel), by decide +kernel⟩
theorem q_375 : (Jvm.Cond.code ({ cls := "DroitLine", name := "owedBy", desc := "(I)I" } : Jvm.MethodName) prog_1_method_45_code (2 : Nat) (Option.some Jvm.ClassFile.FieldType.int)) ∈ wNeed := List.mem_filter.mpr ⟨List.mem_of_getElem? (i := 382) (by decide +kernel), by decide +kernel⟩
theorem q_377 : (Jvm.Cond.methodLink "DroitLineLaw" (50 : Nat) ({ cls := "DroitLine", name := "advance", desc := "(II)I" } : Jvm.MethodName)) ∈ wNeed := List.mem_filter.mpr ⟨List.mem_of_getElem? (i := 384) (by decide +kernel), by decide +kernel⟩
theorem q_378 : (Jvm.Cond.instanceMethod ({ cls := "DroitLine", name := "advance", desc := "(II)I" } : Jvm.MethodName)) ∈ wNeed := List.mem_filter.mpr ⟨List.mem_of_getElem? (i := 385) (by decide +kernel), by decide +kernel⟩
theorem q_379 : (Jvm.Cond.selects "DroitLine" ({ cls := "DroitLine", name := "advance", desc := "(II)I" } : Jvm.MethodName) ({ cls := "DroitLine", name := "advance", desc := "(II)I" } : Jvm.MethodName)) ∈ wNeed := List.mem_filter.mpr ⟨List.mem_of_getElem? (i := 386) (by decide +kernel), by decide +kernel⟩
theorem q_380 : (Jvm.Cond.code ({ cls := "DroitLine", name := "advance", desc := "(II)I" } : Jvm.MethodName) prog_1_method_11_code (5 : Nat) (Option.some Jvm.ClassFile.FieldType.int)) ∈ wNeed := List.mem_filter.mpr ⟨List.mem_of_getElem? (i := 387) (by decide +kernel), by decide +kernel⟩
theorem q_382 : (Jvm.Cond.methodLink "DroitLineLaw" (53 : Nat) ({ cls := "DroitLine", name := "settle", desc := "(I)I" } : Jvm.MethodName)) ∈ wNeed := List.mem_filter.mpr ⟨List.mem_of_getElem? (i := 389) (by decide +kernel), by decide +kernel⟩
theorem q_383 : (Jvm.Cond.instanceMethod ({ cls := "DroitLine", name := "settle", desc := "(I)I" } : Jvm.MethodName)) ∈ wNeed := List.mem_filter.mpr ⟨List.mem_of_getElem? (i := 390) (by decide +kernel), by decide +kernel⟩
theorem q_384 : (Jvm.Cond.selects "DroitLine" ({ cls := "DroitLine", name := "settle", desc := "(I)I" } : Jvm.MethodName) ({ cls := "DroitLine", name := "settle", desc := "(I)I" } : Jvm.MethodName)) ∈ wNeed := List.mem_filter.mpr ⟨List.mem_of_getElem? (i := 391) (by decide +kernel), by decide +kernel⟩
theorem q_385 : (Jvm.Cond.code ({ cls := "DroitLine", name := "settle", desc := "(I)I" } : Jvm.MethodName) prog_1_method_12_code (8 : Nat) (Option.some Jvm.ClassFile.FieldType.int)) ∈ wNeed := List.mem_filter.mpr ⟨List.mem_of_getElem? (i := 392) (by decide +kernel), by decide +kernel⟩
theorem q_386 : (Jvm.Cond.methodLink "DroitLine" (158 : Nat) ({ cls := "DroitLine", name := "hundredthsOf", desc := "(I)I" } : Jvm.MethodName)) ∈ wNeed := List.mem_filter.mpr ⟨List.mem_of_getElem? (i := 393) (by decide +kernel), by decide +kernel⟩
theorem q_388 : (Jvm.Cond.instanceMethod ({ cls := "DroitLine", name := "hundredthsOf", desc := "(I)I" } : Jvm.MethodName)) ∈ wNeed := List.mem_filter.mpr ⟨List.mem_of_getElem? (i := 395) (by decide +kernel), by decide +kernel⟩
theorem q_389 : (Jvm.Cond.code ({ cls := "DroitLine", name := "hundredthsOf", desc := "(I)I" } : Jvm.MethodName) prog_1_method_43_code (2 : Nat) (Option.some Jvm.ClassFile.FieldType.int)) ∈ wNeed := List.mem_filter.mpr ⟨List.mem_of_getElem? (i := 396) (by decide +kernel), by decide +kernel⟩
theorem q_390 : (Jvm.Cond.methodLink "DroitLine" (161 : Nat) ({ cls := "DroitLine", name := "shareOf", desc := "(LDroitLine$Lot;)I" } : Jvm.MethodName)) ∈ wNeed := List.mem_filter.mpr ⟨List.mem_of_getElem? (i := 397) (by decide +kernel), by decide +kernel⟩
theorem q_391 : (Jvm.Cond.static ({ cls := "DroitLine", name := "shareOf", desc := "(LDroitLine$Lot;)I" } : Jvm.MethodName)) ∈ wNeed := List.mem_filter.mpr ⟨List.mem_of_getElem? (i := 398) (by decide +kernel), by decide +kernel⟩
theorem q_392 : (Jvm.Cond.code ({ cls := "DroitLine", name := "shareOf", desc := "(LDroitLine$Lot;)I" } : Jvm.MethodName) prog_1_method_40_code (3 : Nat) (Option.some Jvm.ClassFile.FieldType.int)) ∈ wNeed := List.mem_filter.mpr ⟨List.mem_of_getElem? (i := 399) (by decide +kernel), by decide +kernel⟩
theorem q_393 : (Jvm.Cond.methodLink "DroitLine" (212 : Nat) ({ cls := "DroitLine", name := "isTooLongDead", desc := "(LDroitLine$Lot;)Z" } : Jvm.MethodName)) ∈ wNeed := List.mem_filter.mpr ⟨List.mem_of_getElem? (i := 400) (by decide +kernel), by decide +kernel⟩
theorem q_394 : (Jvm.Cond.static ({ cls := "DroitLine", name := "isTooLongDead", desc := "(LDroitLine$Lot;)Z" } : Jvm.MethodName)) ∈ wNeed := List.mem_filter.mpr ⟨List.mem_of_getElem? (i := 401) (by decide +kernel), by decide +kernel⟩
theorem q_395 : (Jvm.Cond.code ({ cls := "DroitLine", name := "isTooLongDead", desc := "(LDroitLine$Lot;)Z" } : Jvm.MethodName) prog_1_method_41_code (1 : Nat) (Option.some Jvm.ClassFile.FieldType.boolean)) ∈ wNeed := List.mem_filter.mpr ⟨List.mem_of_getElem? (i := 402) (by decide +kernel), by decide +kernel⟩
theorem q_396 : (Jvm.Cond.constant "DroitLine" (216 : Nat) (200000 : Int32)) ∈ wNeed := List.mem_filter.mpr ⟨List.mem_of_getElem? (i := 403) (by decide +kernel), by decide +kernel⟩
theorem q_397 : (Jvm.Cond.methodLink "DroitLine" (165 : Nat) ({ cls := "DroitLine", name := "interestOf", desc := "(LDroitLine$Lot;)I" } : Jvm.MethodName)) ∈ wNeed := List.mem_filter.mpr ⟨List.mem_of_getElem? (i := 404) (by decide +kernel), by decide +kernel⟩
theorem q_399 : (Jvm.Cond.instanceMethod ({ cls := "DroitLine", name := "interestOf", desc := "(LDroitLine$Lot;)I" } : Jvm.MethodName)) ∈ wNeed := List.mem_filter.mpr ⟨List.mem_of_getElem? (i := 406) (by decide +kernel), by decide +kernel⟩
theorem q_400 : (Jvm.Cond.code ({ cls := "DroitLine", name := "interestOf", desc := "(LDroitLine$Lot;)I" } : Jvm.MethodName) prog_1_method_42_code (4 : Nat) (Option.some Jvm.ClassFile.FieldType.int)) ∈ wNeed := List.mem_filter.mpr ⟨List.mem_of_getElem? (i := 407) (by decide +kernel), by decide +kernel⟩
theorem q_401 : (Jvm.Cond.constantLong "DroitLine" (217 : Nat) (100000 : Int64)) ∈ wNeed := List.mem_filter.mpr ⟨List.mem_of_getElem? (i := 408) (by decide +kernel), by decide +kernel⟩
theorem q_402 : (Jvm.Cond.methodLink "DroitLineLaw" (56 : Nat) ({ cls := "DroitLine", name := "days", desc := "(I)I" } : Jvm.MethodName)) ∈ wNeed := List.mem_filter.mpr ⟨List.mem_of_getElem? (i := 409) (by decide +kernel), by decide +kernel⟩
theorem q_403 : (Jvm.Cond.instanceMethod ({ cls := "DroitLine", name := "days", desc := "(I)I" } : Jvm.MethodName)) ∈ wNeed := List.mem_filter.mpr ⟨List.mem_of_getElem? (i := 410) (by decide +kernel), by decide +kernel⟩
theorem q_404 : (Jvm.Cond.selects "DroitLine" ({ cls := "DroitLine", name := "days", desc := "(I)I" } : Jvm.MethodName) ({ cls := "DroitLine", name := "days", desc := "(I)I" } : Jvm.MethodName)) ∈ wNeed := List.mem_filter.mpr ⟨List.mem_of_getElem? (i := 411) (by decide +kernel), by decide +kernel⟩
theorem q_405 : (Jvm.Cond.code ({ cls := "DroitLine", name := "days", desc := "(I)I" } : Jvm.MethodName) prog_1_method_15_code (2 : Nat) (Option.some Jvm.ClassFile.FieldType.int)) ∈ wNeed := List.mem_filter.mpr ⟨List.mem_of_getElem? (i := 412) (by decide +kernel), by decide +kernel⟩
theorem q_407 : (Jvm.Cond.constant "DroitLineLaw" (61 : Nat) (-2000000011 : Int32)) ∈ wNeed := List.mem_filter.mpr ⟨List.mem_of_getElem? (i := 414) (by decide +kernel), by decide +kernel⟩
theorem q_408 : (Jvm.Cond.constant "DroitLineLaw" (64 : Nat) (-2000000012 : Int32)) ∈ wNeed := List.mem_filter.mpr ⟨List.mem_of_getElem? (i := 415) (by decide +kernel), by decide +kernel⟩
theorem q_409 : (Jvm.Cond.constant "DroitLineLaw" (67 : Nat) (-2000000013 : Int32)) ∈ wNeed := List.mem_filter.mpr ⟨List.mem_of_getElem? (i := 416) (by decide +kernel), by decide +kernel⟩
theorem q_410 : (Jvm.Cond.methodLink "DroitLineLaw" (124 : Nat) ({ cls := "DroitLineLaw", name := "isHouse", desc := "(LDroitLine;[I[I[I[I[II)Z" } : Jvm.MethodName)) ∈ wNeed := List.mem_filter.mpr ⟨List.mem_of_getElem? (i := 417) (by decide +kernel), by decide +kernel⟩
theorem q_411 : (Jvm.Cond.static ({ cls := "DroitLineLaw", name := "isHouse", desc := "(LDroitLine;[I[I[I[I[II)Z" } : Jvm.MethodName)) ∈ wNeed := List.mem_filter.mpr ⟨List.mem_of_getElem? (i := 418) (by decide +kernel), by decide +kernel⟩
theorem q_412 : (Jvm.Cond.code ({ cls := "DroitLineLaw", name := "isHouse", desc := "(LDroitLine;[I[I[I[I[II)Z" } : Jvm.MethodName) method_11_code (19 : Nat) (Option.some Jvm.ClassFile.FieldType.boolean)) ∈ wNeed := List.mem_filter.mpr ⟨List.mem_of_getElem? (i := 419) (by decide +kernel), by decide +kernel⟩
theorem q_413 : (Jvm.Cond.methodLink "DroitLineLaw" (68 : Nat) ({ cls := "DroitLine", name := "lots", desc := "()I" } : Jvm.MethodName)) ∈ wNeed := List.mem_filter.mpr ⟨List.mem_of_getElem? (i := 420) (by decide +kernel), by decide +kernel⟩
theorem q_414 : (Jvm.Cond.instanceMethod ({ cls := "DroitLine", name := "lots", desc := "()I" } : Jvm.MethodName)) ∈ wNeed := List.mem_filter.mpr ⟨List.mem_of_getElem? (i := 421) (by decide +kernel), by decide +kernel⟩
theorem q_415 : (Jvm.Cond.selects "DroitLine" ({ cls := "DroitLine", name := "lots", desc := "()I" } : Jvm.MethodName) ({ cls := "DroitLine", name := "lots", desc := "()I" } : Jvm.MethodName)) ∈ wNeed := List.mem_filter.mpr ⟨List.mem_of_getElem? (i := 422) (by decide +kernel), by decide +kernel⟩
theorem q_416 : (Jvm.Cond.code ({ cls := "DroitLine", name := "lots", desc := "()I" } : Jvm.MethodName) prog_1_method_6_code (1 : Nat) (Option.some Jvm.ClassFile.FieldType.int)) ∈ wNeed := List.mem_filter.mpr ⟨List.mem_of_getElem? (i := 423) (by decide +kernel), by decide +kernel⟩
theorem q_417 : (Jvm.Cond.methodLink "DroitLineLaw" (72 : Nat) ({ cls := "DroitLine", name := "state", desc := "(I)I" } : Jvm.MethodName)) ∈ wNeed := List.mem_filter.mpr ⟨List.mem_of_getElem? (i := 424) (by decide +kernel), by decide +kernel⟩
theorem q_418 : (Jvm.Cond.instanceMethod ({ cls := "DroitLine", name := "state", desc := "(I)I" } : Jvm.MethodName)) ∈ wNeed := List.mem_filter.mpr ⟨List.mem_of_getElem? (i := 425) (by decide +kernel), by decide +kernel⟩
theorem q_419 : (Jvm.Cond.selects "DroitLine" ({ cls := "DroitLine", name := "state", desc := "(I)I" } : Jvm.MethodName) ({ cls := "DroitLine", name := "state", desc := "(I)I" } : Jvm.MethodName)) ∈ wNeed := List.mem_filter.mpr ⟨List.mem_of_getElem? (i := 426) (by decide +kernel), by decide +kernel⟩
theorem q_420 : (Jvm.Cond.code ({ cls := "DroitLine", name := "state", desc := "(I)I" } : Jvm.MethodName) prog_1_method_16_code (2 : Nat) (Option.some Jvm.ClassFile.FieldType.int)) ∈ wNeed := List.mem_filter.mpr ⟨List.mem_of_getElem? (i := 427) (by decide +kernel), by decide +kernel⟩
theorem q_421 : (Jvm.Cond.methodLink "DroitLineLaw" (75 : Nat) ({ cls := "DroitLine", name := "buyerOf", desc := "(I)I" } : Jvm.MethodName)) ∈ wNeed := List.mem_filter.mpr ⟨List.mem_of_getElem? (i := 428) (by decide +kernel), by decide +kernel⟩
theorem q_422 : (Jvm.Cond.instanceMethod ({ cls := "DroitLine", name := "buyerOf", desc := "(I)I" } : Jvm.MethodName)) ∈ wNeed := List.mem_filter.mpr ⟨List.mem_of_getElem? (i := 429) (by decide +kernel), by decide +kernel⟩
theorem q_423 : (Jvm.Cond.selects "DroitLine" ({ cls := "DroitLine", name := "buyerOf", desc := "(I)I" } : Jvm.MethodName) ({ cls := "DroitLine", name := "buyerOf", desc := "(I)I" } : Jvm.MethodName)) ∈ wNeed := List.mem_filter.mpr ⟨List.mem_of_getElem? (i := 430) (by decide +kernel), by decide +kernel⟩
theorem q_424 : (Jvm.Cond.code ({ cls := "DroitLine", name := "buyerOf", desc := "(I)I" } : Jvm.MethodName) prog_1_method_17_code (2 : Nat) (Option.some Jvm.ClassFile.FieldType.int)) ∈ wNeed := List.mem_filter.mpr ⟨List.mem_of_getElem? (i := 431) (by decide +kernel), by decide +kernel⟩
theorem q_425 : (Jvm.Cond.methodLink "DroitLineLaw" (78 : Nat) ({ cls := "DroitLine", name := "price", desc := "(I)I" } : Jvm.MethodName)) ∈ wNeed := List.mem_filter.mpr ⟨List.mem_of_getElem? (i := 432) (by decide +kernel), by decide +kernel⟩
theorem q_426 : (Jvm.Cond.instanceMethod ({ cls := "DroitLine", name := "price", desc := "(I)I" } : Jvm.MethodName)) ∈ wNeed := List.mem_filter.mpr ⟨List.mem_of_getElem? (i := 433) (by decide +kernel), by decide +kernel⟩
theorem q_427 : (Jvm.Cond.selects "DroitLine" ({ cls := "DroitLine", name := "price", desc := "(I)I" } : Jvm.MethodName) ({ cls := "DroitLine", name := "price", desc := "(I)I" } : Jvm.MethodName)) ∈ wNeed := List.mem_filter.mpr ⟨List.mem_of_getElem? (i := 434) (by decide +kernel), by decide +kernel⟩
theorem q_428 : (Jvm.Cond.code ({ cls := "DroitLine", name := "price", desc := "(I)I" } : Jvm.MethodName) prog_1_method_18_code (2 : Nat) (Option.some Jvm.ClassFile.FieldType.int)) ∈ wNeed := List.mem_filter.mpr ⟨List.mem_of_getElem? (i := 435) (by decide +kernel), by decide +kernel⟩
theorem q_429 : (Jvm.Cond.methodLink "DroitLineLaw" (81 : Nat) ({ cls := "DroitLine", name := "bids", desc := "(I)I" } : Jvm.MethodName)) ∈ wNeed := List.mem_filter.mpr ⟨List.mem_of_getElem? (i := 436) (by decide +kernel), by decide +kernel⟩
theorem q_430 : (Jvm.Cond.instanceMethod ({ cls := "DroitLine", name := "bids", desc := "(I)I" } : Jvm.MethodName)) ∈ wNeed := List.mem_filter.mpr ⟨List.mem_of_getElem? (i := 437) (by decide +kernel), by decide +kernel⟩
theorem q_431 : (Jvm.Cond.selects "DroitLine" ({ cls := "DroitLine", name := "bids", desc := "(I)I" } : Jvm.MethodName) ({ cls := "DroitLine", name := "bids", desc := "(I)I" } : Jvm.MethodName)) ∈ wNeed := List.mem_filter.mpr ⟨List.mem_of_getElem? (i := 438) (by decide +kernel), by decide +kernel⟩
theorem q_432 : (Jvm.Cond.code ({ cls := "DroitLine", name := "bids", desc := "(I)I" } : Jvm.MethodName) prog_1_method_19_code (2 : Nat) (Option.some Jvm.ClassFile.FieldType.int)) ∈ wNeed := List.mem_filter.mpr ⟨List.mem_of_getElem? (i := 439) (by decide +kernel), by decide +kernel⟩
theorem q_433 : (Jvm.Cond.methodLink "DroitLineLaw" (84 : Nat) ({ cls := "DroitLine", name := "share", desc := "(I)I" } : Jvm.MethodName)) ∈ wNeed := List.mem_filter.mpr ⟨List.mem_of_getElem? (i := 440) (by decide +kernel), by decide +kernel⟩
theorem q_434 : (Jvm.Cond.instanceMethod ({ cls := "DroitLine", name := "share", desc := "(I)I" } : Jvm.MethodName)) ∈ wNeed := List.mem_filter.mpr ⟨List.mem_of_getElem? (i := 441) (by decide +kernel), by decide +kernel⟩
theorem q_435 : (Jvm.Cond.selects "DroitLine" ({ cls := "DroitLine", name := "share", desc := "(I)I" } : Jvm.MethodName) ({ cls := "DroitLine", name := "share", desc := "(I)I" } : Jvm.MethodName)) ∈ wNeed := List.mem_filter.mpr ⟨List.mem_of_getElem? (i := 442) (by decide +kernel), by decide +kernel⟩
theorem q_436 : (Jvm.Cond.code ({ cls := "DroitLine", name := "share", desc := "(I)I" } : Jvm.MethodName) prog_1_method_21_code (2 : Nat) (Option.some Jvm.ClassFile.FieldType.int)) ∈ wNeed := List.mem_filter.mpr ⟨List.mem_of_getElem? (i := 443) (by decide +kernel), by decide +kernel⟩
theorem q_437 : (Jvm.Cond.methodLink "DroitLineLaw" (90 : Nat) ({ cls := "DroitLine", name := "interest", desc := "(I)I" } : Jvm.MethodName)) ∈ wNeed := List.mem_filter.mpr ⟨List.mem_of_getElem? (i := 444) (by decide +kernel), by decide +kernel⟩
theorem q_438 : (Jvm.Cond.instanceMethod ({ cls := "DroitLine", name := "interest", desc := "(I)I" } : Jvm.MethodName)) ∈ wNeed := List.mem_filter.mpr ⟨List.mem_of_getElem? (i := 445) (by decide +kernel), by decide +kernel⟩
theorem q_439 : (Jvm.Cond.selects "DroitLine" ({ cls := "DroitLine", name := "interest", desc := "(I)I" } : Jvm.MethodName) ({ cls := "DroitLine", name := "interest", desc := "(I)I" } : Jvm.MethodName)) ∈ wNeed := List.mem_filter.mpr ⟨List.mem_of_getElem? (i := 446) (by decide +kernel), by decide +kernel⟩
theorem q_440 : (Jvm.Cond.code ({ cls := "DroitLine", name := "interest", desc := "(I)I" } : Jvm.MethodName) prog_1_method_22_code (2 : Nat) (Option.some Jvm.ClassFile.FieldType.int)) ∈ wNeed := List.mem_filter.mpr ⟨List.mem_of_getElem? (i := 447) (by decide +kernel), by decide +kernel⟩
theorem q_441 : (Jvm.Cond.methodLink "DroitLineLaw" (99 : Nat) ({ cls := "DroitLine", name := "owes", desc := "(I)I" } : Jvm.MethodName)) ∈ wNeed := List.mem_filter.mpr ⟨List.mem_of_getElem? (i := 448) (by decide +kernel), by decide +kernel⟩
theorem q_442 : (Jvm.Cond.instanceMethod ({ cls := "DroitLine", name := "owes", desc := "(I)I" } : Jvm.MethodName)) ∈ wNeed := List.mem_filter.mpr ⟨List.mem_of_getElem? (i := 449) (by decide +kernel), by decide +kernel⟩
theorem q_443 : (Jvm.Cond.selects "DroitLine" ({ cls := "DroitLine", name := "owes", desc := "(I)I" } : Jvm.MethodName) ({ cls := "DroitLine", name := "owes", desc := "(I)I" } : Jvm.MethodName)) ∈ wNeed := List.mem_filter.mpr ⟨List.mem_of_getElem? (i := 450) (by decide +kernel), by decide +kernel⟩
theorem q_444 : (Jvm.Cond.code ({ cls := "DroitLine", name := "owes", desc := "(I)I" } : Jvm.MethodName) prog_1_method_23_code (2 : Nat) (Option.some Jvm.ClassFile.FieldType.int)) ∈ wNeed := List.mem_filter.mpr ⟨List.mem_of_getElem? (i := 451) (by decide +kernel), by decide +kernel⟩
theorem q_445 : (Jvm.Cond.constant "DroitLineLaw" (102 : Nat) (1000001 : Int32)) ∈ wNeed := List.mem_filter.mpr ⟨List.mem_of_getElem? (i := 452) (by decide +kernel), by decide +kernel⟩
theorem q_446 : (Jvm.Cond.methodLink "DroitLineLaw" (103 : Nat) ({ cls := "DroitLine", name := "in", desc := "()J" } : Jvm.MethodName)) ∈ wNeed := List.mem_filter.mpr ⟨List.mem_of_getElem? (i := 453) (by decide +kernel), by decide +kernel⟩
theorem q_447 : (Jvm.Cond.instanceMethod ({ cls := "DroitLine", name := "in", desc := "()J" } : Jvm.MethodName)) ∈ wNeed := List.mem_filter.mpr ⟨List.mem_of_getElem? (i := 454) (by decide +kernel), by decide +kernel⟩
theorem q_448 : (Jvm.Cond.selects "DroitLine" ({ cls := "DroitLine", name := "in", desc := "()J" } : Jvm.MethodName) ({ cls := "DroitLine", name := "in", desc := "()J" } : Jvm.MethodName)) ∈ wNeed := List.mem_filter.mpr ⟨List.mem_of_getElem? (i := 455) (by decide +kernel), by decide +kernel⟩
theorem q_449 : (Jvm.Cond.code ({ cls := "DroitLine", name := "in", desc := "()J" } : Jvm.MethodName) prog_1_method_24_code (1 : Nat) (Option.some Jvm.ClassFile.FieldType.long)) ∈ wNeed := List.mem_filter.mpr ⟨List.mem_of_getElem? (i := 456) (by decide +kernel), by decide +kernel⟩
theorem q_450 : (Jvm.Cond.methodLink "DroitLineLaw" (107 : Nat) ({ cls := "DroitLine", name := "out", desc := "()J" } : Jvm.MethodName)) ∈ wNeed := List.mem_filter.mpr ⟨List.mem_of_getElem? (i := 457) (by decide +kernel), by decide +kernel⟩
theorem q_451 : (Jvm.Cond.instanceMethod ({ cls := "DroitLine", name := "out", desc := "()J" } : Jvm.MethodName)) ∈ wNeed := List.mem_filter.mpr ⟨List.mem_of_getElem? (i := 458) (by decide +kernel), by decide +kernel⟩
theorem q_452 : (Jvm.Cond.selects "DroitLine" ({ cls := "DroitLine", name := "out", desc := "()J" } : Jvm.MethodName) ({ cls := "DroitLine", name := "out", desc := "()J" } : Jvm.MethodName)) ∈ wNeed := List.mem_filter.mpr ⟨List.mem_of_getElem? (i := 459) (by decide +kernel), by decide +kernel⟩
theorem q_453 : (Jvm.Cond.code ({ cls := "DroitLine", name := "out", desc := "()J" } : Jvm.MethodName) prog_1_method_25_code (1 : Nat) (Option.some Jvm.ClassFile.FieldType.long)) ∈ wNeed := List.mem_filter.mpr ⟨List.mem_of_getElem? (i := 460) (by decide +kernel), by decide +kernel⟩
theorem q_454 : (Jvm.Cond.methodLink "DroitLineLaw" (110 : Nat) ({ cls := "DroitLine", name := "kept", desc := "()J" } : Jvm.MethodName)) ∈ wNeed := List.mem_filter.mpr ⟨List.mem_of_getElem? (i := 461) (by decide +kernel), by decide +kernel⟩
theorem q_455 : (Jvm.Cond.instanceMethod ({ cls := "DroitLine", name := "kept", desc := "()J" } : Jvm.MethodName)) ∈ wNeed := List.mem_filter.mpr ⟨List.mem_of_getElem? (i := 462) (by decide +kernel), by decide +kernel⟩
theorem q_456 : (Jvm.Cond.selects "DroitLine" ({ cls := "DroitLine", name := "kept", desc := "()J" } : Jvm.MethodName) ({ cls := "DroitLine", name := "kept", desc := "()J" } : Jvm.MethodName)) ∈ wNeed := List.mem_filter.mpr ⟨List.mem_of_getElem? (i := 463) (by decide +kernel), by decide +kernel⟩
theorem q_457 : (Jvm.Cond.code ({ cls := "DroitLine", name := "kept", desc := "()J" } : Jvm.MethodName) prog_1_method_26_code (1 : Nat) (Option.some Jvm.ClassFile.FieldType.long)) ∈ wNeed := List.mem_filter.mpr ⟨List.mem_of_getElem? (i := 464) (by decide +kernel), by decide +kernel⟩
theorem q_458 : (Jvm.Cond.methodLink "DroitLineLaw" (113 : Nat) ({ cls := "DroitLine", name := "held", desc := "()J" } : Jvm.MethodName)) ∈ wNeed := List.mem_filter.mpr ⟨List.mem_of_getElem? (i := 465) (by decide +kernel), by decide +kernel⟩
theorem q_459 : (Jvm.Cond.instanceMethod ({ cls := "DroitLine", name := "held", desc := "()J" } : Jvm.MethodName)) ∈ wNeed := List.mem_filter.mpr ⟨List.mem_of_getElem? (i := 466) (by decide +kernel), by decide +kernel⟩
theorem q_460 : (Jvm.Cond.selects "DroitLine" ({ cls := "DroitLine", name := "held", desc := "()J" } : Jvm.MethodName) ({ cls := "DroitLine", name := "held", desc := "()J" } : Jvm.MethodName)) ∈ wNeed := List.mem_filter.mpr ⟨List.mem_of_getElem? (i := 467) (by decide +kernel), by decide +kernel⟩
theorem q_461 : (Jvm.Cond.code ({ cls := "DroitLine", name := "held", desc := "()J" } : Jvm.MethodName) prog_1_method_27_code (1 : Nat) (Option.some Jvm.ClassFile.FieldType.long)) ∈ wNeed := List.mem_filter.mpr ⟨List.mem_of_getElem? (i := 468) (by decide +kernel), by decide +kernel⟩
theorem q_462 : (Jvm.Cond.methodLink "DroitLineLaw" (116 : Nat) ({ cls := "DroitLine", name := "heldByLots", desc := "()J" } : Jvm.MethodName)) ∈ wNeed := List.mem_filter.mpr ⟨List.mem_of_getElem? (i := 469) (by decide +kernel), by decide +kernel⟩
theorem q_463 : (Jvm.Cond.instanceMethod ({ cls := "DroitLine", name := "heldByLots", desc := "()J" } : Jvm.MethodName)) ∈ wNeed := List.mem_filter.mpr ⟨List.mem_of_getElem? (i := 470) (by decide +kernel), by decide +kernel⟩
theorem q_464 : (Jvm.Cond.selects "DroitLine" ({ cls := "DroitLine", name := "heldByLots", desc := "()J" } : Jvm.MethodName) ({ cls := "DroitLine", name := "heldByLots", desc := "()J" } : Jvm.MethodName)) ∈ wNeed := List.mem_filter.mpr ⟨List.mem_of_getElem? (i := 471) (by decide +kernel), by decide +kernel⟩
theorem q_465 : (Jvm.Cond.code ({ cls := "DroitLine", name := "heldByLots", desc := "()J" } : Jvm.MethodName) prog_1_method_28_code (7 : Nat) (Option.some Jvm.ClassFile.FieldType.long)) ∈ wNeed := List.mem_filter.mpr ⟨List.mem_of_getElem? (i := 472) (by decide +kernel), by decide +kernel⟩
theorem q_466 : (Jvm.Cond.methodLink "DroitLine" (173 : Nat) ({ cls := "DroitLine$Lot", name := "heldForIt", desc := "()I" } : Jvm.MethodName)) ∈ wNeed := List.mem_filter.mpr ⟨List.mem_of_getElem? (i := 473) (by decide +kernel), by decide +kernel⟩
theorem q_467 : (Jvm.Cond.instanceMethod ({ cls := "DroitLine$Lot", name := "heldForIt", desc := "()I" } : Jvm.MethodName)) ∈ wNeed := List.mem_filter.mpr ⟨List.mem_of_getElem? (i := 474) (by decide +kernel), by decide +kernel⟩
theorem q_468 : (Jvm.Cond.selects "DroitLine$Lot" ({ cls := "DroitLine$Lot", name := "heldForIt", desc := "()I" } : Jvm.MethodName) ({ cls := "DroitLine$Lot", name := "heldForIt", desc := "()I" } : Jvm.MethodName)) ∈ wNeed := List.mem_filter.mpr ⟨List.mem_of_getElem? (i := 475) (by decide +kernel), by decide +kernel⟩
theorem q_469 : (Jvm.Cond.code ({ cls := "DroitLine$Lot", name := "heldForIt", desc := "()I" } : Jvm.MethodName) prog_2_method_3_code (1 : Nat) (Option.some Jvm.ClassFile.FieldType.int)) ∈ wNeed := List.mem_filter.mpr ⟨List.mem_of_getElem? (i := 476) (by decide +kernel), by decide +kernel⟩
theorem q_470 : (Jvm.Cond.methodLink "DroitLineLaw" (119 : Nat) ({ cls := "DroitLine", name := "callOf", desc := "(I)I" } : Jvm.MethodName)) ∈ wNeed := List.mem_filter.mpr ⟨List.mem_of_getElem? (i := 477) (by decide +kernel), by decide +kernel⟩
theorem q_471 : (Jvm.Cond.instanceMethod ({ cls := "DroitLine", name := "callOf", desc := "(I)I" } : Jvm.MethodName)) ∈ wNeed := List.mem_filter.mpr ⟨List.mem_of_getElem? (i := 478) (by decide +kernel), by decide +kernel⟩
theorem q_472 : (Jvm.Cond.selects "DroitLine" ({ cls := "DroitLine", name := "callOf", desc := "(I)I" } : Jvm.MethodName) ({ cls := "DroitLine", name := "callOf", desc := "(I)I" } : Jvm.MethodName)) ∈ wNeed := List.mem_filter.mpr ⟨List.mem_of_getElem? (i := 479) (by decide +kernel), by decide +kernel⟩
theorem q_473 : (Jvm.Cond.code ({ cls := "DroitLine", name := "callOf", desc := "(I)I" } : Jvm.MethodName) prog_1_method_7_code (2 : Nat) (Option.some Jvm.ClassFile.FieldType.int)) ∈ wNeed := List.mem_filter.mpr ⟨List.mem_of_getElem? (i := 480) (by decide +kernel), by decide +kernel⟩
theorem q_474 : (Jvm.Cond.methodLink "DroitLineLaw" (122 : Nat) ({ cls := "DroitLine", name := "fee", desc := "(I)I" } : Jvm.MethodName)) ∈ wNeed := List.mem_filter.mpr ⟨List.mem_of_getElem? (i := 481) (by decide +kernel), by decide +kernel⟩
theorem q_475 : (Jvm.Cond.instanceMethod ({ cls := "DroitLine", name := "fee", desc := "(I)I" } : Jvm.MethodName)) ∈ wNeed := List.mem_filter.mpr ⟨List.mem_of_getElem? (i := 482) (by decide +kernel), by decide +kernel⟩
theorem q_476 : (Jvm.Cond.selects "DroitLine" ({ cls := "DroitLine", name := "fee", desc := "(I)I" } : Jvm.MethodName) ({ cls := "DroitLine", name := "fee", desc := "(I)I" } : Jvm.MethodName)) ∈ wNeed := List.mem_filter.mpr ⟨List.mem_of_getElem? (i := 483) (by decide +kernel), by decide +kernel⟩
theorem q_477 : (Jvm.Cond.code ({ cls := "DroitLine", name := "fee", desc := "(I)I" } : Jvm.MethodName) prog_1_method_20_code (2 : Nat) (Option.some Jvm.ClassFile.FieldType.int)) ∈ wNeed := List.mem_filter.mpr ⟨List.mem_of_getElem? (i := 484) (by decide +kernel), by decide +kernel⟩
theorem q_478 : (Jvm.Cond.constant "DroitLineLaw" (128 : Nat) (2147483647 : Int32)) ∈ wNeed := List.mem_filter.mpr ⟨List.mem_of_getElem? (i := 485) (by decide +kernel), by decide +kernel⟩
theorem q_479 : (Jvm.Cond.constant "DroitLineLaw" (129 : Nat) (50021 : Int32)) ∈ wNeed := List.mem_filter.mpr ⟨List.mem_of_getElem? (i := 486) (by decide +kernel), by decide +kernel⟩
theorem q_480 : (Jvm.Cond.constant "DroitLineLaw" (130 : Nat) (1000000 : Int32)) ∈ wNeed := List.mem_filter.mpr ⟨List.mem_of_getElem? (i := 487) (by decide +kernel), by decide +kernel⟩
theorem q_481 : (Jvm.Cond.constant "DroitLineLaw" (148 : Nat) (77777 : Int32)) ∈ wNeed := List.mem_filter.mpr ⟨List.mem_of_getElem? (i := 488) (by decide +kernel), by decide +kernel⟩
theorem q_482 : (Jvm.Cond.sameMethod "java/lang/Throwable" "java/lang/Throwable" "fillInStackTrace" "(I)Ljava/lang/Throwable;") ∈ wNeed := List.mem_filter.mpr ⟨List.mem_of_getElem? (i := 489) (by decide +kernel), by decide +kernel⟩
theorem i_X : ∀ w ∈ u_ws "DroitLine" F_X 9, w ∈ wNeed := gi_c q_30 (gi_c q_32 (gi_c q_34 (gi_c q_36 (gi_c q_38 (gi_c q_40 (gi_c q_42 (gi_c q_44 (gi_c q_46 (fun _ h => absurd h List.not_mem_nil)))))))))
theorem i_L : ∀ w ∈ u_ws "DroitLine$Lot" F_L 13, w ∈ wNeed := gi_c q_257 (gi_c q_259 (gi_c q_261 (gi_c q_263 (gi_c q_265 (gi_c q_267 (gi_c q_269 (gi_c q_271 (gi_c q_273 (gi_c q_275 (gi_c q_277 (gi_c q_279 (gi_c q_281 (fun _ h => absurd h List.not_mem_nil)))))))))))))
theorem i_O : ∀ w ∈ u_ws "DroitLine$Offers" F_O 3, w ∈ wNeed := gi_c q_228 (gi_c q_230 (gi_c q_232 (fun _ h => absurd h List.not_mem_nil)))
