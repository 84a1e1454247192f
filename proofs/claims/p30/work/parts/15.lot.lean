theorem va_P_mem {D : va_G} {cl : List vw_C} {ws : va_W} {H : Heap} : va_P D cl ws H ↔ ∀ q ∈ ws, va_at D cl q H :=
  ⟨fun h q hq => by obtain ⟨k, hk⟩ := List.getElem?_of_mem hq; exact h k q hk, fun h k q hk => h q (List.mem_of_getElem? hk)⟩
theorem lastP {D : va_G} {cl : List vw_C} {ws : va_W} {q0 : Nat} {e : va_E} {H : Heap} (h : va_P D cl (ws ++ [(q0, e)]) H) : va_P D cl ws H ∧ va_P D cl [(q0, e)] H := by
  rw [va_P_mem] at h
  exact ⟨va_P_mem.mpr fun q hq => h q (List.mem_append_left _ hq), va_P_mem.mpr fun q hq => h q (List.mem_append_right _ hq)⟩
theorem lastD {A : Nat → Prop} {ws : va_W} {q0 : Nat} {e : va_E} (h : va_D A (ws ++ [(q0, e)])) : va_D A ws ∧ A q0 ∧ (∀ q ∈ ws, q.1 ≠ q0) ∧ va_D (fun _ => True) [(q0, e)] := by
  have hl : (ws ++ [(q0, e)])[ws.length]? = some (q0, e) := by rw [List.getElem?_append_right (Nat.le_refl _), Nat.sub_self]; rfl
  have hlt : ∀ (k : Nat) (q : Nat × va_E), ws[k]? = some q → k < ws.length ∧ (ws ++ [(q0, e)])[k]? = some q := fun k q hk => by
    have h1 := (List.getElem?_eq_some_iff.mp hk).1
    exact ⟨h1, by rw [List.getElem?_append_left h1]; exact hk⟩
  refine ⟨⟨fun i j p q hi hj hpq => h.1 i j p q (hlt i p hi).2 (hlt j q hj).2 hpq, fun k q hk => h.2 k q (hlt k q hk).2⟩, h.2 _ _ hl, fun q hq he => ?_, ⟨fun i j p q hi hj _ => ?_, fun _ _ _ => trivial⟩⟩
  · obtain ⟨k, hk⟩ := List.getElem?_of_mem hq
    have := h.1 k ws.length _ _ (hlt k q hk).2 hl he
    have := (hlt k q hk).1
    omega
  · have h1 := (List.getElem?_eq_some_iff.mp hi).1
    have h2 := (List.getElem?_eq_some_iff.mp hj).1
    simp at h1 h2
    omega
/-- the cells that a constructor made of the last cell, beside the rest -/
theorem ctor_join {D : va_G} {cl : List vw_C} {A : Nat → Prop} {ws w1 : va_W} {q0 : Nat} {e : va_E} {H H1 : Heap} (hP : va_P D cl (ws ++ [(q0, e)]) H) (hD : va_D A (ws ++ [(q0, e)])) (hA : ∀ q, H.size ≤ q → A q)
    (hk : ∀ q : Nat, q < H.size → ¬ va_A [(q0, e)] H.size q → H1[q]? = H[q]?) (hP1 : va_P D cl w1 H1) (hD1 : va_D (va_A [(q0, e)] H.size) w1) : va_P D cl (ws ++ w1) H1 ∧ va_D A (ws ++ w1) := by
  obtain ⟨p1, -⟩ := lastP hP
  obtain ⟨d1, d2, d3, -⟩ := lastD hD
  have hx : ∀ q, va_A [(q0, e)] H.size q → q = q0 ∨ H.size ≤ q := by
    intro q h
    rcases h with ⟨k, e', h⟩ | h
    · have := List.mem_of_getElem? h
      simp at this
      exact Or.inl this.1
    · exact Or.inr h
  have hno : ∀ q ∈ ws, q.1 < H.size ∧ ¬ va_A [(q0, e)] H.size q.1 := fun q hq => by
    obtain ⟨k, hk'⟩ := List.getElem?_of_mem hq
    have hlt := (p1 k q hk').lt
    refine ⟨hlt, fun h => ?_⟩
    rcases hx _ h with h | h
    · exact d3 q hq h
    · omega
  refine ⟨va_P.app (p1.kept fun k q hk' => hk q.1 (hno q (List.mem_of_getElem? hk')).1 (hno q (List.mem_of_getElem? hk')).2) hP1, va_D.app d1 (hD1.weaken fun k q _ h => ?_) fun i j a b ha hb hab => ?_⟩
  · rcases hx _ h with h | h
    · rw [h]; exact d2
    · exact hA _ h
  · exact (hno a (List.mem_of_getElem? ha)).2 (by rw [hab]; exact hD1.2 j b hb)
theorem ctor_free {A : Nat → Prop} {q0 sz : Nat} {e : va_E} (h0 : A q0) (hA : ∀ q, sz ≤ q → A q) : ∀ q, va_A [(q0, e)] sz q → A q := by
  intro q h
  rcases h with ⟨k, e', h⟩ | h
  · have := List.mem_of_getElem? h
    simp at this
    rw [this.1]; exact h0
  · exact hA q h
/-- a new lot's rows -/
def newrow (p0 p1 p2 : Int32) : Nat → Int32 := fun k => if k = 0 then p0 else if k = 1 then p2 else if k = 3 then p1 else if k = 5 then -1 else if k = 6 then -1 else if k = 8 then -1 else 0
def newlot (sA : NA) (n : Nat) (p0 p1 p2 : Int32) : NA := fun x => if x = 4 * n + 11 then newrow p0 p1 p2 else if 4 * n + 11 < x then (fun _ => 0) else sA x
theorem gr_ad {ad ad' : Nat → Nat} {tI tJ tL : ClassId} {n : Nat} {lr : Nat → Int64} {r : Nat → Int32} {k : Nat} (h : ∀ j, j < 4 * n + 11 → ad' j = ad j) (hk : k < 4 * n + 11) (h1 : k ≠ 1) : gr ad' tI tJ tL (n + 1) lr r k = gr ad tI tJ tL n lr r k := by
  unfold gr
  by_cases c0 : k = 0
  · rw [if_pos c0, if_pos c0]; simp [xfs, h 1 (by omega), h 2 (by omega), h 3 (by omega)]
  rw [if_neg c0, if_neg c0, if_neg h1, if_neg h1]
  by_cases c2 : k = 2
  · rw [if_pos c2, if_pos c2]
  rw [if_neg c2, if_neg c2]
  by_cases c3 : k = 3
  · rw [if_pos c3, if_pos c3]
  rw [if_neg c3, if_neg c3]
  by_cases c6 : k < 11
  · rw [if_pos c6, if_pos c6]
  rw [if_neg c6, if_neg c6]
  by_cases c7 : (k - 11) % 4 = 0
  · rw [if_pos c7, if_pos c7]; simp [lfs, h (k + 1) (by omega)]
  rw [if_neg c7, if_neg c7]
  by_cases c8 : (k - 11) % 4 = 1
  · rw [if_pos c8, if_pos c8]; simp [ofs, h (k + 1) (by omega), h (k + 2) (by omega)]
  rw [if_neg c8, if_neg c8]
def adNew (ad : Nat → Nat) (n q0 q1 q2 q3 : Nat) : Nat → Nat := fun k => if k < 4 * n + 11 then ad k else if k = 4 * n + 11 then q0 else if k = 4 * n + 12 then q1 else if k = 4 * n + 13 then q2 else q3
theorem adNew_lt {ad : Nat → Nat} {n q0 q1 q2 q3 k : Nat} (h : k < 4 * n + 11) : adNew ad n q0 q1 q2 q3 k = ad k := if_pos h
theorem wv_len {ad : Nat → Nat} {tI tJ tL : ClassId} {n : Nat} {sL : NL} {sA : NA} : (wv ad tI tJ tL n sL sA).length = 4 * n + 11 := by simp [wv]
theorem wv_new {ad : Nat → Nat} {tI tJ tL : ClassId} {n : Nat} {sL : NL} {sA : NA} {q0 q1 q2 q3 : Nat} {p0 p1 p2 : Int32} :
    ((wv ad tI tJ tL n sL sA) ++ ([(q0, .inr (1, [.int p0, .int p2, .ref q1, .int p1, .int 0, .int (-1), .int (-1), .int 0, .int (-1), .int 0, .int 0, .int 0, .int 0])), (q1, .inr (2, [.ref q2, .ref q3, .int 0])), (q2, .inl (tI, 10, .inl (fun _ => 0))), (q3, .inl (tI, 10, .inl (fun _ => 0)))] : va_W)).set 1 (ad 1, .inl (tL, 30, .inr (.inr (.inr (.inr (va_up (hof ad n) n (some q0))))))) = wv (adNew ad n q0 q1 q2 q3) tI tJ tL (n + 1) sL (newlot sA n p0 p1 p2) := by
  have hh : va_up (hof ad n) n (some q0) = hof (adNew ad n q0 q1 q2 q3) (n + 1) := by
    funext j
    unfold va_up hof
    by_cases hj : j = n
    · subst hj
      rw [if_pos rfl, if_pos (by omega)]
      simp [adNew]
    · rw [if_neg hj]
      by_cases hl : j < n
      · rw [if_pos hl, if_pos (by omega), adNew_lt (by omega)]
      · rw [if_neg hl, if_neg (by omega)]
  have e2 : newlot sA n p0 p1 p2 (4 * n + 11) = newrow p0 p1 p2 := by simp [newlot]
  have e3 : newlot sA n p0 p1 p2 (4 * n + 12) = fun _ => 0 := by unfold newlot; rw [if_neg (by omega), if_pos (by omega)]
  have e4 : newlot sA n p0 p1 p2 (4 * n + 13) = fun _ => 0 := by unfold newlot; rw [if_neg (by omega), if_pos (by omega)]
  have e5 : newlot sA n p0 p1 p2 (4 * n + 14) = fun _ => 0 := by unfold newlot; rw [if_neg (by omega), if_pos (by omega)]
  have a2 : adNew ad n q0 q1 q2 q3 (4 * n + 11) = q0 := by unfold adNew; rw [if_neg (by omega), if_pos rfl]
  have a3 : adNew ad n q0 q1 q2 q3 (4 * n + 12) = q1 := by unfold adNew; rw [if_neg (by omega), if_neg (by omega), if_pos rfl]
  have a4 : adNew ad n q0 q1 q2 q3 (4 * n + 13) = q2 := by unfold adNew; rw [if_neg (by omega), if_neg (by omega), if_neg (by omega), if_pos rfl]
  have a5 : adNew ad n q0 q1 q2 q3 (4 * n + 14) = q3 := by unfold adNew; rw [if_neg (by omega), if_neg (by omega), if_neg (by omega), if_neg (by omega)]
  apply List.ext_getElem?
  intro j
  by_cases h1 : j = 1
  · subst h1
    rw [List.getElem?_set_self (by simp [wv_len]), wv_get (by omega), adNew_lt (by omega), hh]
    rfl
  rw [List.getElem?_set_ne (Ne.symm h1)]
  by_cases hl : j < 4 * n + 11
  · rw [List.getElem?_append_left (by rw [wv_len]; exact hl), wv_get hl, wv_get (by omega), adNew_lt hl, gr_ad (fun k hk => adNew_lt hk) hl h1]
    have : newlot sA n p0 p1 p2 j = sA j := by unfold newlot; rw [if_neg (by omega), if_neg (by omega)]
    rw [this]
  · rw [List.getElem?_append_right (by rw [wv_len]; omega), wv_len]
    by_cases g2 : j = 4 * n + 11
    · subst g2
      rw [wv_get (by omega), gr_L, e2, a2, Nat.sub_self]
      simp [lfs, newrow, a3]
    by_cases g3 : j = 4 * n + 12
    · subst g3
      rw [wv_get (by omega), gr_O, e3, a3, show 4 * n + 12 - (4 * n + 11) = 1 by omega]
      simp [ofs, a4, a5]
    by_cases g4 : j = 4 * n + 13
    · subst g4
      rw [wv_get (by omega), gr_B, e4, a4, show 4 * n + 13 - (4 * n + 11) = 2 by omega]
      rfl
    by_cases g5 : j = 4 * n + 14
    · subst g5
      rw [wv_get (by omega), gr_Am, e5, a5, show 4 * n + 14 - (4 * n + 11) = 3 by omega]
      rfl
    rw [List.getElem?_eq_none (by simp; omega), List.getElem?_eq_none (by rw [wv_len]; omega)]
def fX_lot (sL : NL) (sA : NA) (p0 : Int32) (p1 : Int32) (p2 : Int32) : Nat := bnd4 (fX_checkSeller p0) (bnd4 (fX_checkRange p1 0 1000000) (bnd4 (fX_checkArtist p2) (if (sA 0 3) < 0 then 3 else (if (sA 0 3) < 30 then 0 else 3))))
theorem hdyX_lot : yX_lot.cls ≠ "java/lang/invoke/MethodHandle" ∧ yX_lot.cls ≠ "java/lang/invoke/VarHandle" ∧ (parseMethodDescriptor yX_lot.desc).map (fun d => d.parameters.length) = some 3 := by decide +kernel
theorem dX_lot_0 : decode bX_lot 0 = .ok (.iload_n 1, 1) := by decide +kernel
theorem dX_lot_1 : decode bX_lot 1 = .ok (.invokestatic 26, 3) := by decide +kernel
theorem dX_lot_4 : decode bX_lot 4 = .ok (.iload_n 2, 1) := by decide +kernel
theorem dX_lot_5 : decode bX_lot 5 = .ok (.iconst 0, 1) := by decide +kernel
theorem dX_lot_6 : decode bX_lot 6 = .ok (.ldc 30, 2) := by decide +kernel
theorem dX_lot_8 : decode bX_lot 8 = .ok (.invokestatic 31, 3) := by decide +kernel
theorem dX_lot_11 : decode bX_lot 11 = .ok (.iload_n 3, 1) := by decide +kernel
theorem dX_lot_12 : decode bX_lot 12 = .ok (.invokestatic 35, 3) := by decide +kernel
theorem dX_lot_15 : decode bX_lot 15 = .ok (.aload_n 0, 1) := by decide +kernel
theorem dX_lot_16 : decode bX_lot 16 = .ok (.getfield 38, 3) := by decide +kernel
theorem dX_lot_19 : decode bX_lot 19 = .ok (.ifCond .lt 15, 3) := by decide +kernel
theorem dX_lot_22 : decode bX_lot 22 = .ok (.aload_n 0, 1) := by decide +kernel
theorem dX_lot_23 : decode bX_lot 23 = .ok (.getfield 38, 3) := by decide +kernel
theorem dX_lot_26 : decode bX_lot 26 = .ok (.aload_n 0, 1) := by decide +kernel
theorem dX_lot_27 : decode bX_lot 27 = .ok (.getfield 11, 3) := by decide +kernel
theorem dX_lot_30 : decode bX_lot 30 = .ok (.arraylength, 1) := by decide +kernel
theorem dX_lot_31 : decode bX_lot 31 = .ok (.if_icmp .lt 13, 3) := by decide +kernel
theorem dX_lot_34 : decode bX_lot 34 = .ok (.new 41, 3) := by decide +kernel
theorem dX_lot_37 : decode bX_lot 37 = .ok (.dup, 1) := by decide +kernel
theorem dX_lot_38 : decode bX_lot 38 = .ok (.ldc 43, 2) := by decide +kernel
theorem dX_lot_40 : decode bX_lot 40 = .ok (.invokespecial 45, 3) := by decide +kernel
theorem dX_lot_43 : decode bX_lot 43 = .ok (.athrow, 1) := by decide +kernel
theorem dX_lot_44 : decode bX_lot 44 = .ok (.aload_n 0, 1) := by decide +kernel
theorem dX_lot_45 : decode bX_lot 45 = .ok (.getfield 38, 3) := by decide +kernel
theorem dX_lot_48 : decode bX_lot 48 = .ok (.istore 4, 2) := by decide +kernel
theorem dX_lot_50 : decode bX_lot 50 = .ok (.aload_n 0, 1) := by decide +kernel
theorem dX_lot_51 : decode bX_lot 51 = .ok (.getfield 11, 3) := by decide +kernel
theorem dX_lot_54 : decode bX_lot 54 = .ok (.iload 4, 2) := by decide +kernel
theorem dX_lot_56 : decode bX_lot 56 = .ok (.new 9, 3) := by decide +kernel
theorem dX_lot_59 : decode bX_lot 59 = .ok (.dup, 1) := by decide +kernel
theorem dX_lot_60 : decode bX_lot 60 = .ok (.iload_n 1, 1) := by decide +kernel
theorem dX_lot_61 : decode bX_lot 61 = .ok (.iload_n 2, 1) := by decide +kernel
theorem dX_lot_62 : decode bX_lot 62 = .ok (.invokestatic 48, 3) := by decide +kernel
theorem dX_lot_65 : decode bX_lot 65 = .ok (.iload_n 3, 1) := by decide +kernel
theorem dX_lot_66 : decode bX_lot 66 = .ok (.invokespecial 52, 3) := by decide +kernel
theorem dX_lot_69 : decode bX_lot 69 = .ok (.aastore, 1) := by decide +kernel
theorem dX_lot_70 : decode bX_lot 70 = .ok (.aload_n 0, 1) := by decide +kernel
theorem dX_lot_71 : decode bX_lot 71 = .ok (.iload 4, 2) := by decide +kernel
theorem dX_lot_73 : decode bX_lot 73 = .ok (.iconst 1, 1) := by decide +kernel
theorem dX_lot_74 : decode bX_lot 74 = .ok (.iadd, 1) := by decide +kernel
theorem dX_lot_75 : decode bX_lot 75 = .ok (.putfield 38, 3) := by decide +kernel
theorem dX_lot_78 : decode bX_lot 78 = .ok (.iload 4, 2) := by decide +kernel
theorem dX_lot_80 : decode bX_lot 80 = .ok (.ireturn, 1) := by decide +kernel
set_option maxHeartbeats 4000000 in
set_option maxRecDepth 100000 in
theorem cX_lot (l : Launch) (hl9 : l.stackTraces = false) (D : va_G) (tI tJ tL : ClassId) (A : Nat → Prop) (sg ad : Nat → Nat) (n : Nat) (sL : NL) (sA : NA) (p0 : Int32) (p1 : Int32) (p2 : Int32) (hn30 : n ≤ 30) (hln : sA 0 3 = nI n) : vx_Met l yX_lot (Cond.code yX_lot bX_lot 5 (some FieldType.int) :: wNeed) { frames := 8, cells := 7, slots := 54, locals := 132 } (va_Pc [.ref (ad 0), .int p0, .int p1, .int p2] (GP D tI tJ tL A sg ad n sL sA)) (va_Qi (fun r (ad2 : Nat → Nat) => fX_lot sL sA p0 p1 p2 = 0 ∧ r = nI n ∧ ∀ k, k < 4 * n + 11 → ad2 k = ad k) (fun ad2 t => GW D tI tJ tL A ad2 (n + 1) sL (up2 (newlot sA n p0 (fX_calledAmount p1) p2) 0 3 (sA 0 3 + 1)) t.heap) A) (XQ D tI tJ tL A ad n sL sA (fX_lot sL sA p0 p1 p2)) 7 54 A := by
  refine en_XG (av := [.ref (ad 0), .int p0, .int p1, .int p2]) (by decide) (Nat.le_of_ble_eq_true rfl) ?_
  intro p e s m below meth c hx hb hml hown hts hr hlocks hT hC H locs hG hS ls hl
  replace hl : lv_has ls 5 [(0, .ref (ad 0)), (1, .int p0), (2, .int p1), (3, .int p2)] := hl
  refine lv_iload_n hx hb dX_lot_0 rfl (lv_at hl 1 rfl) ?_
  refine rcS4 (rest := []) (As := [.int p0]) (Mc := 7) (Ms := 54) hx hb hml hown hts hC hG hS hlocks hT (cX_checkSeller l hl9 D tI tJ tL A sg ad n sL sA p0) (gS q_54 q_55 q_1 q_56) rfl rfl ⟨rfl, hdyX_checkSeller⟩ ⟨Nat.le_of_ble_eq_true rfl, Nat.le_of_ble_eq_true rfl⟩ hl.1 rfl (Nat.le_of_ble_eq_true rfl) dX_lot_1 ⟨Nat.le_of_ble_eq_true rfl, Nat.le_of_ble_eq_true rfl⟩ ⟨Nat.le_of_ble_eq_true rfl, Nat.le_of_ble_eq_true rfl⟩ (fun h => by rw [fX_lot, bnd4_n h] <;> rfl) (fun h_1 H locs hG hS => ?_)
  refine lv_iload_n hx hb dX_lot_4 rfl (lv_at hl 2 rfl) ?_
  refine lv_iconst (v := 0) hx hb dX_lot_5 (by decide) ?_
  refine lv_ldc (v := 1000000) hx hb hown (hts _ q_186) dX_lot_6 ?_
  refine rcS4 (rest := []) (As := [.int p1, .int 0, .int 1000000]) (Mc := 7) (Ms := 54) hx hb hml hown hts hC hG hS hlocks hT (cX_checkRange l hl9 D tI tJ tL A sg ad n sL sA p1 0 1000000) (gS q_125 q_126 q_1 q_127) rfl rfl ⟨rfl, hdyX_checkRange⟩ ⟨Nat.le_of_ble_eq_true rfl, Nat.le_of_ble_eq_true rfl⟩ hl.1 rfl (Nat.le_of_ble_eq_true rfl) dX_lot_8 ⟨Nat.le_of_ble_eq_true rfl, Nat.le_of_ble_eq_true rfl⟩ ⟨Nat.le_of_ble_eq_true rfl, Nat.le_of_ble_eq_true rfl⟩ (fun h => by rw [fX_lot, bnd4_0 h_1, bnd4_n h] <;> rfl) (fun h_2 H locs hG hS => ?_)
  refine lv_iload_n hx hb dX_lot_11 rfl (lv_at hl 3 rfl) ?_
  refine rcS4 (rest := []) (As := [.int p2]) (Mc := 7) (Ms := 54) hx hb hml hown hts hC hG hS hlocks hT (cX_checkArtist l hl9 D tI tJ tL A sg ad n sL sA p2) (gS q_187 q_188 q_1 q_189) rfl rfl ⟨rfl, hdyX_checkArtist⟩ ⟨Nat.le_of_ble_eq_true rfl, Nat.le_of_ble_eq_true rfl⟩ hl.1 rfl (Nat.le_of_ble_eq_true rfl) dX_lot_12 ⟨Nat.le_of_ble_eq_true rfl, Nat.le_of_ble_eq_true rfl⟩ ⟨Nat.le_of_ble_eq_true rfl, Nat.le_of_ble_eq_true rfl⟩ (fun h => by rw [fX_lot, bnd4_0 h_1, bnd4_0 h_2, bnd4_n h] <;> rfl) (fun h_3 H locs hG hS => ?_)
  refine lv_aload_n hx hb dX_lot_15 rfl (lv_at hl 0 rfl) ?_
  refine rx_get (v := .int (sA 0 3)) hx hb hts hown hC hG 3 (by decide) q_24 (rfl) dX_lot_16 ?_
  refine lv_if_lt (tgt := 34) hx hb dX_lot_19 (by decide) (fun c_4 => ?_) (fun c_4 => ?_)
  · exact rc_throw (text := "no room for another lot") hx hb hts hown hC hG hS hl9 hlocks hT (Or.inr (Or.inr ⟨rfl, by rw [fX_lot, bnd4_0 h_1, bnd4_0 h_2, bnd4_0 h_3, if_pos c_4] <;> rfl⟩)) (by decide +kernel) q_190 q_8 (by decide) at_S (hl.1.trans hml.symm) dX_lot_34 dX_lot_37 dX_lot_38 dX_lot_40 dX_lot_43 (Nat.le_of_ble_eq_true rfl) (Nat.le_of_ble_eq_true rfl) (Nat.le_of_ble_eq_true rfl) (Nat.le_of_ble_eq_true rfl) (Nat.le_of_ble_eq_true rfl) (Nat.le_of_ble_eq_true rfl)
  · refine lv_aload_n hx hb dX_lot_22 rfl (lv_at hl 0 rfl) ?_
    refine rx_get (v := .int (sA 0 3)) hx hb hts hown hC hG 3 (by decide) q_24 (rfl) dX_lot_23 ?_
    refine lv_aload_n hx hb dX_lot_26 rfl (lv_at hl 0 rfl) ?_
    refine rx_get (v := .ref (ad 1)) hx hb hts hown hC hG 0 (by decide) q_21 (rfl) dX_lot_27 ?_
    refine rh_len hx hb hC hG (v := 30) rfl dX_lot_30 ?_
    refine lv_icmp_lt (tgt := 44) hx hb dX_lot_31 (by decide) (fun c_5 => ?_) (fun c_5 => ?_)
    · refine lv_aload_n hx hb dX_lot_44 rfl (lv_at hl 0 rfl) ?_
      refine rx_get (v := .int (sA 0 3)) hx hb hts hown hC hG 3 (by decide) q_24 (rfl) dX_lot_45 ?_
      refine lv_istore (lv' := [(4, .int (sA 0 3)), (0, .ref (ad 0)), (1, .int p0), (2, .int p1), (3, .int p2)]) hx hb dX_lot_48 hl (by decide) rfl (fun ls hl => ?_)
      refine lv_aload_n hx hb dX_lot_50 rfl (lv_at hl 1 rfl) ?_
      refine rx_get (v := .ref (ad 1)) hx hb hts hown hC hG 0 (by decide) q_21 (rfl) dX_lot_51 ?_
      refine lv_iload hx hb dX_lot_54 (lv_at hl 0 rfl) ?_
      refine va_new (ci := 1) (fs := [.int 0, .int 0, .null, .int 0, .int 0, .int 0, .int 0, .int 0, .int 0, .int 0, .int 0, .int 0, .int 0]) (C := "DroitLine$Lot") (T := F_L) (N := 13) hx hb hts i_L t_L t_L_ok hown (hts _ q_19) (hts _ q_206) (hts _ q_9) hC.2.1 hG.1 hG.2 hS hC.1 rfl (fun j hj => by rcases (show j = 0 ∨ j = 1 ∨ j = 2 ∨ j = 3 ∨ j = 4 ∨ j = 5 ∨ j = 6 ∨ j = 7 ∨ j = 8 ∨ j = 9 ∨ j = 10 ∨ j = 11 ∨ j = 12 by omega) with rfl | rfl | rfl | rfl | rfl | rfl | rfl | rfl | rfl | rfl | rfl | rfl | rfl <;> rfl) (Nat.le_of_ble_eq_true rfl) (Nat.le_of_ble_eq_true rfl) dX_lot_56 (fun q0 H hP hD hS => ?_)
      refine lv_dup hx hb dX_lot_59 rfl ?_
      refine lv_iload_n hx hb dX_lot_60 rfl (lv_at hl 2 rfl) ?_
      refine lv_iload_n hx hb dX_lot_61 rfl (lv_at hl 3 rfl) ?_
      refine rcS1 (rest := [.int p0, .ref q0, .ref q0, .int (sA 0 3), .ref (ad 1)]) (As := [.int p1]) hx hb hml hown hts (cX_calledAmount l p1) (gS q_207 q_208 q_1 q_209) rfl rfl ⟨rfl, hdyX_calledAmount⟩ ⟨Nat.le_of_ble_eq_true rfl, Nat.le_of_ble_eq_true rfl⟩ hl.1 rfl (Nat.le_of_ble_eq_true rfl) dX_lot_62 ⟨Nat.le_of_ble_eq_true rfl, Nat.le_of_ble_eq_true rfl⟩ ?_
      refine lv_iload_n hx hb dX_lot_65 rfl (lv_at hl 4 rfl) ?_
      have hPc := (lastP hP).2
      have hDl := lastD hD
      have hA0 : ∀ q, H.size ≤ q → A q := fun q h => hC.1 q (Nat.le_trans hS.1 h)
      have hFc := ctor_free (e := .inr (1, [.int 0, .int 0, .null, .int 0, .int 0, .int 0, .int 0, .int 0, .int 0, .int 0, .int 0, .int 0, .int 0])) hDl.2.1 hA0
      refine va_callv (va_runI (As := [.int p0, .int (fX_calledAmount p1), .int p2]) (rest := [.ref q0, .int (sA 0 3), .ref (ad 1)]) ⟨hx, hb, hml, hown, hts⟩ (cL_init l D tI tJ tL q0 H.size p0 (fX_calledAmount p1) p2) (cwI 3 hts (gI q_215) rfl rfl rfl (hts _ q_9) (hts _ q_213) (hts _ q_214) rfl hdyL_init ⟨Nat.le_of_ble_eq_true rfl, Nat.le_of_ble_eq_true rfl⟩) ⟨CP.blind, fun U hU hW => ⟨rfl, by rw [hU], by rw [hU]; exact hPc, va_K.moved hW.alike hC.2.1, hDl.2.2.2, fun w hw => bad_warm (List.mem_filter.mp hw).2 hW (hC.2.2.2.2.2.1 w hw), fun hx => absurd hx (by decide)⟩⟩ rfl rfl hl.1 rfl (lv_room (Nat.le_of_ble_eq_true rfl)) dX_lot_66 ⟨Nat.le_of_ble_eq_true rfl, Nat.le_of_ble_eq_true rfl⟩) hS (fun q _ h => hFc q h) hFc (fun u t H1 locs ht hvm hw hB hz1 hk1 hS => ?_)
      obtain ⟨q1, q2, q3, hP1, hD1⟩ := hB
      rw [ht] at hP1
      obtain ⟨hP, hD⟩ := ctor_join hP hD hA0 hk1 hP1 hD1
      generalize H1 = H at hP hS ⊢
      have hin : vp_in (sA 0 3) 30 := vin_a (M := 30) (by decide) (by decide) c_4 (by rw [Int32.not_le]; exact c_5)
      refine va_astq hx hb hC.2.1 hP hD hS 1 1 (4 * n + 11) 1 (by rw [List.getElem?_append_left (by rw [wv_len]; omega), wv_get (by omega)]; rfl) rfl (by rw [List.getElem?_append_right (by rw [wv_len]; omega), wv_len, Nat.sub_self]; rfl) rfl hin dX_lot_69 (fun H locs hP hD hS => ?_)
      rw [show (sA 0 3).toNatClampNeg = n from by rw [hln]; exact nI_clamp (by omega), wv_new] at hP hD
      obtain ⟨ad2, had, hG⟩ : ∃ ad2 : Nat → Nat, (∀ k, k < 4 * n + 11 → ad2 k = ad k) ∧ GW D tI tJ tL A ad2 (n + 1) sL (newlot sA n p0 (fX_calledAmount p1) p2) H := ⟨_, fun k hk => adNew_lt hk, hP, hD⟩
      rw [← had 0 (by omega)] at hl
      refine lv_aload_n hx hb dX_lot_70 rfl (lv_at hl 1 rfl) ?_
      refine lv_iload hx hb dX_lot_71 (lv_at hl 0 rfl) ?_
      refine lv_iconst (v := 1) hx hb dX_lot_73 (by decide) ?_
      refine lv_iadd hx hb dX_lot_74 ?_
      refine rx_puti hx hb hts hown hC hG hS 3 (by decide) q_24 dX_lot_75 (fun H locs hG hS => ?_)
      refine lv_iload hx hb dX_lot_78 (lv_at hl 0 rfl) ?_
      refine vx_ret ?_
      refine W.widen (k := 7) (n := 54) (Nat.le_of_ble_eq_true rfl) (Nat.le_of_ble_eq_true rfl) ?_
      exact W.iret (v := sA 0 3) hx hb hr (fun t ht hW => ⟨⟨sA 0 3, ad2, rfl, ⟨(by rw [fX_lot, bnd4_0 h_1, bnd4_0 h_2, bnd4_0 h_3, if_neg c_4, if_pos c_5] <;> rfl), hln, had⟩, gw_at hG ht⟩, hS.F ht⟩) hS.2.2 dX_lot_80
    · exact rc_throw (text := "no room for another lot") hx hb hts hown hC hG hS hl9 hlocks hT (Or.inr (Or.inr ⟨rfl, by rw [fX_lot, bnd4_0 h_1, bnd4_0 h_2, bnd4_0 h_3, if_neg c_4, if_neg c_5] <;> rfl⟩)) (by decide +kernel) q_190 q_8 (by decide) at_S (hl.1.trans hml.symm) dX_lot_34 dX_lot_37 dX_lot_38 dX_lot_40 dX_lot_43 (Nat.le_of_ble_eq_true rfl) (Nat.le_of_ble_eq_true rfl) (Nat.le_of_ble_eq_true rfl) (Nat.le_of_ble_eq_true rfl) (Nat.le_of_ble_eq_true rfl) (Nat.le_of_ble_eq_true rfl)
