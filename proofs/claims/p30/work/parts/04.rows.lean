theorem F_X1 : ∀ k, (F_X k).1 = "DroitLine" := by intro k; unfold F_X; split <;> rfl
theorem F_L1 : ∀ k, (F_L k).1 = "DroitLine$Lot" := by intro k; unfold F_L; split <;> rfl
theorem F_O1 : ∀ k, (F_O k).1 = "DroitLine$Offers" := by intro k; unfold F_O; split <;> rfl
theorem hsm {s : State} {a b n d : String} (h : a = b) : ∀ x, s.fieldFound? a n d = some x → s.fieldFound? b n d = some x := fun x hx => h ▸ hx
def XE (E : String) (k : Nat) : Prop := (E = XI ∧ k = 1) ∨ (E = XG ∧ k = 2) ∨ (E = XS ∧ k = 3)
theorem XE.ne {E : String} {k : Nat} (h : XE E k) : k ≠ 0 := by
  rcases h with ⟨-, h⟩ | ⟨-, h⟩ | ⟨-, h⟩ <;> omega
abbrev NL : Type := Nat → Nat → Int64
abbrev NA : Type := Nat → Nat → Int32
abbrev XQ (D : va_G) (tI tJ tL : ClassId) (A : Nat → Prop) (ad : Nat → Nat) (n : Nat) (sL : NL) (sA : NA) (code : Nat) : String → State → State → Prop := vx_X (fun _ : Unit => True) (fun E _ t => XE E code ∧ GW D tI tJ tL A ad n sL sA t.heap) A
section G2
variable {p : Program} {l : Launch} {e : Env} {R : Room} {s : State} {m : MethodId} {args : Array Value} {below : List Frame} {meth : Method} {c : Code} {H : Heap} {locs : List Loc} {cells slots : Nat} {Q : State → Prop}
variable {D : va_G} {tI tJ tL : ClassId} {A : Nat → Prop} {sg ad : Nat → Nat} {n : Nat} {sL : NL} {sA : NA}
variable {cc : ByteArray} {pc : Nat} {ls : Array Slot} {rest : List Value}
theorem rx_get (hx : p.tables.exec = Jvm.exec) (hb : c.code = cc) (hts : ∀ w ∈ wNeed, w.before args s = true) (hown : s.vm.findClass "DroitLine" = some m.cls) (hC : GC D tI tJ tL A sg s) (hG : GW D tI tJ tL A ad n sL sA H) (k : Nat) {idx : Nat} {v : Value} (hk : k < 9) (hw : Cond.fieldLink "DroitLine" idx "DroitLine" (F_X k).2.1 (F_X k).2.2.1 ∈ wNeed) (hv : (xfs ad (sL 0) (sA 0))[k]? = some v) (hdg : decode cc pc = .ok (.getfield idx, 3))
    (kk : W p l e R s m args below meth c H locs cells slots Q (F0 m (pc + 3) ls (v :: rest))) : W p l e R s m args below meth c H locs cells slots Q (F0 m pc ls (.ref (ad 0) :: rest)) :=
  va_get (C := "DroitLine") (T := F_X) (N := 9) (ci := 0) hx hb hts i_X hown hC.2.1 hG.1 0 (by rw [wv_get (by omega)]; rfl) rfl k hk (hts _ hw) (hsm (F_X1 k)) hv hdg kk
theorem rl_get (hx : p.tables.exec = Jvm.exec) (hb : c.code = cc) (hts : ∀ w ∈ wNeed, w.before args s = true) (hown : s.vm.findClass "DroitLine$Lot" = some m.cls) (hC : GC D tI tJ tL A sg s) (hG : GW D tI tJ tL A ad n sL sA H) (k : Nat) {i : Nat} (hi : i < n) {idx : Nat} {v : Value} (hk : k < 13) (hw : Cond.fieldLink "DroitLine$Lot" idx "DroitLine$Lot" (F_L k).2.1 (F_L k).2.2.1 ∈ wNeed) (hv : (lfs ad (4 * i + 11) (sA (4 * i + 11)))[k]? = some v) (hdg : decode cc pc = .ok (.getfield idx, 3))
    (kk : W p l e R s m args below meth c H locs cells slots Q (F0 m (pc + 3) ls (v :: rest))) : W p l e R s m args below meth c H locs cells slots Q (F0 m pc ls (.ref (ad (4 * i + 11)) :: rest)) :=
  va_get (C := "DroitLine$Lot") (T := F_L) (N := 13) (ci := 1) hx hb hts i_L hown hC.2.1 hG.1 (4 * i + 11) (by rw [wv_get (by omega), gr_L]) rfl k hk (hts _ hw) (hsm (F_L1 k)) hv hdg kk
theorem rl_getN (hx : p.tables.exec = Jvm.exec) (hb : c.code = cc) (hts : ∀ w ∈ wNeed, w.before args s = true) (hown : s.vm.findClass "DroitLine" = some m.cls) (hC : GC D tI tJ tL A sg s) (hG : GW D tI tJ tL A ad n sL sA H) (k : Nat) {i : Nat} (hi : i < n) {idx : Nat} {v : Value} (hk : k < 13) (hw : Cond.fieldLinkNest "DroitLine" idx "DroitLine$Lot" (F_L k).2.1 (F_L k).2.2.1 "DroitLine" ∈ wBad) (hv : (lfs ad (4 * i + 11) (sA (4 * i + 11)))[k]? = some v) (hdg : decode cc pc = .ok (.getfield idx, 3))
    (kk : W p l e R s m args below meth c H locs cells slots Q (F0 m (pc + 3) ls (v :: rest))) : W p l e R s m args below meth c H locs cells slots Q (F0 m pc ls (.ref (ad (4 * i + 11)) :: rest)) :=
  va_getN (C := "DroitLine$Lot") (T := F_L) (N := 13) (ci := 1) hx hb hts i_L hown hC.2.1 hG.1 (4 * i + 11) (by rw [wv_get (by omega), gr_L]) rfl k hk (va_Nw.use rfl (hC.2.2.2.2.2.1 _ hw)) (hsm (F_L1 k)) hv hdg kk
theorem ro_get (hx : p.tables.exec = Jvm.exec) (hb : c.code = cc) (hts : ∀ w ∈ wNeed, w.before args s = true) (hown : s.vm.findClass "DroitLine$Offers" = some m.cls) (hC : GC D tI tJ tL A sg s) (hG : GW D tI tJ tL A ad n sL sA H) (k : Nat) {i : Nat} (hi : i < n) {idx : Nat} {v : Value} (hk : k < 3) (hw : Cond.fieldLink "DroitLine$Offers" idx "DroitLine$Offers" (F_O k).2.1 (F_O k).2.2.1 ∈ wNeed) (hv : (ofs ad (4 * i + 12) (sA (4 * i + 12)))[k]? = some v) (hdg : decode cc pc = .ok (.getfield idx, 3))
    (kk : W p l e R s m args below meth c H locs cells slots Q (F0 m (pc + 3) ls (v :: rest))) : W p l e R s m args below meth c H locs cells slots Q (F0 m pc ls (.ref (ad (4 * i + 12)) :: rest)) :=
  va_get (C := "DroitLine$Offers") (T := F_O) (N := 3) (ci := 2) hx hb hts i_O hown hC.2.1 hG.1 (4 * i + 12) (by rw [wv_get (by omega), gr_O]) rfl k hk (hts _ hw) (hsm (F_O1 k)) hv hdg kk
theorem ro_getN {own : String} (hx : p.tables.exec = Jvm.exec) (hb : c.code = cc) (hts : ∀ w ∈ wNeed, w.before args s = true) (hown : s.vm.findClass own = some m.cls) (hC : GC D tI tJ tL A sg s) (hG : GW D tI tJ tL A ad n sL sA H) (k : Nat) {i : Nat} (hi : i < n) {idx : Nat} {v : Value} (hk : k < 3) (hw : Cond.fieldLinkNest own idx "DroitLine$Offers" (F_O k).2.1 (F_O k).2.2.1 "DroitLine" ∈ wBad) (hv : (ofs ad (4 * i + 12) (sA (4 * i + 12)))[k]? = some v) (hdg : decode cc pc = .ok (.getfield idx, 3))
    (kk : W p l e R s m args below meth c H locs cells slots Q (F0 m (pc + 3) ls (v :: rest))) : W p l e R s m args below meth c H locs cells slots Q (F0 m pc ls (.ref (ad (4 * i + 12)) :: rest)) :=
  va_getN (C := "DroitLine$Offers") (T := F_O) (N := 3) (ci := 2) hx hb hts i_O hown hC.2.1 hG.1 (4 * i + 12) (by rw [wv_get (by omega), gr_O]) rfl k hk (va_Nw.use rfl (hC.2.2.2.2.2.1 _ hw)) (hsm (F_O1 k)) hv hdg kk
theorem rx_puti (hx : p.tables.exec = Jvm.exec) (hb : c.code = cc) (hts : ∀ w ∈ wNeed, w.before args s = true) (hown : s.vm.findClass "DroitLine" = some m.cls) (hC : GC D tI tJ tL A sg s) (hG : GW D tI tJ tL A ad n sL sA H) (hS : va_S A s.heap H locs) (k : Nat) {idx : Nat} {v : Int32} (h3 : k = 3 ∨ k = 4 ∨ k = 5) (hw : Cond.fieldLink "DroitLine" idx "DroitLine" (F_X k).2.1 (F_X k).2.2.1 ∈ wNeed) (hdg : decode cc pc = .ok (.putfield idx, 3))
    (kk : ∀ (H1 : Heap) (locs1 : List Loc), GW D tI tJ tL A ad n sL (up2 sA 0 k v) H1 → va_S A s.heap H1 locs1 → W p l e R s m args below meth c H1 locs1 cells slots Q (F0 m (pc + 3) ls rest)) : W p l e R s m args below meth c H locs cells slots Q (F0 m pc ls (.int v :: .ref (ad 0) :: rest)) := by
  have e : (wv ad tI tJ tL n sL sA).set 0 (ad 0, .inr (0, (xfs ad (sL 0) (sA 0)).set k (.int v))) = wv ad tI tJ tL n sL (up2 sA 0 k v) := by
    refine wv_set ?_ (fun _ _ => rfl) (fun j hj => up2_ne hj)
    rw [up2_row]
    rcases h3 with rfl | rfl | rfl <;> rfl
  refine va_put (C := "DroitLine") (T := F_X) (N := 9) (ci := 0) (ty := .int) hx hb hts i_X t_X t_X_ok n_X hown hC.2.1 hG.1 hG.2 hS 0 (by rw [wv_get (by omega)]; rfl) rfl k (by omega) (hts _ hw) (hsm (F_X1 k)) (by rcases h3 with rfl | rfl | rfl <;> rfl) (by rcases h3 with rfl | rfl | rfl <;> decide +kernel) rfl rfl (by show k < 9; omega) hdg fun H1 locs1 hP hD hS1 => ?_
  rw [e] at hP hD
  exact kk H1 locs1 ⟨hP, hD⟩ hS1
theorem rx_putl (hx : p.tables.exec = Jvm.exec) (hb : c.code = cc) (hts : ∀ w ∈ wNeed, w.before args s = true) (hown : s.vm.findClass "DroitLine" = some m.cls) (hC : GC D tI tJ tL A sg s) (hG : GW D tI tJ tL A ad n sL sA H) (hS : va_S A s.heap H locs) (k : Nat) {idx : Nat} {v : Int64} (h3 : k = 6 ∨ k = 7 ∨ k = 8) (hw : Cond.fieldLink "DroitLine" idx "DroitLine" (F_X k).2.1 (F_X k).2.2.1 ∈ wNeed) (hdg : decode cc pc = .ok (.putfield idx, 3))
    (kk : ∀ (H1 : Heap) (locs1 : List Loc), GW D tI tJ tL A ad n (up2L sL 0 k v) sA H1 → va_S A s.heap H1 locs1 → W p l e R s m args below meth c H1 locs1 cells slots Q (F0 m (pc + 3) ls rest)) : W p l e R s m args below meth c H locs cells slots Q (F0 m pc ls (.long v :: .ref (ad 0) :: rest)) := by
  have e : (wv ad tI tJ tL n sL sA).set 0 (ad 0, .inr (0, (xfs ad (sL 0) (sA 0)).set k (.long v))) = wv ad tI tJ tL n (up2L sL 0 k v) sA := by
    refine wv_set ?_ (fun j hj => up2L_ne hj) (fun _ _ => rfl)
    rw [up2L_row]
    rcases h3 with rfl | rfl | rfl <;> rfl
  refine va_put (C := "DroitLine") (T := F_X) (N := 9) (ci := 0) (ty := .long) hx hb hts i_X t_X t_X_ok n_X hown hC.2.1 hG.1 hG.2 hS 0 (by rw [wv_get (by omega)]; rfl) rfl k (by omega) (hts _ hw) (hsm (F_X1 k)) (by rcases h3 with rfl | rfl | rfl <;> rfl) (by rcases h3 with rfl | rfl | rfl <;> decide +kernel) rfl rfl (by show k < 9; omega) hdg fun H1 locs1 hP hD hS1 => ?_
  rw [e] at hP hD
  exact kk H1 locs1 ⟨hP, hD⟩ hS1
theorem lot_put {k i : Nat} {v : Int32} (h3 : 3 ≤ k) (h4 : k < 13) : (wv ad tI tJ tL n sL sA).set (4 * i + 11) (ad (4 * i + 11), .inr (1, (lfs ad (4 * i + 11) (sA (4 * i + 11))).set k (.int v))) = wv ad tI tJ tL n sL (up2 sA (4 * i + 11) k v) := by
  refine wv_set ?_ (fun _ _ => rfl) (fun j hj => up2_ne hj)
  rw [up2_row, gr_L]
  rcases (show k = 3 ∨ k = 4 ∨ k = 5 ∨ k = 6 ∨ k = 7 ∨ k = 8 ∨ k = 9 ∨ k = 10 ∨ k = 11 ∨ k = 12 by omega) with rfl | rfl | rfl | rfl | rfl | rfl | rfl | rfl | rfl | rfl <;> rfl
theorem lot_fin {k : Nat} (h3 : 3 ≤ k) (h4 : k < 13) : (F_L k).2.2.2 = false ∧ parseFieldDescriptor (F_L k).2.2.1 = some .int := by
  rcases (show k = 3 ∨ k = 4 ∨ k = 5 ∨ k = 6 ∨ k = 7 ∨ k = 8 ∨ k = 9 ∨ k = 10 ∨ k = 11 ∨ k = 12 by omega) with rfl | rfl | rfl | rfl | rfl | rfl | rfl | rfl | rfl | rfl <;> exact ⟨rfl, by decide +kernel⟩
theorem rl_put (hx : p.tables.exec = Jvm.exec) (hb : c.code = cc) (hts : ∀ w ∈ wNeed, w.before args s = true) (hown : s.vm.findClass "DroitLine$Lot" = some m.cls) (hC : GC D tI tJ tL A sg s) (hG : GW D tI tJ tL A ad n sL sA H) (hS : va_S A s.heap H locs) (k : Nat) {i : Nat} (hi : i < n) {idx : Nat} {v : Int32} (h3 : 3 ≤ k) (h4 : k < 13) (hw : Cond.fieldLink "DroitLine$Lot" idx "DroitLine$Lot" (F_L k).2.1 (F_L k).2.2.1 ∈ wNeed) (hdg : decode cc pc = .ok (.putfield idx, 3))
    (kk : ∀ (H1 : Heap) (locs1 : List Loc), GW D tI tJ tL A ad n sL (up2 sA (4 * i + 11) k v) H1 → va_S A s.heap H1 locs1 → W p l e R s m args below meth c H1 locs1 cells slots Q (F0 m (pc + 3) ls rest)) : W p l e R s m args below meth c H locs cells slots Q (F0 m pc ls (.int v :: .ref (ad (4 * i + 11)) :: rest)) := by
  refine va_put (C := "DroitLine$Lot") (T := F_L) (N := 13) (ci := 1) (ty := .int) hx hb hts i_L t_L t_L_ok n_L hown hC.2.1 hG.1 hG.2 hS (4 * i + 11) (by rw [wv_get (by omega), gr_L]) rfl k h4 (hts _ hw) (hsm (F_L1 k)) (lot_fin h3 h4).1 (lot_fin h3 h4).2 rfl rfl (by show k < 13; exact h4) hdg fun H1 locs1 hP hD hS1 => ?_
  rw [lot_put h3 h4] at hP hD
  exact kk H1 locs1 ⟨hP, hD⟩ hS1
theorem rl_putN (hx : p.tables.exec = Jvm.exec) (hb : c.code = cc) (hts : ∀ w ∈ wNeed, w.before args s = true) (hown : s.vm.findClass "DroitLine" = some m.cls) (hC : GC D tI tJ tL A sg s) (hG : GW D tI tJ tL A ad n sL sA H) (hS : va_S A s.heap H locs) (k : Nat) {i : Nat} (hi : i < n) {idx : Nat} {v : Int32} (h3 : 3 ≤ k) (h4 : k < 13) (hw : Cond.fieldLinkNest "DroitLine" idx "DroitLine$Lot" (F_L k).2.1 (F_L k).2.2.1 "DroitLine" ∈ wBad) (hdg : decode cc pc = .ok (.putfield idx, 3))
    (kk : ∀ (H1 : Heap) (locs1 : List Loc), GW D tI tJ tL A ad n sL (up2 sA (4 * i + 11) k v) H1 → va_S A s.heap H1 locs1 → W p l e R s m args below meth c H1 locs1 cells slots Q (F0 m (pc + 3) ls rest)) : W p l e R s m args below meth c H locs cells slots Q (F0 m pc ls (.int v :: .ref (ad (4 * i + 11)) :: rest)) := by
  refine va_putN (C := "DroitLine$Lot") (T := F_L) (N := 13) (ci := 1) (ty := .int) hx hb hts i_L t_L t_L_ok n_L hown hC.2.1 hG.1 hG.2 hS (4 * i + 11) (by rw [wv_get (by omega), gr_L]) rfl k h4 (va_Nw.use rfl (hC.2.2.2.2.2.1 _ hw)) (hsm (F_L1 k)) (lot_fin h3 h4).1 (lot_fin h3 h4).2 rfl rfl (by show k < 13; exact h4) hdg fun H1 locs1 hP hD hS1 => ?_
  rw [lot_put h3 h4] at hP hD
  exact kk H1 locs1 ⟨hP, hD⟩ hS1
theorem off_put {i : Nat} {v : Int32} : (wv ad tI tJ tL n sL sA).set (4 * i + 12) (ad (4 * i + 12), .inr (2, (ofs ad (4 * i + 12) (sA (4 * i + 12))).set 2 (.int v))) = wv ad tI tJ tL n sL (up2 sA (4 * i + 12) 2 v) := by
  refine wv_set ?_ (fun _ _ => rfl) (fun j hj => up2_ne hj)
  rw [up2_row, gr_O]
  rfl
theorem ro_put (hx : p.tables.exec = Jvm.exec) (hb : c.code = cc) (hts : ∀ w ∈ wNeed, w.before args s = true) (hown : s.vm.findClass "DroitLine$Offers" = some m.cls) (hC : GC D tI tJ tL A sg s) (hG : GW D tI tJ tL A ad n sL sA H) (hS : va_S A s.heap H locs) {i : Nat} (hi : i < n) {idx : Nat} {v : Int32} (hw : Cond.fieldLink "DroitLine$Offers" idx "DroitLine$Offers" "count" "I" ∈ wNeed) (hdg : decode cc pc = .ok (.putfield idx, 3))
    (kk : ∀ (H1 : Heap) (locs1 : List Loc), GW D tI tJ tL A ad n sL (up2 sA (4 * i + 12) 2 v) H1 → va_S A s.heap H1 locs1 → W p l e R s m args below meth c H1 locs1 cells slots Q (F0 m (pc + 3) ls rest)) : W p l e R s m args below meth c H locs cells slots Q (F0 m pc ls (.int v :: .ref (ad (4 * i + 12)) :: rest)) := by
  refine va_put (C := "DroitLine$Offers") (T := F_O) (N := 3) (ci := 2) (ty := .int) hx hb hts i_O t_O t_O_ok n_O hown hC.2.1 hG.1 hG.2 hS (4 * i + 12) (by rw [wv_get (by omega), gr_O]) rfl 2 (by omega) (hts _ hw) (hsm (F_O1 2)) rfl (by decide +kernel) rfl rfl (by show 2 < 3; omega) hdg fun H1 locs1 hP hD hS1 => ?_
  rw [off_put] at hP hD
  exact kk H1 locs1 ⟨hP, hD⟩ hS1
theorem ro_putN {own : String} (hx : p.tables.exec = Jvm.exec) (hb : c.code = cc) (hts : ∀ w ∈ wNeed, w.before args s = true) (hown : s.vm.findClass own = some m.cls) (hC : GC D tI tJ tL A sg s) (hG : GW D tI tJ tL A ad n sL sA H) (hS : va_S A s.heap H locs) {i : Nat} (hi : i < n) {idx : Nat} {v : Int32} (hw : Cond.fieldLinkNest own idx "DroitLine$Offers" "count" "I" "DroitLine" ∈ wBad) (hdg : decode cc pc = .ok (.putfield idx, 3))
    (kk : ∀ (H1 : Heap) (locs1 : List Loc), GW D tI tJ tL A ad n sL (up2 sA (4 * i + 12) 2 v) H1 → va_S A s.heap H1 locs1 → W p l e R s m args below meth c H1 locs1 cells slots Q (F0 m (pc + 3) ls rest)) : W p l e R s m args below meth c H locs cells slots Q (F0 m pc ls (.int v :: .ref (ad (4 * i + 12)) :: rest)) := by
  refine va_putN (C := "DroitLine$Offers") (T := F_O) (N := 3) (ci := 2) (ty := .int) hx hb hts i_O t_O t_O_ok n_O hown hC.2.1 hG.1 hG.2 hS (4 * i + 12) (by rw [wv_get (by omega), gr_O]) rfl 2 (by omega) (va_Nw.use rfl (hC.2.2.2.2.2.1 _ hw)) (hsm (F_O1 2)) rfl (by decide +kernel) rfl rfl (by show 2 < 3; omega) hdg fun H1 locs1 hP hD hS1 => ?_
  rw [off_put] at hP hD
  exact kk H1 locs1 ⟨hP, hD⟩ hS1
theorem ra_ld (hx : p.tables.exec = Jvm.exec) (hb : c.code = cc) (hC : GC D tI tJ tL A sg s) (hG : GW D tI tJ tL A ad n sL sA H) (k len : Nat) (hk : k < 4 * n + 11) (hg : ∀ lr r, gr ad tI tJ tL n lr r k = .inl (tI, len, .inl r)) {i : Int32} (hin : vp_in i len) (hdg : decode cc pc = .ok (.iaload, 1))
    (kk : W p l e R s m args below meth c H locs cells slots Q (F0 m (pc + 1) ls (.int (sA k i.toNatClampNeg) :: rest))) : W p l e R s m args below meth c H locs cells slots Q (F0 m pc ls (.int i :: .ref (ad k) :: rest)) :=
  va_iald hx hb hC.2.1 hG.1 k 0 (by rw [wv_get hk, hg]) rfl hin hdg kk
theorem ra_st (hx : p.tables.exec = Jvm.exec) (hb : c.code = cc) (hC : GC D tI tJ tL A sg s) (hG : GW D tI tJ tL A ad n sL sA H) (hS : va_S A s.heap H locs) (k len : Nat) (hk : k < 4 * n + 11) (hg : ∀ lr r, gr ad tI tJ tL n lr r k = .inl (tI, len, .inl r)) {i x : Int32} (hin : vp_in i len) (hdg : decode cc pc = .ok (.iastore, 1))
    (kk : ∀ (H1 : Heap) (locs1 : List Loc), GW D tI tJ tL A ad n sL (up2 sA k i.toNatClampNeg x) H1 → va_S A s.heap H1 locs1 → W p l e R s m args below meth c H1 locs1 cells slots Q (F0 m (pc + 1) ls rest)) : W p l e R s m args below meth c H locs cells slots Q (F0 m pc ls (.int x :: .int i :: .ref (ad k) :: rest)) := by
  refine va_iast hx hb hC.2.1 hG.1 hG.2 hS k 0 (by rw [wv_get hk, hg]) rfl hin hdg fun H1 locs1 hP hD hS1 => ?_
  have e : (wv ad tI tJ tL n sL sA).set k (ad k, .inl (tI, len, .inl (upd (sA k) i.toNatClampNeg x))) = wv ad tI tJ tL n sL (up2 sA k i.toNatClampNeg x) :=
    wv_set (by rw [hg, up2_row]) (fun _ _ => rfl) (fun j hj => up2_ne hj)
  rw [e] at hP hD
  exact kk H1 locs1 ⟨hP, hD⟩ hS1
theorem ra_len (hx : p.tables.exec = Jvm.exec) (hb : c.code = cc) (hC : GC D tI tJ tL A sg s) (hG : GW D tI tJ tL A ad n sL sA H) (k len : Nat) (hk : k < 4 * n + 11) (hg : ∀ lr r, gr ad tI tJ tL n lr r k = .inl (tI, len, .inl r)) {v : Int32} (hv : Int32.ofNat len = v) (hdg : decode cc pc = .ok (.arraylength, 1))
    (kk : W p l e R s m args below meth c H locs cells slots Q (F0 m (pc + 1) ls (.int v :: rest))) : W p l e R s m args below meth c H locs cells slots Q (F0 m pc ls (.ref (ad k) :: rest)) :=
  va_alen hx hb hC.2.1 hG.1 k 0 (by rw [wv_get hk, hg]) rfl hv hdg kk
theorem rh_len (hx : p.tables.exec = Jvm.exec) (hb : c.code = cc) (hC : GC D tI tJ tL A sg s) (hG : GW D tI tJ tL A ad n sL sA H) {v : Int32} (hv : 30 = v) (hdg : decode cc pc = .ok (.arraylength, 1))
    (kk : W p l e R s m args below meth c H locs cells slots Q (F0 m (pc + 1) ls (.int v :: rest))) : W p l e R s m args below meth c H locs cells slots Q (F0 m pc ls (.ref (ad 1) :: rest)) :=
  va_alen hx hb hC.2.1 hG.1 1 1 (x := (30, .inr (.inr (.inr (.inr (hof ad n)))))) (by rw [wv_get (by omega)]; rfl) rfl (by rw [← hv]; rfl) hdg kk
theorem rh_ld (hx : p.tables.exec = Jvm.exec) (hb : c.code = cc) (hC : GC D tI tJ tL A sg s) (hG : GW D tI tJ tL A ad n sL sA H) {i : Int32} (hin : vp_in i 30) (hdg : decode cc pc = .ok (.aaload, 1))
    (kk : W p l e R s m args below meth c H locs cells slots Q (F0 m (pc + 1) ls (va_rf (hof ad n i.toNatClampNeg) :: rest))) : W p l e R s m args below meth c H locs cells slots Q (F0 m pc ls (.int i :: .ref (ad 1) :: rest)) :=
  va_aldq hx hb hC.2.1 hG.1 1 1 (by rw [wv_get (by omega)]; rfl) rfl hin hdg kk
theorem recX (hC : GC D tI tJ tL A sg s) (hG : GW D tI tJ tL A ad n sL sA H) : ∃ cell : Cell, H[ad 0]? = some cell ∧ cell.vm.isStatics = false ∧ s.vm.findClass "DroitLine" = some cell.cls := va_recv hC.2.1 hG.1 (ci := 0) (q0 := 0) rfl (by rw [wv_get (by omega)]; rfl)
theorem recL {i : Nat} (hi : i < n) (hC : GC D tI tJ tL A sg s) (hG : GW D tI tJ tL A ad n sL sA H) : ∃ cell : Cell, H[ad (4 * i + 11)]? = some cell ∧ cell.vm.isStatics = false ∧ s.vm.findClass "DroitLine$Lot" = some cell.cls := va_recv hC.2.1 hG.1 (ci := 1) (q0 := 4 * i + 11) rfl (by rw [wv_get (by omega), gr_L])
theorem recO {i : Nat} (hi : i < n) (hC : GC D tI tJ tL A sg s) (hG : GW D tI tJ tL A ad n sL sA H) : ∃ cell : Cell, H[ad (4 * i + 12)]? = some cell ∧ cell.vm.isStatics = false ∧ s.vm.findClass "DroitLine$Offers" = some cell.cls := va_recv hC.2.1 hG.1 (ci := 2) (q0 := 4 * i + 12) rfl (by rw [wv_get (by omega), gr_O])
end G2
