set_option maxHeartbeats 4000000 in
set_option maxRecDepth 100000 in
theorem lc_advance_0 {p : Program} {l : Launch} {e : Env} {s : State} {m : MethodId} {below : List Frame} {meth : Method} {c : Code} {b : Nat} (hl9 : l.stackTraces = false) (hx : p.tables.exec = Jvm.exec) (hb : c.code = code) (hml : c.maxLocals = 22) (hown : s.vm.findClass "DroitLineLaw" = some m.cls) (hts : ∀ w ∈ wNeed, w.before #[Value.ref b] s = true)
    {D : va_G} {tI tJ tL : ClassId} {sg : Nat → Nat} (hC : GC D tI tJ tL (A0 s) sg s) {t Y kd X i q a K cells slots : Nat} (hK : K ≤ 130) (hcl : cells + 60 ≤ 796740) (hsl : slots + 300 ≤ 6711247) (hY : Y < 2147483648) {ad : Nat → Nat} {n : Nat} {sL : NL} {sA : NA} (hI : INV n K sL sA) (hi : i < n) (hst : sA 5 (10 * i + 3) = 0) (hq : q < 10) (ha1 : 1 ≤ a) (ha2 : a ≤ 1000000) {H : Heap} {locs : List Loc} (hG : GW D tI tJ tL (A0 s) ad n sL sA H) (hS : va_S (A0 s) s.heap H locs) {ls : Array Slot} (hl : lv_has ls 22 [(18, .int (nI a)), (17, .int (nI q)), (16, .int 0), (15, .int (nI (10 * i))), (14, .int (nI i)), (13, .int (nI Y)), (12, .int (nI kd)), (11, .int (nI X)), (10, .int (nI t)), (9, .int 1), (8, .ref (ad 10)), (7, .ref (ad 9)), (6, .ref (ad 8)), (5, .ref (ad 7)), (4, .ref (ad 6)), (3, .ref (ad 5)), (2, .ref (ad 4)), (1, .ref (ad 0)), (0, .ref b)])
    (cont : CONT p l e s m b below meth c D tI tJ tL t Y K cells slots) : W p l e room_1 s m #[Value.ref b] below meth c H locs cells slots (lw_Z below #[Value.ref b] s) (F0 m 1053 ls []) := by
  have hn6 := hI.n6
  obtain ⟨R, hR, eR⟩ := (hI.si hi).2.2.1.2
  refine lv_aload_n hx hb dW_law_1053 rfl (lv_at hl 15 rfl) ?_
  refine lv_iload hx hb dW_law_1054 (lv_at hl 3 rfl) ?_
  refine lv_iconst (v := 1) hx hb dW_law_1056 (by decide) ?_
  refine lv_iadd hx hb dW_law_1057 ?_
  rw [show (nI (10 * i)) + (1 : Int32) = nI (10 * i + 1) from nI_add (10 * i) 1]
  refine ra_ld hx hb hC hG 5 60 (by omega) (fun _ _ => rfl) (vp_in_nI (by omega) (by omega)) dW_law_1058 ?_
  rw [show (nI (10 * i + 1)).toNatClampNeg = (10 * i + 1) from nI_clamp (by omega)]
  rw [show sA 5 (10 * i + 1) = nI R from by rw [eR]]
  refine lv_iconst (v := 2) hx hb dW_law_1059 (by decide) ?_
  refine lv_idiv hx hb dW_law_1060 (by decide) ?_
  rw [show (nI R) / (2 : Int32) = nI (R / 2) from pk_div (a := R) (d := 2) (by omega) (by omega) (by omega)]
  refine lv_istore (lv' := [(19, .int (nI (R / 2))), (18, .int (nI a)), (17, .int (nI q)), (16, .int 0), (15, .int (nI (10 * i))), (14, .int (nI i)), (13, .int (nI Y)), (12, .int (nI kd)), (11, .int (nI X)), (10, .int (nI t)), (9, .int 1), (8, .ref (ad 10)), (7, .ref (ad 9)), (6, .ref (ad 8)), (5, .ref (ad 7)), (4, .ref (ad 6)), (3, .ref (ad 5)), (2, .ref (ad 4)), (1, .ref (ad 0)), (0, .ref b)]) hx hb dW_law_1061 hl (by decide) rfl (fun ls hl => ?_)
  refine W_keyP (P := fun w => 1 ≤ w ∧ w ≤ 1000000) (fun w => F0 m 1108 ls [.int (nI w)]) (fun key => ?_) (fun w hw => ?_)
  · refine lv_iload hx hb dW_law_1063 (lv_at hl 6 rfl) ?_
    refine lv_iconst (v := 4) hx hb dW_law_1065 (by decide) ?_
    refine lv_irem hx hb dW_law_1066 (by decide) ?_
    rw [show (nI Y) - (nI Y) / (4 : Int32) * (4 : Int32) = nI (Y % 4) from pk_rem (a := Y) (d := 4) (by omega) (by omega) (by omega)]
    refine lv_if_ne (tgt := 1075) hx hb dW_law_1067 (by decide) (fun c_1 => ?_) (fun c_1 => ?_)
    · refine lv_iload hx hb dW_law_1075 (lv_at hl 0 rfl) ?_
      refine lv_iconst (v := 1) hx hb dW_law_1077 (by decide) ?_
      refine lv_icmp_ge (tgt := 1085) hx hb dW_law_1078 (by decide) (fun c_2 => ?_) (fun c_2 => ?_)
      · have h1R : 1 ≤ R / 2 := (nI_leI (a := 1) (b := R / 2) (by omega) (by omega)).1 c_2
        refine lv_iload hx hb dW_law_1085 (lv_at hl 6 rfl) ?_
        refine lv_iconst (v := 4) hx hb dW_law_1087 (by decide) ?_
        refine lv_irem hx hb dW_law_1088 (by decide) ?_
        rw [show (nI Y) - (nI Y) / (4 : Int32) * (4 : Int32) = nI (Y % 4) from pk_rem (a := Y) (d := 4) (by omega) (by omega) (by omega)]
        refine lv_iconst (v := 1) hx hb dW_law_1089 (by decide) ?_
        refine lv_icmp_ne (tgt := 1098) hx hb dW_law_1090 (by decide) (fun c_3 => ?_) (fun c_3 => ?_)
        · refine lv_iconst (v := 1) hx hb dW_law_1098 (by decide) ?_
          refine lv_iload hx hb dW_law_1099 (lv_at hl 6 rfl) ?_
          refine lv_bipush (v := 9) hx hb dW_law_1101 (by decide) ?_
          refine lv_idiv hx hb dW_law_1103 (by decide) ?_
          rw [show (nI Y) / (9 : Int32) = nI (Y / 9) from pk_div (a := Y) (d := 9) (by omega) (by omega) (by omega)]
          refine lv_iload hx hb dW_law_1104 (lv_at hl 0 rfl) ?_
          refine lv_irem hx hb dW_law_1106 (nI_ne0 (by omega) (by omega)) ?_
          rw [show (nI (Y / 9)) - (nI (Y / 9)) / (nI (R / 2)) * (nI (R / 2)) = nI ((Y / 9) % (R / 2)) from pk_rem (a := Y / 9) (d := R / 2) (by omega) (by omega) (by omega)]
          refine lv_iadd hx hb dW_law_1107 ?_
          rw [show (1 : Int32) + (nI ((Y / 9) % (R / 2))) = nI (1 + ((Y / 9) % (R / 2))) from nI_add 1 ((Y / 9) % (R / 2))]
          have hm := Nat.mod_lt (Y / 9) (show 0 < R / 2 by omega)
          exact key (1 + ((Y / 9) % (R / 2))) (by omega)
        · refine lv_iload hx hb dW_law_1093 (lv_at hl 0 rfl) ?_
          refine lv_goto (tgt := 1108) hx hb dW_law_1095 (by decide) ?_
          exact key (R / 2) (by omega)
      · refine lv_iconst (v := 1) hx hb dW_law_1081 (by decide) ?_
        refine lv_goto (tgt := 1108) hx hb dW_law_1082 (by decide) ?_
        exact key (1) (by omega)
    · refine lv_iload hx hb dW_law_1070 (lv_at hl 1 rfl) ?_
      refine lv_goto (tgt := 1108) hx hb dW_law_1072 (by decide) ?_
      exact key (a) (by omega)
  · refine lv_istore (lv' := [(20, .int (nI w)), (19, .int (nI (R / 2))), (18, .int (nI a)), (17, .int (nI q)), (16, .int 0), (15, .int (nI (10 * i))), (14, .int (nI i)), (13, .int (nI Y)), (12, .int (nI kd)), (11, .int (nI X)), (10, .int (nI t)), (9, .int 1), (8, .ref (ad 10)), (7, .ref (ad 9)), (6, .ref (ad 8)), (5, .ref (ad 7)), (4, .ref (ad 6)), (3, .ref (ad 5)), (2, .ref (ad 4)), (1, .ref (ad 0)), (0, .ref b)]) hx hb dW_law_1108 hl (by decide) rfl (fun ls hl => ?_)
    refine lv_iload hx hb dW_law_1110 (lv_at hl 0 rfl) ?_
    refine lv_iload hx hb dW_law_1112 (lv_at hl 1 rfl) ?_
    refine lv_icmp_le (tgt := 1122) hx hb dW_law_1114 (by decide) (fun c_4 => ?_) (fun c_4 => ?_)
    · refine lv_iload hx hb dW_law_1122 (lv_at hl 4 rfl) ?_
      refine lv_iconst (v := 2) hx hb dW_law_1124 (by decide) ?_
      refine lv_icmp_gt (tgt := 1138) hx hb dW_law_1125 (by decide) (fun c_5 => ?_) (fun c_5 => ?_)
      · exact absurd c_5 (by decide)
      · refine lv_aload hx hb dW_law_1128 (lv_at hl 16 rfl) ?_
        refine lv_iconst (v := 3) hx hb dW_law_1130 (by decide) ?_
        refine lv_iload hx hb dW_law_1131 (lv_at hl 6 rfl) ?_
        refine lv_imul hx hb dW_law_1133 ?_
        rw [show (3 : Int32) * (nI i) = nI (3 * i) from pk_mul 3 i]
        refine ra_ld hx hb hC hG 6 18 (by omega) (fun _ _ => rfl) (vp_in_nI (by omega) (by omega)) dW_law_1134 ?_
        rw [show (nI (3 * i)).toNatClampNeg = (3 * i) from nI_clamp (by omega)]
        refine lv_if_le (tgt := 1143) hx hb dW_law_1135 (by decide) (fun c_6 => ?_) (fun c_6 => ?_)
        · refine lv_iload hx hb dW_law_1143 (lv_at hl 1 rfl) ?_
          refine lv_istore (lv' := [(21, .int (nI (R / 2))), (20, .int (nI w)), (19, .int (nI (R / 2))), (18, .int (nI a)), (17, .int (nI q)), (16, .int 0), (15, .int (nI (10 * i))), (14, .int (nI i)), (13, .int (nI Y)), (12, .int (nI kd)), (11, .int (nI X)), (10, .int (nI t)), (9, .int 1), (8, .ref (ad 10)), (7, .ref (ad 9)), (6, .ref (ad 8)), (5, .ref (ad 7)), (4, .ref (ad 6)), (3, .ref (ad 5)), (2, .ref (ad 4)), (1, .ref (ad 0)), (0, .ref b)]) hx hb dW_law_1145 hl (by decide) rfl (fun ls hl => ?_)
          refine lv_iload hx hb dW_law_1147 (lv_at hl 0 rfl) ?_
          refine lv_if_lt (tgt := 1173) hx hb dW_law_1149 (by decide) (fun c_7 => ?_) (fun c_7 => ?_)
          · exact absurd c_7 (nI_pos (by omega))
          · refine lv_aload hx hb dW_law_1152 (lv_at hl 17 rfl) ?_
            refine lv_iconst (v := 3) hx hb dW_law_1154 (by decide) ?_
            refine lv_iload hx hb dW_law_1155 (lv_at hl 7 rfl) ?_
            refine lv_imul hx hb dW_law_1157 ?_
            rw [show (3 : Int32) * (nI i) = nI (3 * i) from pk_mul 3 i]
            refine lv_iload hx hb dW_law_1158 (lv_at hl 1 rfl) ?_
            refine ra_st hx hb hC hG hS 6 18 (by omega) (fun _ _ => rfl) (vp_in_nI (by omega) (by omega)) dW_law_1160 (fun H locs hG hS => ?_)
            rw [show (nI (3 * i)).toNatClampNeg = (3 * i) from nI_clamp (by omega)] at hG
            refine lv_aload hx hb dW_law_1161 (lv_at hl 17 rfl) ?_
            refine lv_iconst (v := 3) hx hb dW_law_1163 (by decide) ?_
            refine lv_iload hx hb dW_law_1164 (lv_at hl 7 rfl) ?_
            refine lv_imul hx hb dW_law_1166 ?_
            rw [show (3 : Int32) * (nI i) = nI (3 * i) from pk_mul 3 i]
            refine lv_iconst (v := 1) hx hb dW_law_1167 (by decide) ?_
            refine lv_iadd hx hb dW_law_1168 ?_
            rw [show (nI (3 * i)) + (1 : Int32) = nI (3 * i + 1) from nI_add (3 * i) 1]
            refine lv_aload_n hx hb dW_law_1169 rfl (lv_at hl 19 rfl) ?_
            refine lv_iconst (v := 2) hx hb dW_law_1170 (by decide) ?_
            refine ra_ld hx hb hC hG 4 5 (by omega) (fun _ _ => rfl) (by rw [vp_in_iff]; decide) dW_law_1171 ?_
            rw [show (2 : Int32).toNatClampNeg = 2 from rfl]
            rw [show (up2 sA 6 (3 * i) (nI w)) 4 2 = sA 4 2 from by simp (disch := omega) only [up2_hit, up2_miss]]
            refine ra_st hx hb hC hG hS 6 18 (by omega) (fun _ _ => rfl) (vp_in_nI (by omega) (by omega)) dW_law_1172 (fun H locs hG hS => ?_)
            rw [show (nI (3 * i + 1)).toNatClampNeg = (3 * i + 1) from nI_clamp (by omega)] at hG
            refine lv_aload_n hx hb dW_law_1173 rfl (lv_at hl 20 rfl) ?_
            refine lv_bipush (v := 7) hx hb dW_law_1174 (by decide) ?_
            refine lv_iload hx hb dW_law_1176 (lv_at hl 7 rfl) ?_
            refine lv_iload hx hb dW_law_1178 (lv_at hl 1 rfl) ?_
            refine lv_iconst (v := 0) hx hb dW_law_1180 (by decide) ?_
            have hle : w ≤ R / 2 := (nI_leI (by omega) (by omega)).1 c_4
            obtain ⟨hF, hInv⟩ := E_advance hI hi hR eR hw.1 hle (Or.inl hst) c_6 (sA1 := (up2 (up2 sA 6 (3 * i) (nI w)) 6 (3 * i + 1) (sA 4 2))) rfl
            refine rcSWn (rest := []) (As := [.ref (ad 0), .int 7, .int (nI i), .int (nI w), .int 0]) hx hb hml hown hts hC hG hS (cD_advance l hl9 D tI tJ tL (A0 s) sg ad n sL (up2 (up2 sA 6 (3 * i) (nI w)) 6 (3 * i + 1) (sA 4 2)) (nI i) (nI w)) (gW q_176 q_177 q_0 q_178) rfl rfl hdyW_does ⟨Nat.le_of_ble_eq_true rfl, Nat.le_of_ble_eq_true rfl⟩ hl.1 rfl (Nat.le_of_ble_eq_true rfl) dW_law_1181 ⟨by show _ ≤ 796740; omega, by show _ ≤ 6711247; omega⟩ (hF) (fun H locs hG hS => ?_)
            refine lv_iload hx hb dW_law_1184 (lv_at hl 0 rfl) ?_
            refine lv_icmp_ne (tgt := 1193) hx hb dW_law_1186 (by decide) (fun c_8 => ?_) (fun c_8 => ?_)
            · exact absurd c_8 (fun q => q rfl)
            · refine lv_iconst (v := 1) hx hb dW_law_1189 (by decide) ?_
              refine lv_goto (tgt := 1194) hx hb dW_law_1190 (by decide) ?_
              refine lv_istore (lv' := [(9, .int 1), (21, .int (nI (R / 2))), (20, .int (nI w)), (19, .int (nI (R / 2))), (18, .int (nI a)), (17, .int (nI q)), (16, .int 0), (15, .int (nI (10 * i))), (14, .int (nI i)), (13, .int (nI Y)), (12, .int (nI kd)), (11, .int (nI X)), (10, .int (nI t)), (8, .ref (ad 10)), (7, .ref (ad 9)), (6, .ref (ad 8)), (5, .ref (ad 7)), (4, .ref (ad 6)), (3, .ref (ad 5)), (2, .ref (ad 4)), (1, .ref (ad 0)), (0, .ref b)]) hx hb dW_law_1194 hl (by decide) rfl (fun ls hl => ?_)
              refine lv_goto (tgt := 1500) hx hb dW_law_1196 (by decide) ?_
              refine W.widen (k := cells + 60) (n := slots + 300) (by omega) (by omega) ?_
              exact cont ad _ _ _ H locs ls (by omega) (hInv) hG hS (lv_sub hl [9, 12, 0, 13, 14, 15, 16, 17, 18, 19, 20, 21] rfl)
        · refine lv_ldc (v := (-2000000013)) hx hb hown (hts _ q_409) dW_law_1138 ?_
          refine lv_goto (tgt := 1145) hx hb dW_law_1140 (by decide) ?_
          refine lv_istore (lv' := [(21, .int (-2000000013)), (20, .int (nI w)), (19, .int (nI (R / 2))), (18, .int (nI a)), (17, .int (nI q)), (16, .int 0), (15, .int (nI (10 * i))), (14, .int (nI i)), (13, .int (nI Y)), (12, .int (nI kd)), (11, .int (nI X)), (10, .int (nI t)), (9, .int 1), (8, .ref (ad 10)), (7, .ref (ad 9)), (6, .ref (ad 8)), (5, .ref (ad 7)), (4, .ref (ad 6)), (3, .ref (ad 5)), (2, .ref (ad 4)), (1, .ref (ad 0)), (0, .ref b)]) hx hb dW_law_1145 hl (by decide) rfl (fun ls hl => ?_)
          refine lv_iload hx hb dW_law_1147 (lv_at hl 0 rfl) ?_
          refine lv_if_lt (tgt := 1173) hx hb dW_law_1149 (by decide) (fun c_9 => ?_) (fun c_9 => ?_)
          · refine lv_aload_n hx hb dW_law_1173 rfl (lv_at hl 20 rfl) ?_
            refine lv_bipush (v := 7) hx hb dW_law_1174 (by decide) ?_
            refine lv_iload hx hb dW_law_1176 (lv_at hl 7 rfl) ?_
            refine lv_iload hx hb dW_law_1178 (lv_at hl 1 rfl) ?_
            refine lv_iconst (v := 0) hx hb dW_law_1180 (by decide) ?_
            have hle : w ≤ R / 2 := (nI_leI (by omega) (by omega)).1 c_4
            refine rcSWn (rest := []) (As := [.ref (ad 0), .int 7, .int (nI i), .int (nI w), .int 0]) hx hb hml hown hts hC hG hS (cD_advance l hl9 D tI tJ tL (A0 s) sg ad n sL sA (nI i) (nI w)) (gW q_176 q_177 q_0 q_178) rfl rfl hdyW_does ⟨Nat.le_of_ble_eq_true rfl, Nat.le_of_ble_eq_true rfl⟩ hl.1 rfl (Nat.le_of_ble_eq_true rfl) dW_law_1181 ⟨by show _ ≤ 796740; omega, by show _ ≤ 6711247; omega⟩ (X_advance3 hI hi hR eR hw.1 hle (Or.inr (Or.inr c_6))) (fun H locs hG hS => ?_)
            refine lv_iload hx hb dW_law_1184 (lv_at hl 0 rfl) ?_
            refine lv_icmp_ne (tgt := 1193) hx hb dW_law_1186 (by decide) (fun c_10 => ?_) (fun c_10 => ?_)
            · exact absurd c_10 (by decide)
            · refine lv_iconst (v := 1) hx hb dW_law_1189 (by decide) ?_
              refine lv_goto (tgt := 1194) hx hb dW_law_1190 (by decide) ?_
              refine lv_istore (lv' := [(9, .int 1), (21, .int (-2000000013)), (20, .int (nI w)), (19, .int (nI (R / 2))), (18, .int (nI a)), (17, .int (nI q)), (16, .int 0), (15, .int (nI (10 * i))), (14, .int (nI i)), (13, .int (nI Y)), (12, .int (nI kd)), (11, .int (nI X)), (10, .int (nI t)), (8, .ref (ad 10)), (7, .ref (ad 9)), (6, .ref (ad 8)), (5, .ref (ad 7)), (4, .ref (ad 6)), (3, .ref (ad 5)), (2, .ref (ad 4)), (1, .ref (ad 0)), (0, .ref b)]) hx hb dW_law_1194 hl (by decide) rfl (fun ls hl => ?_)
              refine lv_goto (tgt := 1500) hx hb dW_law_1196 (by decide) ?_
              refine W.widen (k := cells + 60) (n := slots + 300) (by omega) (by omega) ?_
              exact cont ad _ _ _ H locs ls (by omega) (hI.mono (by omega)) hG hS (lv_sub hl [9, 12, 0, 13, 14, 15, 16, 17, 18, 19, 20, 21] rfl)
          · exact absurd c_9 (by decide)
    · refine lv_ldc (v := (-2000000012)) hx hb hown (hts _ q_408) dW_law_1117 ?_
      refine lv_goto (tgt := 1145) hx hb dW_law_1119 (by decide) ?_
      refine lv_istore (lv' := [(21, .int (-2000000012)), (20, .int (nI w)), (19, .int (nI (R / 2))), (18, .int (nI a)), (17, .int (nI q)), (16, .int 0), (15, .int (nI (10 * i))), (14, .int (nI i)), (13, .int (nI Y)), (12, .int (nI kd)), (11, .int (nI X)), (10, .int (nI t)), (9, .int 1), (8, .ref (ad 10)), (7, .ref (ad 9)), (6, .ref (ad 8)), (5, .ref (ad 7)), (4, .ref (ad 6)), (3, .ref (ad 5)), (2, .ref (ad 4)), (1, .ref (ad 0)), (0, .ref b)]) hx hb dW_law_1145 hl (by decide) rfl (fun ls hl => ?_)
      refine lv_iload hx hb dW_law_1147 (lv_at hl 0 rfl) ?_
      refine lv_if_lt (tgt := 1173) hx hb dW_law_1149 (by decide) (fun c_11 => ?_) (fun c_11 => ?_)
      · refine lv_aload_n hx hb dW_law_1173 rfl (lv_at hl 20 rfl) ?_
        refine lv_bipush (v := 7) hx hb dW_law_1174 (by decide) ?_
        refine lv_iload hx hb dW_law_1176 (lv_at hl 7 rfl) ?_
        refine lv_iload hx hb dW_law_1178 (lv_at hl 1 rfl) ?_
        refine lv_iconst (v := 0) hx hb dW_law_1180 (by decide) ?_
        have hlt : R / 2 < w := Nat.lt_of_not_le fun q => c_4 (nI_le q (by omega))
        refine rcSWn (rest := []) (As := [.ref (ad 0), .int 7, .int (nI i), .int (nI w), .int 0]) hx hb hml hown hts hC hG hS (cD_advance l hl9 D tI tJ tL (A0 s) sg ad n sL sA (nI i) (nI w)) (gW q_176 q_177 q_0 q_178) rfl rfl hdyW_does ⟨Nat.le_of_ble_eq_true rfl, Nat.le_of_ble_eq_true rfl⟩ hl.1 rfl (Nat.le_of_ble_eq_true rfl) dW_law_1181 ⟨by show _ ≤ 796740; omega, by show _ ≤ 6711247; omega⟩ (X_advance2 hI hi hR eR hw.1 hw.2 hlt) (fun H locs hG hS => ?_)
        refine lv_iload hx hb dW_law_1184 (lv_at hl 0 rfl) ?_
        refine lv_icmp_ne (tgt := 1193) hx hb dW_law_1186 (by decide) (fun c_12 => ?_) (fun c_12 => ?_)
        · exact absurd c_12 (by decide)
        · refine lv_iconst (v := 1) hx hb dW_law_1189 (by decide) ?_
          refine lv_goto (tgt := 1194) hx hb dW_law_1190 (by decide) ?_
          refine lv_istore (lv' := [(9, .int 1), (21, .int (-2000000012)), (20, .int (nI w)), (19, .int (nI (R / 2))), (18, .int (nI a)), (17, .int (nI q)), (16, .int 0), (15, .int (nI (10 * i))), (14, .int (nI i)), (13, .int (nI Y)), (12, .int (nI kd)), (11, .int (nI X)), (10, .int (nI t)), (8, .ref (ad 10)), (7, .ref (ad 9)), (6, .ref (ad 8)), (5, .ref (ad 7)), (4, .ref (ad 6)), (3, .ref (ad 5)), (2, .ref (ad 4)), (1, .ref (ad 0)), (0, .ref b)]) hx hb dW_law_1194 hl (by decide) rfl (fun ls hl => ?_)
          refine lv_goto (tgt := 1500) hx hb dW_law_1196 (by decide) ?_
          refine W.widen (k := cells + 60) (n := slots + 300) (by omega) (by omega) ?_
          exact cont ad _ _ _ H locs ls (by omega) (hI.mono (by omega)) hG hS (lv_sub hl [9, 12, 0, 13, 14, 15, 16, 17, 18, 19, 20, 21] rfl)
      · exact absurd c_11 (by decide)
set_option maxHeartbeats 4000000 in
set_option maxRecDepth 100000 in
theorem lc_advance_1 {p : Program} {l : Launch} {e : Env} {s : State} {m : MethodId} {below : List Frame} {meth : Method} {c : Code} {b : Nat} (hl9 : l.stackTraces = false) (hx : p.tables.exec = Jvm.exec) (hb : c.code = code) (hml : c.maxLocals = 22) (hown : s.vm.findClass "DroitLineLaw" = some m.cls) (hts : ∀ w ∈ wNeed, w.before #[Value.ref b] s = true)
    {D : va_G} {tI tJ tL : ClassId} {sg : Nat → Nat} (hC : GC D tI tJ tL (A0 s) sg s) {t Y kd X i q a K cells slots : Nat} (hK : K ≤ 130) (hcl : cells + 60 ≤ 796740) (hsl : slots + 300 ≤ 6711247) (hY : Y < 2147483648) {ad : Nat → Nat} {n : Nat} {sL : NL} {sA : NA} (hI : INV n K sL sA) (hi : i < n) (hst : sA 5 (10 * i + 3) = 1) (hq : q < 10) (ha1 : 1 ≤ a) (ha2 : a ≤ 1000000) {H : Heap} {locs : List Loc} (hG : GW D tI tJ tL (A0 s) ad n sL sA H) (hS : va_S (A0 s) s.heap H locs) {ls : Array Slot} (hl : lv_has ls 22 [(18, .int (nI a)), (17, .int (nI q)), (16, .int 1), (15, .int (nI (10 * i))), (14, .int (nI i)), (13, .int (nI Y)), (12, .int (nI kd)), (11, .int (nI X)), (10, .int (nI t)), (9, .int 1), (8, .ref (ad 10)), (7, .ref (ad 9)), (6, .ref (ad 8)), (5, .ref (ad 7)), (4, .ref (ad 6)), (3, .ref (ad 5)), (2, .ref (ad 4)), (1, .ref (ad 0)), (0, .ref b)])
    (cont : CONT p l e s m b below meth c D tI tJ tL t Y K cells slots) : W p l e room_1 s m #[Value.ref b] below meth c H locs cells slots (lw_Z below #[Value.ref b] s) (F0 m 1053 ls []) := by
  have hn6 := hI.n6
  obtain ⟨R, hR, eR⟩ := (hI.si hi).2.2.1.2
  refine lv_aload_n hx hb dW_law_1053 rfl (lv_at hl 15 rfl) ?_
  refine lv_iload hx hb dW_law_1054 (lv_at hl 3 rfl) ?_
  refine lv_iconst (v := 1) hx hb dW_law_1056 (by decide) ?_
  refine lv_iadd hx hb dW_law_1057 ?_
  rw [show (nI (10 * i)) + (1 : Int32) = nI (10 * i + 1) from nI_add (10 * i) 1]
  refine ra_ld hx hb hC hG 5 60 (by omega) (fun _ _ => rfl) (vp_in_nI (by omega) (by omega)) dW_law_1058 ?_
  rw [show (nI (10 * i + 1)).toNatClampNeg = (10 * i + 1) from nI_clamp (by omega)]
  rw [show sA 5 (10 * i + 1) = nI R from by rw [eR]]
  refine lv_iconst (v := 2) hx hb dW_law_1059 (by decide) ?_
  refine lv_idiv hx hb dW_law_1060 (by decide) ?_
  rw [show (nI R) / (2 : Int32) = nI (R / 2) from pk_div (a := R) (d := 2) (by omega) (by omega) (by omega)]
  refine lv_istore (lv' := [(19, .int (nI (R / 2))), (18, .int (nI a)), (17, .int (nI q)), (16, .int 1), (15, .int (nI (10 * i))), (14, .int (nI i)), (13, .int (nI Y)), (12, .int (nI kd)), (11, .int (nI X)), (10, .int (nI t)), (9, .int 1), (8, .ref (ad 10)), (7, .ref (ad 9)), (6, .ref (ad 8)), (5, .ref (ad 7)), (4, .ref (ad 6)), (3, .ref (ad 5)), (2, .ref (ad 4)), (1, .ref (ad 0)), (0, .ref b)]) hx hb dW_law_1061 hl (by decide) rfl (fun ls hl => ?_)
  refine W_keyP (P := fun w => 1 ≤ w ∧ w ≤ 1000000) (fun w => F0 m 1108 ls [.int (nI w)]) (fun key => ?_) (fun w hw => ?_)
  · refine lv_iload hx hb dW_law_1063 (lv_at hl 6 rfl) ?_
    refine lv_iconst (v := 4) hx hb dW_law_1065 (by decide) ?_
    refine lv_irem hx hb dW_law_1066 (by decide) ?_
    rw [show (nI Y) - (nI Y) / (4 : Int32) * (4 : Int32) = nI (Y % 4) from pk_rem (a := Y) (d := 4) (by omega) (by omega) (by omega)]
    refine lv_if_ne (tgt := 1075) hx hb dW_law_1067 (by decide) (fun c_1 => ?_) (fun c_1 => ?_)
    · refine lv_iload hx hb dW_law_1075 (lv_at hl 0 rfl) ?_
      refine lv_iconst (v := 1) hx hb dW_law_1077 (by decide) ?_
      refine lv_icmp_ge (tgt := 1085) hx hb dW_law_1078 (by decide) (fun c_2 => ?_) (fun c_2 => ?_)
      · have h1R : 1 ≤ R / 2 := (nI_leI (a := 1) (b := R / 2) (by omega) (by omega)).1 c_2
        refine lv_iload hx hb dW_law_1085 (lv_at hl 6 rfl) ?_
        refine lv_iconst (v := 4) hx hb dW_law_1087 (by decide) ?_
        refine lv_irem hx hb dW_law_1088 (by decide) ?_
        rw [show (nI Y) - (nI Y) / (4 : Int32) * (4 : Int32) = nI (Y % 4) from pk_rem (a := Y) (d := 4) (by omega) (by omega) (by omega)]
        refine lv_iconst (v := 1) hx hb dW_law_1089 (by decide) ?_
        refine lv_icmp_ne (tgt := 1098) hx hb dW_law_1090 (by decide) (fun c_3 => ?_) (fun c_3 => ?_)
        · refine lv_iconst (v := 1) hx hb dW_law_1098 (by decide) ?_
          refine lv_iload hx hb dW_law_1099 (lv_at hl 6 rfl) ?_
          refine lv_bipush (v := 9) hx hb dW_law_1101 (by decide) ?_
          refine lv_idiv hx hb dW_law_1103 (by decide) ?_
          rw [show (nI Y) / (9 : Int32) = nI (Y / 9) from pk_div (a := Y) (d := 9) (by omega) (by omega) (by omega)]
          refine lv_iload hx hb dW_law_1104 (lv_at hl 0 rfl) ?_
          refine lv_irem hx hb dW_law_1106 (nI_ne0 (by omega) (by omega)) ?_
          rw [show (nI (Y / 9)) - (nI (Y / 9)) / (nI (R / 2)) * (nI (R / 2)) = nI ((Y / 9) % (R / 2)) from pk_rem (a := Y / 9) (d := R / 2) (by omega) (by omega) (by omega)]
          refine lv_iadd hx hb dW_law_1107 ?_
          rw [show (1 : Int32) + (nI ((Y / 9) % (R / 2))) = nI (1 + ((Y / 9) % (R / 2))) from nI_add 1 ((Y / 9) % (R / 2))]
          have hm := Nat.mod_lt (Y / 9) (show 0 < R / 2 by omega)
          exact key (1 + ((Y / 9) % (R / 2))) (by omega)
        · refine lv_iload hx hb dW_law_1093 (lv_at hl 0 rfl) ?_
          refine lv_goto (tgt := 1108) hx hb dW_law_1095 (by decide) ?_
          exact key (R / 2) (by omega)
      · refine lv_iconst (v := 1) hx hb dW_law_1081 (by decide) ?_
        refine lv_goto (tgt := 1108) hx hb dW_law_1082 (by decide) ?_
        exact key (1) (by omega)
    · refine lv_iload hx hb dW_law_1070 (lv_at hl 1 rfl) ?_
      refine lv_goto (tgt := 1108) hx hb dW_law_1072 (by decide) ?_
      exact key (a) (by omega)
  · refine lv_istore (lv' := [(20, .int (nI w)), (19, .int (nI (R / 2))), (18, .int (nI a)), (17, .int (nI q)), (16, .int 1), (15, .int (nI (10 * i))), (14, .int (nI i)), (13, .int (nI Y)), (12, .int (nI kd)), (11, .int (nI X)), (10, .int (nI t)), (9, .int 1), (8, .ref (ad 10)), (7, .ref (ad 9)), (6, .ref (ad 8)), (5, .ref (ad 7)), (4, .ref (ad 6)), (3, .ref (ad 5)), (2, .ref (ad 4)), (1, .ref (ad 0)), (0, .ref b)]) hx hb dW_law_1108 hl (by decide) rfl (fun ls hl => ?_)
    refine lv_iload hx hb dW_law_1110 (lv_at hl 0 rfl) ?_
    refine lv_iload hx hb dW_law_1112 (lv_at hl 1 rfl) ?_
    refine lv_icmp_le (tgt := 1122) hx hb dW_law_1114 (by decide) (fun c_4 => ?_) (fun c_4 => ?_)
    · refine lv_iload hx hb dW_law_1122 (lv_at hl 4 rfl) ?_
      refine lv_iconst (v := 2) hx hb dW_law_1124 (by decide) ?_
      refine lv_icmp_gt (tgt := 1138) hx hb dW_law_1125 (by decide) (fun c_5 => ?_) (fun c_5 => ?_)
      · exact absurd c_5 (by decide)
      · refine lv_aload hx hb dW_law_1128 (lv_at hl 16 rfl) ?_
        refine lv_iconst (v := 3) hx hb dW_law_1130 (by decide) ?_
        refine lv_iload hx hb dW_law_1131 (lv_at hl 6 rfl) ?_
        refine lv_imul hx hb dW_law_1133 ?_
        rw [show (3 : Int32) * (nI i) = nI (3 * i) from pk_mul 3 i]
        refine ra_ld hx hb hC hG 6 18 (by omega) (fun _ _ => rfl) (vp_in_nI (by omega) (by omega)) dW_law_1134 ?_
        rw [show (nI (3 * i)).toNatClampNeg = (3 * i) from nI_clamp (by omega)]
        refine lv_if_le (tgt := 1143) hx hb dW_law_1135 (by decide) (fun c_6 => ?_) (fun c_6 => ?_)
        · refine lv_iload hx hb dW_law_1143 (lv_at hl 1 rfl) ?_
          refine lv_istore (lv' := [(21, .int (nI (R / 2))), (20, .int (nI w)), (19, .int (nI (R / 2))), (18, .int (nI a)), (17, .int (nI q)), (16, .int 1), (15, .int (nI (10 * i))), (14, .int (nI i)), (13, .int (nI Y)), (12, .int (nI kd)), (11, .int (nI X)), (10, .int (nI t)), (9, .int 1), (8, .ref (ad 10)), (7, .ref (ad 9)), (6, .ref (ad 8)), (5, .ref (ad 7)), (4, .ref (ad 6)), (3, .ref (ad 5)), (2, .ref (ad 4)), (1, .ref (ad 0)), (0, .ref b)]) hx hb dW_law_1145 hl (by decide) rfl (fun ls hl => ?_)
          refine lv_iload hx hb dW_law_1147 (lv_at hl 0 rfl) ?_
          refine lv_if_lt (tgt := 1173) hx hb dW_law_1149 (by decide) (fun c_7 => ?_) (fun c_7 => ?_)
          · exact absurd c_7 (nI_pos (by omega))
          · refine lv_aload hx hb dW_law_1152 (lv_at hl 17 rfl) ?_
            refine lv_iconst (v := 3) hx hb dW_law_1154 (by decide) ?_
            refine lv_iload hx hb dW_law_1155 (lv_at hl 7 rfl) ?_
            refine lv_imul hx hb dW_law_1157 ?_
            rw [show (3 : Int32) * (nI i) = nI (3 * i) from pk_mul 3 i]
            refine lv_iload hx hb dW_law_1158 (lv_at hl 1 rfl) ?_
            refine ra_st hx hb hC hG hS 6 18 (by omega) (fun _ _ => rfl) (vp_in_nI (by omega) (by omega)) dW_law_1160 (fun H locs hG hS => ?_)
            rw [show (nI (3 * i)).toNatClampNeg = (3 * i) from nI_clamp (by omega)] at hG
            refine lv_aload hx hb dW_law_1161 (lv_at hl 17 rfl) ?_
            refine lv_iconst (v := 3) hx hb dW_law_1163 (by decide) ?_
            refine lv_iload hx hb dW_law_1164 (lv_at hl 7 rfl) ?_
            refine lv_imul hx hb dW_law_1166 ?_
            rw [show (3 : Int32) * (nI i) = nI (3 * i) from pk_mul 3 i]
            refine lv_iconst (v := 1) hx hb dW_law_1167 (by decide) ?_
            refine lv_iadd hx hb dW_law_1168 ?_
            rw [show (nI (3 * i)) + (1 : Int32) = nI (3 * i + 1) from nI_add (3 * i) 1]
            refine lv_aload_n hx hb dW_law_1169 rfl (lv_at hl 19 rfl) ?_
            refine lv_iconst (v := 2) hx hb dW_law_1170 (by decide) ?_
            refine ra_ld hx hb hC hG 4 5 (by omega) (fun _ _ => rfl) (by rw [vp_in_iff]; decide) dW_law_1171 ?_
            rw [show (2 : Int32).toNatClampNeg = 2 from rfl]
            rw [show (up2 sA 6 (3 * i) (nI w)) 4 2 = sA 4 2 from by simp (disch := omega) only [up2_hit, up2_miss]]
            refine ra_st hx hb hC hG hS 6 18 (by omega) (fun _ _ => rfl) (vp_in_nI (by omega) (by omega)) dW_law_1172 (fun H locs hG hS => ?_)
            rw [show (nI (3 * i + 1)).toNatClampNeg = (3 * i + 1) from nI_clamp (by omega)] at hG
            refine lv_aload_n hx hb dW_law_1173 rfl (lv_at hl 20 rfl) ?_
            refine lv_bipush (v := 7) hx hb dW_law_1174 (by decide) ?_
            refine lv_iload hx hb dW_law_1176 (lv_at hl 7 rfl) ?_
            refine lv_iload hx hb dW_law_1178 (lv_at hl 1 rfl) ?_
            refine lv_iconst (v := 0) hx hb dW_law_1180 (by decide) ?_
            have hle : w ≤ R / 2 := (nI_leI (by omega) (by omega)).1 c_4
            obtain ⟨hF, hInv⟩ := E_advance hI hi hR eR hw.1 hle (Or.inr (Or.inl hst)) c_6 (sA1 := (up2 (up2 sA 6 (3 * i) (nI w)) 6 (3 * i + 1) (sA 4 2))) rfl
            refine rcSWn (rest := []) (As := [.ref (ad 0), .int 7, .int (nI i), .int (nI w), .int 0]) hx hb hml hown hts hC hG hS (cD_advance l hl9 D tI tJ tL (A0 s) sg ad n sL (up2 (up2 sA 6 (3 * i) (nI w)) 6 (3 * i + 1) (sA 4 2)) (nI i) (nI w)) (gW q_176 q_177 q_0 q_178) rfl rfl hdyW_does ⟨Nat.le_of_ble_eq_true rfl, Nat.le_of_ble_eq_true rfl⟩ hl.1 rfl (Nat.le_of_ble_eq_true rfl) dW_law_1181 ⟨by show _ ≤ 796740; omega, by show _ ≤ 6711247; omega⟩ (hF) (fun H locs hG hS => ?_)
            refine lv_iload hx hb dW_law_1184 (lv_at hl 0 rfl) ?_
            refine lv_icmp_ne (tgt := 1193) hx hb dW_law_1186 (by decide) (fun c_8 => ?_) (fun c_8 => ?_)
            · exact absurd c_8 (fun q => q rfl)
            · refine lv_iconst (v := 1) hx hb dW_law_1189 (by decide) ?_
              refine lv_goto (tgt := 1194) hx hb dW_law_1190 (by decide) ?_
              refine lv_istore (lv' := [(9, .int 1), (21, .int (nI (R / 2))), (20, .int (nI w)), (19, .int (nI (R / 2))), (18, .int (nI a)), (17, .int (nI q)), (16, .int 1), (15, .int (nI (10 * i))), (14, .int (nI i)), (13, .int (nI Y)), (12, .int (nI kd)), (11, .int (nI X)), (10, .int (nI t)), (8, .ref (ad 10)), (7, .ref (ad 9)), (6, .ref (ad 8)), (5, .ref (ad 7)), (4, .ref (ad 6)), (3, .ref (ad 5)), (2, .ref (ad 4)), (1, .ref (ad 0)), (0, .ref b)]) hx hb dW_law_1194 hl (by decide) rfl (fun ls hl => ?_)
              refine lv_goto (tgt := 1500) hx hb dW_law_1196 (by decide) ?_
              refine W.widen (k := cells + 60) (n := slots + 300) (by omega) (by omega) ?_
              exact cont ad _ _ _ H locs ls (by omega) (hInv) hG hS (lv_sub hl [9, 12, 0, 13, 14, 15, 16, 17, 18, 19, 20, 21] rfl)
        · refine lv_ldc (v := (-2000000013)) hx hb hown (hts _ q_409) dW_law_1138 ?_
          refine lv_goto (tgt := 1145) hx hb dW_law_1140 (by decide) ?_
          refine lv_istore (lv' := [(21, .int (-2000000013)), (20, .int (nI w)), (19, .int (nI (R / 2))), (18, .int (nI a)), (17, .int (nI q)), (16, .int 1), (15, .int (nI (10 * i))), (14, .int (nI i)), (13, .int (nI Y)), (12, .int (nI kd)), (11, .int (nI X)), (10, .int (nI t)), (9, .int 1), (8, .ref (ad 10)), (7, .ref (ad 9)), (6, .ref (ad 8)), (5, .ref (ad 7)), (4, .ref (ad 6)), (3, .ref (ad 5)), (2, .ref (ad 4)), (1, .ref (ad 0)), (0, .ref b)]) hx hb dW_law_1145 hl (by decide) rfl (fun ls hl => ?_)
          refine lv_iload hx hb dW_law_1147 (lv_at hl 0 rfl) ?_
          refine lv_if_lt (tgt := 1173) hx hb dW_law_1149 (by decide) (fun c_9 => ?_) (fun c_9 => ?_)
          · refine lv_aload_n hx hb dW_law_1173 rfl (lv_at hl 20 rfl) ?_
            refine lv_bipush (v := 7) hx hb dW_law_1174 (by decide) ?_
            refine lv_iload hx hb dW_law_1176 (lv_at hl 7 rfl) ?_
            refine lv_iload hx hb dW_law_1178 (lv_at hl 1 rfl) ?_
            refine lv_iconst (v := 0) hx hb dW_law_1180 (by decide) ?_
            have hle : w ≤ R / 2 := (nI_leI (by omega) (by omega)).1 c_4
            refine rcSWn (rest := []) (As := [.ref (ad 0), .int 7, .int (nI i), .int (nI w), .int 0]) hx hb hml hown hts hC hG hS (cD_advance l hl9 D tI tJ tL (A0 s) sg ad n sL sA (nI i) (nI w)) (gW q_176 q_177 q_0 q_178) rfl rfl hdyW_does ⟨Nat.le_of_ble_eq_true rfl, Nat.le_of_ble_eq_true rfl⟩ hl.1 rfl (Nat.le_of_ble_eq_true rfl) dW_law_1181 ⟨by show _ ≤ 796740; omega, by show _ ≤ 6711247; omega⟩ (X_advance3 hI hi hR eR hw.1 hle (Or.inr (Or.inr c_6))) (fun H locs hG hS => ?_)
            refine lv_iload hx hb dW_law_1184 (lv_at hl 0 rfl) ?_
            refine lv_icmp_ne (tgt := 1193) hx hb dW_law_1186 (by decide) (fun c_10 => ?_) (fun c_10 => ?_)
            · exact absurd c_10 (by decide)
            · refine lv_iconst (v := 1) hx hb dW_law_1189 (by decide) ?_
              refine lv_goto (tgt := 1194) hx hb dW_law_1190 (by decide) ?_
              refine lv_istore (lv' := [(9, .int 1), (21, .int (-2000000013)), (20, .int (nI w)), (19, .int (nI (R / 2))), (18, .int (nI a)), (17, .int (nI q)), (16, .int 1), (15, .int (nI (10 * i))), (14, .int (nI i)), (13, .int (nI Y)), (12, .int (nI kd)), (11, .int (nI X)), (10, .int (nI t)), (8, .ref (ad 10)), (7, .ref (ad 9)), (6, .ref (ad 8)), (5, .ref (ad 7)), (4, .ref (ad 6)), (3, .ref (ad 5)), (2, .ref (ad 4)), (1, .ref (ad 0)), (0, .ref b)]) hx hb dW_law_1194 hl (by decide) rfl (fun ls hl => ?_)
              refine lv_goto (tgt := 1500) hx hb dW_law_1196 (by decide) ?_
              refine W.widen (k := cells + 60) (n := slots + 300) (by omega) (by omega) ?_
              exact cont ad _ _ _ H locs ls (by omega) (hI.mono (by omega)) hG hS (lv_sub hl [9, 12, 0, 13, 14, 15, 16, 17, 18, 19, 20, 21] rfl)
          · exact absurd c_9 (by decide)
    · refine lv_ldc (v := (-2000000012)) hx hb hown (hts _ q_408) dW_law_1117 ?_
      refine lv_goto (tgt := 1145) hx hb dW_law_1119 (by decide) ?_
      refine lv_istore (lv' := [(21, .int (-2000000012)), (20, .int (nI w)), (19, .int (nI (R / 2))), (18, .int (nI a)), (17, .int (nI q)), (16, .int 1), (15, .int (nI (10 * i))), (14, .int (nI i)), (13, .int (nI Y)), (12, .int (nI kd)), (11, .int (nI X)), (10, .int (nI t)), (9, .int 1), (8, .ref (ad 10)), (7, .ref (ad 9)), (6, .ref (ad 8)), (5, .ref (ad 7)), (4, .ref (ad 6)), (3, .ref (ad 5)), (2, .ref (ad 4)), (1, .ref (ad 0)), (0, .ref b)]) hx hb dW_law_1145 hl (by decide) rfl (fun ls hl => ?_)
      refine lv_iload hx hb dW_law_1147 (lv_at hl 0 rfl) ?_
      refine lv_if_lt (tgt := 1173) hx hb dW_law_1149 (by decide) (fun c_11 => ?_) (fun c_11 => ?_)
      · refine lv_aload_n hx hb dW_law_1173 rfl (lv_at hl 20 rfl) ?_
        refine lv_bipush (v := 7) hx hb dW_law_1174 (by decide) ?_
        refine lv_iload hx hb dW_law_1176 (lv_at hl 7 rfl) ?_
        refine lv_iload hx hb dW_law_1178 (lv_at hl 1 rfl) ?_
        refine lv_iconst (v := 0) hx hb dW_law_1180 (by decide) ?_
        have hlt : R / 2 < w := Nat.lt_of_not_le fun q => c_4 (nI_le q (by omega))
        refine rcSWn (rest := []) (As := [.ref (ad 0), .int 7, .int (nI i), .int (nI w), .int 0]) hx hb hml hown hts hC hG hS (cD_advance l hl9 D tI tJ tL (A0 s) sg ad n sL sA (nI i) (nI w)) (gW q_176 q_177 q_0 q_178) rfl rfl hdyW_does ⟨Nat.le_of_ble_eq_true rfl, Nat.le_of_ble_eq_true rfl⟩ hl.1 rfl (Nat.le_of_ble_eq_true rfl) dW_law_1181 ⟨by show _ ≤ 796740; omega, by show _ ≤ 6711247; omega⟩ (X_advance2 hI hi hR eR hw.1 hw.2 hlt) (fun H locs hG hS => ?_)
        refine lv_iload hx hb dW_law_1184 (lv_at hl 0 rfl) ?_
        refine lv_icmp_ne (tgt := 1193) hx hb dW_law_1186 (by decide) (fun c_12 => ?_) (fun c_12 => ?_)
        · exact absurd c_12 (by decide)
        · refine lv_iconst (v := 1) hx hb dW_law_1189 (by decide) ?_
          refine lv_goto (tgt := 1194) hx hb dW_law_1190 (by decide) ?_
          refine lv_istore (lv' := [(9, .int 1), (21, .int (-2000000012)), (20, .int (nI w)), (19, .int (nI (R / 2))), (18, .int (nI a)), (17, .int (nI q)), (16, .int 1), (15, .int (nI (10 * i))), (14, .int (nI i)), (13, .int (nI Y)), (12, .int (nI kd)), (11, .int (nI X)), (10, .int (nI t)), (8, .ref (ad 10)), (7, .ref (ad 9)), (6, .ref (ad 8)), (5, .ref (ad 7)), (4, .ref (ad 6)), (3, .ref (ad 5)), (2, .ref (ad 4)), (1, .ref (ad 0)), (0, .ref b)]) hx hb dW_law_1194 hl (by decide) rfl (fun ls hl => ?_)
          refine lv_goto (tgt := 1500) hx hb dW_law_1196 (by decide) ?_
          refine W.widen (k := cells + 60) (n := slots + 300) (by omega) (by omega) ?_
          exact cont ad _ _ _ H locs ls (by omega) (hI.mono (by omega)) hG hS (lv_sub hl [9, 12, 0, 13, 14, 15, 16, 17, 18, 19, 20, 21] rfl)
      · exact absurd c_11 (by decide)
set_option maxHeartbeats 4000000 in
set_option maxRecDepth 100000 in
theorem lc_advance_2 {p : Program} {l : Launch} {e : Env} {s : State} {m : MethodId} {below : List Frame} {meth : Method} {c : Code} {b : Nat} (hl9 : l.stackTraces = false) (hx : p.tables.exec = Jvm.exec) (hb : c.code = code) (hml : c.maxLocals = 22) (hown : s.vm.findClass "DroitLineLaw" = some m.cls) (hts : ∀ w ∈ wNeed, w.before #[Value.ref b] s = true)
    {D : va_G} {tI tJ tL : ClassId} {sg : Nat → Nat} (hC : GC D tI tJ tL (A0 s) sg s) {t Y kd X i q a K cells slots : Nat} (hK : K ≤ 130) (hcl : cells + 60 ≤ 796740) (hsl : slots + 300 ≤ 6711247) (hY : Y < 2147483648) {ad : Nat → Nat} {n : Nat} {sL : NL} {sA : NA} (hI : INV n K sL sA) (hi : i < n) (hst : sA 5 (10 * i + 3) = 2) (hq : q < 10) (ha1 : 1 ≤ a) (ha2 : a ≤ 1000000) {H : Heap} {locs : List Loc} (hG : GW D tI tJ tL (A0 s) ad n sL sA H) (hS : va_S (A0 s) s.heap H locs) {ls : Array Slot} (hl : lv_has ls 22 [(18, .int (nI a)), (17, .int (nI q)), (16, .int 2), (15, .int (nI (10 * i))), (14, .int (nI i)), (13, .int (nI Y)), (12, .int (nI kd)), (11, .int (nI X)), (10, .int (nI t)), (9, .int 1), (8, .ref (ad 10)), (7, .ref (ad 9)), (6, .ref (ad 8)), (5, .ref (ad 7)), (4, .ref (ad 6)), (3, .ref (ad 5)), (2, .ref (ad 4)), (1, .ref (ad 0)), (0, .ref b)])
    (cont : CONT p l e s m b below meth c D tI tJ tL t Y K cells slots) : W p l e room_1 s m #[Value.ref b] below meth c H locs cells slots (lw_Z below #[Value.ref b] s) (F0 m 1053 ls []) := by
  have hn6 := hI.n6
  obtain ⟨R, hR, eR⟩ := (hI.si hi).2.2.1.2
  refine lv_aload_n hx hb dW_law_1053 rfl (lv_at hl 15 rfl) ?_
  refine lv_iload hx hb dW_law_1054 (lv_at hl 3 rfl) ?_
  refine lv_iconst (v := 1) hx hb dW_law_1056 (by decide) ?_
  refine lv_iadd hx hb dW_law_1057 ?_
  rw [show (nI (10 * i)) + (1 : Int32) = nI (10 * i + 1) from nI_add (10 * i) 1]
  refine ra_ld hx hb hC hG 5 60 (by omega) (fun _ _ => rfl) (vp_in_nI (by omega) (by omega)) dW_law_1058 ?_
  rw [show (nI (10 * i + 1)).toNatClampNeg = (10 * i + 1) from nI_clamp (by omega)]
  rw [show sA 5 (10 * i + 1) = nI R from by rw [eR]]
  refine lv_iconst (v := 2) hx hb dW_law_1059 (by decide) ?_
  refine lv_idiv hx hb dW_law_1060 (by decide) ?_
  rw [show (nI R) / (2 : Int32) = nI (R / 2) from pk_div (a := R) (d := 2) (by omega) (by omega) (by omega)]
  refine lv_istore (lv' := [(19, .int (nI (R / 2))), (18, .int (nI a)), (17, .int (nI q)), (16, .int 2), (15, .int (nI (10 * i))), (14, .int (nI i)), (13, .int (nI Y)), (12, .int (nI kd)), (11, .int (nI X)), (10, .int (nI t)), (9, .int 1), (8, .ref (ad 10)), (7, .ref (ad 9)), (6, .ref (ad 8)), (5, .ref (ad 7)), (4, .ref (ad 6)), (3, .ref (ad 5)), (2, .ref (ad 4)), (1, .ref (ad 0)), (0, .ref b)]) hx hb dW_law_1061 hl (by decide) rfl (fun ls hl => ?_)
  refine W_keyP (P := fun w => 1 ≤ w ∧ w ≤ 1000000) (fun w => F0 m 1108 ls [.int (nI w)]) (fun key => ?_) (fun w hw => ?_)
  · refine lv_iload hx hb dW_law_1063 (lv_at hl 6 rfl) ?_
    refine lv_iconst (v := 4) hx hb dW_law_1065 (by decide) ?_
    refine lv_irem hx hb dW_law_1066 (by decide) ?_
    rw [show (nI Y) - (nI Y) / (4 : Int32) * (4 : Int32) = nI (Y % 4) from pk_rem (a := Y) (d := 4) (by omega) (by omega) (by omega)]
    refine lv_if_ne (tgt := 1075) hx hb dW_law_1067 (by decide) (fun c_1 => ?_) (fun c_1 => ?_)
    · refine lv_iload hx hb dW_law_1075 (lv_at hl 0 rfl) ?_
      refine lv_iconst (v := 1) hx hb dW_law_1077 (by decide) ?_
      refine lv_icmp_ge (tgt := 1085) hx hb dW_law_1078 (by decide) (fun c_2 => ?_) (fun c_2 => ?_)
      · have h1R : 1 ≤ R / 2 := (nI_leI (a := 1) (b := R / 2) (by omega) (by omega)).1 c_2
        refine lv_iload hx hb dW_law_1085 (lv_at hl 6 rfl) ?_
        refine lv_iconst (v := 4) hx hb dW_law_1087 (by decide) ?_
        refine lv_irem hx hb dW_law_1088 (by decide) ?_
        rw [show (nI Y) - (nI Y) / (4 : Int32) * (4 : Int32) = nI (Y % 4) from pk_rem (a := Y) (d := 4) (by omega) (by omega) (by omega)]
        refine lv_iconst (v := 1) hx hb dW_law_1089 (by decide) ?_
        refine lv_icmp_ne (tgt := 1098) hx hb dW_law_1090 (by decide) (fun c_3 => ?_) (fun c_3 => ?_)
        · refine lv_iconst (v := 1) hx hb dW_law_1098 (by decide) ?_
          refine lv_iload hx hb dW_law_1099 (lv_at hl 6 rfl) ?_
          refine lv_bipush (v := 9) hx hb dW_law_1101 (by decide) ?_
          refine lv_idiv hx hb dW_law_1103 (by decide) ?_
          rw [show (nI Y) / (9 : Int32) = nI (Y / 9) from pk_div (a := Y) (d := 9) (by omega) (by omega) (by omega)]
          refine lv_iload hx hb dW_law_1104 (lv_at hl 0 rfl) ?_
          refine lv_irem hx hb dW_law_1106 (nI_ne0 (by omega) (by omega)) ?_
          rw [show (nI (Y / 9)) - (nI (Y / 9)) / (nI (R / 2)) * (nI (R / 2)) = nI ((Y / 9) % (R / 2)) from pk_rem (a := Y / 9) (d := R / 2) (by omega) (by omega) (by omega)]
          refine lv_iadd hx hb dW_law_1107 ?_
          rw [show (1 : Int32) + (nI ((Y / 9) % (R / 2))) = nI (1 + ((Y / 9) % (R / 2))) from nI_add 1 ((Y / 9) % (R / 2))]
          have hm := Nat.mod_lt (Y / 9) (show 0 < R / 2 by omega)
          exact key (1 + ((Y / 9) % (R / 2))) (by omega)
        · refine lv_iload hx hb dW_law_1093 (lv_at hl 0 rfl) ?_
          refine lv_goto (tgt := 1108) hx hb dW_law_1095 (by decide) ?_
          exact key (R / 2) (by omega)
      · refine lv_iconst (v := 1) hx hb dW_law_1081 (by decide) ?_
        refine lv_goto (tgt := 1108) hx hb dW_law_1082 (by decide) ?_
        exact key (1) (by omega)
    · refine lv_iload hx hb dW_law_1070 (lv_at hl 1 rfl) ?_
      refine lv_goto (tgt := 1108) hx hb dW_law_1072 (by decide) ?_
      exact key (a) (by omega)
  · refine lv_istore (lv' := [(20, .int (nI w)), (19, .int (nI (R / 2))), (18, .int (nI a)), (17, .int (nI q)), (16, .int 2), (15, .int (nI (10 * i))), (14, .int (nI i)), (13, .int (nI Y)), (12, .int (nI kd)), (11, .int (nI X)), (10, .int (nI t)), (9, .int 1), (8, .ref (ad 10)), (7, .ref (ad 9)), (6, .ref (ad 8)), (5, .ref (ad 7)), (4, .ref (ad 6)), (3, .ref (ad 5)), (2, .ref (ad 4)), (1, .ref (ad 0)), (0, .ref b)]) hx hb dW_law_1108 hl (by decide) rfl (fun ls hl => ?_)
    refine lv_iload hx hb dW_law_1110 (lv_at hl 0 rfl) ?_
    refine lv_iload hx hb dW_law_1112 (lv_at hl 1 rfl) ?_
    refine lv_icmp_le (tgt := 1122) hx hb dW_law_1114 (by decide) (fun c_4 => ?_) (fun c_4 => ?_)
    · refine lv_iload hx hb dW_law_1122 (lv_at hl 4 rfl) ?_
      refine lv_iconst (v := 2) hx hb dW_law_1124 (by decide) ?_
      refine lv_icmp_gt (tgt := 1138) hx hb dW_law_1125 (by decide) (fun c_5 => ?_) (fun c_5 => ?_)
      · exact absurd c_5 (by decide)
      · refine lv_aload hx hb dW_law_1128 (lv_at hl 16 rfl) ?_
        refine lv_iconst (v := 3) hx hb dW_law_1130 (by decide) ?_
        refine lv_iload hx hb dW_law_1131 (lv_at hl 6 rfl) ?_
        refine lv_imul hx hb dW_law_1133 ?_
        rw [show (3 : Int32) * (nI i) = nI (3 * i) from pk_mul 3 i]
        refine ra_ld hx hb hC hG 6 18 (by omega) (fun _ _ => rfl) (vp_in_nI (by omega) (by omega)) dW_law_1134 ?_
        rw [show (nI (3 * i)).toNatClampNeg = (3 * i) from nI_clamp (by omega)]
        refine lv_if_le (tgt := 1143) hx hb dW_law_1135 (by decide) (fun c_6 => ?_) (fun c_6 => ?_)
        · refine lv_iload hx hb dW_law_1143 (lv_at hl 1 rfl) ?_
          refine lv_istore (lv' := [(21, .int (nI (R / 2))), (20, .int (nI w)), (19, .int (nI (R / 2))), (18, .int (nI a)), (17, .int (nI q)), (16, .int 2), (15, .int (nI (10 * i))), (14, .int (nI i)), (13, .int (nI Y)), (12, .int (nI kd)), (11, .int (nI X)), (10, .int (nI t)), (9, .int 1), (8, .ref (ad 10)), (7, .ref (ad 9)), (6, .ref (ad 8)), (5, .ref (ad 7)), (4, .ref (ad 6)), (3, .ref (ad 5)), (2, .ref (ad 4)), (1, .ref (ad 0)), (0, .ref b)]) hx hb dW_law_1145 hl (by decide) rfl (fun ls hl => ?_)
          refine lv_iload hx hb dW_law_1147 (lv_at hl 0 rfl) ?_
          refine lv_if_lt (tgt := 1173) hx hb dW_law_1149 (by decide) (fun c_7 => ?_) (fun c_7 => ?_)
          · exact absurd c_7 (nI_pos (by omega))
          · refine lv_aload hx hb dW_law_1152 (lv_at hl 17 rfl) ?_
            refine lv_iconst (v := 3) hx hb dW_law_1154 (by decide) ?_
            refine lv_iload hx hb dW_law_1155 (lv_at hl 7 rfl) ?_
            refine lv_imul hx hb dW_law_1157 ?_
            rw [show (3 : Int32) * (nI i) = nI (3 * i) from pk_mul 3 i]
            refine lv_iload hx hb dW_law_1158 (lv_at hl 1 rfl) ?_
            refine ra_st hx hb hC hG hS 6 18 (by omega) (fun _ _ => rfl) (vp_in_nI (by omega) (by omega)) dW_law_1160 (fun H locs hG hS => ?_)
            rw [show (nI (3 * i)).toNatClampNeg = (3 * i) from nI_clamp (by omega)] at hG
            refine lv_aload hx hb dW_law_1161 (lv_at hl 17 rfl) ?_
            refine lv_iconst (v := 3) hx hb dW_law_1163 (by decide) ?_
            refine lv_iload hx hb dW_law_1164 (lv_at hl 7 rfl) ?_
            refine lv_imul hx hb dW_law_1166 ?_
            rw [show (3 : Int32) * (nI i) = nI (3 * i) from pk_mul 3 i]
            refine lv_iconst (v := 1) hx hb dW_law_1167 (by decide) ?_
            refine lv_iadd hx hb dW_law_1168 ?_
            rw [show (nI (3 * i)) + (1 : Int32) = nI (3 * i + 1) from nI_add (3 * i) 1]
            refine lv_aload_n hx hb dW_law_1169 rfl (lv_at hl 19 rfl) ?_
            refine lv_iconst (v := 2) hx hb dW_law_1170 (by decide) ?_
            refine ra_ld hx hb hC hG 4 5 (by omega) (fun _ _ => rfl) (by rw [vp_in_iff]; decide) dW_law_1171 ?_
            rw [show (2 : Int32).toNatClampNeg = 2 from rfl]
            rw [show (up2 sA 6 (3 * i) (nI w)) 4 2 = sA 4 2 from by simp (disch := omega) only [up2_hit, up2_miss]]
            refine ra_st hx hb hC hG hS 6 18 (by omega) (fun _ _ => rfl) (vp_in_nI (by omega) (by omega)) dW_law_1172 (fun H locs hG hS => ?_)
            rw [show (nI (3 * i + 1)).toNatClampNeg = (3 * i + 1) from nI_clamp (by omega)] at hG
            refine lv_aload_n hx hb dW_law_1173 rfl (lv_at hl 20 rfl) ?_
            refine lv_bipush (v := 7) hx hb dW_law_1174 (by decide) ?_
            refine lv_iload hx hb dW_law_1176 (lv_at hl 7 rfl) ?_
            refine lv_iload hx hb dW_law_1178 (lv_at hl 1 rfl) ?_
            refine lv_iconst (v := 0) hx hb dW_law_1180 (by decide) ?_
            have hle : w ≤ R / 2 := (nI_leI (by omega) (by omega)).1 c_4
            obtain ⟨hF, hInv⟩ := E_advance hI hi hR eR hw.1 hle (Or.inr (Or.inr hst)) c_6 (sA1 := (up2 (up2 sA 6 (3 * i) (nI w)) 6 (3 * i + 1) (sA 4 2))) rfl
            refine rcSWn (rest := []) (As := [.ref (ad 0), .int 7, .int (nI i), .int (nI w), .int 0]) hx hb hml hown hts hC hG hS (cD_advance l hl9 D tI tJ tL (A0 s) sg ad n sL (up2 (up2 sA 6 (3 * i) (nI w)) 6 (3 * i + 1) (sA 4 2)) (nI i) (nI w)) (gW q_176 q_177 q_0 q_178) rfl rfl hdyW_does ⟨Nat.le_of_ble_eq_true rfl, Nat.le_of_ble_eq_true rfl⟩ hl.1 rfl (Nat.le_of_ble_eq_true rfl) dW_law_1181 ⟨by show _ ≤ 796740; omega, by show _ ≤ 6711247; omega⟩ (hF) (fun H locs hG hS => ?_)
            refine lv_iload hx hb dW_law_1184 (lv_at hl 0 rfl) ?_
            refine lv_icmp_ne (tgt := 1193) hx hb dW_law_1186 (by decide) (fun c_8 => ?_) (fun c_8 => ?_)
            · exact absurd c_8 (fun q => q rfl)
            · refine lv_iconst (v := 1) hx hb dW_law_1189 (by decide) ?_
              refine lv_goto (tgt := 1194) hx hb dW_law_1190 (by decide) ?_
              refine lv_istore (lv' := [(9, .int 1), (21, .int (nI (R / 2))), (20, .int (nI w)), (19, .int (nI (R / 2))), (18, .int (nI a)), (17, .int (nI q)), (16, .int 2), (15, .int (nI (10 * i))), (14, .int (nI i)), (13, .int (nI Y)), (12, .int (nI kd)), (11, .int (nI X)), (10, .int (nI t)), (8, .ref (ad 10)), (7, .ref (ad 9)), (6, .ref (ad 8)), (5, .ref (ad 7)), (4, .ref (ad 6)), (3, .ref (ad 5)), (2, .ref (ad 4)), (1, .ref (ad 0)), (0, .ref b)]) hx hb dW_law_1194 hl (by decide) rfl (fun ls hl => ?_)
              refine lv_goto (tgt := 1500) hx hb dW_law_1196 (by decide) ?_
              refine W.widen (k := cells + 60) (n := slots + 300) (by omega) (by omega) ?_
              exact cont ad _ _ _ H locs ls (by omega) (hInv) hG hS (lv_sub hl [9, 12, 0, 13, 14, 15, 16, 17, 18, 19, 20, 21] rfl)
        · refine lv_ldc (v := (-2000000013)) hx hb hown (hts _ q_409) dW_law_1138 ?_
          refine lv_goto (tgt := 1145) hx hb dW_law_1140 (by decide) ?_
          refine lv_istore (lv' := [(21, .int (-2000000013)), (20, .int (nI w)), (19, .int (nI (R / 2))), (18, .int (nI a)), (17, .int (nI q)), (16, .int 2), (15, .int (nI (10 * i))), (14, .int (nI i)), (13, .int (nI Y)), (12, .int (nI kd)), (11, .int (nI X)), (10, .int (nI t)), (9, .int 1), (8, .ref (ad 10)), (7, .ref (ad 9)), (6, .ref (ad 8)), (5, .ref (ad 7)), (4, .ref (ad 6)), (3, .ref (ad 5)), (2, .ref (ad 4)), (1, .ref (ad 0)), (0, .ref b)]) hx hb dW_law_1145 hl (by decide) rfl (fun ls hl => ?_)
          refine lv_iload hx hb dW_law_1147 (lv_at hl 0 rfl) ?_
          refine lv_if_lt (tgt := 1173) hx hb dW_law_1149 (by decide) (fun c_9 => ?_) (fun c_9 => ?_)
          · refine lv_aload_n hx hb dW_law_1173 rfl (lv_at hl 20 rfl) ?_
            refine lv_bipush (v := 7) hx hb dW_law_1174 (by decide) ?_
            refine lv_iload hx hb dW_law_1176 (lv_at hl 7 rfl) ?_
            refine lv_iload hx hb dW_law_1178 (lv_at hl 1 rfl) ?_
            refine lv_iconst (v := 0) hx hb dW_law_1180 (by decide) ?_
            have hle : w ≤ R / 2 := (nI_leI (by omega) (by omega)).1 c_4
            refine rcSWn (rest := []) (As := [.ref (ad 0), .int 7, .int (nI i), .int (nI w), .int 0]) hx hb hml hown hts hC hG hS (cD_advance l hl9 D tI tJ tL (A0 s) sg ad n sL sA (nI i) (nI w)) (gW q_176 q_177 q_0 q_178) rfl rfl hdyW_does ⟨Nat.le_of_ble_eq_true rfl, Nat.le_of_ble_eq_true rfl⟩ hl.1 rfl (Nat.le_of_ble_eq_true rfl) dW_law_1181 ⟨by show _ ≤ 796740; omega, by show _ ≤ 6711247; omega⟩ (X_advance3 hI hi hR eR hw.1 hle (Or.inr (Or.inr c_6))) (fun H locs hG hS => ?_)
            refine lv_iload hx hb dW_law_1184 (lv_at hl 0 rfl) ?_
            refine lv_icmp_ne (tgt := 1193) hx hb dW_law_1186 (by decide) (fun c_10 => ?_) (fun c_10 => ?_)
            · exact absurd c_10 (by decide)
            · refine lv_iconst (v := 1) hx hb dW_law_1189 (by decide) ?_
              refine lv_goto (tgt := 1194) hx hb dW_law_1190 (by decide) ?_
              refine lv_istore (lv' := [(9, .int 1), (21, .int (-2000000013)), (20, .int (nI w)), (19, .int (nI (R / 2))), (18, .int (nI a)), (17, .int (nI q)), (16, .int 2), (15, .int (nI (10 * i))), (14, .int (nI i)), (13, .int (nI Y)), (12, .int (nI kd)), (11, .int (nI X)), (10, .int (nI t)), (8, .ref (ad 10)), (7, .ref (ad 9)), (6, .ref (ad 8)), (5, .ref (ad 7)), (4, .ref (ad 6)), (3, .ref (ad 5)), (2, .ref (ad 4)), (1, .ref (ad 0)), (0, .ref b)]) hx hb dW_law_1194 hl (by decide) rfl (fun ls hl => ?_)
              refine lv_goto (tgt := 1500) hx hb dW_law_1196 (by decide) ?_
              refine W.widen (k := cells + 60) (n := slots + 300) (by omega) (by omega) ?_
              exact cont ad _ _ _ H locs ls (by omega) (hI.mono (by omega)) hG hS (lv_sub hl [9, 12, 0, 13, 14, 15, 16, 17, 18, 19, 20, 21] rfl)
          · exact absurd c_9 (by decide)
    · refine lv_ldc (v := (-2000000012)) hx hb hown (hts _ q_408) dW_law_1117 ?_
      refine lv_goto (tgt := 1145) hx hb dW_law_1119 (by decide) ?_
      refine lv_istore (lv' := [(21, .int (-2000000012)), (20, .int (nI w)), (19, .int (nI (R / 2))), (18, .int (nI a)), (17, .int (nI q)), (16, .int 2), (15, .int (nI (10 * i))), (14, .int (nI i)), (13, .int (nI Y)), (12, .int (nI kd)), (11, .int (nI X)), (10, .int (nI t)), (9, .int 1), (8, .ref (ad 10)), (7, .ref (ad 9)), (6, .ref (ad 8)), (5, .ref (ad 7)), (4, .ref (ad 6)), (3, .ref (ad 5)), (2, .ref (ad 4)), (1, .ref (ad 0)), (0, .ref b)]) hx hb dW_law_1145 hl (by decide) rfl (fun ls hl => ?_)
      refine lv_iload hx hb dW_law_1147 (lv_at hl 0 rfl) ?_
      refine lv_if_lt (tgt := 1173) hx hb dW_law_1149 (by decide) (fun c_11 => ?_) (fun c_11 => ?_)
      · refine lv_aload_n hx hb dW_law_1173 rfl (lv_at hl 20 rfl) ?_
        refine lv_bipush (v := 7) hx hb dW_law_1174 (by decide) ?_
        refine lv_iload hx hb dW_law_1176 (lv_at hl 7 rfl) ?_
        refine lv_iload hx hb dW_law_1178 (lv_at hl 1 rfl) ?_
        refine lv_iconst (v := 0) hx hb dW_law_1180 (by decide) ?_
        have hlt : R / 2 < w := Nat.lt_of_not_le fun q => c_4 (nI_le q (by omega))
        refine rcSWn (rest := []) (As := [.ref (ad 0), .int 7, .int (nI i), .int (nI w), .int 0]) hx hb hml hown hts hC hG hS (cD_advance l hl9 D tI tJ tL (A0 s) sg ad n sL sA (nI i) (nI w)) (gW q_176 q_177 q_0 q_178) rfl rfl hdyW_does ⟨Nat.le_of_ble_eq_true rfl, Nat.le_of_ble_eq_true rfl⟩ hl.1 rfl (Nat.le_of_ble_eq_true rfl) dW_law_1181 ⟨by show _ ≤ 796740; omega, by show _ ≤ 6711247; omega⟩ (X_advance2 hI hi hR eR hw.1 hw.2 hlt) (fun H locs hG hS => ?_)
        refine lv_iload hx hb dW_law_1184 (lv_at hl 0 rfl) ?_
        refine lv_icmp_ne (tgt := 1193) hx hb dW_law_1186 (by decide) (fun c_12 => ?_) (fun c_12 => ?_)
        · exact absurd c_12 (by decide)
        · refine lv_iconst (v := 1) hx hb dW_law_1189 (by decide) ?_
          refine lv_goto (tgt := 1194) hx hb dW_law_1190 (by decide) ?_
          refine lv_istore (lv' := [(9, .int 1), (21, .int (-2000000012)), (20, .int (nI w)), (19, .int (nI (R / 2))), (18, .int (nI a)), (17, .int (nI q)), (16, .int 2), (15, .int (nI (10 * i))), (14, .int (nI i)), (13, .int (nI Y)), (12, .int (nI kd)), (11, .int (nI X)), (10, .int (nI t)), (8, .ref (ad 10)), (7, .ref (ad 9)), (6, .ref (ad 8)), (5, .ref (ad 7)), (4, .ref (ad 6)), (3, .ref (ad 5)), (2, .ref (ad 4)), (1, .ref (ad 0)), (0, .ref b)]) hx hb dW_law_1194 hl (by decide) rfl (fun ls hl => ?_)
          refine lv_goto (tgt := 1500) hx hb dW_law_1196 (by decide) ?_
          refine W.widen (k := cells + 60) (n := slots + 300) (by omega) (by omega) ?_
          exact cont ad _ _ _ H locs ls (by omega) (hI.mono (by omega)) hG hS (lv_sub hl [9, 12, 0, 13, 14, 15, 16, 17, 18, 19, 20, 21] rfl)
      · exact absurd c_11 (by decide)
set_option maxHeartbeats 4000000 in
set_option maxRecDepth 100000 in
theorem lc_advance_3 {p : Program} {l : Launch} {e : Env} {s : State} {m : MethodId} {below : List Frame} {meth : Method} {c : Code} {b : Nat} (hl9 : l.stackTraces = false) (hx : p.tables.exec = Jvm.exec) (hb : c.code = code) (hml : c.maxLocals = 22) (hown : s.vm.findClass "DroitLineLaw" = some m.cls) (hts : ∀ w ∈ wNeed, w.before #[Value.ref b] s = true)
    {D : va_G} {tI tJ tL : ClassId} {sg : Nat → Nat} (hC : GC D tI tJ tL (A0 s) sg s) {t Y kd X i q a K cells slots : Nat} (hK : K ≤ 130) (hcl : cells + 60 ≤ 796740) (hsl : slots + 300 ≤ 6711247) (hY : Y < 2147483648) {ad : Nat → Nat} {n : Nat} {sL : NL} {sA : NA} (hI : INV n K sL sA) (hi : i < n) (hst : sA 5 (10 * i + 3) = 3) (hq : q < 10) (ha1 : 1 ≤ a) (ha2 : a ≤ 1000000) {H : Heap} {locs : List Loc} (hG : GW D tI tJ tL (A0 s) ad n sL sA H) (hS : va_S (A0 s) s.heap H locs) {ls : Array Slot} (hl : lv_has ls 22 [(18, .int (nI a)), (17, .int (nI q)), (16, .int 3), (15, .int (nI (10 * i))), (14, .int (nI i)), (13, .int (nI Y)), (12, .int (nI kd)), (11, .int (nI X)), (10, .int (nI t)), (9, .int 1), (8, .ref (ad 10)), (7, .ref (ad 9)), (6, .ref (ad 8)), (5, .ref (ad 7)), (4, .ref (ad 6)), (3, .ref (ad 5)), (2, .ref (ad 4)), (1, .ref (ad 0)), (0, .ref b)])
    (cont : CONT p l e s m b below meth c D tI tJ tL t Y K cells slots) : W p l e room_1 s m #[Value.ref b] below meth c H locs cells slots (lw_Z below #[Value.ref b] s) (F0 m 1053 ls []) := by
  have hn6 := hI.n6
  obtain ⟨R, hR, eR⟩ := (hI.si hi).2.2.1.2
  refine lv_aload_n hx hb dW_law_1053 rfl (lv_at hl 15 rfl) ?_
  refine lv_iload hx hb dW_law_1054 (lv_at hl 3 rfl) ?_
  refine lv_iconst (v := 1) hx hb dW_law_1056 (by decide) ?_
  refine lv_iadd hx hb dW_law_1057 ?_
  rw [show (nI (10 * i)) + (1 : Int32) = nI (10 * i + 1) from nI_add (10 * i) 1]
  refine ra_ld hx hb hC hG 5 60 (by omega) (fun _ _ => rfl) (vp_in_nI (by omega) (by omega)) dW_law_1058 ?_
  rw [show (nI (10 * i + 1)).toNatClampNeg = (10 * i + 1) from nI_clamp (by omega)]
  rw [show sA 5 (10 * i + 1) = nI R from by rw [eR]]
  refine lv_iconst (v := 2) hx hb dW_law_1059 (by decide) ?_
  refine lv_idiv hx hb dW_law_1060 (by decide) ?_
  rw [show (nI R) / (2 : Int32) = nI (R / 2) from pk_div (a := R) (d := 2) (by omega) (by omega) (by omega)]
  refine lv_istore (lv' := [(19, .int (nI (R / 2))), (18, .int (nI a)), (17, .int (nI q)), (16, .int 3), (15, .int (nI (10 * i))), (14, .int (nI i)), (13, .int (nI Y)), (12, .int (nI kd)), (11, .int (nI X)), (10, .int (nI t)), (9, .int 1), (8, .ref (ad 10)), (7, .ref (ad 9)), (6, .ref (ad 8)), (5, .ref (ad 7)), (4, .ref (ad 6)), (3, .ref (ad 5)), (2, .ref (ad 4)), (1, .ref (ad 0)), (0, .ref b)]) hx hb dW_law_1061 hl (by decide) rfl (fun ls hl => ?_)
  refine W_keyP (P := fun w => 1 ≤ w ∧ w ≤ 1000000) (fun w => F0 m 1108 ls [.int (nI w)]) (fun key => ?_) (fun w hw => ?_)
  · refine lv_iload hx hb dW_law_1063 (lv_at hl 6 rfl) ?_
    refine lv_iconst (v := 4) hx hb dW_law_1065 (by decide) ?_
    refine lv_irem hx hb dW_law_1066 (by decide) ?_
    rw [show (nI Y) - (nI Y) / (4 : Int32) * (4 : Int32) = nI (Y % 4) from pk_rem (a := Y) (d := 4) (by omega) (by omega) (by omega)]
    refine lv_if_ne (tgt := 1075) hx hb dW_law_1067 (by decide) (fun c_1 => ?_) (fun c_1 => ?_)
    · refine lv_iload hx hb dW_law_1075 (lv_at hl 0 rfl) ?_
      refine lv_iconst (v := 1) hx hb dW_law_1077 (by decide) ?_
      refine lv_icmp_ge (tgt := 1085) hx hb dW_law_1078 (by decide) (fun c_2 => ?_) (fun c_2 => ?_)
      · have h1R : 1 ≤ R / 2 := (nI_leI (a := 1) (b := R / 2) (by omega) (by omega)).1 c_2
        refine lv_iload hx hb dW_law_1085 (lv_at hl 6 rfl) ?_
        refine lv_iconst (v := 4) hx hb dW_law_1087 (by decide) ?_
        refine lv_irem hx hb dW_law_1088 (by decide) ?_
        rw [show (nI Y) - (nI Y) / (4 : Int32) * (4 : Int32) = nI (Y % 4) from pk_rem (a := Y) (d := 4) (by omega) (by omega) (by omega)]
        refine lv_iconst (v := 1) hx hb dW_law_1089 (by decide) ?_
        refine lv_icmp_ne (tgt := 1098) hx hb dW_law_1090 (by decide) (fun c_3 => ?_) (fun c_3 => ?_)
        · refine lv_iconst (v := 1) hx hb dW_law_1098 (by decide) ?_
          refine lv_iload hx hb dW_law_1099 (lv_at hl 6 rfl) ?_
          refine lv_bipush (v := 9) hx hb dW_law_1101 (by decide) ?_
          refine lv_idiv hx hb dW_law_1103 (by decide) ?_
          rw [show (nI Y) / (9 : Int32) = nI (Y / 9) from pk_div (a := Y) (d := 9) (by omega) (by omega) (by omega)]
          refine lv_iload hx hb dW_law_1104 (lv_at hl 0 rfl) ?_
          refine lv_irem hx hb dW_law_1106 (nI_ne0 (by omega) (by omega)) ?_
          rw [show (nI (Y / 9)) - (nI (Y / 9)) / (nI (R / 2)) * (nI (R / 2)) = nI ((Y / 9) % (R / 2)) from pk_rem (a := Y / 9) (d := R / 2) (by omega) (by omega) (by omega)]
          refine lv_iadd hx hb dW_law_1107 ?_
          rw [show (1 : Int32) + (nI ((Y / 9) % (R / 2))) = nI (1 + ((Y / 9) % (R / 2))) from nI_add 1 ((Y / 9) % (R / 2))]
          have hm := Nat.mod_lt (Y / 9) (show 0 < R / 2 by omega)
          exact key (1 + ((Y / 9) % (R / 2))) (by omega)
        · refine lv_iload hx hb dW_law_1093 (lv_at hl 0 rfl) ?_
          refine lv_goto (tgt := 1108) hx hb dW_law_1095 (by decide) ?_
          exact key (R / 2) (by omega)
      · refine lv_iconst (v := 1) hx hb dW_law_1081 (by decide) ?_
        refine lv_goto (tgt := 1108) hx hb dW_law_1082 (by decide) ?_
        exact key (1) (by omega)
    · refine lv_iload hx hb dW_law_1070 (lv_at hl 1 rfl) ?_
      refine lv_goto (tgt := 1108) hx hb dW_law_1072 (by decide) ?_
      exact key (a) (by omega)
  · refine lv_istore (lv' := [(20, .int (nI w)), (19, .int (nI (R / 2))), (18, .int (nI a)), (17, .int (nI q)), (16, .int 3), (15, .int (nI (10 * i))), (14, .int (nI i)), (13, .int (nI Y)), (12, .int (nI kd)), (11, .int (nI X)), (10, .int (nI t)), (9, .int 1), (8, .ref (ad 10)), (7, .ref (ad 9)), (6, .ref (ad 8)), (5, .ref (ad 7)), (4, .ref (ad 6)), (3, .ref (ad 5)), (2, .ref (ad 4)), (1, .ref (ad 0)), (0, .ref b)]) hx hb dW_law_1108 hl (by decide) rfl (fun ls hl => ?_)
    refine lv_iload hx hb dW_law_1110 (lv_at hl 0 rfl) ?_
    refine lv_iload hx hb dW_law_1112 (lv_at hl 1 rfl) ?_
    refine lv_icmp_le (tgt := 1122) hx hb dW_law_1114 (by decide) (fun c_4 => ?_) (fun c_4 => ?_)
    · refine lv_iload hx hb dW_law_1122 (lv_at hl 4 rfl) ?_
      refine lv_iconst (v := 2) hx hb dW_law_1124 (by decide) ?_
      refine lv_icmp_gt (tgt := 1138) hx hb dW_law_1125 (by decide) (fun c_5 => ?_) (fun c_5 => ?_)
      · refine lv_ldc (v := (-2000000013)) hx hb hown (hts _ q_409) dW_law_1138 ?_
        refine lv_goto (tgt := 1145) hx hb dW_law_1140 (by decide) ?_
        refine lv_istore (lv' := [(21, .int (-2000000013)), (20, .int (nI w)), (19, .int (nI (R / 2))), (18, .int (nI a)), (17, .int (nI q)), (16, .int 3), (15, .int (nI (10 * i))), (14, .int (nI i)), (13, .int (nI Y)), (12, .int (nI kd)), (11, .int (nI X)), (10, .int (nI t)), (9, .int 1), (8, .ref (ad 10)), (7, .ref (ad 9)), (6, .ref (ad 8)), (5, .ref (ad 7)), (4, .ref (ad 6)), (3, .ref (ad 5)), (2, .ref (ad 4)), (1, .ref (ad 0)), (0, .ref b)]) hx hb dW_law_1145 hl (by decide) rfl (fun ls hl => ?_)
        refine lv_iload hx hb dW_law_1147 (lv_at hl 0 rfl) ?_
        refine lv_if_lt (tgt := 1173) hx hb dW_law_1149 (by decide) (fun c_6 => ?_) (fun c_6 => ?_)
        · refine lv_aload_n hx hb dW_law_1173 rfl (lv_at hl 20 rfl) ?_
          refine lv_bipush (v := 7) hx hb dW_law_1174 (by decide) ?_
          refine lv_iload hx hb dW_law_1176 (lv_at hl 7 rfl) ?_
          refine lv_iload hx hb dW_law_1178 (lv_at hl 1 rfl) ?_
          refine lv_iconst (v := 0) hx hb dW_law_1180 (by decide) ?_
          have hle : w ≤ R / 2 := (nI_leI (by omega) (by omega)).1 c_4
          refine rcSWn (rest := []) (As := [.ref (ad 0), .int 7, .int (nI i), .int (nI w), .int 0]) hx hb hml hown hts hC hG hS (cD_advance l hl9 D tI tJ tL (A0 s) sg ad n sL sA (nI i) (nI w)) (gW q_176 q_177 q_0 q_178) rfl rfl hdyW_does ⟨Nat.le_of_ble_eq_true rfl, Nat.le_of_ble_eq_true rfl⟩ hl.1 rfl (Nat.le_of_ble_eq_true rfl) dW_law_1181 ⟨by show _ ≤ 796740; omega, by show _ ≤ 6711247; omega⟩ (X_advance3 hI hi hR eR hw.1 hle (Or.inl hst)) (fun H locs hG hS => ?_)
          refine lv_iload hx hb dW_law_1184 (lv_at hl 0 rfl) ?_
          refine lv_icmp_ne (tgt := 1193) hx hb dW_law_1186 (by decide) (fun c_7 => ?_) (fun c_7 => ?_)
          · exact absurd c_7 (by decide)
          · refine lv_iconst (v := 1) hx hb dW_law_1189 (by decide) ?_
            refine lv_goto (tgt := 1194) hx hb dW_law_1190 (by decide) ?_
            refine lv_istore (lv' := [(9, .int 1), (21, .int (-2000000013)), (20, .int (nI w)), (19, .int (nI (R / 2))), (18, .int (nI a)), (17, .int (nI q)), (16, .int 3), (15, .int (nI (10 * i))), (14, .int (nI i)), (13, .int (nI Y)), (12, .int (nI kd)), (11, .int (nI X)), (10, .int (nI t)), (8, .ref (ad 10)), (7, .ref (ad 9)), (6, .ref (ad 8)), (5, .ref (ad 7)), (4, .ref (ad 6)), (3, .ref (ad 5)), (2, .ref (ad 4)), (1, .ref (ad 0)), (0, .ref b)]) hx hb dW_law_1194 hl (by decide) rfl (fun ls hl => ?_)
            refine lv_goto (tgt := 1500) hx hb dW_law_1196 (by decide) ?_
            refine W.widen (k := cells + 60) (n := slots + 300) (by omega) (by omega) ?_
            exact cont ad _ _ _ H locs ls (by omega) (hI.mono (by omega)) hG hS (lv_sub hl [9, 12, 0, 13, 14, 15, 16, 17, 18, 19, 20, 21] rfl)
        · exact absurd c_6 (by decide)
      · exact absurd c_5 (by decide)
    · refine lv_ldc (v := (-2000000012)) hx hb hown (hts _ q_408) dW_law_1117 ?_
      refine lv_goto (tgt := 1145) hx hb dW_law_1119 (by decide) ?_
      refine lv_istore (lv' := [(21, .int (-2000000012)), (20, .int (nI w)), (19, .int (nI (R / 2))), (18, .int (nI a)), (17, .int (nI q)), (16, .int 3), (15, .int (nI (10 * i))), (14, .int (nI i)), (13, .int (nI Y)), (12, .int (nI kd)), (11, .int (nI X)), (10, .int (nI t)), (9, .int 1), (8, .ref (ad 10)), (7, .ref (ad 9)), (6, .ref (ad 8)), (5, .ref (ad 7)), (4, .ref (ad 6)), (3, .ref (ad 5)), (2, .ref (ad 4)), (1, .ref (ad 0)), (0, .ref b)]) hx hb dW_law_1145 hl (by decide) rfl (fun ls hl => ?_)
      refine lv_iload hx hb dW_law_1147 (lv_at hl 0 rfl) ?_
      refine lv_if_lt (tgt := 1173) hx hb dW_law_1149 (by decide) (fun c_8 => ?_) (fun c_8 => ?_)
      · refine lv_aload_n hx hb dW_law_1173 rfl (lv_at hl 20 rfl) ?_
        refine lv_bipush (v := 7) hx hb dW_law_1174 (by decide) ?_
        refine lv_iload hx hb dW_law_1176 (lv_at hl 7 rfl) ?_
        refine lv_iload hx hb dW_law_1178 (lv_at hl 1 rfl) ?_
        refine lv_iconst (v := 0) hx hb dW_law_1180 (by decide) ?_
        have hlt : R / 2 < w := Nat.lt_of_not_le fun q => c_4 (nI_le q (by omega))
        refine rcSWn (rest := []) (As := [.ref (ad 0), .int 7, .int (nI i), .int (nI w), .int 0]) hx hb hml hown hts hC hG hS (cD_advance l hl9 D tI tJ tL (A0 s) sg ad n sL sA (nI i) (nI w)) (gW q_176 q_177 q_0 q_178) rfl rfl hdyW_does ⟨Nat.le_of_ble_eq_true rfl, Nat.le_of_ble_eq_true rfl⟩ hl.1 rfl (Nat.le_of_ble_eq_true rfl) dW_law_1181 ⟨by show _ ≤ 796740; omega, by show _ ≤ 6711247; omega⟩ (X_advance2 hI hi hR eR hw.1 hw.2 hlt) (fun H locs hG hS => ?_)
        refine lv_iload hx hb dW_law_1184 (lv_at hl 0 rfl) ?_
        refine lv_icmp_ne (tgt := 1193) hx hb dW_law_1186 (by decide) (fun c_9 => ?_) (fun c_9 => ?_)
        · exact absurd c_9 (by decide)
        · refine lv_iconst (v := 1) hx hb dW_law_1189 (by decide) ?_
          refine lv_goto (tgt := 1194) hx hb dW_law_1190 (by decide) ?_
          refine lv_istore (lv' := [(9, .int 1), (21, .int (-2000000012)), (20, .int (nI w)), (19, .int (nI (R / 2))), (18, .int (nI a)), (17, .int (nI q)), (16, .int 3), (15, .int (nI (10 * i))), (14, .int (nI i)), (13, .int (nI Y)), (12, .int (nI kd)), (11, .int (nI X)), (10, .int (nI t)), (8, .ref (ad 10)), (7, .ref (ad 9)), (6, .ref (ad 8)), (5, .ref (ad 7)), (4, .ref (ad 6)), (3, .ref (ad 5)), (2, .ref (ad 4)), (1, .ref (ad 0)), (0, .ref b)]) hx hb dW_law_1194 hl (by decide) rfl (fun ls hl => ?_)
          refine lv_goto (tgt := 1500) hx hb dW_law_1196 (by decide) ?_
          refine W.widen (k := cells + 60) (n := slots + 300) (by omega) (by omega) ?_
          exact cont ad _ _ _ H locs ls (by omega) (hI.mono (by omega)) hG hS (lv_sub hl [9, 12, 0, 13, 14, 15, 16, 17, 18, 19, 20, 21] rfl)
      · exact absurd c_8 (by decide)
set_option maxHeartbeats 4000000 in
set_option maxRecDepth 100000 in
theorem lc_advance_4 {p : Program} {l : Launch} {e : Env} {s : State} {m : MethodId} {below : List Frame} {meth : Method} {c : Code} {b : Nat} (hl9 : l.stackTraces = false) (hx : p.tables.exec = Jvm.exec) (hb : c.code = code) (hml : c.maxLocals = 22) (hown : s.vm.findClass "DroitLineLaw" = some m.cls) (hts : ∀ w ∈ wNeed, w.before #[Value.ref b] s = true)
    {D : va_G} {tI tJ tL : ClassId} {sg : Nat → Nat} (hC : GC D tI tJ tL (A0 s) sg s) {t Y kd X i q a K cells slots : Nat} (hK : K ≤ 130) (hcl : cells + 60 ≤ 796740) (hsl : slots + 300 ≤ 6711247) (hY : Y < 2147483648) {ad : Nat → Nat} {n : Nat} {sL : NL} {sA : NA} (hI : INV n K sL sA) (hi : i < n) (hst : sA 5 (10 * i + 3) = 4) (hq : q < 10) (ha1 : 1 ≤ a) (ha2 : a ≤ 1000000) {H : Heap} {locs : List Loc} (hG : GW D tI tJ tL (A0 s) ad n sL sA H) (hS : va_S (A0 s) s.heap H locs) {ls : Array Slot} (hl : lv_has ls 22 [(18, .int (nI a)), (17, .int (nI q)), (16, .int 4), (15, .int (nI (10 * i))), (14, .int (nI i)), (13, .int (nI Y)), (12, .int (nI kd)), (11, .int (nI X)), (10, .int (nI t)), (9, .int 1), (8, .ref (ad 10)), (7, .ref (ad 9)), (6, .ref (ad 8)), (5, .ref (ad 7)), (4, .ref (ad 6)), (3, .ref (ad 5)), (2, .ref (ad 4)), (1, .ref (ad 0)), (0, .ref b)])
    (cont : CONT p l e s m b below meth c D tI tJ tL t Y K cells slots) : W p l e room_1 s m #[Value.ref b] below meth c H locs cells slots (lw_Z below #[Value.ref b] s) (F0 m 1053 ls []) := by
  have hn6 := hI.n6
  obtain ⟨R, hR, eR⟩ := (hI.si hi).2.2.1.2
  refine lv_aload_n hx hb dW_law_1053 rfl (lv_at hl 15 rfl) ?_
  refine lv_iload hx hb dW_law_1054 (lv_at hl 3 rfl) ?_
  refine lv_iconst (v := 1) hx hb dW_law_1056 (by decide) ?_
  refine lv_iadd hx hb dW_law_1057 ?_
  rw [show (nI (10 * i)) + (1 : Int32) = nI (10 * i + 1) from nI_add (10 * i) 1]
  refine ra_ld hx hb hC hG 5 60 (by omega) (fun _ _ => rfl) (vp_in_nI (by omega) (by omega)) dW_law_1058 ?_
  rw [show (nI (10 * i + 1)).toNatClampNeg = (10 * i + 1) from nI_clamp (by omega)]
  rw [show sA 5 (10 * i + 1) = nI R from by rw [eR]]
  refine lv_iconst (v := 2) hx hb dW_law_1059 (by decide) ?_
  refine lv_idiv hx hb dW_law_1060 (by decide) ?_
  rw [show (nI R) / (2 : Int32) = nI (R / 2) from pk_div (a := R) (d := 2) (by omega) (by omega) (by omega)]
  refine lv_istore (lv' := [(19, .int (nI (R / 2))), (18, .int (nI a)), (17, .int (nI q)), (16, .int 4), (15, .int (nI (10 * i))), (14, .int (nI i)), (13, .int (nI Y)), (12, .int (nI kd)), (11, .int (nI X)), (10, .int (nI t)), (9, .int 1), (8, .ref (ad 10)), (7, .ref (ad 9)), (6, .ref (ad 8)), (5, .ref (ad 7)), (4, .ref (ad 6)), (3, .ref (ad 5)), (2, .ref (ad 4)), (1, .ref (ad 0)), (0, .ref b)]) hx hb dW_law_1061 hl (by decide) rfl (fun ls hl => ?_)
  refine W_keyP (P := fun w => 1 ≤ w ∧ w ≤ 1000000) (fun w => F0 m 1108 ls [.int (nI w)]) (fun key => ?_) (fun w hw => ?_)
  · refine lv_iload hx hb dW_law_1063 (lv_at hl 6 rfl) ?_
    refine lv_iconst (v := 4) hx hb dW_law_1065 (by decide) ?_
    refine lv_irem hx hb dW_law_1066 (by decide) ?_
    rw [show (nI Y) - (nI Y) / (4 : Int32) * (4 : Int32) = nI (Y % 4) from pk_rem (a := Y) (d := 4) (by omega) (by omega) (by omega)]
    refine lv_if_ne (tgt := 1075) hx hb dW_law_1067 (by decide) (fun c_1 => ?_) (fun c_1 => ?_)
    · refine lv_iload hx hb dW_law_1075 (lv_at hl 0 rfl) ?_
      refine lv_iconst (v := 1) hx hb dW_law_1077 (by decide) ?_
      refine lv_icmp_ge (tgt := 1085) hx hb dW_law_1078 (by decide) (fun c_2 => ?_) (fun c_2 => ?_)
      · have h1R : 1 ≤ R / 2 := (nI_leI (a := 1) (b := R / 2) (by omega) (by omega)).1 c_2
        refine lv_iload hx hb dW_law_1085 (lv_at hl 6 rfl) ?_
        refine lv_iconst (v := 4) hx hb dW_law_1087 (by decide) ?_
        refine lv_irem hx hb dW_law_1088 (by decide) ?_
        rw [show (nI Y) - (nI Y) / (4 : Int32) * (4 : Int32) = nI (Y % 4) from pk_rem (a := Y) (d := 4) (by omega) (by omega) (by omega)]
        refine lv_iconst (v := 1) hx hb dW_law_1089 (by decide) ?_
        refine lv_icmp_ne (tgt := 1098) hx hb dW_law_1090 (by decide) (fun c_3 => ?_) (fun c_3 => ?_)
        · refine lv_iconst (v := 1) hx hb dW_law_1098 (by decide) ?_
          refine lv_iload hx hb dW_law_1099 (lv_at hl 6 rfl) ?_
          refine lv_bipush (v := 9) hx hb dW_law_1101 (by decide) ?_
          refine lv_idiv hx hb dW_law_1103 (by decide) ?_
          rw [show (nI Y) / (9 : Int32) = nI (Y / 9) from pk_div (a := Y) (d := 9) (by omega) (by omega) (by omega)]
          refine lv_iload hx hb dW_law_1104 (lv_at hl 0 rfl) ?_
          refine lv_irem hx hb dW_law_1106 (nI_ne0 (by omega) (by omega)) ?_
          rw [show (nI (Y / 9)) - (nI (Y / 9)) / (nI (R / 2)) * (nI (R / 2)) = nI ((Y / 9) % (R / 2)) from pk_rem (a := Y / 9) (d := R / 2) (by omega) (by omega) (by omega)]
          refine lv_iadd hx hb dW_law_1107 ?_
          rw [show (1 : Int32) + (nI ((Y / 9) % (R / 2))) = nI (1 + ((Y / 9) % (R / 2))) from nI_add 1 ((Y / 9) % (R / 2))]
          have hm := Nat.mod_lt (Y / 9) (show 0 < R / 2 by omega)
          exact key (1 + ((Y / 9) % (R / 2))) (by omega)
        · refine lv_iload hx hb dW_law_1093 (lv_at hl 0 rfl) ?_
          refine lv_goto (tgt := 1108) hx hb dW_law_1095 (by decide) ?_
          exact key (R / 2) (by omega)
      · refine lv_iconst (v := 1) hx hb dW_law_1081 (by decide) ?_
        refine lv_goto (tgt := 1108) hx hb dW_law_1082 (by decide) ?_
        exact key (1) (by omega)
    · refine lv_iload hx hb dW_law_1070 (lv_at hl 1 rfl) ?_
      refine lv_goto (tgt := 1108) hx hb dW_law_1072 (by decide) ?_
      exact key (a) (by omega)
  · refine lv_istore (lv' := [(20, .int (nI w)), (19, .int (nI (R / 2))), (18, .int (nI a)), (17, .int (nI q)), (16, .int 4), (15, .int (nI (10 * i))), (14, .int (nI i)), (13, .int (nI Y)), (12, .int (nI kd)), (11, .int (nI X)), (10, .int (nI t)), (9, .int 1), (8, .ref (ad 10)), (7, .ref (ad 9)), (6, .ref (ad 8)), (5, .ref (ad 7)), (4, .ref (ad 6)), (3, .ref (ad 5)), (2, .ref (ad 4)), (1, .ref (ad 0)), (0, .ref b)]) hx hb dW_law_1108 hl (by decide) rfl (fun ls hl => ?_)
    refine lv_iload hx hb dW_law_1110 (lv_at hl 0 rfl) ?_
    refine lv_iload hx hb dW_law_1112 (lv_at hl 1 rfl) ?_
    refine lv_icmp_le (tgt := 1122) hx hb dW_law_1114 (by decide) (fun c_4 => ?_) (fun c_4 => ?_)
    · refine lv_iload hx hb dW_law_1122 (lv_at hl 4 rfl) ?_
      refine lv_iconst (v := 2) hx hb dW_law_1124 (by decide) ?_
      refine lv_icmp_gt (tgt := 1138) hx hb dW_law_1125 (by decide) (fun c_5 => ?_) (fun c_5 => ?_)
      · refine lv_ldc (v := (-2000000013)) hx hb hown (hts _ q_409) dW_law_1138 ?_
        refine lv_goto (tgt := 1145) hx hb dW_law_1140 (by decide) ?_
        refine lv_istore (lv' := [(21, .int (-2000000013)), (20, .int (nI w)), (19, .int (nI (R / 2))), (18, .int (nI a)), (17, .int (nI q)), (16, .int 4), (15, .int (nI (10 * i))), (14, .int (nI i)), (13, .int (nI Y)), (12, .int (nI kd)), (11, .int (nI X)), (10, .int (nI t)), (9, .int 1), (8, .ref (ad 10)), (7, .ref (ad 9)), (6, .ref (ad 8)), (5, .ref (ad 7)), (4, .ref (ad 6)), (3, .ref (ad 5)), (2, .ref (ad 4)), (1, .ref (ad 0)), (0, .ref b)]) hx hb dW_law_1145 hl (by decide) rfl (fun ls hl => ?_)
        refine lv_iload hx hb dW_law_1147 (lv_at hl 0 rfl) ?_
        refine lv_if_lt (tgt := 1173) hx hb dW_law_1149 (by decide) (fun c_6 => ?_) (fun c_6 => ?_)
        · refine lv_aload_n hx hb dW_law_1173 rfl (lv_at hl 20 rfl) ?_
          refine lv_bipush (v := 7) hx hb dW_law_1174 (by decide) ?_
          refine lv_iload hx hb dW_law_1176 (lv_at hl 7 rfl) ?_
          refine lv_iload hx hb dW_law_1178 (lv_at hl 1 rfl) ?_
          refine lv_iconst (v := 0) hx hb dW_law_1180 (by decide) ?_
          have hle : w ≤ R / 2 := (nI_leI (by omega) (by omega)).1 c_4
          refine rcSWn (rest := []) (As := [.ref (ad 0), .int 7, .int (nI i), .int (nI w), .int 0]) hx hb hml hown hts hC hG hS (cD_advance l hl9 D tI tJ tL (A0 s) sg ad n sL sA (nI i) (nI w)) (gW q_176 q_177 q_0 q_178) rfl rfl hdyW_does ⟨Nat.le_of_ble_eq_true rfl, Nat.le_of_ble_eq_true rfl⟩ hl.1 rfl (Nat.le_of_ble_eq_true rfl) dW_law_1181 ⟨by show _ ≤ 796740; omega, by show _ ≤ 6711247; omega⟩ (X_advance3 hI hi hR eR hw.1 hle (Or.inr (Or.inl hst))) (fun H locs hG hS => ?_)
          refine lv_iload hx hb dW_law_1184 (lv_at hl 0 rfl) ?_
          refine lv_icmp_ne (tgt := 1193) hx hb dW_law_1186 (by decide) (fun c_7 => ?_) (fun c_7 => ?_)
          · exact absurd c_7 (by decide)
          · refine lv_iconst (v := 1) hx hb dW_law_1189 (by decide) ?_
            refine lv_goto (tgt := 1194) hx hb dW_law_1190 (by decide) ?_
            refine lv_istore (lv' := [(9, .int 1), (21, .int (-2000000013)), (20, .int (nI w)), (19, .int (nI (R / 2))), (18, .int (nI a)), (17, .int (nI q)), (16, .int 4), (15, .int (nI (10 * i))), (14, .int (nI i)), (13, .int (nI Y)), (12, .int (nI kd)), (11, .int (nI X)), (10, .int (nI t)), (8, .ref (ad 10)), (7, .ref (ad 9)), (6, .ref (ad 8)), (5, .ref (ad 7)), (4, .ref (ad 6)), (3, .ref (ad 5)), (2, .ref (ad 4)), (1, .ref (ad 0)), (0, .ref b)]) hx hb dW_law_1194 hl (by decide) rfl (fun ls hl => ?_)
            refine lv_goto (tgt := 1500) hx hb dW_law_1196 (by decide) ?_
            refine W.widen (k := cells + 60) (n := slots + 300) (by omega) (by omega) ?_
            exact cont ad _ _ _ H locs ls (by omega) (hI.mono (by omega)) hG hS (lv_sub hl [9, 12, 0, 13, 14, 15, 16, 17, 18, 19, 20, 21] rfl)
        · exact absurd c_6 (by decide)
      · exact absurd c_5 (by decide)
    · refine lv_ldc (v := (-2000000012)) hx hb hown (hts _ q_408) dW_law_1117 ?_
      refine lv_goto (tgt := 1145) hx hb dW_law_1119 (by decide) ?_
      refine lv_istore (lv' := [(21, .int (-2000000012)), (20, .int (nI w)), (19, .int (nI (R / 2))), (18, .int (nI a)), (17, .int (nI q)), (16, .int 4), (15, .int (nI (10 * i))), (14, .int (nI i)), (13, .int (nI Y)), (12, .int (nI kd)), (11, .int (nI X)), (10, .int (nI t)), (9, .int 1), (8, .ref (ad 10)), (7, .ref (ad 9)), (6, .ref (ad 8)), (5, .ref (ad 7)), (4, .ref (ad 6)), (3, .ref (ad 5)), (2, .ref (ad 4)), (1, .ref (ad 0)), (0, .ref b)]) hx hb dW_law_1145 hl (by decide) rfl (fun ls hl => ?_)
      refine lv_iload hx hb dW_law_1147 (lv_at hl 0 rfl) ?_
      refine lv_if_lt (tgt := 1173) hx hb dW_law_1149 (by decide) (fun c_8 => ?_) (fun c_8 => ?_)
      · refine lv_aload_n hx hb dW_law_1173 rfl (lv_at hl 20 rfl) ?_
        refine lv_bipush (v := 7) hx hb dW_law_1174 (by decide) ?_
        refine lv_iload hx hb dW_law_1176 (lv_at hl 7 rfl) ?_
        refine lv_iload hx hb dW_law_1178 (lv_at hl 1 rfl) ?_
        refine lv_iconst (v := 0) hx hb dW_law_1180 (by decide) ?_
        have hlt : R / 2 < w := Nat.lt_of_not_le fun q => c_4 (nI_le q (by omega))
        refine rcSWn (rest := []) (As := [.ref (ad 0), .int 7, .int (nI i), .int (nI w), .int 0]) hx hb hml hown hts hC hG hS (cD_advance l hl9 D tI tJ tL (A0 s) sg ad n sL sA (nI i) (nI w)) (gW q_176 q_177 q_0 q_178) rfl rfl hdyW_does ⟨Nat.le_of_ble_eq_true rfl, Nat.le_of_ble_eq_true rfl⟩ hl.1 rfl (Nat.le_of_ble_eq_true rfl) dW_law_1181 ⟨by show _ ≤ 796740; omega, by show _ ≤ 6711247; omega⟩ (X_advance2 hI hi hR eR hw.1 hw.2 hlt) (fun H locs hG hS => ?_)
        refine lv_iload hx hb dW_law_1184 (lv_at hl 0 rfl) ?_
        refine lv_icmp_ne (tgt := 1193) hx hb dW_law_1186 (by decide) (fun c_9 => ?_) (fun c_9 => ?_)
        · exact absurd c_9 (by decide)
        · refine lv_iconst (v := 1) hx hb dW_law_1189 (by decide) ?_
          refine lv_goto (tgt := 1194) hx hb dW_law_1190 (by decide) ?_
          refine lv_istore (lv' := [(9, .int 1), (21, .int (-2000000012)), (20, .int (nI w)), (19, .int (nI (R / 2))), (18, .int (nI a)), (17, .int (nI q)), (16, .int 4), (15, .int (nI (10 * i))), (14, .int (nI i)), (13, .int (nI Y)), (12, .int (nI kd)), (11, .int (nI X)), (10, .int (nI t)), (8, .ref (ad 10)), (7, .ref (ad 9)), (6, .ref (ad 8)), (5, .ref (ad 7)), (4, .ref (ad 6)), (3, .ref (ad 5)), (2, .ref (ad 4)), (1, .ref (ad 0)), (0, .ref b)]) hx hb dW_law_1194 hl (by decide) rfl (fun ls hl => ?_)
          refine lv_goto (tgt := 1500) hx hb dW_law_1196 (by decide) ?_
          refine W.widen (k := cells + 60) (n := slots + 300) (by omega) (by omega) ?_
          exact cont ad _ _ _ H locs ls (by omega) (hI.mono (by omega)) hG hS (lv_sub hl [9, 12, 0, 13, 14, 15, 16, 17, 18, 19, 20, 21] rfl)
      · exact absurd c_8 (by decide)
set_option maxHeartbeats 4000000 in
set_option maxRecDepth 100000 in
theorem lc_commission {p : Program} {l : Launch} {e : Env} {s : State} {m : MethodId} {below : List Frame} {meth : Method} {c : Code} {b : Nat} (hl9 : l.stackTraces = false) (hx : p.tables.exec = Jvm.exec) (hb : c.code = code) (hml : c.maxLocals = 22) (hown : s.vm.findClass "DroitLineLaw" = some m.cls) (hts : ∀ w ∈ wNeed, w.before #[Value.ref b] s = true)
    {D : va_G} {tI tJ tL : ClassId} {sg : Nat → Nat} (hC : GC D tI tJ tL (A0 s) sg s) {t Y kd X i q a K cells slots : Nat} (hK : K ≤ 130) (hcl : cells + 60 ≤ 796740) (hsl : slots + 300 ≤ 6711247) (hY : Y < 2147483648) {ad : Nat → Nat} {n : Nat} {sL : NL} {sA : NA} (hI : INV n K sL sA) (hi : i < n) (hq : q < 10) (ha1 : 1 ≤ a) (ha2 : a ≤ 1000000) {H : Heap} {locs : List Loc} (hG : GW D tI tJ tL (A0 s) ad n sL sA H) (hS : va_S (A0 s) s.heap H locs) {ls : Array Slot} (hl : lv_has ls 22 [(18, .int (nI a)), (17, .int (nI q)), (16, .int (sA 5 (10 * i + 3))), (15, .int (nI (10 * i))), (14, .int (nI i)), (13, .int (nI Y)), (12, .int (nI kd)), (11, .int (nI X)), (10, .int (nI t)), (9, .int 1), (8, .ref (ad 10)), (7, .ref (ad 9)), (6, .ref (ad 8)), (5, .ref (ad 7)), (4, .ref (ad 6)), (3, .ref (ad 5)), (2, .ref (ad 4)), (1, .ref (ad 0)), (0, .ref b)])
    (cont : CONT p l e s m b below meth c D tI tJ tL t Y K cells slots) : W p l e room_1 s m #[Value.ref b] below meth c H locs cells slots (lw_Z below #[Value.ref b] s) (F0 m 1337 ls []) := by
  have hn6 := hI.n6
  obtain ⟨hF, hInv⟩ := E_commission hI (k := Y % 6) (c := Y / 6 % 51) (by omega) (by omega)
  refine lv_iload hx hb dW_law_1337 (lv_at hl 5 rfl) ?_
  refine lv_bipush (v := 6) hx hb dW_law_1339 (by decide) ?_
  refine lv_irem hx hb dW_law_1341 (by decide) ?_
  rw [show (nI Y) - (nI Y) / (6 : Int32) * (6 : Int32) = nI (Y % 6) from pk_rem (a := Y) (d := 6) (by omega) (by omega) (by omega)]
  refine lv_istore (lv' := [(19, .int (nI (Y % 6))), (18, .int (nI a)), (17, .int (nI q)), (16, .int (sA 5 (10 * i + 3))), (15, .int (nI (10 * i))), (14, .int (nI i)), (13, .int (nI Y)), (12, .int (nI kd)), (11, .int (nI X)), (10, .int (nI t)), (9, .int 1), (8, .ref (ad 10)), (7, .ref (ad 9)), (6, .ref (ad 8)), (5, .ref (ad 7)), (4, .ref (ad 6)), (3, .ref (ad 5)), (2, .ref (ad 4)), (1, .ref (ad 0)), (0, .ref b)]) hx hb dW_law_1342 hl (by decide) rfl (fun ls hl => ?_)
  refine lv_aload_n hx hb dW_law_1344 rfl (lv_at hl 18 rfl) ?_
  refine lv_iload hx hb dW_law_1345 (lv_at hl 0 rfl) ?_
  refine lv_iload hx hb dW_law_1347 (lv_at hl 6 rfl) ?_
  refine lv_bipush (v := 6) hx hb dW_law_1349 (by decide) ?_
  refine lv_idiv hx hb dW_law_1351 (by decide) ?_
  rw [show (nI Y) / (6 : Int32) = nI (Y / 6) from pk_div (a := Y) (d := 6) (by omega) (by omega) (by omega)]
  refine lv_bipush (v := 51) hx hb dW_law_1352 (by decide) ?_
  refine lv_irem hx hb dW_law_1354 (by decide) ?_
  rw [show (nI (Y / 6)) - (nI (Y / 6)) / (51 : Int32) * (51 : Int32) = nI ((Y / 6) % 51) from pk_rem (a := Y / 6) (d := 51) (by omega) (by omega) (by omega)]
  refine rcV5n (rest := []) (As := [.int (nI (Y % 6)), .int (nI ((Y / 6) % 51))]) hx hb hml hown hts hC hG hS (cX_commission l hl9 D tI tJ tL (A0 s) sg ad n sL sA (nI (Y % 6)) (nI ((Y / 6) % 51))) (recX hC hG) (gV q_50 q_51 q_52 q_1 q_53) rfl rfl ⟨rfl, hdyX_commission⟩ ⟨Nat.le_of_ble_eq_true rfl, Nat.le_of_ble_eq_true rfl⟩ hl.1 rfl (Nat.le_of_ble_eq_true rfl) dW_law_1355 ⟨by show _ ≤ 796740; omega, by show _ ≤ 6711247; omega⟩ (hF) (fun H locs hG hS => ?_)
  refine lv_aload hx hb dW_law_1358 (lv_at hl 12 rfl) ?_
  refine lv_iload hx hb dW_law_1360 (lv_at hl 0 rfl) ?_
  refine ra_ld hx hb hC hG 9 6 (by omega) (fun _ _ => rfl) (vp_in_nI (by omega) (by omega)) dW_law_1362 ?_
  rw [show (nI (Y % 6)).toNatClampNeg = (Y % 6) from nI_clamp (by omega)]
  refine lv_icmp_ne (tgt := 1370) hx hb dW_law_1363 (by decide) (fun c_1 => ?_) (fun c_1 => ?_)
  · exact absurd c_1 (fun q => q rfl)
  · refine lv_iconst (v := 1) hx hb dW_law_1366 (by decide) ?_
    refine lv_goto (tgt := 1371) hx hb dW_law_1367 (by decide) ?_
    refine lv_istore (lv' := [(9, .int 1), (19, .int (nI (Y % 6))), (18, .int (nI a)), (17, .int (nI q)), (16, .int (sA 5 (10 * i + 3))), (15, .int (nI (10 * i))), (14, .int (nI i)), (13, .int (nI Y)), (12, .int (nI kd)), (11, .int (nI X)), (10, .int (nI t)), (8, .ref (ad 10)), (7, .ref (ad 9)), (6, .ref (ad 8)), (5, .ref (ad 7)), (4, .ref (ad 6)), (3, .ref (ad 5)), (2, .ref (ad 4)), (1, .ref (ad 0)), (0, .ref b)]) hx hb dW_law_1371 hl (by decide) rfl (fun ls hl => ?_)
    refine lv_aload hx hb dW_law_1373 (lv_at hl 12 rfl) ?_
    refine lv_iload hx hb dW_law_1375 (lv_at hl 1 rfl) ?_
    refine lv_iload hx hb dW_law_1377 (lv_at hl 7 rfl) ?_
    refine lv_bipush (v := 6) hx hb dW_law_1379 (by decide) ?_
    refine lv_idiv hx hb dW_law_1381 (by decide) ?_
    rw [show (nI Y) / (6 : Int32) = nI (Y / 6) from pk_div (a := Y) (d := 6) (by omega) (by omega) (by omega)]
    refine lv_bipush (v := 51) hx hb dW_law_1382 (by decide) ?_
    refine lv_irem hx hb dW_law_1384 (by decide) ?_
    rw [show (nI (Y / 6)) - (nI (Y / 6)) / (51 : Int32) * (51 : Int32) = nI ((Y / 6) % 51) from pk_rem (a := Y / 6) (d := 51) (by omega) (by omega) (by omega)]
    refine ra_st hx hb hC hG hS 9 6 (by omega) (fun _ _ => rfl) (vp_in_nI (by omega) (by omega)) dW_law_1385 (fun H locs hG hS => ?_)
    rw [show (nI (Y % 6)).toNatClampNeg = (Y % 6) from nI_clamp (by omega)] at hG
    refine lv_goto (tgt := 1500) hx hb dW_law_1386 (by decide) ?_
    refine W.widen (k := cells + 60) (n := slots + 300) (by omega) (by omega) ?_
    exact cont ad _ _ _ H locs ls (by omega) (hInv) hG hS (lv_sub hl [7, 10, 0, 11, 12, 13, 14, 15, 16, 17, 18, 19] rfl)
set_option maxHeartbeats 4000000 in
set_option maxRecDepth 100000 in
theorem lc_rate {p : Program} {l : Launch} {e : Env} {s : State} {m : MethodId} {below : List Frame} {meth : Method} {c : Code} {b : Nat} (hl9 : l.stackTraces = false) (hx : p.tables.exec = Jvm.exec) (hb : c.code = code) (hml : c.maxLocals = 22) (hown : s.vm.findClass "DroitLineLaw" = some m.cls) (hts : ∀ w ∈ wNeed, w.before #[Value.ref b] s = true)
    {D : va_G} {tI tJ tL : ClassId} {sg : Nat → Nat} (hC : GC D tI tJ tL (A0 s) sg s) {t Y kd X i q a K cells slots : Nat} (hK : K ≤ 130) (hcl : cells + 60 ≤ 796740) (hsl : slots + 300 ≤ 6711247) (hY : Y < 2147483648) {ad : Nat → Nat} {n : Nat} {sL : NL} {sA : NA} (hI : INV n K sL sA) (hi : i < n) (hq : q < 10) (ha1 : 1 ≤ a) (ha2 : a ≤ 1000000) {H : Heap} {locs : List Loc} (hG : GW D tI tJ tL (A0 s) ad n sL sA H) (hS : va_S (A0 s) s.heap H locs) {ls : Array Slot} (hl : lv_has ls 22 [(18, .int (nI a)), (17, .int (nI q)), (16, .int (sA 5 (10 * i + 3))), (15, .int (nI (10 * i))), (14, .int (nI i)), (13, .int (nI Y)), (12, .int (nI kd)), (11, .int (nI X)), (10, .int (nI t)), (9, .int 1), (8, .ref (ad 10)), (7, .ref (ad 9)), (6, .ref (ad 8)), (5, .ref (ad 7)), (4, .ref (ad 6)), (3, .ref (ad 5)), (2, .ref (ad 4)), (1, .ref (ad 0)), (0, .ref b)])
    (cont : CONT p l e s m b below meth c D tI tJ tL t Y K cells slots) : W p l e room_1 s m #[Value.ref b] below meth c H locs cells slots (lw_Z below #[Value.ref b] s) (F0 m 1396 ls []) := by
  have hn6 := hI.n6
  obtain ⟨hF, hInv⟩ := E_rate hI (r := Y % 101) (by omega)
  refine lv_aload_n hx hb dW_law_1396 rfl (lv_at hl 17 rfl) ?_
  refine lv_iload hx hb dW_law_1397 (lv_at hl 5 rfl) ?_
  refine lv_bipush (v := 101) hx hb dW_law_1399 (by decide) ?_
  refine lv_irem hx hb dW_law_1401 (by decide) ?_
  rw [show (nI Y) - (nI Y) / (101 : Int32) * (101 : Int32) = nI (Y % 101) from pk_rem (a := Y) (d := 101) (by omega) (by omega) (by omega)]
  refine rcV5n (rest := []) (As := [.int (nI (Y % 101))]) hx hb hml hown hts hC hG hS (cX_rate l hl9 D tI tJ tL (A0 s) sg ad n sL sA (nI (Y % 101))) (recX hC hG) (gV q_144 q_145 q_146 q_1 q_147) rfl rfl ⟨rfl, hdyX_rate⟩ ⟨Nat.le_of_ble_eq_true rfl, Nat.le_of_ble_eq_true rfl⟩ hl.1 rfl (Nat.le_of_ble_eq_true rfl) dW_law_1402 ⟨by show _ ≤ 796740; omega, by show _ ≤ 6711247; omega⟩ (hF) (fun H locs hG hS => ?_)
  refine lv_aload_n hx hb dW_law_1405 rfl (lv_at hl 16 rfl) ?_
  refine lv_iconst (v := 3) hx hb dW_law_1406 (by decide) ?_
  refine ra_ld hx hb hC hG 4 5 (by omega) (fun _ _ => rfl) (by rw [vp_in_iff]; decide) dW_law_1407 ?_
  rw [show (3 : Int32).toNatClampNeg = 3 from rfl]
  refine lv_icmp_ne (tgt := 1415) hx hb dW_law_1408 (by decide) (fun c_1 => ?_) (fun c_1 => ?_)
  · exact absurd c_1 (fun q => q rfl)
  · refine lv_iconst (v := 1) hx hb dW_law_1411 (by decide) ?_
    refine lv_goto (tgt := 1416) hx hb dW_law_1412 (by decide) ?_
    refine lv_istore (lv' := [(9, .int 1), (18, .int (nI a)), (17, .int (nI q)), (16, .int (sA 5 (10 * i + 3))), (15, .int (nI (10 * i))), (14, .int (nI i)), (13, .int (nI Y)), (12, .int (nI kd)), (11, .int (nI X)), (10, .int (nI t)), (8, .ref (ad 10)), (7, .ref (ad 9)), (6, .ref (ad 8)), (5, .ref (ad 7)), (4, .ref (ad 6)), (3, .ref (ad 5)), (2, .ref (ad 4)), (1, .ref (ad 0)), (0, .ref b)]) hx hb dW_law_1416 hl (by decide) rfl (fun ls hl => ?_)
    refine lv_aload_n hx hb dW_law_1418 rfl (lv_at hl 16 rfl) ?_
    refine lv_iconst (v := 3) hx hb dW_law_1419 (by decide) ?_
    refine lv_iload hx hb dW_law_1420 (lv_at hl 6 rfl) ?_
    refine lv_bipush (v := 101) hx hb dW_law_1422 (by decide) ?_
    refine lv_irem hx hb dW_law_1424 (by decide) ?_
    rw [show (nI Y) - (nI Y) / (101 : Int32) * (101 : Int32) = nI (Y % 101) from pk_rem (a := Y) (d := 101) (by omega) (by omega) (by omega)]
    refine ra_st hx hb hC hG hS 4 5 (by omega) (fun _ _ => rfl) (by rw [vp_in_iff]; decide) dW_law_1425 (fun H locs hG hS => ?_)
    rw [show (3 : Int32).toNatClampNeg = 3 from rfl] at hG
    refine lv_goto (tgt := 1500) hx hb dW_law_1426 (by decide) ?_
    refine W.widen (k := cells + 60) (n := slots + 300) (by omega) (by omega) ?_
    exact cont ad _ _ _ H locs ls (by omega) (hInv) hG hS (lv_sub hl [6, 9, 0, 10, 11, 12, 13, 14, 15, 16, 17, 18] rfl)
set_option maxHeartbeats 4000000 in
set_option maxRecDepth 100000 in
theorem lc_days {p : Program} {l : Launch} {e : Env} {s : State} {m : MethodId} {below : List Frame} {meth : Method} {c : Code} {b : Nat} (hl9 : l.stackTraces = false) (hx : p.tables.exec = Jvm.exec) (hb : c.code = code) (hml : c.maxLocals = 22) (hown : s.vm.findClass "DroitLineLaw" = some m.cls) (hts : ∀ w ∈ wNeed, w.before #[Value.ref b] s = true)
    {D : va_G} {tI tJ tL : ClassId} {sg : Nat → Nat} (hC : GC D tI tJ tL (A0 s) sg s) {t Y kd X i q a K cells slots : Nat} (hK : K ≤ 130) (hcl : cells + 60 ≤ 796740) (hsl : slots + 300 ≤ 6711247) (hY : Y < 2147483648) {ad : Nat → Nat} {n : Nat} {sL : NL} {sA : NA} (hI : INV n K sL sA) (hi : i < n) (hq : q < 10) (ha1 : 1 ≤ a) (ha2 : a ≤ 1000000) {H : Heap} {locs : List Loc} (hG : GW D tI tJ tL (A0 s) ad n sL sA H) (hS : va_S (A0 s) s.heap H locs) {ls : Array Slot} (hl : lv_has ls 22 [(18, .int (nI a)), (17, .int (nI q)), (16, .int (sA 5 (10 * i + 3))), (15, .int (nI (10 * i))), (14, .int (nI i)), (13, .int (nI Y)), (12, .int (nI kd)), (11, .int (nI X)), (10, .int (nI t)), (9, .int 1), (8, .ref (ad 10)), (7, .ref (ad 9)), (6, .ref (ad 8)), (5, .ref (ad 7)), (4, .ref (ad 6)), (3, .ref (ad 5)), (2, .ref (ad 4)), (1, .ref (ad 0)), (0, .ref b)])
    (cont : CONT p l e s m b below meth c D tI tJ tL t Y K cells slots) : W p l e room_1 s m #[Value.ref b] below meth c H locs cells slots (lw_Z below #[Value.ref b] s) (F0 m 1429 ls []) := by
  have hn6 := hI.n6
  obtain ⟨-, ⟨td, htd7, -, htd⟩, -⟩ := hI.1
  refine W_keyP (P := fun d => 1 ≤ d ∧ d ≤ 200) (fun d => F0 m 1437 ls [.int (nI d)]) (fun key => ?_) (fun d hd => ?_)
  · refine lv_iconst (v := 1) hx hb dW_law_1429 (by decide) ?_
    refine lv_iload hx hb dW_law_1430 (lv_at hl 5 rfl) ?_
    refine lv_sipush (v := 200) hx hb dW_law_1432 (by decide) ?_
    refine lv_irem hx hb dW_law_1435 (by decide) ?_
    rw [show (nI Y) - (nI Y) / (200 : Int32) * (200 : Int32) = nI (Y % 200) from pk_rem (a := Y) (d := 200) (by omega) (by omega) (by omega)]
    refine lv_iadd hx hb dW_law_1436 ?_
    rw [show (1 : Int32) + (nI (Y % 200)) = nI (1 + (Y % 200)) from nI_add 1 (Y % 200)]
    exact key (1 + (Y % 200)) (by omega)
  · refine lv_istore (lv' := [(19, .int (nI d)), (18, .int (nI a)), (17, .int (nI q)), (16, .int (sA 5 (10 * i + 3))), (15, .int (nI (10 * i))), (14, .int (nI i)), (13, .int (nI Y)), (12, .int (nI kd)), (11, .int (nI X)), (10, .int (nI t)), (9, .int 1), (8, .ref (ad 10)), (7, .ref (ad 9)), (6, .ref (ad 8)), (5, .ref (ad 7)), (4, .ref (ad 6)), (3, .ref (ad 5)), (2, .ref (ad 4)), (1, .ref (ad 0)), (0, .ref b)]) hx hb dW_law_1437 hl (by decide) rfl (fun ls hl => ?_)
    refine lv_aload_n hx hb dW_law_1439 rfl (lv_at hl 17 rfl) ?_
    refine lv_iconst (v := 2) hx hb dW_law_1440 (by decide) ?_
    refine lv_dup2_11 hx hb dW_law_1441 rfl rfl ?_
    refine ra_ld hx hb hC hG 4 5 (by omega) (fun _ _ => rfl) (by rw [vp_in_iff]; decide) dW_law_1442 ?_
    rw [show (2 : Int32).toNatClampNeg = 2 from rfl]
    rw [show sA 4 2 = nI td from by rw [htd]]
    refine lv_iload hx hb dW_law_1443 (lv_at hl 0 rfl) ?_
    refine lv_iadd hx hb dW_law_1445 ?_
    rw [show (nI td) + (nI d) = nI (td + d) from nI_add td d]
    refine ra_st hx hb hC hG hS 4 5 (by omega) (fun _ _ => rfl) (by rw [vp_in_iff]; decide) dW_law_1446 (fun H locs hG hS => ?_)
    rw [show (2 : Int32).toNatClampNeg = 2 from rfl] at hG
    refine lv_aload_n hx hb dW_law_1447 rfl (lv_at hl 17 rfl) ?_
    refine lv_iconst (v := 2) hx hb dW_law_1448 (by decide) ?_
    refine ra_ld hx hb hC hG 4 5 (by omega) (fun _ _ => rfl) (by rw [vp_in_iff]; decide) dW_law_1449 ?_
    rw [show (2 : Int32).toNatClampNeg = 2 from rfl]
    refine W.eq (g2 := F0 m 1450 ls (.int (nI (td + d)) :: [])) (by simp [up2, upd]) ?_
    refine lv_sipush (v := 7300) hx hb dW_law_1450 (by decide) ?_
    refine lv_icmp_gt (tgt := 1472) hx hb dW_law_1453 (by decide) (fun c_1 => ?_) (fun c_1 => ?_)
    · refine lv_iconst (v := 1) hx hb dW_law_1472 (by decide) ?_
      refine lv_goto (tgt := 1477) hx hb dW_law_1473 (by decide) ?_
      refine lv_istore (lv' := [(9, .int 1), (19, .int (nI d)), (18, .int (nI a)), (17, .int (nI q)), (16, .int (sA 5 (10 * i + 3))), (15, .int (nI (10 * i))), (14, .int (nI i)), (13, .int (nI Y)), (12, .int (nI kd)), (11, .int (nI X)), (10, .int (nI t)), (8, .ref (ad 10)), (7, .ref (ad 9)), (6, .ref (ad 8)), (5, .ref (ad 7)), (4, .ref (ad 6)), (3, .ref (ad 5)), (2, .ref (ad 4)), (1, .ref (ad 0)), (0, .ref b)]) hx hb dW_law_1477 hl (by decide) rfl (fun ls hl => ?_)
      refine lv_aload_n hx hb dW_law_1479 rfl (lv_at hl 17 rfl) ?_
      refine lv_iconst (v := 2) hx hb dW_law_1480 (by decide) ?_
      refine lv_dup2_11 hx hb dW_law_1481 rfl rfl ?_
      refine ra_ld hx hb hC hG 4 5 (by omega) (fun _ _ => rfl) (by rw [vp_in_iff]; decide) dW_law_1482 ?_
      rw [show (2 : Int32).toNatClampNeg = 2 from rfl]
      refine W.eq (g2 := F0 m 1483 ls (.int (nI (td + d)) :: .int 2 :: .ref (ad 4) :: [])) (by simp [up2, upd]) ?_
      refine lv_aload_n hx hb dW_law_1483 rfl (lv_at hl 17 rfl) ?_
      refine lv_iconst (v := 2) hx hb dW_law_1484 (by decide) ?_
      refine ra_ld hx hb hC hG 4 5 (by omega) (fun _ _ => rfl) (by rw [vp_in_iff]; decide) dW_law_1485 ?_
      rw [show (2 : Int32).toNatClampNeg = 2 from rfl]
      refine W.eq (g2 := F0 m 1486 ls (.int (nI (td + d)) :: .int (nI (td + d)) :: .int 2 :: .ref (ad 4) :: [])) (by simp [up2, upd]) ?_
      refine lv_sipush (v := 7300) hx hb dW_law_1486 (by decide) ?_
      refine lv_icmp_le (tgt := 1497) hx hb dW_law_1489 (by decide) (fun c_2 => ?_) (fun c_2 => ?_)
      · exact absurd c_2 (Int32.not_le.mpr c_1)
      · refine lv_iload hx hb dW_law_1492 (lv_at hl 1 rfl) ?_
        refine lv_goto (tgt := 1498) hx hb dW_law_1494 (by decide) ?_
        refine lv_isub hx hb dW_law_1498 ?_
        refine ra_st hx hb hC hG hS 4 5 (by omega) (fun _ _ => rfl) (by rw [vp_in_iff]; decide) dW_law_1499 (fun H locs hG hS => ?_)
        rw [show (2 : Int32).toNatClampNeg = 2 from rfl] at hG
        refine W.widen (k := cells + 60) (n := slots + 300) (by omega) (by omega) ?_
        exact cont ad _ _ _ H locs ls (by omega) (E_daysN hI htd) hG hS (lv_sub hl [7, 10, 0, 11, 12, 13, 14, 15, 16, 17, 18, 19] rfl)
    · refine lv_aload_n hx hb dW_law_1456 rfl (lv_at hl 18 rfl) ?_
      refine lv_bipush (v := 9) hx hb dW_law_1457 (by decide) ?_
      refine lv_iload hx hb dW_law_1459 (lv_at hl 0 rfl) ?_
      refine lv_iconst (v := 0) hx hb dW_law_1461 (by decide) ?_
      refine lv_iconst (v := 0) hx hb dW_law_1462 (by decide) ?_
      have h37 : td + d ≤ 7300 := Nat.le_of_not_lt fun q => c_1 (nI_lt (a := 7300) q (by omega))
      obtain ⟨hF, hInv⟩ := E_days hI htd hd.1 hd.2 h37
      refine rcSWn (rest := []) (As := [.ref (ad 0), .int 9, .int (nI d), .int 0, .int 0]) hx hb hml hown hts hC hG hS (cD_days l hl9 D tI tJ tL (A0 s) sg ad n sL (up2 sA 4 2 (nI (td + d))) (nI d)) (gW q_176 q_177 q_0 q_178) rfl rfl hdyW_does ⟨Nat.le_of_ble_eq_true rfl, Nat.le_of_ble_eq_true rfl⟩ hl.1 rfl (Nat.le_of_ble_eq_true rfl) dW_law_1463 ⟨by show _ ≤ 796740; omega, by show _ ≤ 6711247; omega⟩ (hF) (fun H locs hG hS => ?_)
      refine lv_aload_n hx hb dW_law_1466 rfl (lv_at hl 17 rfl) ?_
      refine lv_iconst (v := 2) hx hb dW_law_1467 (by decide) ?_
      refine ra_ld hx hb hC hG 4 5 (by omega) (fun _ _ => rfl) (by rw [vp_in_iff]; decide) dW_law_1468 ?_
      rw [show (2 : Int32).toNatClampNeg = 2 from rfl]
      refine lv_icmp_ne (tgt := 1476) hx hb dW_law_1469 (by decide) (fun c_3 => ?_) (fun c_3 => ?_)
      · exact absurd c_3 (fun q => q rfl)
      · refine lv_iconst (v := 1) hx hb dW_law_1472 (by decide) ?_
        refine lv_goto (tgt := 1477) hx hb dW_law_1473 (by decide) ?_
        refine lv_istore (lv' := [(9, .int 1), (19, .int (nI d)), (18, .int (nI a)), (17, .int (nI q)), (16, .int (sA 5 (10 * i + 3))), (15, .int (nI (10 * i))), (14, .int (nI i)), (13, .int (nI Y)), (12, .int (nI kd)), (11, .int (nI X)), (10, .int (nI t)), (8, .ref (ad 10)), (7, .ref (ad 9)), (6, .ref (ad 8)), (5, .ref (ad 7)), (4, .ref (ad 6)), (3, .ref (ad 5)), (2, .ref (ad 4)), (1, .ref (ad 0)), (0, .ref b)]) hx hb dW_law_1477 hl (by decide) rfl (fun ls hl => ?_)
        refine lv_aload_n hx hb dW_law_1479 rfl (lv_at hl 17 rfl) ?_
        refine lv_iconst (v := 2) hx hb dW_law_1480 (by decide) ?_
        refine lv_dup2_11 hx hb dW_law_1481 rfl rfl ?_
        refine ra_ld hx hb hC hG 4 5 (by omega) (fun _ _ => rfl) (by rw [vp_in_iff]; decide) dW_law_1482 ?_
        rw [show (2 : Int32).toNatClampNeg = 2 from rfl]
        refine lv_aload_n hx hb dW_law_1483 rfl (lv_at hl 17 rfl) ?_
        refine lv_iconst (v := 2) hx hb dW_law_1484 (by decide) ?_
        refine ra_ld hx hb hC hG 4 5 (by omega) (fun _ _ => rfl) (by rw [vp_in_iff]; decide) dW_law_1485 ?_
        rw [show (2 : Int32).toNatClampNeg = 2 from rfl]
        refine lv_sipush (v := 7300) hx hb dW_law_1486 (by decide) ?_
        refine lv_icmp_le (tgt := 1497) hx hb dW_law_1489 (by decide) (fun c_4 => ?_) (fun c_4 => ?_)
        · refine lv_iconst (v := 0) hx hb dW_law_1497 (by decide) ?_
          refine lv_isub hx hb dW_law_1498 ?_
          refine ra_st hx hb hC hG hS 4 5 (by omega) (fun _ _ => rfl) (by rw [vp_in_iff]; decide) dW_law_1499 (fun H locs hG hS => ?_)
          rw [show (2 : Int32).toNatClampNeg = 2 from rfl] at hG
          refine W.widen (k := cells + 60) (n := slots + 300) (by omega) (by omega) ?_
          exact cont ad _ _ _ H locs ls (by omega) (hInv) hG hS (lv_sub hl [7, 10, 0, 11, 12, 13, 14, 15, 16, 17, 18, 19] rfl)
        · exact absurd c_4 (fun q => q (Int32.not_lt.mp c_1))
set_option maxHeartbeats 4000000 in
set_option maxRecDepth 100000 in
theorem lc_payGaps {p : Program} {l : Launch} {e : Env} {s : State} {m : MethodId} {below : List Frame} {meth : Method} {c : Code} {b : Nat} (hl9 : l.stackTraces = false) (hx : p.tables.exec = Jvm.exec) (hb : c.code = code) (hml : c.maxLocals = 22) (hown : s.vm.findClass "DroitLineLaw" = some m.cls) (hts : ∀ w ∈ wNeed, w.before #[Value.ref b] s = true)
    {D : va_G} {tI tJ tL : ClassId} {sg : Nat → Nat} (hC : GC D tI tJ tL (A0 s) sg s) {t Y kd X i q a K cells slots : Nat} (hK : K ≤ 130) (hcl : cells + 60 ≤ 796740) (hsl : slots + 300 ≤ 6711247) (hY : Y < 2147483648) {ad : Nat → Nat} {n : Nat} {sL : NL} {sA : NA} (hI : INV n K sL sA) (hi : i < n) (hq : q < 10) (ha1 : 1 ≤ a) (ha2 : a ≤ 1000000) {H : Heap} {locs : List Loc} (hG : GW D tI tJ tL (A0 s) ad n sL sA H) (hS : va_S (A0 s) s.heap H locs) {ls : Array Slot} (hl : lv_has ls 22 [(18, .int (nI a)), (17, .int (nI q)), (16, .int (sA 5 (10 * i + 3))), (15, .int (nI (10 * i))), (14, .int (nI i)), (13, .int (nI Y)), (12, .int (nI kd)), (11, .int (nI X)), (10, .int (nI t)), (9, .int 1), (8, .ref (ad 10)), (7, .ref (ad 9)), (6, .ref (ad 8)), (5, .ref (ad 7)), (4, .ref (ad 6)), (3, .ref (ad 5)), (2, .ref (ad 4)), (1, .ref (ad 0)), (0, .ref b)])
    (cont : CONT p l e s m b below meth c D tI tJ tL t Y K cells slots) : W p l e room_1 s m #[Value.ref b] below meth c H locs cells slots (lw_Z below #[Value.ref b] s) (F0 m 944 ls []) := by
  have hn6 := hI.n6
  have htail : ∀ (r : Nat), r < 10 → ∀ (ls : Array Slot), lv_has ls 22 [(19, .int (nI r)), (18, .int (nI a)), (17, .int (nI q)), (16, .int (sA 5 (10 * i + 3))), (15, .int (nI (10 * i))), (14, .int (nI i)), (13, .int (nI Y)), (12, .int (nI kd)), (11, .int (nI X)), (10, .int (nI t)), (9, .int 1), (8, .ref (ad 10)), (7, .ref (ad 9)), (6, .ref (ad 8)), (5, .ref (ad 7)), (4, .ref (ad 6)), (3, .ref (ad 5)), (2, .ref (ad 4)), (1, .ref (ad 0)), (0, .ref b)] → W p l e room_1 s m #[Value.ref b] below meth c H locs cells slots (lw_Z below #[Value.ref b] s) (F0 m 988 ls []) := by
    intro r hr ls hl
    by_cases hz : sA 10 r = 0
    · obtain ⟨hF, hInv⟩ := E_payGaps0 hI hr hz
      refine lv_aload_n hx hb dW_law_988 rfl (lv_at hl 18 rfl) ?_
      refine lv_bipush (v := 6) hx hb dW_law_989 (by decide) ?_
      refine lv_iload hx hb dW_law_991 (lv_at hl 0 rfl) ?_
      refine lv_iconst (v := 0) hx hb dW_law_993 (by decide) ?_
      refine lv_iconst (v := 0) hx hb dW_law_994 (by decide) ?_
      refine rcSWn (rest := []) (As := [.ref (ad 0), .int 6, .int (nI r), .int 0, .int 0]) hx hb hml hown hts hC hG hS (cD_payGaps l hl9 D tI tJ tL (A0 s) sg ad n sL sA (nI r)) (gW q_176 q_177 q_0 q_178) rfl rfl hdyW_does ⟨Nat.le_of_ble_eq_true rfl, Nat.le_of_ble_eq_true rfl⟩ hl.1 rfl (Nat.le_of_ble_eq_true rfl) dW_law_995 ⟨by show _ ≤ 796740; omega, by show _ ≤ 6711247; omega⟩ (hF) (fun H locs hG hS => ?_)
      refine lv_aload hx hb dW_law_998 (lv_at hl 11 rfl) ?_
      refine lv_iload hx hb dW_law_1000 (lv_at hl 0 rfl) ?_
      refine ra_ld hx hb hC hG 10 10 (by omega) (fun _ _ => rfl) (vp_in_nI (by omega) (by omega)) dW_law_1002 ?_
      rw [show (nI r).toNatClampNeg = r from nI_clamp (by omega)]
      refine lv_if_ne (tgt := 1011) hx hb dW_law_1003 (by decide) (fun c_1 => ?_) (fun c_1 => ?_)
      · exact absurd c_1 (fun q => q hz)
      · refine lv_ldc (v := (-2000000013)) hx hb hown (hts _ q_409) dW_law_1006 ?_
        refine lv_goto (tgt := 1016) hx hb dW_law_1008 (by decide) ?_
        refine lv_icmp_ne (tgt := 1023) hx hb dW_law_1016 (by decide) (fun c_2 => ?_) (fun c_2 => ?_)
        · exact absurd c_2 (by decide)
        · refine lv_iconst (v := 1) hx hb dW_law_1019 (by decide) ?_
          refine lv_goto (tgt := 1024) hx hb dW_law_1020 (by decide) ?_
          refine lv_istore (lv' := [(9, .int 1), (19, .int (nI r)), (18, .int (nI a)), (17, .int (nI q)), (16, .int (sA 5 (10 * i + 3))), (15, .int (nI (10 * i))), (14, .int (nI i)), (13, .int (nI Y)), (12, .int (nI kd)), (11, .int (nI X)), (10, .int (nI t)), (8, .ref (ad 10)), (7, .ref (ad 9)), (6, .ref (ad 8)), (5, .ref (ad 7)), (4, .ref (ad 6)), (3, .ref (ad 5)), (2, .ref (ad 4)), (1, .ref (ad 0)), (0, .ref b)]) hx hb dW_law_1024 hl (by decide) rfl (fun ls hl => ?_)
          refine lv_aload_n hx hb dW_law_1026 rfl (lv_at hl 17 rfl) ?_
          refine lv_iconst (v := 4) hx hb dW_law_1027 (by decide) ?_
          refine lv_dup2_11 hx hb dW_law_1028 rfl rfl ?_
          refine ra_ld hx hb hC hG 4 5 (by omega) (fun _ _ => rfl) (by rw [vp_in_iff]; decide) dW_law_1029 ?_
          rw [show (4 : Int32).toNatClampNeg = 4 from rfl]
          refine lv_aload hx hb dW_law_1030 (lv_at hl 11 rfl) ?_
          refine lv_iload hx hb dW_law_1032 (lv_at hl 1 rfl) ?_
          refine ra_ld hx hb hC hG 10 10 (by omega) (fun _ _ => rfl) (vp_in_nI (by omega) (by omega)) dW_law_1034 ?_
          rw [show (nI r).toNatClampNeg = r from nI_clamp (by omega)]
          refine lv_iadd hx hb dW_law_1035 ?_
          refine ra_st hx hb hC hG hS 4 5 (by omega) (fun _ _ => rfl) (by rw [vp_in_iff]; decide) dW_law_1036 (fun H locs hG hS => ?_)
          rw [show (4 : Int32).toNatClampNeg = 4 from rfl] at hG
          refine lv_aload hx hb dW_law_1037 (lv_at hl 11 rfl) ?_
          refine lv_iload hx hb dW_law_1039 (lv_at hl 1 rfl) ?_
          refine lv_iconst (v := 0) hx hb dW_law_1041 (by decide) ?_
          refine ra_st hx hb hC hG hS 10 10 (by omega) (fun _ _ => rfl) (vp_in_nI (by omega) (by omega)) dW_law_1042 (fun H locs hG hS => ?_)
          rw [show (nI r).toNatClampNeg = r from nI_clamp (by omega)] at hG
          refine lv_goto (tgt := 1500) hx hb dW_law_1043 (by decide) ?_
          refine W.widen (k := cells + 60) (n := slots + 300) (by omega) (by omega) ?_
          exact cont ad _ _ _ H locs ls (by omega) (hInv) hG hS (lv_sub hl [7, 10, 0, 11, 12, 13, 14, 15, 16, 17, 18, 19] rfl)
    · obtain ⟨hF, hInv⟩ := E_payGaps1 hI hK hr hz
      refine lv_aload_n hx hb dW_law_988 rfl (lv_at hl 18 rfl) ?_
      refine lv_bipush (v := 6) hx hb dW_law_989 (by decide) ?_
      refine lv_iload hx hb dW_law_991 (lv_at hl 0 rfl) ?_
      refine lv_iconst (v := 0) hx hb dW_law_993 (by decide) ?_
      refine lv_iconst (v := 0) hx hb dW_law_994 (by decide) ?_
      refine rcSWn (rest := []) (As := [.ref (ad 0), .int 6, .int (nI r), .int 0, .int 0]) hx hb hml hown hts hC hG hS (cD_payGaps l hl9 D tI tJ tL (A0 s) sg ad n sL sA (nI r)) (gW q_176 q_177 q_0 q_178) rfl rfl hdyW_does ⟨Nat.le_of_ble_eq_true rfl, Nat.le_of_ble_eq_true rfl⟩ hl.1 rfl (Nat.le_of_ble_eq_true rfl) dW_law_995 ⟨by show _ ≤ 796740; omega, by show _ ≤ 6711247; omega⟩ (hF) (fun H locs hG hS => ?_)
      refine lv_aload hx hb dW_law_998 (lv_at hl 11 rfl) ?_
      refine lv_iload hx hb dW_law_1000 (lv_at hl 0 rfl) ?_
      refine ra_ld hx hb hC hG 10 10 (by omega) (fun _ _ => rfl) (vp_in_nI (by omega) (by omega)) dW_law_1002 ?_
      rw [show (nI r).toNatClampNeg = r from nI_clamp (by omega)]
      refine lv_if_ne (tgt := 1011) hx hb dW_law_1003 (by decide) (fun c_3 => ?_) (fun c_3 => ?_)
      · refine lv_aload hx hb dW_law_1011 (lv_at hl 11 rfl) ?_
        refine lv_iload hx hb dW_law_1013 (lv_at hl 0 rfl) ?_
        refine ra_ld hx hb hC hG 10 10 (by omega) (fun _ _ => rfl) (vp_in_nI (by omega) (by omega)) dW_law_1015 ?_
        rw [show (nI r).toNatClampNeg = r from nI_clamp (by omega)]
        refine lv_icmp_ne (tgt := 1023) hx hb dW_law_1016 (by decide) (fun c_4 => ?_) (fun c_4 => ?_)
        · exact absurd c_4 (fun q => q rfl)
        · refine lv_iconst (v := 1) hx hb dW_law_1019 (by decide) ?_
          refine lv_goto (tgt := 1024) hx hb dW_law_1020 (by decide) ?_
          refine lv_istore (lv' := [(9, .int 1), (19, .int (nI r)), (18, .int (nI a)), (17, .int (nI q)), (16, .int (sA 5 (10 * i + 3))), (15, .int (nI (10 * i))), (14, .int (nI i)), (13, .int (nI Y)), (12, .int (nI kd)), (11, .int (nI X)), (10, .int (nI t)), (8, .ref (ad 10)), (7, .ref (ad 9)), (6, .ref (ad 8)), (5, .ref (ad 7)), (4, .ref (ad 6)), (3, .ref (ad 5)), (2, .ref (ad 4)), (1, .ref (ad 0)), (0, .ref b)]) hx hb dW_law_1024 hl (by decide) rfl (fun ls hl => ?_)
          refine lv_aload_n hx hb dW_law_1026 rfl (lv_at hl 17 rfl) ?_
          refine lv_iconst (v := 4) hx hb dW_law_1027 (by decide) ?_
          refine lv_dup2_11 hx hb dW_law_1028 rfl rfl ?_
          refine ra_ld hx hb hC hG 4 5 (by omega) (fun _ _ => rfl) (by rw [vp_in_iff]; decide) dW_law_1029 ?_
          rw [show (4 : Int32).toNatClampNeg = 4 from rfl]
          refine lv_aload hx hb dW_law_1030 (lv_at hl 11 rfl) ?_
          refine lv_iload hx hb dW_law_1032 (lv_at hl 1 rfl) ?_
          refine ra_ld hx hb hC hG 10 10 (by omega) (fun _ _ => rfl) (vp_in_nI (by omega) (by omega)) dW_law_1034 ?_
          rw [show (nI r).toNatClampNeg = r from nI_clamp (by omega)]
          refine lv_iadd hx hb dW_law_1035 ?_
          refine ra_st hx hb hC hG hS 4 5 (by omega) (fun _ _ => rfl) (by rw [vp_in_iff]; decide) dW_law_1036 (fun H locs hG hS => ?_)
          rw [show (4 : Int32).toNatClampNeg = 4 from rfl] at hG
          refine lv_aload hx hb dW_law_1037 (lv_at hl 11 rfl) ?_
          refine lv_iload hx hb dW_law_1039 (lv_at hl 1 rfl) ?_
          refine lv_iconst (v := 0) hx hb dW_law_1041 (by decide) ?_
          refine ra_st hx hb hC hG hS 10 10 (by omega) (fun _ _ => rfl) (vp_in_nI (by omega) (by omega)) dW_law_1042 (fun H locs hG hS => ?_)
          rw [show (nI r).toNatClampNeg = r from nI_clamp (by omega)] at hG
          refine lv_goto (tgt := 1500) hx hb dW_law_1043 (by decide) ?_
          refine W.widen (k := cells + 60) (n := slots + 300) (by omega) (by omega) ?_
          exact cont ad _ _ _ H locs ls (by omega) (hInv) hG hS (lv_sub hl [7, 10, 0, 11, 12, 13, 14, 15, 16, 17, 18, 19] rfl)
      · exact absurd c_3 (fun q => hz q)
  have hloop : ∀ (f j r : Nat), j + f = 11 → j ≤ 10 → r < 10 → ∀ (ls : Array Slot), lv_has ls 22 [(20, .int (nI j)), (19, .int (nI r)), (18, .int (nI a)), (17, .int (nI q)), (16, .int (sA 5 (10 * i + 3))), (15, .int (nI (10 * i))), (14, .int (nI i)), (13, .int (nI Y)), (12, .int (nI kd)), (11, .int (nI X)), (10, .int (nI t)), (9, .int 1), (8, .ref (ad 10)), (7, .ref (ad 9)), (6, .ref (ad 8)), (5, .ref (ad 7)), (4, .ref (ad 6)), (3, .ref (ad 5)), (2, .ref (ad 4)), (1, .ref (ad 0)), (0, .ref b)] → W p l e room_1 s m #[Value.ref b] below meth c H locs cells slots (lw_Z below #[Value.ref b] s) (F0 m 951 ls []) := by
    intro f
    induction f with
    | zero => intro j r h1 h2; omega
    | succ f ih =>
      intro j r hf hj hr ls hl
      refine lv_iload hx hb dW_law_951 (lv_at hl 0 rfl) ?_
      refine lv_bipush (v := 10) hx hb dW_law_953 (by decide) ?_
      refine lv_icmp_ge (tgt := 988) hx hb dW_law_955 (by decide) (fun c_1 => ?_) (fun c_1 => ?_)
      · exact htail r hr ls (lv_sub hl [1, 2, 3, 4, 5, 6, 7, 8, 9, 10, 11, 12, 13, 14, 15, 16, 17, 18, 19, 20] rfl)
      · have hj10 : j < 10 := lt_guard10 (by omega) c_1
        refine lv_iload hx hb dW_law_958 (lv_at hl 7 rfl) ?_
        refine lv_iconst (v := 3) hx hb dW_law_960 (by decide) ?_
        refine lv_irem hx hb dW_law_961 (by decide) ?_
        rw [show (nI Y) - (nI Y) / (3 : Int32) * (3 : Int32) = nI (Y % 3) from pk_rem (a := Y) (d := 3) (by omega) (by omega) (by omega)]
        refine lv_if_le (tgt := 988) hx hb dW_law_962 (by decide) (fun c_5 => ?_) (fun c_5 => ?_)
        · exact htail r hr ls (lv_sub hl [1, 2, 3, 4, 5, 6, 7, 8, 9, 10, 11, 12, 13, 14, 15, 16, 17, 18, 19, 20] rfl)
        · refine lv_aload hx hb dW_law_965 (lv_at hl 12 rfl) ?_
          refine lv_iload hx hb dW_law_967 (lv_at hl 1 rfl) ?_
          refine ra_ld hx hb hC hG 10 10 (by omega) (fun _ _ => rfl) (vp_in_nI (by omega) (by omega)) dW_law_969 ?_
          rw [show (nI r).toNatClampNeg = r from nI_clamp (by omega)]
          refine lv_if_ne (tgt := 988) hx hb dW_law_970 (by decide) (fun c_6 => ?_) (fun c_6 => ?_)
          · exact htail r hr ls (lv_sub hl [1, 2, 3, 4, 5, 6, 7, 8, 9, 10, 11, 12, 13, 14, 15, 16, 17, 18, 19, 20] rfl)
          · refine lv_iload hx hb dW_law_973 (lv_at hl 1 rfl) ?_
            refine lv_iconst (v := 1) hx hb dW_law_975 (by decide) ?_
            refine lv_iadd hx hb dW_law_976 ?_
            rw [show (nI r) + (1 : Int32) = nI (r + 1) from nI_add r 1]
            refine lv_bipush (v := 10) hx hb dW_law_977 (by decide) ?_
            refine lv_irem hx hb dW_law_979 (by decide) ?_
            rw [show (nI (r + 1)) - (nI (r + 1)) / (10 : Int32) * (10 : Int32) = nI ((r + 1) % 10) from pk_rem (a := r + 1) (d := 10) (by omega) (by omega) (by omega)]
            refine lv_istore (lv' := [(19, .int (nI ((r + 1) % 10))), (20, .int (nI j)), (18, .int (nI a)), (17, .int (nI q)), (16, .int (sA 5 (10 * i + 3))), (15, .int (nI (10 * i))), (14, .int (nI i)), (13, .int (nI Y)), (12, .int (nI kd)), (11, .int (nI X)), (10, .int (nI t)), (9, .int 1), (8, .ref (ad 10)), (7, .ref (ad 9)), (6, .ref (ad 8)), (5, .ref (ad 7)), (4, .ref (ad 6)), (3, .ref (ad 5)), (2, .ref (ad 4)), (1, .ref (ad 0)), (0, .ref b)]) hx hb dW_law_980 hl (by decide) rfl (fun ls hl => ?_)
            refine lv_iinc (v := nI (j + 1)) (lv' := [(20, .int (nI (j + 1))), (19, .int (nI ((r + 1) % 10))), (18, .int (nI a)), (17, .int (nI q)), (16, .int (sA 5 (10 * i + 3))), (15, .int (nI (10 * i))), (14, .int (nI i)), (13, .int (nI Y)), (12, .int (nI kd)), (11, .int (nI X)), (10, .int (nI t)), (9, .int 1), (8, .ref (ad 10)), (7, .ref (ad 9)), (6, .ref (ad 8)), (5, .ref (ad 7)), (4, .ref (ad 6)), (3, .ref (ad 5)), (2, .ref (ad 4)), (1, .ref (ad 0)), (0, .ref b)]) hx hb dW_law_982 hl (k := 1) rfl (nI_1 j) (by decide) rfl (fun ls hl => ?_)
            refine lv_goto (tgt := 951) hx hb dW_law_985 (by decide) ?_
            exact ih (j + 1) ((r + 1) % 10) (by omega) (by omega) (by omega) ls (lv_sub hl [0, 1, 2, 3, 4, 5, 6, 7, 8, 9, 10, 11, 12, 13, 14, 15, 16, 17, 18, 19, 20] rfl)
  refine lv_iload hx hb dW_law_944 (lv_at hl 1 rfl) ?_
  refine lv_istore (lv' := [(19, .int (nI q)), (18, .int (nI a)), (17, .int (nI q)), (16, .int (sA 5 (10 * i + 3))), (15, .int (nI (10 * i))), (14, .int (nI i)), (13, .int (nI Y)), (12, .int (nI kd)), (11, .int (nI X)), (10, .int (nI t)), (9, .int 1), (8, .ref (ad 10)), (7, .ref (ad 9)), (6, .ref (ad 8)), (5, .ref (ad 7)), (4, .ref (ad 6)), (3, .ref (ad 5)), (2, .ref (ad 4)), (1, .ref (ad 0)), (0, .ref b)]) hx hb dW_law_946 hl (by decide) rfl (fun ls hl => ?_)
  refine lv_iconst (v := 0) hx hb dW_law_948 (by decide) ?_
  refine lv_istore (lv' := [(20, .int 0), (19, .int (nI q)), (18, .int (nI a)), (17, .int (nI q)), (16, .int (sA 5 (10 * i + 3))), (15, .int (nI (10 * i))), (14, .int (nI i)), (13, .int (nI Y)), (12, .int (nI kd)), (11, .int (nI X)), (10, .int (nI t)), (9, .int 1), (8, .ref (ad 10)), (7, .ref (ad 9)), (6, .ref (ad 8)), (5, .ref (ad 7)), (4, .ref (ad 6)), (3, .ref (ad 5)), (2, .ref (ad 4)), (1, .ref (ad 0)), (0, .ref b)]) hx hb dW_law_949 hl (by decide) rfl (fun ls hl => ?_)
  exact hloop 11 0 q rfl (by omega) hq ls (lv_sub hl [0, 1, 2, 3, 4, 5, 6, 7, 8, 9, 10, 11, 12, 13, 14, 15, 16, 17, 18, 19, 20] rfl)
set_option maxHeartbeats 4000000 in
set_option maxRecDepth 100000 in
theorem lc_lot {p : Program} {l : Launch} {e : Env} {s : State} {m : MethodId} {below : List Frame} {meth : Method} {c : Code} {b : Nat} (hl9 : l.stackTraces = false) (hx : p.tables.exec = Jvm.exec) (hb : c.code = code) (hml : c.maxLocals = 22) (hown : s.vm.findClass "DroitLineLaw" = some m.cls) (hts : ∀ w ∈ wNeed, w.before #[Value.ref b] s = true)
    {D : va_G} {tI tJ tL : ClassId} {sg : Nat → Nat} (hC : GC D tI tJ tL (A0 s) sg s) {t Y kd X i q a K cells slots : Nat} (hK : K ≤ 130) (hcl : cells + 60 ≤ 796740) (hsl : slots + 300 ≤ 6711247) (hY : Y < 2147483648) {ad : Nat → Nat} {n : Nat} {sL : NL} {sA : NA} (hI : INV n K sL sA) (hn : n < 6) (hq : q < 10) (ha1 : 1 ≤ a) (ha2 : a ≤ 1000000) {H : Heap} {locs : List Loc} (hG : GW D tI tJ tL (A0 s) ad n sL sA H) (hS : va_S (A0 s) s.heap H locs) {ls : Array Slot} (hl : lv_has ls 22 [(18, .int (nI a)), (17, .int (nI q)), (16, .int (sA 5 (10 * i + 3))), (15, .int (nI (10 * i))), (14, .int (nI i)), (13, .int (nI Y)), (12, .int (nI kd)), (11, .int (nI X)), (10, .int (nI t)), (9, .int 1), (8, .ref (ad 10)), (7, .ref (ad 9)), (6, .ref (ad 8)), (5, .ref (ad 7)), (4, .ref (ad 6)), (3, .ref (ad 5)), (2, .ref (ad 4)), (1, .ref (ad 0)), (0, .ref b)])
    (cont : CONT p l e s m b below meth c D tI tJ tL t Y K cells slots) : W p l e room_1 s m #[Value.ref b] below meth c H locs cells slots (lw_Z below #[Value.ref b] s) (F0 m 277 ls []) := by
  have hn6 := hI.n6
  refine W_keyI (P := fun z => z = -1 ∨ z = 0 ∨ ∃ y : Nat, 1800 ≤ y ∧ y ≤ 2000 ∧ z = nI y) (fun z => F0 m 334 ls [.int z]) (fun key => ?_) (fun z hz => ?_)
  · refine lv_iload hx hb dW_law_277 (lv_at hl 5 rfl) ?_
    refine lv_iconst (v := 4) hx hb dW_law_279 (by decide) ?_
    refine lv_irem hx hb dW_law_280 (by decide) ?_
    rw [show (nI Y) - (nI Y) / (4 : Int32) * (4 : Int32) = nI (Y % 4) from pk_rem (a := Y) (d := 4) (by omega) (by omega) (by omega)]
    refine lv_if_ne (tgt := 288) hx hb dW_law_281 (by decide) (fun c_1 => ?_) (fun c_1 => ?_)
    · refine lv_iload hx hb dW_law_288 (lv_at hl 5 rfl) ?_
      refine lv_iconst (v := 4) hx hb dW_law_290 (by decide) ?_
      refine lv_irem hx hb dW_law_291 (by decide) ?_
      rw [show (nI Y) - (nI Y) / (4 : Int32) * (4 : Int32) = nI (Y % 4) from pk_rem (a := Y) (d := 4) (by omega) (by omega) (by omega)]
      refine lv_iconst (v := 1) hx hb dW_law_292 (by decide) ?_
      refine lv_icmp_ne (tgt := 300) hx hb dW_law_293 (by decide) (fun c_2 => ?_) (fun c_2 => ?_)
      · refine lv_iload hx hb dW_law_300 (lv_at hl 5 rfl) ?_
        refine lv_iconst (v := 4) hx hb dW_law_302 (by decide) ?_
        refine lv_irem hx hb dW_law_303 (by decide) ?_
        rw [show (nI Y) - (nI Y) / (4 : Int32) * (4 : Int32) = nI (Y % 4) from pk_rem (a := Y) (d := 4) (by omega) (by omega) (by omega)]
        refine lv_iconst (v := 2) hx hb dW_law_304 (by decide) ?_
        refine lv_icmp_ne (tgt := 322) hx hb dW_law_305 (by decide) (fun c_3 => ?_) (fun c_3 => ?_)
        · refine lv_sipush (v := 1800) hx hb dW_law_322 (by decide) ?_
          refine lv_iload hx hb dW_law_325 (lv_at hl 5 rfl) ?_
          refine lv_iconst (v := 4) hx hb dW_law_327 (by decide) ?_
          refine lv_idiv hx hb dW_law_328 (by decide) ?_
          rw [show (nI Y) / (4 : Int32) = nI (Y / 4) from pk_div (a := Y) (d := 4) (by omega) (by omega) (by omega)]
          refine lv_sipush (v := 201) hx hb dW_law_329 (by decide) ?_
          refine lv_irem hx hb dW_law_332 (by decide) ?_
          rw [show (nI (Y / 4)) - (nI (Y / 4)) / (201 : Int32) * (201 : Int32) = nI ((Y / 4) % 201) from pk_rem (a := Y / 4) (d := 201) (by omega) (by omega) (by omega)]
          refine lv_iadd hx hb dW_law_333 ?_
          rw [show (1800 : Int32) + (nI ((Y / 4) % 201)) = nI (1800 + ((Y / 4) % 201)) from nI_add 1800 ((Y / 4) % 201)]
          exact key (nI (1800 + ((Y / 4) % 201))) (Or.inr (Or.inr ⟨_, by omega, by omega, rfl⟩))
        · refine lv_sipush (v := 1920) hx hb dW_law_308 (by decide) ?_
          refine lv_iload hx hb dW_law_311 (lv_at hl 5 rfl) ?_
          refine lv_iconst (v := 4) hx hb dW_law_313 (by decide) ?_
          refine lv_idiv hx hb dW_law_314 (by decide) ?_
          rw [show (nI Y) / (4 : Int32) = nI (Y / 4) from pk_div (a := Y) (d := 4) (by omega) (by omega) (by omega)]
          refine lv_bipush (v := 40) hx hb dW_law_315 (by decide) ?_
          refine lv_irem hx hb dW_law_317 (by decide) ?_
          rw [show (nI (Y / 4)) - (nI (Y / 4)) / (40 : Int32) * (40 : Int32) = nI ((Y / 4) % 40) from pk_rem (a := Y / 4) (d := 40) (by omega) (by omega) (by omega)]
          refine lv_iadd hx hb dW_law_318 ?_
          rw [show (1920 : Int32) + (nI ((Y / 4) % 40)) = nI (1920 + ((Y / 4) % 40)) from nI_add 1920 ((Y / 4) % 40)]
          refine lv_goto (tgt := 334) hx hb dW_law_319 (by decide) ?_
          exact key (nI (1920 + ((Y / 4) % 40))) (Or.inr (Or.inr ⟨_, by omega, by omega, rfl⟩))
      · refine lv_iconst (v := 0) hx hb dW_law_296 (by decide) ?_
        refine lv_goto (tgt := 334) hx hb dW_law_297 (by decide) ?_
        exact key 0 (Or.inr (Or.inl rfl))
    · refine lv_iconst (v := (-1)) hx hb dW_law_284 (by decide) ?_
      refine lv_goto (tgt := 334) hx hb dW_law_285 (by decide) ?_
      exact key (-1) (Or.inl rfl)
  · refine lv_istore (lv' := [(19, .int z), (18, .int (nI a)), (17, .int (nI q)), (16, .int (sA 5 (10 * i + 3))), (15, .int (nI (10 * i))), (14, .int (nI i)), (13, .int (nI Y)), (12, .int (nI kd)), (11, .int (nI X)), (10, .int (nI t)), (9, .int 1), (8, .ref (ad 10)), (7, .ref (ad 9)), (6, .ref (ad 8)), (5, .ref (ad 7)), (4, .ref (ad 6)), (3, .ref (ad 5)), (2, .ref (ad 4)), (1, .ref (ad 0)), (0, .ref b)]) hx hb dW_law_334 hl (by decide) rfl (fun ls hl => ?_)
    refine W_keyP (P := fun r => r ≤ 1000000) (fun r => F0 m 349 ls [.int (nI r)]) (fun key => ?_) (fun r hr => ?_)
    · refine lv_iload hx hb dW_law_336 (lv_at hl 6 rfl) ?_
      refine lv_iconst (v := 5) hx hb dW_law_338 (by decide) ?_
      refine lv_irem hx hb dW_law_339 (by decide) ?_
      rw [show (nI Y) - (nI Y) / (5 : Int32) * (5 : Int32) = nI (Y % 5) from pk_rem (a := Y) (d := 5) (by omega) (by omega) (by omega)]
      refine lv_if_ne (tgt := 347) hx hb dW_law_340 (by decide) (fun c_4 => ?_) (fun c_4 => ?_)
      · refine lv_iload hx hb dW_law_347 (lv_at hl 1 rfl) ?_
        exact key (a) (by omega)
      · refine lv_iconst (v := 0) hx hb dW_law_343 (by decide) ?_
        refine lv_goto (tgt := 349) hx hb dW_law_344 (by decide) ?_
        exact key (0) (by omega)
    · have hLot := E_lot hI hn (k := Y / 7 % 6) (by omega) hr hz
      refine lv_istore (lv' := [(20, .int (nI r)), (19, .int z), (18, .int (nI a)), (17, .int (nI q)), (16, .int (sA 5 (10 * i + 3))), (15, .int (nI (10 * i))), (14, .int (nI i)), (13, .int (nI Y)), (12, .int (nI kd)), (11, .int (nI X)), (10, .int (nI t)), (9, .int 1), (8, .ref (ad 10)), (7, .ref (ad 9)), (6, .ref (ad 8)), (5, .ref (ad 7)), (4, .ref (ad 6)), (3, .ref (ad 5)), (2, .ref (ad 4)), (1, .ref (ad 0)), (0, .ref b)]) hx hb dW_law_349 hl (by decide) rfl (fun ls hl => ?_)
      refine lv_aload_n hx hb dW_law_351 rfl (lv_at hl 19 rfl) ?_
      refine lv_iconst (v := 0) hx hb dW_law_352 (by decide) ?_
      refine lv_iload hx hb dW_law_353 (lv_at hl 7 rfl) ?_
      refine lv_bipush (v := 7) hx hb dW_law_355 (by decide) ?_
      refine lv_idiv hx hb dW_law_357 (by decide) ?_
      rw [show (nI Y) / (7 : Int32) = nI (Y / 7) from pk_div (a := Y) (d := 7) (by omega) (by omega) (by omega)]
      refine lv_bipush (v := 6) hx hb dW_law_358 (by decide) ?_
      refine lv_irem hx hb dW_law_360 (by decide) ?_
      rw [show (nI (Y / 7)) - (nI (Y / 7)) / (6 : Int32) * (6 : Int32) = nI ((Y / 7) % 6) from pk_rem (a := Y / 7) (d := 6) (by omega) (by omega) (by omega)]
      refine lv_iload hx hb dW_law_361 (lv_at hl 0 rfl) ?_
      refine lv_iload hx hb dW_law_363 (lv_at hl 1 rfl) ?_
      refine rcSWL (rest := []) (As := [.ref (ad 0), .int 0, .int (nI ((Y / 7) % 6)), .int (nI r), .int z]) hx hb hml hown hts hC hG hS (cD_lot l hl9 D tI tJ tL (A0 s) sg ad n sL sA (nI ((Y / 7) % 6)) (nI r) z (by omega) hI.1.1.2.1) (gW q_176 q_177 q_0 q_178) rfl rfl hdyW_does ⟨Nat.le_of_ble_eq_true rfl, Nat.le_of_ble_eq_true rfl⟩ hl.1 rfl (Nat.le_of_ble_eq_true rfl) dW_law_365 ⟨by show _ ≤ 796740; omega, by show _ ≤ 6711247; omega⟩ hLot.1 (fun ad2 had H locs hG hS => ?_)
      obtain ⟨h40, hInv⟩ := hLot.2 _ rfl
      rw [← had 10 (by omega), ← had 9 (by omega), ← had 8 (by omega), ← had 7 (by omega), ← had 6 (by omega), ← had 5 (by omega), ← had 4 (by omega), ← had 0 (by omega)] at hl
      rw [show nI n + 1 = nI (n + 1) from nI_1 n] at hInv
      generalize (up2 (newlot sA n (nI (Y / 7 % 6)) (fX_calledAmount (nI r)) z) 0 3 (sA 0 3 + 1)) = S at hG h40 hInv
      refine lv_aload_n hx hb dW_law_368 rfl (lv_at hl 18 rfl) ?_
      refine lv_iconst (v := 0) hx hb dW_law_369 (by decide) ?_
      refine ra_ld hx hb hC hG 4 5 (by omega) (fun _ _ => rfl) (by rw [vp_in_iff]; decide) dW_law_370 ?_
      rw [show (0 : Int32).toNatClampNeg = 0 from rfl]
      rw [show S 4 0 = nI n from by rw [h40]]
      refine lv_icmp_ne (tgt := 378) hx hb dW_law_371 (by decide) (fun c_5 => ?_) (fun c_5 => ?_)
      · exact absurd c_5 (fun q => q rfl)
      · refine lv_iconst (v := 1) hx hb dW_law_374 (by decide) ?_
        refine lv_goto (tgt := 379) hx hb dW_law_375 (by decide) ?_
        refine lv_istore (lv' := [(9, .int 1), (20, .int (nI r)), (19, .int z), (18, .int (nI a)), (17, .int (nI q)), (16, .int (sA 5 (10 * i + 3))), (15, .int (nI (10 * i))), (14, .int (nI i)), (13, .int (nI Y)), (12, .int (nI kd)), (11, .int (nI X)), (10, .int (nI t)), (8, .ref (ad2 10)), (7, .ref (ad2 9)), (6, .ref (ad2 8)), (5, .ref (ad2 7)), (4, .ref (ad2 6)), (3, .ref (ad2 5)), (2, .ref (ad2 4)), (1, .ref (ad2 0)), (0, .ref b)]) hx hb dW_law_379 hl (by decide) rfl (fun ls hl => ?_)
        refine lv_aload_n hx hb dW_law_381 rfl (lv_at hl 17 rfl) ?_
        refine lv_bipush (v := 10) hx hb dW_law_382 (by decide) ?_
        refine lv_aload_n hx hb dW_law_384 rfl (lv_at hl 18 rfl) ?_
        refine lv_iconst (v := 0) hx hb dW_law_385 (by decide) ?_
        refine ra_ld hx hb hC hG 4 5 (by omega) (fun _ _ => rfl) (by rw [vp_in_iff]; decide) dW_law_386 ?_
        rw [show (0 : Int32).toNatClampNeg = 0 from rfl]
        rw [show S 4 0 = nI n from by rw [h40]]
        refine lv_imul hx hb dW_law_387 ?_
        rw [show (10 : Int32) * (nI n) = nI (10 * n) from pk_mul 10 n]
        refine lv_iload hx hb dW_law_388 (lv_at hl 8 rfl) ?_
        refine lv_bipush (v := 7) hx hb dW_law_390 (by decide) ?_
        refine lv_idiv hx hb dW_law_392 (by decide) ?_
        rw [show (nI Y) / (7 : Int32) = nI (Y / 7) from pk_div (a := Y) (d := 7) (by omega) (by omega) (by omega)]
        refine lv_bipush (v := 6) hx hb dW_law_393 (by decide) ?_
        refine lv_irem hx hb dW_law_395 (by decide) ?_
        rw [show (nI (Y / 7)) - (nI (Y / 7)) / (6 : Int32) * (6 : Int32) = nI ((Y / 7) % 6) from pk_rem (a := Y / 7) (d := 6) (by omega) (by omega) (by omega)]
        refine ra_st hx hb hC hG hS 5 60 (by omega) (fun _ _ => rfl) (vp_in_nI (by omega) (by omega)) dW_law_396 (fun H locs hG hS => ?_)
        rw [show (nI (10 * n)).toNatClampNeg = (10 * n) from nI_clamp (by omega)] at hG
        refine lv_aload_n hx hb dW_law_397 rfl (lv_at hl 17 rfl) ?_
        refine lv_bipush (v := 10) hx hb dW_law_398 (by decide) ?_
        refine lv_aload_n hx hb dW_law_400 rfl (lv_at hl 18 rfl) ?_
        refine lv_iconst (v := 0) hx hb dW_law_401 (by decide) ?_
        refine ra_ld hx hb hC hG 4 5 (by omega) (fun _ _ => rfl) (by rw [vp_in_iff]; decide) dW_law_402 ?_
        rw [show (0 : Int32).toNatClampNeg = 0 from rfl]
        rw [show (up2 S 5 (10 * n) (nI ((Y / 7) % 6))) 4 0 = nI n from by simp (disch := omega) only [up2_hit, up2_miss]; rw [h40]]
        refine lv_imul hx hb dW_law_403 ?_
        rw [show (10 : Int32) * (nI n) = nI (10 * n) from pk_mul 10 n]
        refine lv_iconst (v := 1) hx hb dW_law_404 (by decide) ?_
        refine lv_iadd hx hb dW_law_405 ?_
        rw [show (nI (10 * n)) + (1 : Int32) = nI (10 * n + 1) from nI_add (10 * n) 1]
        refine lv_iload hx hb dW_law_406 (lv_at hl 1 rfl) ?_
        refine rcS1c (rest := [.int (nI (10 * n + 1)), .ref (ad2 5)]) (As := [.int (nI r)]) hx hb hml hown hts hS (cW_call l D (nI r)) (gS q_148 q_149 q_0 q_150) rfl rfl ⟨rfl, hdyW_call⟩ ⟨Nat.le_of_ble_eq_true rfl, Nat.le_of_ble_eq_true rfl⟩ hl.1 rfl (Nat.le_of_ble_eq_true rfl) dW_law_408 ⟨by show _ ≤ 796740; omega, by show _ ≤ 6711247; omega⟩ (fun H1 locs hk9 hS => ?_)
        replace hG := hG.kept hk9
        clear hk9
        generalize H1 = H at hG hS ⊢
        refine ra_st hx hb hC hG hS 5 60 (by omega) (fun _ _ => rfl) (vp_in_nI (by omega) (by omega)) dW_law_411 (fun H locs hG hS => ?_)
        rw [show (nI (10 * n + 1)).toNatClampNeg = (10 * n + 1) from nI_clamp (by omega)] at hG
        refine lv_aload_n hx hb dW_law_412 rfl (lv_at hl 17 rfl) ?_
        refine lv_bipush (v := 10) hx hb dW_law_413 (by decide) ?_
        refine lv_aload_n hx hb dW_law_415 rfl (lv_at hl 18 rfl) ?_
        refine lv_iconst (v := 0) hx hb dW_law_416 (by decide) ?_
        refine ra_ld hx hb hC hG 4 5 (by omega) (fun _ _ => rfl) (by rw [vp_in_iff]; decide) dW_law_417 ?_
        rw [show (0 : Int32).toNatClampNeg = 0 from rfl]
        rw [show (up2 (up2 S 5 (10 * n) (nI ((Y / 7) % 6))) 5 (10 * n + 1) (fW_call (nI r))) 4 0 = nI n from by simp (disch := omega) only [up2_hit, up2_miss]; rw [h40]]
        refine lv_imul hx hb dW_law_418 ?_
        rw [show (10 : Int32) * (nI n) = nI (10 * n) from pk_mul 10 n]
        refine lv_iconst (v := 2) hx hb dW_law_419 (by decide) ?_
        refine lv_iadd hx hb dW_law_420 ?_
        rw [show (nI (10 * n)) + (2 : Int32) = nI (10 * n + 2) from nI_add (10 * n) 2]
        refine lv_iload hx hb dW_law_421 (lv_at hl 2 rfl) ?_
        refine ra_st hx hb hC hG hS 5 60 (by omega) (fun _ _ => rfl) (vp_in_nI (by omega) (by omega)) dW_law_423 (fun H locs hG hS => ?_)
        rw [show (nI (10 * n + 2)).toNatClampNeg = (10 * n + 2) from nI_clamp (by omega)] at hG
        refine lv_aload_n hx hb dW_law_424 rfl (lv_at hl 18 rfl) ?_
        refine lv_iconst (v := 0) hx hb dW_law_425 (by decide) ?_
        refine lv_dup2_11 hx hb dW_law_426 rfl rfl ?_
        refine ra_ld hx hb hC hG 4 5 (by omega) (fun _ _ => rfl) (by rw [vp_in_iff]; decide) dW_law_427 ?_
        rw [show (0 : Int32).toNatClampNeg = 0 from rfl]
        rw [show (up2 (up2 (up2 S 5 (10 * n) (nI ((Y / 7) % 6))) 5 (10 * n + 1) (fW_call (nI r))) 5 (10 * n + 2) z) 4 0 = nI n from by simp (disch := omega) only [up2_hit, up2_miss]; rw [h40]]
        refine lv_iconst (v := 1) hx hb dW_law_428 (by decide) ?_
        refine lv_iadd hx hb dW_law_429 ?_
        rw [show (nI n) + (1 : Int32) = nI (n + 1) from nI_add n 1]
        refine ra_st hx hb hC hG hS 4 5 (by omega) (fun _ _ => rfl) (by rw [vp_in_iff]; decide) dW_law_430 (fun H locs hG hS => ?_)
        rw [show (0 : Int32).toNatClampNeg = 0 from rfl] at hG
        refine lv_goto (tgt := 1500) hx hb dW_law_431 (by decide) ?_
        refine W.widen (k := cells + 60) (n := slots + 300) (by omega) (by omega) ?_
        exact cont ad2 _ _ _ H locs ls (by omega) (hInv) hG hS (lv_sub hl [8, 11, 0, 12, 13, 14, 15, 16, 17, 18, 19, 20] rfl)
