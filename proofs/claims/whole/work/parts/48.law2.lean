set_option maxHeartbeats 4000000 in
set_option maxRecDepth 100000 in
theorem lw_c18 {p : Program} {l : Launch} {e : Env} {s : State} {m : MethodId} {below : List Frame} {meth : Method} {c : Code} {b L : Nat} {xs : Nat → Int32} {G : fw_G} {mh : Nat} {md : Nat → Nat} {Rl : kw_T → fw_F → fw_R → fw_F → fw_R → Prop} {ad : Nat → Nat} {kt : kw_T} {iv : fw_F} {ar : fw_R} {jv : fw_F} {br : fw_R} {x3 : Int32} {cells slots : Nat} {H : Heap} {locs : List Loc} {ls : Array Slot} (C : fw_C p s m #[Value.ref b] meth c cL_law 4 ret wsL_law RL) (hK : fw_K G (fun q : Nat => s.heap.size ≤ q) s) (hX : va_X b L xs s s.heap) (hbl : b < s.heap.size) (hbA : ¬ (fun q : Nat => s.heap.size ≤ q) b) (hR : Rl kt iv ar jv br) (hp : pu_when Rl kt iv ar jv br (xs (x3 + 1).toNatClampNeg) (xs (x3 + 2).toNatClampNeg) (xs (x3 + 3).toNatClampNeg) (xs (x3 + 4).toNatClampNeg) (xs (x3 + 5).toNatClampNeg) (xs (x3 + 6).toNatClampNeg) (xs (x3 + 7).toNatClampNeg) (xs (x3 + 8).toNatClampNeg)) (v1 : vp_in (x3 + 1) L) (v2 : vp_in (x3 + 2) L) (v3 : vp_in (x3 + 3) L) (v4 : vp_in (x3 + 4) L) (v5 : vp_in (x3 + 5) L) (v6 : vp_in (x3 + 6) L) (v7 : vp_in (x3 + 7) L) (v8 : vp_in (x3 + 8) L) (hc : cells + 2 ≤ 600000) (hs : slots + 222 ≤ 7302250) (hG : fw_H G (mw G mh md jv br ++ kw G ad kt iv ar) (fun q : Nat => s.heap.size ≤ q) s H locs) (hl : lv_has ls 4 [(0, .ref b), (1, .ref (ad 0)), (2, .ref mh), (3, .int x3)]) (kX : ∀ (ad : Nat → Nat) (kt : kw_T) (iv : fw_F) (ar : fw_R) (jv : fw_F) (br : fw_R) (H : Heap) (locs : List Loc) (ls : Array Slot), Rl kt iv ar jv br → fw_H G (mw G mh md jv br ++ kw G ad kt iv ar) (fun q : Nat => s.heap.size ≤ q) s H locs → lv_has ls 4 [(0, .ref b), (1, .ref (ad 0)), (2, .ref mh), (3, .int x3)] → W p l e room_1 s m #[Value.ref b] below meth c H locs (cells + 2) (slots + 222) (lw_Z below #[Value.ref b] s) (F0 m 1757 ls [])) : W p l e room_1 s m #[Value.ref b] below meth c H locs cells slots (lw_Z below #[Value.ref b] s) (F0 m 1040 ls []) := by
  obtain ⟨r, P10, P9, hR, w1, w2⟩ := hp
  refine lv_aload_n C.1 C.2.1 dL_law_1040 rfl (lv_at hl 1 rfl) ?_
  refine lv_aload_n C.1 C.2.1 dL_law_1041 rfl (lv_at hl 0 rfl) ?_
  refine lv_iload_n C.1 C.2.1 dL_law_1042 rfl (lv_at hl 3 rfl) ?_
  refine lv_iconst (v := 1) C.1 C.2.1 dL_law_1043 (by decide) ?_
  refine lv_iadd C.1 C.2.1 dL_law_1044 ?_
  refine va_sld C.1 C.2.1 hX hbl hbA hG.2.2 v1 dL_law_1045 ?_
  refine lv_aload_n C.1 C.2.1 dL_law_1046 rfl (lv_at hl 0 rfl) ?_
  refine lv_iload_n C.1 C.2.1 dL_law_1047 rfl (lv_at hl 3 rfl) ?_
  refine lv_iconst (v := 2) C.1 C.2.1 dL_law_1048 (by decide) ?_
  refine lv_iadd C.1 C.2.1 dL_law_1049 ?_
  refine va_sld C.1 C.2.1 hX hbl hbA hG.2.2 v2 dL_law_1050 ?_
  refine lv_aload_n C.1 C.2.1 dL_law_1051 rfl (lv_at hl 0 rfl) ?_
  refine lv_iload_n C.1 C.2.1 dL_law_1052 rfl (lv_at hl 3 rfl) ?_
  refine lv_iconst (v := 3) C.1 C.2.1 dL_law_1053 (by decide) ?_
  refine lv_iadd C.1 C.2.1 dL_law_1054 ?_
  refine va_sld C.1 C.2.1 hX hbl hbA hG.2.2 v3 dL_law_1055 ?_
  refine lv_aload_n C.1 C.2.1 dL_law_1056 rfl (lv_at hl 0 rfl) ?_
  refine lv_iload_n C.1 C.2.1 dL_law_1057 rfl (lv_at hl 3 rfl) ?_
  refine lv_iconst (v := 4) C.1 C.2.1 dL_law_1058 (by decide) ?_
  refine lv_iadd C.1 C.2.1 dL_law_1059 ?_
  refine va_sld C.1 C.2.1 hX hbl hbA hG.2.2 v4 dL_law_1060 ?_
  refine lv_aload_n C.1 C.2.1 dL_law_1061 rfl (lv_at hl 0 rfl) ?_
  refine lv_iload_n C.1 C.2.1 dL_law_1062 rfl (lv_at hl 3 rfl) ?_
  refine lv_iconst (v := 5) C.1 C.2.1 dL_law_1063 (by decide) ?_
  refine lv_iadd C.1 C.2.1 dL_law_1064 ?_
  refine va_sld C.1 C.2.1 hX hbl hbA hG.2.2 v5 dL_law_1065 ?_
  refine lv_aload_n C.1 C.2.1 dL_law_1066 rfl (lv_at hl 0 rfl) ?_
  refine lv_iload_n C.1 C.2.1 dL_law_1067 rfl (lv_at hl 3 rfl) ?_
  refine lv_bipush (v := 6) C.1 C.2.1 dL_law_1068 (by decide) ?_
  refine lv_iadd C.1 C.2.1 dL_law_1070 ?_
  refine va_sld C.1 C.2.1 hX hbl hbA hG.2.2 v6 dL_law_1071 ?_
  refine lv_aload_n C.1 C.2.1 dL_law_1072 rfl (lv_at hl 0 rfl) ?_
  refine lv_iload_n C.1 C.2.1 dL_law_1073 rfl (lv_at hl 3 rfl) ?_
  refine lv_bipush (v := 7) C.1 C.2.1 dL_law_1074 (by decide) ?_
  refine lv_iadd C.1 C.2.1 dL_law_1076 ?_
  refine va_sld C.1 C.2.1 hX hbl hbA hG.2.2 v7 dL_law_1077 ?_
  refine lv_aload_n C.1 C.2.1 dL_law_1078 rfl (lv_at hl 0 rfl) ?_
  refine lv_iload_n C.1 C.2.1 dL_law_1079 rfl (lv_at hl 3 rfl) ?_
  refine lv_bipush (v := 8) C.1 C.2.1 dL_law_1080 (by decide) ?_
  refine lv_iadd C.1 C.2.1 dL_law_1082 ?_
  refine va_sld C.1 C.2.1 hX hbl hbA hG.2.2 v8 dL_law_1083 ?_
  refine fx_calli (U := fw_F × fw_R) (w1 := (fun u : fw_F × fw_R => kw G ad kt u.1 u.2)) (va_runV (As := [.int (xs (x3 + 1).toNatClampNeg), .int (xs (x3 + 2).toNatClampNeg), .int (xs (x3 + 3).toNatClampNeg), .int (xs (x3 + 4).toNatClampNeg), .int (xs (x3 + 5).toNatClampNeg), .int (xs (x3 + 6).toNatClampNeg), .int (xs (x3 + 7).toNatClampNeg), .int (xs (x3 + 8).toNatClampNeg)]) (rest := []) ⟨C.1, C.2.1, C.2.2.2.2.2.2, C.2.2.2.2.2.1, C.2.2.2.2.1⟩ (soX9_when l G ad kt iv ar (xs (x3 + 1).toNatClampNeg) (xs (x3 + 2).toNatClampNeg) (xs (x3 + 3).toNatClampNeg) (xs (x3 + 4).toNatClampNeg) (xs (x3 + 5).toNatClampNeg) (xs (x3 + 6).toNatClampNeg) (xs (x3 + 7).toNatClampNeg) (xs (x3 + 8).toNatClampNeg) _ w1 H.size) (cwV 8 C.2.2.2.2.1 gL_law_X9_when rfl rfl rfl (by decide +kernel) ⟨Nat.le_of_ble_eq_true rfl, Nat.le_of_ble_eq_true rfl⟩) (fw_preV (fx_sub hG) hK (ci := 9) rfl kw_o9) rfl rfl hl.1 rfl (lv_room (Nat.le_of_ble_eq_true rfl)) dL_law_1084 ⟨by show cells + 0 ≤ 600000; omega, by show slots + 0 ≤ 7302250; omega⟩) hG hK (fun r1 u H locs h hG => ?_)
  obtain ⟨iv2, ar2⟩ := u
  obtain ⟨e1, p9⟩ := h
  dsimp only at p9 hG
  have hG := fx_swap hG
  refine lv_aload_n C.1 C.2.1 dL_law_1087 rfl (lv_at hl 2 rfl) ?_
  refine lv_aload_n C.1 C.2.1 dL_law_1088 rfl (lv_at hl 0 rfl) ?_
  refine lv_iload_n C.1 C.2.1 dL_law_1089 rfl (lv_at hl 3 rfl) ?_
  refine lv_iconst (v := 1) C.1 C.2.1 dL_law_1090 (by decide) ?_
  refine lv_iadd C.1 C.2.1 dL_law_1091 ?_
  refine va_sld C.1 C.2.1 hX hbl hbA hG.2.2 v1 dL_law_1092 ?_
  refine lv_aload_n C.1 C.2.1 dL_law_1093 rfl (lv_at hl 0 rfl) ?_
  refine lv_iload_n C.1 C.2.1 dL_law_1094 rfl (lv_at hl 3 rfl) ?_
  refine lv_iconst (v := 2) C.1 C.2.1 dL_law_1095 (by decide) ?_
  refine lv_iadd C.1 C.2.1 dL_law_1096 ?_
  refine va_sld C.1 C.2.1 hX hbl hbA hG.2.2 v2 dL_law_1097 ?_
  refine lv_aload_n C.1 C.2.1 dL_law_1098 rfl (lv_at hl 0 rfl) ?_
  refine lv_iload_n C.1 C.2.1 dL_law_1099 rfl (lv_at hl 3 rfl) ?_
  refine lv_iconst (v := 3) C.1 C.2.1 dL_law_1100 (by decide) ?_
  refine lv_iadd C.1 C.2.1 dL_law_1101 ?_
  refine va_sld C.1 C.2.1 hX hbl hbA hG.2.2 v3 dL_law_1102 ?_
  refine lv_aload_n C.1 C.2.1 dL_law_1103 rfl (lv_at hl 0 rfl) ?_
  refine lv_iload_n C.1 C.2.1 dL_law_1104 rfl (lv_at hl 3 rfl) ?_
  refine lv_iconst (v := 4) C.1 C.2.1 dL_law_1105 (by decide) ?_
  refine lv_iadd C.1 C.2.1 dL_law_1106 ?_
  refine va_sld C.1 C.2.1 hX hbl hbA hG.2.2 v4 dL_law_1107 ?_
  refine lv_aload_n C.1 C.2.1 dL_law_1108 rfl (lv_at hl 0 rfl) ?_
  refine lv_iload_n C.1 C.2.1 dL_law_1109 rfl (lv_at hl 3 rfl) ?_
  refine lv_iconst (v := 5) C.1 C.2.1 dL_law_1110 (by decide) ?_
  refine lv_iadd C.1 C.2.1 dL_law_1111 ?_
  refine va_sld C.1 C.2.1 hX hbl hbA hG.2.2 v5 dL_law_1112 ?_
  refine lv_aload_n C.1 C.2.1 dL_law_1113 rfl (lv_at hl 0 rfl) ?_
  refine lv_iload_n C.1 C.2.1 dL_law_1114 rfl (lv_at hl 3 rfl) ?_
  refine lv_bipush (v := 6) C.1 C.2.1 dL_law_1115 (by decide) ?_
  refine lv_iadd C.1 C.2.1 dL_law_1117 ?_
  refine va_sld C.1 C.2.1 hX hbl hbA hG.2.2 v6 dL_law_1118 ?_
  refine lv_aload_n C.1 C.2.1 dL_law_1119 rfl (lv_at hl 0 rfl) ?_
  refine lv_iload_n C.1 C.2.1 dL_law_1120 rfl (lv_at hl 3 rfl) ?_
  refine lv_bipush (v := 7) C.1 C.2.1 dL_law_1121 (by decide) ?_
  refine lv_iadd C.1 C.2.1 dL_law_1123 ?_
  refine va_sld C.1 C.2.1 hX hbl hbA hG.2.2 v7 dL_law_1124 ?_
  refine lv_aload_n C.1 C.2.1 dL_law_1125 rfl (lv_at hl 0 rfl) ?_
  refine lv_iload_n C.1 C.2.1 dL_law_1126 rfl (lv_at hl 3 rfl) ?_
  refine lv_bipush (v := 8) C.1 C.2.1 dL_law_1127 (by decide) ?_
  refine lv_iadd C.1 C.2.1 dL_law_1129 ?_
  refine va_sld C.1 C.2.1 hX hbl hbA hG.2.2 v8 dL_law_1130 ?_
  refine fx_calli (U := fw_F × fw_R) (w1 := fun u => mw G mh md u.1 u.2) (va_runV (As := [.int (xs (x3 + 1).toNatClampNeg), .int (xs (x3 + 2).toNatClampNeg), .int (xs (x3 + 3).toNatClampNeg), .int (xs (x3 + 4).toNatClampNeg), .int (xs (x3 + 5).toNatClampNeg), .int (xs (x3 + 6).toNatClampNeg), .int (xs (x3 + 7).toNatClampNeg), .int (xs (x3 + 8).toNatClampNeg)]) (rest := [.int r1]) ⟨C.1, C.2.1, C.2.2.2.2.2.2, C.2.2.2.2.2.1, C.2.2.2.2.1⟩ (soX10_when l G mh md jv br (xs (x3 + 1).toNatClampNeg) (xs (x3 + 2).toNatClampNeg) (xs (x3 + 3).toNatClampNeg) (xs (x3 + 4).toNatClampNeg) (xs (x3 + 5).toNatClampNeg) (xs (x3 + 6).toNatClampNeg) (xs (x3 + 7).toNatClampNeg) (xs (x3 + 8).toNatClampNeg) _ w2 H.size) (cwV 8 C.2.2.2.2.1 gL_law_X10_when rfl rfl rfl (by decide +kernel) ⟨Nat.le_of_ble_eq_true rfl, Nat.le_of_ble_eq_true rfl⟩) (fw_preV (fx_sub hG) hK (ci := 10) rfl mw_o) rfl rfl hl.1 rfl (lv_room (Nat.le_of_ble_eq_true rfl)) dL_law_1131 ⟨by show cells + 0 + 0 ≤ 600000; omega, by show slots + 0 + 0 ≤ 7302250; omega⟩) hG hK (fun r3 u H locs h hG => ?_)
  obtain ⟨jv2, br2⟩ := u
  obtain ⟨e2, p10⟩ := h
  dsimp only at p10 hG
  have hG := fx_swap hG
  refine lv_icmp_eq (tgt := 1757) C.1 C.2.1 dL_law_1134 (by decide) (fun _ => ?_) (fun c1 => absurd (e1.trans e2.symm) c1)
  refine W.widen (k := cells + 2) (n := slots + 222) (by omega) (by omega) ?_
  exact kX _ _ _ _ _ _ _ _ _ (hR _ _ p9 _ _ p10) hG hl
set_option maxHeartbeats 4000000 in
set_option maxRecDepth 100000 in
theorem lw_c19 {p : Program} {l : Launch} {e : Env} {s : State} {m : MethodId} {below : List Frame} {meth : Method} {c : Code} {b L : Nat} {xs : Nat → Int32} {G : fw_G} {mh : Nat} {md : Nat → Nat} {Rl : kw_T → fw_F → fw_R → fw_F → fw_R → Prop} {ad : Nat → Nat} {kt : kw_T} {iv : fw_F} {ar : fw_R} {jv : fw_F} {br : fw_R} {x3 : Int32} {cells slots : Nat} {H : Heap} {locs : List Loc} {ls : Array Slot} (C : fw_C p s m #[Value.ref b] meth c cL_law 4 ret wsL_law RL) (hK : fw_K G (fun q : Nat => s.heap.size ≤ q) s) (hX : va_X b L xs s s.heap) (hbl : b < s.heap.size) (hbA : ¬ (fun q : Nat => s.heap.size ≤ q) b) (hR : Rl kt iv ar jv br) (hp : pu_mark Rl kt iv ar jv br (xs (x3 + 1).toNatClampNeg) (xs (x3 + 2).toNatClampNeg)) (v1 : vp_in (x3 + 1) L) (v2 : vp_in (x3 + 2) L) (hc : cells + 2 ≤ 600000) (hs : slots + 222 ≤ 7302250) (hG : fw_H G (mw G mh md jv br ++ kw G ad kt iv ar) (fun q : Nat => s.heap.size ≤ q) s H locs) (hl : lv_has ls 4 [(0, .ref b), (1, .ref (ad 0)), (2, .ref mh), (3, .int x3)]) (kX : ∀ (ad : Nat → Nat) (kt : kw_T) (iv : fw_F) (ar : fw_R) (jv : fw_F) (br : fw_R) (H : Heap) (locs : List Loc) (ls : Array Slot), Rl kt iv ar jv br → fw_H G (mw G mh md jv br ++ kw G ad kt iv ar) (fun q : Nat => s.heap.size ≤ q) s H locs → lv_has ls 4 [(0, .ref b), (1, .ref (ad 0)), (2, .ref mh), (3, .int x3)] → W p l e room_1 s m #[Value.ref b] below meth c H locs (cells + 2) (slots + 222) (lw_Z below #[Value.ref b] s) (F0 m 1757 ls [])) : W p l e room_1 s m #[Value.ref b] below meth c H locs cells slots (lw_Z below #[Value.ref b] s) (F0 m 1139 ls []) := by
  obtain ⟨r, P10, P9, hR, w1, w2⟩ := hp
  refine lv_aload_n C.1 C.2.1 dL_law_1139 rfl (lv_at hl 1 rfl) ?_
  refine lv_aload_n C.1 C.2.1 dL_law_1140 rfl (lv_at hl 0 rfl) ?_
  refine lv_iload_n C.1 C.2.1 dL_law_1141 rfl (lv_at hl 3 rfl) ?_
  refine lv_iconst (v := 1) C.1 C.2.1 dL_law_1142 (by decide) ?_
  refine lv_iadd C.1 C.2.1 dL_law_1143 ?_
  refine va_sld C.1 C.2.1 hX hbl hbA hG.2.2 v1 dL_law_1144 ?_
  refine lv_aload_n C.1 C.2.1 dL_law_1145 rfl (lv_at hl 0 rfl) ?_
  refine lv_iload_n C.1 C.2.1 dL_law_1146 rfl (lv_at hl 3 rfl) ?_
  refine lv_iconst (v := 2) C.1 C.2.1 dL_law_1147 (by decide) ?_
  refine lv_iadd C.1 C.2.1 dL_law_1148 ?_
  refine va_sld C.1 C.2.1 hX hbl hbA hG.2.2 v2 dL_law_1149 ?_
  refine fx_calli (U := fw_F × fw_R) (w1 := (fun u : fw_F × fw_R => kw G ad kt u.1 u.2)) (va_runV (As := [.int (xs (x3 + 1).toNatClampNeg), .int (xs (x3 + 2).toNatClampNeg)]) (rest := []) ⟨C.1, C.2.1, C.2.2.2.2.2.2, C.2.2.2.2.2.1, C.2.2.2.2.1⟩ (soX9_mark l G ad kt iv ar (xs (x3 + 1).toNatClampNeg) (xs (x3 + 2).toNatClampNeg) _ w1 H.size) (cwV 2 C.2.2.2.2.1 gL_law_X9_mark rfl rfl rfl (by decide +kernel) ⟨Nat.le_of_ble_eq_true rfl, Nat.le_of_ble_eq_true rfl⟩) (fw_preV (fx_sub hG) hK (ci := 9) rfl kw_o9) rfl rfl hl.1 rfl (lv_room (Nat.le_of_ble_eq_true rfl)) dL_law_1150 ⟨by show cells + 0 ≤ 600000; omega, by show slots + 0 ≤ 7302250; omega⟩) hG hK (fun r1 u H locs h hG => ?_)
  obtain ⟨iv2, ar2⟩ := u
  obtain ⟨e1, p9⟩ := h
  dsimp only at p9 hG
  have hG := fx_swap hG
  refine lv_aload_n C.1 C.2.1 dL_law_1153 rfl (lv_at hl 2 rfl) ?_
  refine lv_aload_n C.1 C.2.1 dL_law_1154 rfl (lv_at hl 0 rfl) ?_
  refine lv_iload_n C.1 C.2.1 dL_law_1155 rfl (lv_at hl 3 rfl) ?_
  refine lv_iconst (v := 1) C.1 C.2.1 dL_law_1156 (by decide) ?_
  refine lv_iadd C.1 C.2.1 dL_law_1157 ?_
  refine va_sld C.1 C.2.1 hX hbl hbA hG.2.2 v1 dL_law_1158 ?_
  refine lv_aload_n C.1 C.2.1 dL_law_1159 rfl (lv_at hl 0 rfl) ?_
  refine lv_iload_n C.1 C.2.1 dL_law_1160 rfl (lv_at hl 3 rfl) ?_
  refine lv_iconst (v := 2) C.1 C.2.1 dL_law_1161 (by decide) ?_
  refine lv_iadd C.1 C.2.1 dL_law_1162 ?_
  refine va_sld C.1 C.2.1 hX hbl hbA hG.2.2 v2 dL_law_1163 ?_
  refine fx_calli (U := fw_F × fw_R) (w1 := fun u => mw G mh md u.1 u.2) (va_runV (As := [.int (xs (x3 + 1).toNatClampNeg), .int (xs (x3 + 2).toNatClampNeg)]) (rest := [.int r1]) ⟨C.1, C.2.1, C.2.2.2.2.2.2, C.2.2.2.2.2.1, C.2.2.2.2.1⟩ (soX10_mark l G mh md jv br (xs (x3 + 1).toNatClampNeg) (xs (x3 + 2).toNatClampNeg) _ w2 H.size) (cwV 2 C.2.2.2.2.1 gL_law_X10_mark rfl rfl rfl (by decide +kernel) ⟨Nat.le_of_ble_eq_true rfl, Nat.le_of_ble_eq_true rfl⟩) (fw_preV (fx_sub hG) hK (ci := 10) rfl mw_o) rfl rfl hl.1 rfl (lv_room (Nat.le_of_ble_eq_true rfl)) dL_law_1164 ⟨by show cells + 0 + 0 ≤ 600000; omega, by show slots + 0 + 0 ≤ 7302250; omega⟩) hG hK (fun r3 u H locs h hG => ?_)
  obtain ⟨jv2, br2⟩ := u
  obtain ⟨e2, p10⟩ := h
  dsimp only at p10 hG
  have hG := fx_swap hG
  refine lv_icmp_eq (tgt := 1757) C.1 C.2.1 dL_law_1167 (by decide) (fun _ => ?_) (fun c1 => absurd (e1.trans e2.symm) c1)
  refine W.widen (k := cells + 2) (n := slots + 222) (by omega) (by omega) ?_
  exact kX _ _ _ _ _ _ _ _ _ (hR _ _ p9 _ _ p10) hG hl
set_option maxHeartbeats 4000000 in
set_option maxRecDepth 100000 in
theorem lw_c20 {p : Program} {l : Launch} {e : Env} {s : State} {m : MethodId} {below : List Frame} {meth : Method} {c : Code} {b L : Nat} {xs : Nat → Int32} {G : fw_G} {mh : Nat} {md : Nat → Nat} {Rl : kw_T → fw_F → fw_R → fw_F → fw_R → Prop} {ad : Nat → Nat} {kt : kw_T} {iv : fw_F} {ar : fw_R} {jv : fw_F} {br : fw_R} {x3 : Int32} {cells slots : Nat} {H : Heap} {locs : List Loc} {ls : Array Slot} (C : fw_C p s m #[Value.ref b] meth c cL_law 4 ret wsL_law RL) (hK : fw_K G (fun q : Nat => s.heap.size ≤ q) s) (hX : va_X b L xs s s.heap) (hbl : b < s.heap.size) (hbA : ¬ (fun q : Nat => s.heap.size ≤ q) b) (hR : Rl kt iv ar jv br) (hp : pu_back Rl kt iv ar jv br (xs (x3 + 1).toNatClampNeg)) (v1 : vp_in (x3 + 1) L) (hc : cells + 2 ≤ 600000) (hs : slots + 222 ≤ 7302250) (hG : fw_H G (mw G mh md jv br ++ kw G ad kt iv ar) (fun q : Nat => s.heap.size ≤ q) s H locs) (hl : lv_has ls 4 [(0, .ref b), (1, .ref (ad 0)), (2, .ref mh), (3, .int x3)]) (kX : ∀ (ad : Nat → Nat) (kt : kw_T) (iv : fw_F) (ar : fw_R) (jv : fw_F) (br : fw_R) (H : Heap) (locs : List Loc) (ls : Array Slot), Rl kt iv ar jv br → fw_H G (mw G mh md jv br ++ kw G ad kt iv ar) (fun q : Nat => s.heap.size ≤ q) s H locs → lv_has ls 4 [(0, .ref b), (1, .ref (ad 0)), (2, .ref mh), (3, .int x3)] → W p l e room_1 s m #[Value.ref b] below meth c H locs (cells + 2) (slots + 222) (lw_Z below #[Value.ref b] s) (F0 m 1757 ls [])) : W p l e room_1 s m #[Value.ref b] below meth c H locs cells slots (lw_Z below #[Value.ref b] s) (F0 m 1172 ls []) := by
  obtain ⟨r, P10, P9, hR, w1, w2⟩ := hp
  refine lv_aload_n C.1 C.2.1 dL_law_1172 rfl (lv_at hl 1 rfl) ?_
  refine lv_aload_n C.1 C.2.1 dL_law_1173 rfl (lv_at hl 0 rfl) ?_
  refine lv_iload_n C.1 C.2.1 dL_law_1174 rfl (lv_at hl 3 rfl) ?_
  refine lv_iconst (v := 1) C.1 C.2.1 dL_law_1175 (by decide) ?_
  refine lv_iadd C.1 C.2.1 dL_law_1176 ?_
  refine va_sld C.1 C.2.1 hX hbl hbA hG.2.2 v1 dL_law_1177 ?_
  refine fx_calli (U := fw_F × fw_R) (w1 := (fun u : fw_F × fw_R => kw G ad kt u.1 u.2)) (va_runV (As := [.int (xs (x3 + 1).toNatClampNeg)]) (rest := []) ⟨C.1, C.2.1, C.2.2.2.2.2.2, C.2.2.2.2.2.1, C.2.2.2.2.1⟩ (soX9_back l G ad kt iv ar (xs (x3 + 1).toNatClampNeg) _ w1 H.size) (cwV 1 C.2.2.2.2.1 gL_law_X9_back rfl rfl rfl (by decide +kernel) ⟨Nat.le_of_ble_eq_true rfl, Nat.le_of_ble_eq_true rfl⟩) (fw_preV (fx_sub hG) hK (ci := 9) rfl kw_o9) rfl rfl hl.1 rfl (lv_room (Nat.le_of_ble_eq_true rfl)) dL_law_1178 ⟨by show cells + 0 ≤ 600000; omega, by show slots + 0 ≤ 7302250; omega⟩) hG hK (fun r1 u H locs h hG => ?_)
  obtain ⟨iv2, ar2⟩ := u
  obtain ⟨e1, p9⟩ := h
  dsimp only at p9 hG
  have hG := fx_swap hG
  refine lv_aload_n C.1 C.2.1 dL_law_1181 rfl (lv_at hl 2 rfl) ?_
  refine lv_aload_n C.1 C.2.1 dL_law_1182 rfl (lv_at hl 0 rfl) ?_
  refine lv_iload_n C.1 C.2.1 dL_law_1183 rfl (lv_at hl 3 rfl) ?_
  refine lv_iconst (v := 1) C.1 C.2.1 dL_law_1184 (by decide) ?_
  refine lv_iadd C.1 C.2.1 dL_law_1185 ?_
  refine va_sld C.1 C.2.1 hX hbl hbA hG.2.2 v1 dL_law_1186 ?_
  refine fx_calli (U := fw_F × fw_R) (w1 := fun u => mw G mh md u.1 u.2) (va_runV (As := [.int (xs (x3 + 1).toNatClampNeg)]) (rest := [.int r1]) ⟨C.1, C.2.1, C.2.2.2.2.2.2, C.2.2.2.2.2.1, C.2.2.2.2.1⟩ (soX10_back l G mh md jv br (xs (x3 + 1).toNatClampNeg) _ w2 H.size) (cwV 1 C.2.2.2.2.1 gL_law_X10_back rfl rfl rfl (by decide +kernel) ⟨Nat.le_of_ble_eq_true rfl, Nat.le_of_ble_eq_true rfl⟩) (fw_preV (fx_sub hG) hK (ci := 10) rfl mw_o) rfl rfl hl.1 rfl (lv_room (Nat.le_of_ble_eq_true rfl)) dL_law_1187 ⟨by show cells + 0 + 0 ≤ 600000; omega, by show slots + 0 + 0 ≤ 7302250; omega⟩) hG hK (fun r3 u H locs h hG => ?_)
  obtain ⟨jv2, br2⟩ := u
  obtain ⟨e2, p10⟩ := h
  dsimp only at p10 hG
  have hG := fx_swap hG
  refine lv_icmp_eq (tgt := 1757) C.1 C.2.1 dL_law_1190 (by decide) (fun _ => ?_) (fun c1 => absurd (e1.trans e2.symm) c1)
  refine W.widen (k := cells + 2) (n := slots + 222) (by omega) (by omega) ?_
  exact kX _ _ _ _ _ _ _ _ _ (hR _ _ p9 _ _ p10) hG hl
set_option maxHeartbeats 4000000 in
set_option maxRecDepth 100000 in
theorem lw_c21 {p : Program} {l : Launch} {e : Env} {s : State} {m : MethodId} {below : List Frame} {meth : Method} {c : Code} {b L : Nat} {xs : Nat → Int32} {G : fw_G} {mh : Nat} {md : Nat → Nat} {Rl : kw_T → fw_F → fw_R → fw_F → fw_R → Prop} {ad : Nat → Nat} {kt : kw_T} {iv : fw_F} {ar : fw_R} {jv : fw_F} {br : fw_R} {x3 : Int32} {cells slots : Nat} {H : Heap} {locs : List Loc} {ls : Array Slot} (C : fw_C p s m #[Value.ref b] meth c cL_law 4 ret wsL_law RL) (hK : fw_K G (fun q : Nat => s.heap.size ≤ q) s) (hX : va_X b L xs s s.heap) (hbl : b < s.heap.size) (hbA : ¬ (fun q : Nat => s.heap.size ≤ q) b) (hR : Rl kt iv ar jv br) (hp : pu_guessed Rl kt iv ar jv br (xs (x3 + 1).toNatClampNeg) (xs (x3 + 2).toNatClampNeg)) (v1 : vp_in (x3 + 1) L) (v2 : vp_in (x3 + 2) L) (hc : cells + 2 ≤ 600000) (hs : slots + 222 ≤ 7302250) (hG : fw_H G (mw G mh md jv br ++ kw G ad kt iv ar) (fun q : Nat => s.heap.size ≤ q) s H locs) (hl : lv_has ls 4 [(0, .ref b), (1, .ref (ad 0)), (2, .ref mh), (3, .int x3)]) (kX : ∀ (ad : Nat → Nat) (kt : kw_T) (iv : fw_F) (ar : fw_R) (jv : fw_F) (br : fw_R) (H : Heap) (locs : List Loc) (ls : Array Slot), Rl kt iv ar jv br → fw_H G (mw G mh md jv br ++ kw G ad kt iv ar) (fun q : Nat => s.heap.size ≤ q) s H locs → lv_has ls 4 [(0, .ref b), (1, .ref (ad 0)), (2, .ref mh), (3, .int x3)] → W p l e room_1 s m #[Value.ref b] below meth c H locs (cells + 2) (slots + 222) (lw_Z below #[Value.ref b] s) (F0 m 1757 ls [])) : W p l e room_1 s m #[Value.ref b] below meth c H locs cells slots (lw_Z below #[Value.ref b] s) (F0 m 1195 ls []) := by
  obtain ⟨r, P10, P9, hR, w1, w2⟩ := hp
  refine lv_aload_n C.1 C.2.1 dL_law_1195 rfl (lv_at hl 1 rfl) ?_
  refine lv_aload_n C.1 C.2.1 dL_law_1196 rfl (lv_at hl 0 rfl) ?_
  refine lv_iload_n C.1 C.2.1 dL_law_1197 rfl (lv_at hl 3 rfl) ?_
  refine lv_iconst (v := 1) C.1 C.2.1 dL_law_1198 (by decide) ?_
  refine lv_iadd C.1 C.2.1 dL_law_1199 ?_
  refine va_sld C.1 C.2.1 hX hbl hbA hG.2.2 v1 dL_law_1200 ?_
  refine lv_aload_n C.1 C.2.1 dL_law_1201 rfl (lv_at hl 0 rfl) ?_
  refine lv_iload_n C.1 C.2.1 dL_law_1202 rfl (lv_at hl 3 rfl) ?_
  refine lv_iconst (v := 2) C.1 C.2.1 dL_law_1203 (by decide) ?_
  refine lv_iadd C.1 C.2.1 dL_law_1204 ?_
  refine va_sld C.1 C.2.1 hX hbl hbA hG.2.2 v2 dL_law_1205 ?_
  refine fx_calli (U := fw_F × fw_R) (w1 := (fun u : fw_F × fw_R => kw G ad kt u.1 u.2)) (va_runV (As := [.int (xs (x3 + 1).toNatClampNeg), .int (xs (x3 + 2).toNatClampNeg)]) (rest := []) ⟨C.1, C.2.1, C.2.2.2.2.2.2, C.2.2.2.2.2.1, C.2.2.2.2.1⟩ (soX9_guessed l G ad kt iv ar (xs (x3 + 1).toNatClampNeg) (xs (x3 + 2).toNatClampNeg) _ w1 H.size) (cwV 2 C.2.2.2.2.1 gL_law_X9_guessed rfl rfl rfl (by decide +kernel) ⟨Nat.le_of_ble_eq_true rfl, Nat.le_of_ble_eq_true rfl⟩) (fw_preV (fx_sub hG) hK (ci := 9) rfl kw_o9) rfl rfl hl.1 rfl (lv_room (Nat.le_of_ble_eq_true rfl)) dL_law_1206 ⟨by show cells + 0 ≤ 600000; omega, by show slots + 0 ≤ 7302250; omega⟩) hG hK (fun r1 u H locs h hG => ?_)
  obtain ⟨iv2, ar2⟩ := u
  obtain ⟨e1, p9⟩ := h
  dsimp only at p9 hG
  have hG := fx_swap hG
  refine lv_aload_n C.1 C.2.1 dL_law_1209 rfl (lv_at hl 2 rfl) ?_
  refine lv_aload_n C.1 C.2.1 dL_law_1210 rfl (lv_at hl 0 rfl) ?_
  refine lv_iload_n C.1 C.2.1 dL_law_1211 rfl (lv_at hl 3 rfl) ?_
  refine lv_iconst (v := 1) C.1 C.2.1 dL_law_1212 (by decide) ?_
  refine lv_iadd C.1 C.2.1 dL_law_1213 ?_
  refine va_sld C.1 C.2.1 hX hbl hbA hG.2.2 v1 dL_law_1214 ?_
  refine lv_aload_n C.1 C.2.1 dL_law_1215 rfl (lv_at hl 0 rfl) ?_
  refine lv_iload_n C.1 C.2.1 dL_law_1216 rfl (lv_at hl 3 rfl) ?_
  refine lv_iconst (v := 2) C.1 C.2.1 dL_law_1217 (by decide) ?_
  refine lv_iadd C.1 C.2.1 dL_law_1218 ?_
  refine va_sld C.1 C.2.1 hX hbl hbA hG.2.2 v2 dL_law_1219 ?_
  refine fx_calli (U := fw_F × fw_R) (w1 := fun u => mw G mh md u.1 u.2) (va_runV (As := [.int (xs (x3 + 1).toNatClampNeg), .int (xs (x3 + 2).toNatClampNeg)]) (rest := [.int r1]) ⟨C.1, C.2.1, C.2.2.2.2.2.2, C.2.2.2.2.2.1, C.2.2.2.2.1⟩ (soX10_guessed l G mh md jv br (xs (x3 + 1).toNatClampNeg) (xs (x3 + 2).toNatClampNeg) _ w2 H.size) (cwV 2 C.2.2.2.2.1 gL_law_X10_guessed rfl rfl rfl (by decide +kernel) ⟨Nat.le_of_ble_eq_true rfl, Nat.le_of_ble_eq_true rfl⟩) (fw_preV (fx_sub hG) hK (ci := 10) rfl mw_o) rfl rfl hl.1 rfl (lv_room (Nat.le_of_ble_eq_true rfl)) dL_law_1220 ⟨by show cells + 0 + 0 ≤ 600000; omega, by show slots + 0 + 0 ≤ 7302250; omega⟩) hG hK (fun r3 u H locs h hG => ?_)
  obtain ⟨jv2, br2⟩ := u
  obtain ⟨e2, p10⟩ := h
  dsimp only at p10 hG
  have hG := fx_swap hG
  refine lv_icmp_eq (tgt := 1757) C.1 C.2.1 dL_law_1223 (by decide) (fun _ => ?_) (fun c1 => absurd (e1.trans e2.symm) c1)
  refine W.widen (k := cells + 2) (n := slots + 222) (by omega) (by omega) ?_
  exact kX _ _ _ _ _ _ _ _ _ (hR _ _ p9 _ _ p10) hG hl
set_option maxHeartbeats 4000000 in
set_option maxRecDepth 100000 in
theorem lw_c22 {p : Program} {l : Launch} {e : Env} {s : State} {m : MethodId} {below : List Frame} {meth : Method} {c : Code} {b L : Nat} {xs : Nat → Int32} {G : fw_G} {mh : Nat} {md : Nat → Nat} {Rl : kw_T → fw_F → fw_R → fw_F → fw_R → Prop} {ad : Nat → Nat} {kt : kw_T} {iv : fw_F} {ar : fw_R} {jv : fw_F} {br : fw_R} {x3 : Int32} {cells slots : Nat} {H : Heap} {locs : List Loc} {ls : Array Slot} (C : fw_C p s m #[Value.ref b] meth c cL_law 4 ret wsL_law RL) (hK : fw_K G (fun q : Nat => s.heap.size ≤ q) s) (hX : va_X b L xs s s.heap) (hbl : b < s.heap.size) (hbA : ¬ (fun q : Nat => s.heap.size ≤ q) b) (hR : Rl kt iv ar jv br) (hp : pu_tells Rl kt iv ar jv br (xs (x3 + 1).toNatClampNeg) (xs (x3 + 2).toNatClampNeg)) (v1 : vp_in (x3 + 1) L) (v2 : vp_in (x3 + 2) L) (hc : cells + 2 ≤ 600000) (hs : slots + 222 ≤ 7302250) (hG : fw_H G (mw G mh md jv br ++ kw G ad kt iv ar) (fun q : Nat => s.heap.size ≤ q) s H locs) (hl : lv_has ls 4 [(0, .ref b), (1, .ref (ad 0)), (2, .ref mh), (3, .int x3)]) (kX : ∀ (ad : Nat → Nat) (kt : kw_T) (iv : fw_F) (ar : fw_R) (jv : fw_F) (br : fw_R) (H : Heap) (locs : List Loc) (ls : Array Slot), Rl kt iv ar jv br → fw_H G (mw G mh md jv br ++ kw G ad kt iv ar) (fun q : Nat => s.heap.size ≤ q) s H locs → lv_has ls 4 [(0, .ref b), (1, .ref (ad 0)), (2, .ref mh), (3, .int x3)] → W p l e room_1 s m #[Value.ref b] below meth c H locs (cells + 2) (slots + 222) (lw_Z below #[Value.ref b] s) (F0 m 1757 ls [])) : W p l e room_1 s m #[Value.ref b] below meth c H locs cells slots (lw_Z below #[Value.ref b] s) (F0 m 1228 ls []) := by
  obtain ⟨r, P10, P9, hR, w1, w2⟩ := hp
  refine lv_aload_n C.1 C.2.1 dL_law_1228 rfl (lv_at hl 1 rfl) ?_
  refine lv_aload_n C.1 C.2.1 dL_law_1229 rfl (lv_at hl 0 rfl) ?_
  refine lv_iload_n C.1 C.2.1 dL_law_1230 rfl (lv_at hl 3 rfl) ?_
  refine lv_iconst (v := 1) C.1 C.2.1 dL_law_1231 (by decide) ?_
  refine lv_iadd C.1 C.2.1 dL_law_1232 ?_
  refine va_sld C.1 C.2.1 hX hbl hbA hG.2.2 v1 dL_law_1233 ?_
  refine lv_aload_n C.1 C.2.1 dL_law_1234 rfl (lv_at hl 0 rfl) ?_
  refine lv_iload_n C.1 C.2.1 dL_law_1235 rfl (lv_at hl 3 rfl) ?_
  refine lv_iconst (v := 2) C.1 C.2.1 dL_law_1236 (by decide) ?_
  refine lv_iadd C.1 C.2.1 dL_law_1237 ?_
  refine va_sld C.1 C.2.1 hX hbl hbA hG.2.2 v2 dL_law_1238 ?_
  refine fx_calli (U := fw_F × fw_R) (w1 := (fun u : fw_F × fw_R => kw G ad kt u.1 u.2)) (va_runV (As := [.int (xs (x3 + 1).toNatClampNeg), .int (xs (x3 + 2).toNatClampNeg)]) (rest := []) ⟨C.1, C.2.1, C.2.2.2.2.2.2, C.2.2.2.2.2.1, C.2.2.2.2.1⟩ (soX9_tells l G ad kt iv ar (xs (x3 + 1).toNatClampNeg) (xs (x3 + 2).toNatClampNeg) _ w1 H.size) (cwV 2 C.2.2.2.2.1 gL_law_X9_tells rfl rfl rfl (by decide +kernel) ⟨Nat.le_of_ble_eq_true rfl, Nat.le_of_ble_eq_true rfl⟩) (fw_preV (fx_sub hG) hK (ci := 9) rfl kw_o9) rfl rfl hl.1 rfl (lv_room (Nat.le_of_ble_eq_true rfl)) dL_law_1239 ⟨by show cells + 0 ≤ 600000; omega, by show slots + 0 ≤ 7302250; omega⟩) hG hK (fun r1 u H locs h hG => ?_)
  obtain ⟨iv2, ar2⟩ := u
  obtain ⟨e1, p9⟩ := h
  dsimp only at p9 hG
  have hG := fx_swap hG
  refine lv_aload_n C.1 C.2.1 dL_law_1242 rfl (lv_at hl 2 rfl) ?_
  refine lv_aload_n C.1 C.2.1 dL_law_1243 rfl (lv_at hl 0 rfl) ?_
  refine lv_iload_n C.1 C.2.1 dL_law_1244 rfl (lv_at hl 3 rfl) ?_
  refine lv_iconst (v := 1) C.1 C.2.1 dL_law_1245 (by decide) ?_
  refine lv_iadd C.1 C.2.1 dL_law_1246 ?_
  refine va_sld C.1 C.2.1 hX hbl hbA hG.2.2 v1 dL_law_1247 ?_
  refine lv_aload_n C.1 C.2.1 dL_law_1248 rfl (lv_at hl 0 rfl) ?_
  refine lv_iload_n C.1 C.2.1 dL_law_1249 rfl (lv_at hl 3 rfl) ?_
  refine lv_iconst (v := 2) C.1 C.2.1 dL_law_1250 (by decide) ?_
  refine lv_iadd C.1 C.2.1 dL_law_1251 ?_
  refine va_sld C.1 C.2.1 hX hbl hbA hG.2.2 v2 dL_law_1252 ?_
  refine fx_calli (U := fw_F × fw_R) (w1 := fun u => mw G mh md u.1 u.2) (va_runV (As := [.int (xs (x3 + 1).toNatClampNeg), .int (xs (x3 + 2).toNatClampNeg)]) (rest := [.int r1]) ⟨C.1, C.2.1, C.2.2.2.2.2.2, C.2.2.2.2.2.1, C.2.2.2.2.1⟩ (soX10_tells l G mh md jv br (xs (x3 + 1).toNatClampNeg) (xs (x3 + 2).toNatClampNeg) _ w2 H.size) (cwV 2 C.2.2.2.2.1 gL_law_X10_tells rfl rfl rfl (by decide +kernel) ⟨Nat.le_of_ble_eq_true rfl, Nat.le_of_ble_eq_true rfl⟩) (fw_preV (fx_sub hG) hK (ci := 10) rfl mw_o) rfl rfl hl.1 rfl (lv_room (Nat.le_of_ble_eq_true rfl)) dL_law_1253 ⟨by show cells + 0 + 0 ≤ 600000; omega, by show slots + 0 + 0 ≤ 7302250; omega⟩) hG hK (fun r3 u H locs h hG => ?_)
  obtain ⟨jv2, br2⟩ := u
  obtain ⟨e2, p10⟩ := h
  dsimp only at p10 hG
  have hG := fx_swap hG
  refine lv_icmp_eq (tgt := 1757) C.1 C.2.1 dL_law_1256 (by decide) (fun _ => ?_) (fun c1 => absurd (e1.trans e2.symm) c1)
  refine W.widen (k := cells + 2) (n := slots + 222) (by omega) (by omega) ?_
  exact kX _ _ _ _ _ _ _ _ _ (hR _ _ p9 _ _ p10) hG hl
set_option maxHeartbeats 4000000 in
set_option maxRecDepth 100000 in
theorem lw_c23 {p : Program} {l : Launch} {e : Env} {s : State} {m : MethodId} {below : List Frame} {meth : Method} {c : Code} {b L : Nat} {xs : Nat → Int32} {G : fw_G} {mh : Nat} {md : Nat → Nat} {Rl : kw_T → fw_F → fw_R → fw_F → fw_R → Prop} {ad : Nat → Nat} {kt : kw_T} {iv : fw_F} {ar : fw_R} {jv : fw_F} {br : fw_R} {x3 : Int32} {cells slots : Nat} {H : Heap} {locs : List Loc} {ls : Array Slot} (C : fw_C p s m #[Value.ref b] meth c cL_law 4 ret wsL_law RL) (hK : fw_K G (fun q : Nat => s.heap.size ≤ q) s) (hX : va_X b L xs s s.heap) (hbl : b < s.heap.size) (hbA : ¬ (fun q : Nat => s.heap.size ≤ q) b) (hR : Rl kt iv ar jv br) (hp : pu_chalk Rl kt iv ar jv br (xs (x3 + 1).toNatClampNeg) (xs (x3 + 2).toNatClampNeg) (xs (x3 + 3).toNatClampNeg) (xs (x3 + 4).toNatClampNeg) (xs (x3 + 5).toNatClampNeg) (xs (x3 + 6).toNatClampNeg)) (v1 : vp_in (x3 + 1) L) (v2 : vp_in (x3 + 2) L) (v3 : vp_in (x3 + 3) L) (v4 : vp_in (x3 + 4) L) (v5 : vp_in (x3 + 5) L) (v6 : vp_in (x3 + 6) L) (hc : cells + 2 ≤ 600000) (hs : slots + 222 ≤ 7302250) (hG : fw_H G (mw G mh md jv br ++ kw G ad kt iv ar) (fun q : Nat => s.heap.size ≤ q) s H locs) (hl : lv_has ls 4 [(0, .ref b), (1, .ref (ad 0)), (2, .ref mh), (3, .int x3)]) (kX : ∀ (ad : Nat → Nat) (kt : kw_T) (iv : fw_F) (ar : fw_R) (jv : fw_F) (br : fw_R) (H : Heap) (locs : List Loc) (ls : Array Slot), Rl kt iv ar jv br → fw_H G (mw G mh md jv br ++ kw G ad kt iv ar) (fun q : Nat => s.heap.size ≤ q) s H locs → lv_has ls 4 [(0, .ref b), (1, .ref (ad 0)), (2, .ref mh), (3, .int x3)] → W p l e room_1 s m #[Value.ref b] below meth c H locs (cells + 2) (slots + 222) (lw_Z below #[Value.ref b] s) (F0 m 1757 ls [])) : W p l e room_1 s m #[Value.ref b] below meth c H locs cells slots (lw_Z below #[Value.ref b] s) (F0 m 1261 ls []) := by
  obtain ⟨r, P10, P9, hR, w1, w2⟩ := hp
  refine lv_aload_n C.1 C.2.1 dL_law_1261 rfl (lv_at hl 1 rfl) ?_
  refine lv_aload_n C.1 C.2.1 dL_law_1262 rfl (lv_at hl 0 rfl) ?_
  refine lv_iload_n C.1 C.2.1 dL_law_1263 rfl (lv_at hl 3 rfl) ?_
  refine lv_iconst (v := 1) C.1 C.2.1 dL_law_1264 (by decide) ?_
  refine lv_iadd C.1 C.2.1 dL_law_1265 ?_
  refine va_sld C.1 C.2.1 hX hbl hbA hG.2.2 v1 dL_law_1266 ?_
  refine lv_aload_n C.1 C.2.1 dL_law_1267 rfl (lv_at hl 0 rfl) ?_
  refine lv_iload_n C.1 C.2.1 dL_law_1268 rfl (lv_at hl 3 rfl) ?_
  refine lv_iconst (v := 2) C.1 C.2.1 dL_law_1269 (by decide) ?_
  refine lv_iadd C.1 C.2.1 dL_law_1270 ?_
  refine va_sld C.1 C.2.1 hX hbl hbA hG.2.2 v2 dL_law_1271 ?_
  refine lv_aload_n C.1 C.2.1 dL_law_1272 rfl (lv_at hl 0 rfl) ?_
  refine lv_iload_n C.1 C.2.1 dL_law_1273 rfl (lv_at hl 3 rfl) ?_
  refine lv_iconst (v := 3) C.1 C.2.1 dL_law_1274 (by decide) ?_
  refine lv_iadd C.1 C.2.1 dL_law_1275 ?_
  refine va_sld C.1 C.2.1 hX hbl hbA hG.2.2 v3 dL_law_1276 ?_
  refine lv_aload_n C.1 C.2.1 dL_law_1277 rfl (lv_at hl 0 rfl) ?_
  refine lv_iload_n C.1 C.2.1 dL_law_1278 rfl (lv_at hl 3 rfl) ?_
  refine lv_iconst (v := 4) C.1 C.2.1 dL_law_1279 (by decide) ?_
  refine lv_iadd C.1 C.2.1 dL_law_1280 ?_
  refine va_sld C.1 C.2.1 hX hbl hbA hG.2.2 v4 dL_law_1281 ?_
  refine lv_aload_n C.1 C.2.1 dL_law_1282 rfl (lv_at hl 0 rfl) ?_
  refine lv_iload_n C.1 C.2.1 dL_law_1283 rfl (lv_at hl 3 rfl) ?_
  refine lv_iconst (v := 5) C.1 C.2.1 dL_law_1284 (by decide) ?_
  refine lv_iadd C.1 C.2.1 dL_law_1285 ?_
  refine va_sld C.1 C.2.1 hX hbl hbA hG.2.2 v5 dL_law_1286 ?_
  refine lv_aload_n C.1 C.2.1 dL_law_1287 rfl (lv_at hl 0 rfl) ?_
  refine lv_iload_n C.1 C.2.1 dL_law_1288 rfl (lv_at hl 3 rfl) ?_
  refine lv_bipush (v := 6) C.1 C.2.1 dL_law_1289 (by decide) ?_
  refine lv_iadd C.1 C.2.1 dL_law_1291 ?_
  refine va_sld C.1 C.2.1 hX hbl hbA hG.2.2 v6 dL_law_1292 ?_
  refine fx_calll (U := fw_F × fw_R) (w1 := (fun u : fw_F × fw_R => kw G ad kt u.1 u.2)) (va_runV (As := [.int (xs (x3 + 1).toNatClampNeg), .int (xs (x3 + 2).toNatClampNeg), .int (xs (x3 + 3).toNatClampNeg), .int (xs (x3 + 4).toNatClampNeg), .int (xs (x3 + 5).toNatClampNeg), .int (xs (x3 + 6).toNatClampNeg)]) (rest := []) ⟨C.1, C.2.1, C.2.2.2.2.2.2, C.2.2.2.2.2.1, C.2.2.2.2.1⟩ (soX9_chalk l G ad kt iv ar (xs (x3 + 1).toNatClampNeg) (xs (x3 + 2).toNatClampNeg) (xs (x3 + 3).toNatClampNeg) (xs (x3 + 4).toNatClampNeg) (xs (x3 + 5).toNatClampNeg) (xs (x3 + 6).toNatClampNeg) _ w1 H.size) (cwV 6 C.2.2.2.2.1 gL_law_X9_chalk rfl rfl rfl (by decide +kernel) ⟨Nat.le_of_ble_eq_true rfl, Nat.le_of_ble_eq_true rfl⟩) (fw_preV (fx_sub hG) hK (ci := 9) rfl kw_o9) rfl rfl hl.1 rfl (lv_room (Nat.le_of_ble_eq_true rfl)) dL_law_1293 ⟨by show cells + 0 ≤ 600000; omega, by show slots + 0 ≤ 7302250; omega⟩) hG hK (fun r1 u H locs h hG => ?_)
  obtain ⟨iv2, ar2⟩ := u
  obtain ⟨e1, p9⟩ := h
  dsimp only at p9 hG
  have hG := fx_swap hG
  refine lv_aload_n C.1 C.2.1 dL_law_1296 rfl (lv_at hl 2 rfl) ?_
  refine lv_aload_n C.1 C.2.1 dL_law_1297 rfl (lv_at hl 0 rfl) ?_
  refine lv_iload_n C.1 C.2.1 dL_law_1298 rfl (lv_at hl 3 rfl) ?_
  refine lv_iconst (v := 1) C.1 C.2.1 dL_law_1299 (by decide) ?_
  refine lv_iadd C.1 C.2.1 dL_law_1300 ?_
  refine va_sld C.1 C.2.1 hX hbl hbA hG.2.2 v1 dL_law_1301 ?_
  refine lv_aload_n C.1 C.2.1 dL_law_1302 rfl (lv_at hl 0 rfl) ?_
  refine lv_iload_n C.1 C.2.1 dL_law_1303 rfl (lv_at hl 3 rfl) ?_
  refine lv_iconst (v := 2) C.1 C.2.1 dL_law_1304 (by decide) ?_
  refine lv_iadd C.1 C.2.1 dL_law_1305 ?_
  refine va_sld C.1 C.2.1 hX hbl hbA hG.2.2 v2 dL_law_1306 ?_
  refine lv_aload_n C.1 C.2.1 dL_law_1307 rfl (lv_at hl 0 rfl) ?_
  refine lv_iload_n C.1 C.2.1 dL_law_1308 rfl (lv_at hl 3 rfl) ?_
  refine lv_iconst (v := 3) C.1 C.2.1 dL_law_1309 (by decide) ?_
  refine lv_iadd C.1 C.2.1 dL_law_1310 ?_
  refine va_sld C.1 C.2.1 hX hbl hbA hG.2.2 v3 dL_law_1311 ?_
  refine lv_aload_n C.1 C.2.1 dL_law_1312 rfl (lv_at hl 0 rfl) ?_
  refine lv_iload_n C.1 C.2.1 dL_law_1313 rfl (lv_at hl 3 rfl) ?_
  refine lv_iconst (v := 4) C.1 C.2.1 dL_law_1314 (by decide) ?_
  refine lv_iadd C.1 C.2.1 dL_law_1315 ?_
  refine va_sld C.1 C.2.1 hX hbl hbA hG.2.2 v4 dL_law_1316 ?_
  refine lv_aload_n C.1 C.2.1 dL_law_1317 rfl (lv_at hl 0 rfl) ?_
  refine lv_iload_n C.1 C.2.1 dL_law_1318 rfl (lv_at hl 3 rfl) ?_
  refine lv_iconst (v := 5) C.1 C.2.1 dL_law_1319 (by decide) ?_
  refine lv_iadd C.1 C.2.1 dL_law_1320 ?_
  refine va_sld C.1 C.2.1 hX hbl hbA hG.2.2 v5 dL_law_1321 ?_
  refine lv_aload_n C.1 C.2.1 dL_law_1322 rfl (lv_at hl 0 rfl) ?_
  refine lv_iload_n C.1 C.2.1 dL_law_1323 rfl (lv_at hl 3 rfl) ?_
  refine lv_bipush (v := 6) C.1 C.2.1 dL_law_1324 (by decide) ?_
  refine lv_iadd C.1 C.2.1 dL_law_1326 ?_
  refine va_sld C.1 C.2.1 hX hbl hbA hG.2.2 v6 dL_law_1327 ?_
  refine fx_calll (U := fw_F × fw_R) (w1 := fun u => mw G mh md u.1 u.2) (va_runV (As := [.int (xs (x3 + 1).toNatClampNeg), .int (xs (x3 + 2).toNatClampNeg), .int (xs (x3 + 3).toNatClampNeg), .int (xs (x3 + 4).toNatClampNeg), .int (xs (x3 + 5).toNatClampNeg), .int (xs (x3 + 6).toNatClampNeg)]) (rest := [.long r1]) ⟨C.1, C.2.1, C.2.2.2.2.2.2, C.2.2.2.2.2.1, C.2.2.2.2.1⟩ (soX10_chalk l G mh md jv br (xs (x3 + 1).toNatClampNeg) (xs (x3 + 2).toNatClampNeg) (xs (x3 + 3).toNatClampNeg) (xs (x3 + 4).toNatClampNeg) (xs (x3 + 5).toNatClampNeg) (xs (x3 + 6).toNatClampNeg) _ w2 H.size) (cwV 6 C.2.2.2.2.1 gL_law_X10_chalk rfl rfl rfl (by decide +kernel) ⟨Nat.le_of_ble_eq_true rfl, Nat.le_of_ble_eq_true rfl⟩) (fw_preV (fx_sub hG) hK (ci := 10) rfl mw_o) rfl rfl hl.1 rfl (lv_room (Nat.le_of_ble_eq_true rfl)) dL_law_1328 ⟨by show cells + 0 + 0 ≤ 600000; omega, by show slots + 0 + 0 ≤ 7302250; omega⟩) hG hK (fun r3 u H locs h hG => ?_)
  obtain ⟨jv2, br2⟩ := u
  obtain ⟨e2, p10⟩ := h
  dsimp only at p10 hG
  have hG := fx_swap hG
  refine W.lcmp C.1 C.2.1 dL_law_1331 ?_
  refine lv_if_eq (tgt := 1757) C.1 C.2.1 dL_law_1332 (by decide) (fun _ => ?_) (fun c1 => absurd ((lg_cmp_eq r1 r3).mpr (e1.trans e2.symm)) c1)
  refine W.widen (k := cells + 2) (n := slots + 222) (by omega) (by omega) ?_
  exact kX _ _ _ _ _ _ _ _ _ (hR _ _ p9 _ _ p10) hG hl
set_option maxHeartbeats 4000000 in
set_option maxRecDepth 100000 in
theorem lw_c24 {p : Program} {l : Launch} {e : Env} {s : State} {m : MethodId} {below : List Frame} {meth : Method} {c : Code} {b L : Nat} {xs : Nat → Int32} {G : fw_G} {mh : Nat} {md : Nat → Nat} {Rl : kw_T → fw_F → fw_R → fw_F → fw_R → Prop} {ad : Nat → Nat} {kt : kw_T} {iv : fw_F} {ar : fw_R} {jv : fw_F} {br : fw_R} {x3 : Int32} {cells slots : Nat} {H : Heap} {locs : List Loc} {ls : Array Slot} (C : fw_C p s m #[Value.ref b] meth c cL_law 4 ret wsL_law RL) (hK : fw_K G (fun q : Nat => s.heap.size ≤ q) s) (hX : va_X b L xs s s.heap) (hbl : b < s.heap.size) (hbA : ¬ (fun q : Nat => s.heap.size ≤ q) b) (hR : Rl kt iv ar jv br) (hp : pu_byChalk Rl kt iv ar jv br (xs (x3 + 1).toNatClampNeg) (xs (x3 + 2).toNatClampNeg) (xs (x3 + 3).toNatClampNeg) (xs (x3 + 4).toNatClampNeg) (xs (x3 + 5).toNatClampNeg) (xs (x3 + 6).toNatClampNeg)) (v1 : vp_in (x3 + 1) L) (v2 : vp_in (x3 + 2) L) (v3 : vp_in (x3 + 3) L) (v4 : vp_in (x3 + 4) L) (v5 : vp_in (x3 + 5) L) (v6 : vp_in (x3 + 6) L) (hc : cells + 2 ≤ 600000) (hs : slots + 222 ≤ 7302250) (hG : fw_H G (mw G mh md jv br ++ kw G ad kt iv ar) (fun q : Nat => s.heap.size ≤ q) s H locs) (hl : lv_has ls 4 [(0, .ref b), (1, .ref (ad 0)), (2, .ref mh), (3, .int x3)]) (kX : ∀ (ad : Nat → Nat) (kt : kw_T) (iv : fw_F) (ar : fw_R) (jv : fw_F) (br : fw_R) (H : Heap) (locs : List Loc) (ls : Array Slot), Rl kt iv ar jv br → fw_H G (mw G mh md jv br ++ kw G ad kt iv ar) (fun q : Nat => s.heap.size ≤ q) s H locs → lv_has ls 4 [(0, .ref b), (1, .ref (ad 0)), (2, .ref mh), (3, .int x3)] → W p l e room_1 s m #[Value.ref b] below meth c H locs (cells + 2) (slots + 222) (lw_Z below #[Value.ref b] s) (F0 m 1757 ls [])) : W p l e room_1 s m #[Value.ref b] below meth c H locs cells slots (lw_Z below #[Value.ref b] s) (F0 m 1337 ls []) := by
  obtain ⟨r, P10, P9, hR, w1, w2⟩ := hp
  refine lv_aload_n C.1 C.2.1 dL_law_1337 rfl (lv_at hl 1 rfl) ?_
  refine lv_aload_n C.1 C.2.1 dL_law_1338 rfl (lv_at hl 0 rfl) ?_
  refine lv_iload_n C.1 C.2.1 dL_law_1339 rfl (lv_at hl 3 rfl) ?_
  refine lv_iconst (v := 1) C.1 C.2.1 dL_law_1340 (by decide) ?_
  refine lv_iadd C.1 C.2.1 dL_law_1341 ?_
  refine va_sld C.1 C.2.1 hX hbl hbA hG.2.2 v1 dL_law_1342 ?_
  refine lv_aload_n C.1 C.2.1 dL_law_1343 rfl (lv_at hl 0 rfl) ?_
  refine lv_iload_n C.1 C.2.1 dL_law_1344 rfl (lv_at hl 3 rfl) ?_
  refine lv_iconst (v := 2) C.1 C.2.1 dL_law_1345 (by decide) ?_
  refine lv_iadd C.1 C.2.1 dL_law_1346 ?_
  refine va_sld C.1 C.2.1 hX hbl hbA hG.2.2 v2 dL_law_1347 ?_
  refine lv_aload_n C.1 C.2.1 dL_law_1348 rfl (lv_at hl 0 rfl) ?_
  refine lv_iload_n C.1 C.2.1 dL_law_1349 rfl (lv_at hl 3 rfl) ?_
  refine lv_iconst (v := 3) C.1 C.2.1 dL_law_1350 (by decide) ?_
  refine lv_iadd C.1 C.2.1 dL_law_1351 ?_
  refine va_sld C.1 C.2.1 hX hbl hbA hG.2.2 v3 dL_law_1352 ?_
  refine lv_aload_n C.1 C.2.1 dL_law_1353 rfl (lv_at hl 0 rfl) ?_
  refine lv_iload_n C.1 C.2.1 dL_law_1354 rfl (lv_at hl 3 rfl) ?_
  refine lv_iconst (v := 4) C.1 C.2.1 dL_law_1355 (by decide) ?_
  refine lv_iadd C.1 C.2.1 dL_law_1356 ?_
  refine va_sld C.1 C.2.1 hX hbl hbA hG.2.2 v4 dL_law_1357 ?_
  refine lv_aload_n C.1 C.2.1 dL_law_1358 rfl (lv_at hl 0 rfl) ?_
  refine lv_iload_n C.1 C.2.1 dL_law_1359 rfl (lv_at hl 3 rfl) ?_
  refine lv_iconst (v := 5) C.1 C.2.1 dL_law_1360 (by decide) ?_
  refine lv_iadd C.1 C.2.1 dL_law_1361 ?_
  refine va_sld C.1 C.2.1 hX hbl hbA hG.2.2 v5 dL_law_1362 ?_
  refine lv_aload_n C.1 C.2.1 dL_law_1363 rfl (lv_at hl 0 rfl) ?_
  refine lv_iload_n C.1 C.2.1 dL_law_1364 rfl (lv_at hl 3 rfl) ?_
  refine lv_bipush (v := 6) C.1 C.2.1 dL_law_1365 (by decide) ?_
  refine lv_iadd C.1 C.2.1 dL_law_1367 ?_
  refine va_sld C.1 C.2.1 hX hbl hbA hG.2.2 v6 dL_law_1368 ?_
  refine fx_calll (U := fw_F × fw_R) (w1 := (fun u : fw_F × fw_R => kw G ad kt u.1 u.2)) (va_runV (As := [.int (xs (x3 + 1).toNatClampNeg), .int (xs (x3 + 2).toNatClampNeg), .int (xs (x3 + 3).toNatClampNeg), .int (xs (x3 + 4).toNatClampNeg), .int (xs (x3 + 5).toNatClampNeg), .int (xs (x3 + 6).toNatClampNeg)]) (rest := []) ⟨C.1, C.2.1, C.2.2.2.2.2.2, C.2.2.2.2.2.1, C.2.2.2.2.1⟩ (soX9_byChalk l G ad kt iv ar (xs (x3 + 1).toNatClampNeg) (xs (x3 + 2).toNatClampNeg) (xs (x3 + 3).toNatClampNeg) (xs (x3 + 4).toNatClampNeg) (xs (x3 + 5).toNatClampNeg) (xs (x3 + 6).toNatClampNeg) _ w1 H.size) (cwV 6 C.2.2.2.2.1 gL_law_X9_byChalk rfl rfl rfl (by decide +kernel) ⟨Nat.le_of_ble_eq_true rfl, Nat.le_of_ble_eq_true rfl⟩) (fw_preV (fx_sub hG) hK (ci := 9) rfl kw_o9) rfl rfl hl.1 rfl (lv_room (Nat.le_of_ble_eq_true rfl)) dL_law_1369 ⟨by show cells + 0 ≤ 600000; omega, by show slots + 0 ≤ 7302250; omega⟩) hG hK (fun r1 u H locs h hG => ?_)
  obtain ⟨iv2, ar2⟩ := u
  obtain ⟨e1, p9⟩ := h
  dsimp only at p9 hG
  have hG := fx_swap hG
  refine lv_aload_n C.1 C.2.1 dL_law_1372 rfl (lv_at hl 2 rfl) ?_
  refine lv_aload_n C.1 C.2.1 dL_law_1373 rfl (lv_at hl 0 rfl) ?_
  refine lv_iload_n C.1 C.2.1 dL_law_1374 rfl (lv_at hl 3 rfl) ?_
  refine lv_iconst (v := 1) C.1 C.2.1 dL_law_1375 (by decide) ?_
  refine lv_iadd C.1 C.2.1 dL_law_1376 ?_
  refine va_sld C.1 C.2.1 hX hbl hbA hG.2.2 v1 dL_law_1377 ?_
  refine lv_aload_n C.1 C.2.1 dL_law_1378 rfl (lv_at hl 0 rfl) ?_
  refine lv_iload_n C.1 C.2.1 dL_law_1379 rfl (lv_at hl 3 rfl) ?_
  refine lv_iconst (v := 2) C.1 C.2.1 dL_law_1380 (by decide) ?_
  refine lv_iadd C.1 C.2.1 dL_law_1381 ?_
  refine va_sld C.1 C.2.1 hX hbl hbA hG.2.2 v2 dL_law_1382 ?_
  refine lv_aload_n C.1 C.2.1 dL_law_1383 rfl (lv_at hl 0 rfl) ?_
  refine lv_iload_n C.1 C.2.1 dL_law_1384 rfl (lv_at hl 3 rfl) ?_
  refine lv_iconst (v := 3) C.1 C.2.1 dL_law_1385 (by decide) ?_
  refine lv_iadd C.1 C.2.1 dL_law_1386 ?_
  refine va_sld C.1 C.2.1 hX hbl hbA hG.2.2 v3 dL_law_1387 ?_
  refine lv_aload_n C.1 C.2.1 dL_law_1388 rfl (lv_at hl 0 rfl) ?_
  refine lv_iload_n C.1 C.2.1 dL_law_1389 rfl (lv_at hl 3 rfl) ?_
  refine lv_iconst (v := 4) C.1 C.2.1 dL_law_1390 (by decide) ?_
  refine lv_iadd C.1 C.2.1 dL_law_1391 ?_
  refine va_sld C.1 C.2.1 hX hbl hbA hG.2.2 v4 dL_law_1392 ?_
  refine lv_aload_n C.1 C.2.1 dL_law_1393 rfl (lv_at hl 0 rfl) ?_
  refine lv_iload_n C.1 C.2.1 dL_law_1394 rfl (lv_at hl 3 rfl) ?_
  refine lv_iconst (v := 5) C.1 C.2.1 dL_law_1395 (by decide) ?_
  refine lv_iadd C.1 C.2.1 dL_law_1396 ?_
  refine va_sld C.1 C.2.1 hX hbl hbA hG.2.2 v5 dL_law_1397 ?_
  refine lv_aload_n C.1 C.2.1 dL_law_1398 rfl (lv_at hl 0 rfl) ?_
  refine lv_iload_n C.1 C.2.1 dL_law_1399 rfl (lv_at hl 3 rfl) ?_
  refine lv_bipush (v := 6) C.1 C.2.1 dL_law_1400 (by decide) ?_
  refine lv_iadd C.1 C.2.1 dL_law_1402 ?_
  refine va_sld C.1 C.2.1 hX hbl hbA hG.2.2 v6 dL_law_1403 ?_
  refine fx_calll (U := fw_F × fw_R) (w1 := fun u => mw G mh md u.1 u.2) (va_runV (As := [.int (xs (x3 + 1).toNatClampNeg), .int (xs (x3 + 2).toNatClampNeg), .int (xs (x3 + 3).toNatClampNeg), .int (xs (x3 + 4).toNatClampNeg), .int (xs (x3 + 5).toNatClampNeg), .int (xs (x3 + 6).toNatClampNeg)]) (rest := [.long r1]) ⟨C.1, C.2.1, C.2.2.2.2.2.2, C.2.2.2.2.2.1, C.2.2.2.2.1⟩ (soX10_byChalk l G mh md jv br (xs (x3 + 1).toNatClampNeg) (xs (x3 + 2).toNatClampNeg) (xs (x3 + 3).toNatClampNeg) (xs (x3 + 4).toNatClampNeg) (xs (x3 + 5).toNatClampNeg) (xs (x3 + 6).toNatClampNeg) _ w2 H.size) (cwV 6 C.2.2.2.2.1 gL_law_X10_byChalk rfl rfl rfl (by decide +kernel) ⟨Nat.le_of_ble_eq_true rfl, Nat.le_of_ble_eq_true rfl⟩) (fw_preV (fx_sub hG) hK (ci := 10) rfl mw_o) rfl rfl hl.1 rfl (lv_room (Nat.le_of_ble_eq_true rfl)) dL_law_1404 ⟨by show cells + 0 + 0 ≤ 600000; omega, by show slots + 0 + 0 ≤ 7302250; omega⟩) hG hK (fun r3 u H locs h hG => ?_)
  obtain ⟨jv2, br2⟩ := u
  obtain ⟨e2, p10⟩ := h
  dsimp only at p10 hG
  have hG := fx_swap hG
  refine W.lcmp C.1 C.2.1 dL_law_1407 ?_
  refine lv_if_eq (tgt := 1757) C.1 C.2.1 dL_law_1408 (by decide) (fun _ => ?_) (fun c1 => absurd ((lg_cmp_eq r1 r3).mpr (e1.trans e2.symm)) c1)
  refine W.widen (k := cells + 2) (n := slots + 222) (by omega) (by omega) ?_
  exact kX _ _ _ _ _ _ _ _ _ (hR _ _ p9 _ _ p10) hG hl
set_option maxHeartbeats 4000000 in
set_option maxRecDepth 100000 in
theorem lw_c25 {p : Program} {l : Launch} {e : Env} {s : State} {m : MethodId} {below : List Frame} {meth : Method} {c : Code} {b L : Nat} {xs : Nat → Int32} {G : fw_G} {mh : Nat} {md : Nat → Nat} {Rl : kw_T → fw_F → fw_R → fw_F → fw_R → Prop} {ad : Nat → Nat} {kt : kw_T} {iv : fw_F} {ar : fw_R} {jv : fw_F} {br : fw_R} {x3 : Int32} {cells slots : Nat} {H : Heap} {locs : List Loc} {ls : Array Slot} (C : fw_C p s m #[Value.ref b] meth c cL_law 4 ret wsL_law RL) (hK : fw_K G (fun q : Nat => s.heap.size ≤ q) s) (hX : va_X b L xs s s.heap) (hbl : b < s.heap.size) (hbA : ¬ (fun q : Nat => s.heap.size ≤ q) b) (hR : Rl kt iv ar jv br) (hp : pu_sheet Rl kt iv ar jv br (xs (x3 + 1).toNatClampNeg) (xs (x3 + 2).toNatClampNeg) (xs (x3 + 3).toNatClampNeg)) (v1 : vp_in (x3 + 1) L) (v2 : vp_in (x3 + 2) L) (v3 : vp_in (x3 + 3) L) (hc : cells + 2 ≤ 600000) (hs : slots + 222 ≤ 7302250) (hG : fw_H G (mw G mh md jv br ++ kw G ad kt iv ar) (fun q : Nat => s.heap.size ≤ q) s H locs) (hl : lv_has ls 4 [(0, .ref b), (1, .ref (ad 0)), (2, .ref mh), (3, .int x3)]) (kX : ∀ (ad : Nat → Nat) (kt : kw_T) (iv : fw_F) (ar : fw_R) (jv : fw_F) (br : fw_R) (H : Heap) (locs : List Loc) (ls : Array Slot), Rl kt iv ar jv br → fw_H G (mw G mh md jv br ++ kw G ad kt iv ar) (fun q : Nat => s.heap.size ≤ q) s H locs → lv_has ls 4 [(0, .ref b), (1, .ref (ad 0)), (2, .ref mh), (3, .int x3)] → W p l e room_1 s m #[Value.ref b] below meth c H locs (cells + 2) (slots + 222) (lw_Z below #[Value.ref b] s) (F0 m 1757 ls [])) : W p l e room_1 s m #[Value.ref b] below meth c H locs cells slots (lw_Z below #[Value.ref b] s) (F0 m 1413 ls []) := by
  obtain ⟨r, P10, P9, hR, w1, w2⟩ := hp
  refine lv_aload_n C.1 C.2.1 dL_law_1413 rfl (lv_at hl 1 rfl) ?_
  refine lv_aload_n C.1 C.2.1 dL_law_1414 rfl (lv_at hl 0 rfl) ?_
  refine lv_iload_n C.1 C.2.1 dL_law_1415 rfl (lv_at hl 3 rfl) ?_
  refine lv_iconst (v := 1) C.1 C.2.1 dL_law_1416 (by decide) ?_
  refine lv_iadd C.1 C.2.1 dL_law_1417 ?_
  refine va_sld C.1 C.2.1 hX hbl hbA hG.2.2 v1 dL_law_1418 ?_
  refine lv_aload_n C.1 C.2.1 dL_law_1419 rfl (lv_at hl 0 rfl) ?_
  refine lv_iload_n C.1 C.2.1 dL_law_1420 rfl (lv_at hl 3 rfl) ?_
  refine lv_iconst (v := 2) C.1 C.2.1 dL_law_1421 (by decide) ?_
  refine lv_iadd C.1 C.2.1 dL_law_1422 ?_
  refine va_sld C.1 C.2.1 hX hbl hbA hG.2.2 v2 dL_law_1423 ?_
  refine lv_aload_n C.1 C.2.1 dL_law_1424 rfl (lv_at hl 0 rfl) ?_
  refine lv_iload_n C.1 C.2.1 dL_law_1425 rfl (lv_at hl 3 rfl) ?_
  refine lv_iconst (v := 3) C.1 C.2.1 dL_law_1426 (by decide) ?_
  refine lv_iadd C.1 C.2.1 dL_law_1427 ?_
  refine va_sld C.1 C.2.1 hX hbl hbA hG.2.2 v3 dL_law_1428 ?_
  refine fx_calli (U := fw_F × fw_R) (w1 := (fun u : fw_F × fw_R => kw G ad kt u.1 u.2)) (va_runV (As := [.int (xs (x3 + 1).toNatClampNeg), .int (xs (x3 + 2).toNatClampNeg), .int (xs (x3 + 3).toNatClampNeg)]) (rest := []) ⟨C.1, C.2.1, C.2.2.2.2.2.2, C.2.2.2.2.2.1, C.2.2.2.2.1⟩ (soX9_sheet l G ad kt iv ar (xs (x3 + 1).toNatClampNeg) (xs (x3 + 2).toNatClampNeg) (xs (x3 + 3).toNatClampNeg) _ w1 H.size) (cwV 3 C.2.2.2.2.1 gL_law_X9_sheet rfl rfl rfl (by decide +kernel) ⟨Nat.le_of_ble_eq_true rfl, Nat.le_of_ble_eq_true rfl⟩) (fw_preV (fx_sub hG) hK (ci := 9) rfl kw_o9) rfl rfl hl.1 rfl (lv_room (Nat.le_of_ble_eq_true rfl)) dL_law_1429 ⟨by show cells + 0 ≤ 600000; omega, by show slots + 0 ≤ 7302250; omega⟩) hG hK (fun r1 u H locs h hG => ?_)
  obtain ⟨iv2, ar2⟩ := u
  obtain ⟨e1, p9⟩ := h
  dsimp only at p9 hG
  have hG := fx_swap hG
  refine lv_aload_n C.1 C.2.1 dL_law_1432 rfl (lv_at hl 2 rfl) ?_
  refine lv_aload_n C.1 C.2.1 dL_law_1433 rfl (lv_at hl 0 rfl) ?_
  refine lv_iload_n C.1 C.2.1 dL_law_1434 rfl (lv_at hl 3 rfl) ?_
  refine lv_iconst (v := 1) C.1 C.2.1 dL_law_1435 (by decide) ?_
  refine lv_iadd C.1 C.2.1 dL_law_1436 ?_
  refine va_sld C.1 C.2.1 hX hbl hbA hG.2.2 v1 dL_law_1437 ?_
  refine lv_aload_n C.1 C.2.1 dL_law_1438 rfl (lv_at hl 0 rfl) ?_
  refine lv_iload_n C.1 C.2.1 dL_law_1439 rfl (lv_at hl 3 rfl) ?_
  refine lv_iconst (v := 2) C.1 C.2.1 dL_law_1440 (by decide) ?_
  refine lv_iadd C.1 C.2.1 dL_law_1441 ?_
  refine va_sld C.1 C.2.1 hX hbl hbA hG.2.2 v2 dL_law_1442 ?_
  refine lv_aload_n C.1 C.2.1 dL_law_1443 rfl (lv_at hl 0 rfl) ?_
  refine lv_iload_n C.1 C.2.1 dL_law_1444 rfl (lv_at hl 3 rfl) ?_
  refine lv_iconst (v := 3) C.1 C.2.1 dL_law_1445 (by decide) ?_
  refine lv_iadd C.1 C.2.1 dL_law_1446 ?_
  refine va_sld C.1 C.2.1 hX hbl hbA hG.2.2 v3 dL_law_1447 ?_
  refine fx_calli (U := fw_F × fw_R) (w1 := fun u => mw G mh md u.1 u.2) (va_runV (As := [.int (xs (x3 + 1).toNatClampNeg), .int (xs (x3 + 2).toNatClampNeg), .int (xs (x3 + 3).toNatClampNeg)]) (rest := [.int r1]) ⟨C.1, C.2.1, C.2.2.2.2.2.2, C.2.2.2.2.2.1, C.2.2.2.2.1⟩ (soX10_sheet l G mh md jv br (xs (x3 + 1).toNatClampNeg) (xs (x3 + 2).toNatClampNeg) (xs (x3 + 3).toNatClampNeg) _ w2 H.size) (cwV 3 C.2.2.2.2.1 gL_law_X10_sheet rfl rfl rfl (by decide +kernel) ⟨Nat.le_of_ble_eq_true rfl, Nat.le_of_ble_eq_true rfl⟩) (fw_preV (fx_sub hG) hK (ci := 10) rfl mw_o) rfl rfl hl.1 rfl (lv_room (Nat.le_of_ble_eq_true rfl)) dL_law_1448 ⟨by show cells + 0 + 0 ≤ 600000; omega, by show slots + 0 + 0 ≤ 7302250; omega⟩) hG hK (fun r3 u H locs h hG => ?_)
  obtain ⟨jv2, br2⟩ := u
  obtain ⟨e2, p10⟩ := h
  dsimp only at p10 hG
  have hG := fx_swap hG
  refine lv_icmp_eq (tgt := 1757) C.1 C.2.1 dL_law_1451 (by decide) (fun _ => ?_) (fun c1 => absurd (e1.trans e2.symm) c1)
  refine W.widen (k := cells + 2) (n := slots + 222) (by omega) (by omega) ?_
  exact kX _ _ _ _ _ _ _ _ _ (hR _ _ p9 _ _ p10) hG hl
set_option maxHeartbeats 4000000 in
set_option maxRecDepth 100000 in
theorem lw_c26 {p : Program} {l : Launch} {e : Env} {s : State} {m : MethodId} {below : List Frame} {meth : Method} {c : Code} {b L : Nat} {xs : Nat → Int32} {G : fw_G} {mh : Nat} {md : Nat → Nat} {Rl : kw_T → fw_F → fw_R → fw_F → fw_R → Prop} {ad : Nat → Nat} {kt : kw_T} {iv : fw_F} {ar : fw_R} {jv : fw_F} {br : fw_R} {x3 : Int32} {cells slots : Nat} {H : Heap} {locs : List Loc} {ls : Array Slot} (C : fw_C p s m #[Value.ref b] meth c cL_law 4 ret wsL_law RL) (hK : fw_K G (fun q : Nat => s.heap.size ≤ q) s) (hX : va_X b L xs s s.heap) (hbl : b < s.heap.size) (hbA : ¬ (fun q : Nat => s.heap.size ≤ q) b) (hR : Rl kt iv ar jv br) (hp : pu_lose Rl kt iv ar jv br (xs (x3 + 1).toNatClampNeg)) (v1 : vp_in (x3 + 1) L) (hc : cells + 2 ≤ 600000) (hs : slots + 222 ≤ 7302250) (hG : fw_H G (mw G mh md jv br ++ kw G ad kt iv ar) (fun q : Nat => s.heap.size ≤ q) s H locs) (hl : lv_has ls 4 [(0, .ref b), (1, .ref (ad 0)), (2, .ref mh), (3, .int x3)]) (kX : ∀ (ad : Nat → Nat) (kt : kw_T) (iv : fw_F) (ar : fw_R) (jv : fw_F) (br : fw_R) (H : Heap) (locs : List Loc) (ls : Array Slot), Rl kt iv ar jv br → fw_H G (mw G mh md jv br ++ kw G ad kt iv ar) (fun q : Nat => s.heap.size ≤ q) s H locs → lv_has ls 4 [(0, .ref b), (1, .ref (ad 0)), (2, .ref mh), (3, .int x3)] → W p l e room_1 s m #[Value.ref b] below meth c H locs (cells + 2) (slots + 222) (lw_Z below #[Value.ref b] s) (F0 m 1757 ls [])) : W p l e room_1 s m #[Value.ref b] below meth c H locs cells slots (lw_Z below #[Value.ref b] s) (F0 m 1456 ls []) := by
  obtain ⟨r, P10, P9, hR, w1, w2⟩ := hp
  refine lv_aload_n C.1 C.2.1 dL_law_1456 rfl (lv_at hl 1 rfl) ?_
  refine lv_aload_n C.1 C.2.1 dL_law_1457 rfl (lv_at hl 0 rfl) ?_
  refine lv_iload_n C.1 C.2.1 dL_law_1458 rfl (lv_at hl 3 rfl) ?_
  refine lv_iconst (v := 1) C.1 C.2.1 dL_law_1459 (by decide) ?_
  refine lv_iadd C.1 C.2.1 dL_law_1460 ?_
  refine va_sld C.1 C.2.1 hX hbl hbA hG.2.2 v1 dL_law_1461 ?_
  refine fx_calli (U := fw_F × fw_R) (w1 := (fun u : fw_F × fw_R => kw G ad kt u.1 u.2)) (va_runV (As := [.int (xs (x3 + 1).toNatClampNeg)]) (rest := []) ⟨C.1, C.2.1, C.2.2.2.2.2.2, C.2.2.2.2.2.1, C.2.2.2.2.1⟩ (soX9_lose l G ad kt iv ar (xs (x3 + 1).toNatClampNeg) _ w1 H.size) (cwV 1 C.2.2.2.2.1 gL_law_X9_lose rfl rfl rfl (by decide +kernel) ⟨Nat.le_of_ble_eq_true rfl, Nat.le_of_ble_eq_true rfl⟩) (fw_preV (fx_sub hG) hK (ci := 9) rfl kw_o9) rfl rfl hl.1 rfl (lv_room (Nat.le_of_ble_eq_true rfl)) dL_law_1462 ⟨by show cells + 0 ≤ 600000; omega, by show slots + 0 ≤ 7302250; omega⟩) hG hK (fun r1 u H locs h hG => ?_)
  obtain ⟨iv2, ar2⟩ := u
  obtain ⟨e1, p9⟩ := h
  dsimp only at p9 hG
  have hG := fx_swap hG
  refine lv_aload_n C.1 C.2.1 dL_law_1465 rfl (lv_at hl 2 rfl) ?_
  refine lv_aload_n C.1 C.2.1 dL_law_1466 rfl (lv_at hl 0 rfl) ?_
  refine lv_iload_n C.1 C.2.1 dL_law_1467 rfl (lv_at hl 3 rfl) ?_
  refine lv_iconst (v := 1) C.1 C.2.1 dL_law_1468 (by decide) ?_
  refine lv_iadd C.1 C.2.1 dL_law_1469 ?_
  refine va_sld C.1 C.2.1 hX hbl hbA hG.2.2 v1 dL_law_1470 ?_
  refine fx_calli (U := fw_F × fw_R) (w1 := fun u => mw G mh md u.1 u.2) (va_runV (As := [.int (xs (x3 + 1).toNatClampNeg)]) (rest := [.int r1]) ⟨C.1, C.2.1, C.2.2.2.2.2.2, C.2.2.2.2.2.1, C.2.2.2.2.1⟩ (soX10_lose l G mh md jv br (xs (x3 + 1).toNatClampNeg) _ w2 H.size) (cwV 1 C.2.2.2.2.1 gL_law_X10_lose rfl rfl rfl (by decide +kernel) ⟨Nat.le_of_ble_eq_true rfl, Nat.le_of_ble_eq_true rfl⟩) (fw_preV (fx_sub hG) hK (ci := 10) rfl mw_o) rfl rfl hl.1 rfl (lv_room (Nat.le_of_ble_eq_true rfl)) dL_law_1471 ⟨by show cells + 0 + 0 ≤ 600000; omega, by show slots + 0 + 0 ≤ 7302250; omega⟩) hG hK (fun r3 u H locs h hG => ?_)
  obtain ⟨jv2, br2⟩ := u
  obtain ⟨e2, p10⟩ := h
  dsimp only at p10 hG
  have hG := fx_swap hG
  refine lv_icmp_eq (tgt := 1757) C.1 C.2.1 dL_law_1474 (by decide) (fun _ => ?_) (fun c1 => absurd (e1.trans e2.symm) c1)
  refine W.widen (k := cells + 2) (n := slots + 222) (by omega) (by omega) ?_
  exact kX _ _ _ _ _ _ _ _ _ (hR _ _ p9 _ _ p10) hG hl
set_option maxHeartbeats 4000000 in
set_option maxRecDepth 100000 in
theorem lw_c27 {p : Program} {l : Launch} {e : Env} {s : State} {m : MethodId} {below : List Frame} {meth : Method} {c : Code} {b L : Nat} {xs : Nat → Int32} {G : fw_G} {mh : Nat} {md : Nat → Nat} {Rl : kw_T → fw_F → fw_R → fw_F → fw_R → Prop} {ad : Nat → Nat} {kt : kw_T} {iv : fw_F} {ar : fw_R} {jv : fw_F} {br : fw_R} {x3 : Int32} {cells slots : Nat} {H : Heap} {locs : List Loc} {ls : Array Slot} (C : fw_C p s m #[Value.ref b] meth c cL_law 4 ret wsL_law RL) (hK : fw_K G (fun q : Nat => s.heap.size ≤ q) s) (hX : va_X b L xs s s.heap) (hbl : b < s.heap.size) (hbA : ¬ (fun q : Nat => s.heap.size ≤ q) b) (hR : Rl kt iv ar jv br) (hp : pu_put Rl kt iv ar jv br (xs (x3 + 1).toNatClampNeg) (xs (x3 + 2).toNatClampNeg) (xs (x3 + 3).toNatClampNeg)) (v1 : vp_in (x3 + 1) L) (v2 : vp_in (x3 + 2) L) (v3 : vp_in (x3 + 3) L) (hc : cells + 2 ≤ 600000) (hs : slots + 222 ≤ 7302250) (hG : fw_H G (mw G mh md jv br ++ kw G ad kt iv ar) (fun q : Nat => s.heap.size ≤ q) s H locs) (hl : lv_has ls 4 [(0, .ref b), (1, .ref (ad 0)), (2, .ref mh), (3, .int x3)]) (kX : ∀ (ad : Nat → Nat) (kt : kw_T) (iv : fw_F) (ar : fw_R) (jv : fw_F) (br : fw_R) (H : Heap) (locs : List Loc) (ls : Array Slot), Rl kt iv ar jv br → fw_H G (mw G mh md jv br ++ kw G ad kt iv ar) (fun q : Nat => s.heap.size ≤ q) s H locs → lv_has ls 4 [(0, .ref b), (1, .ref (ad 0)), (2, .ref mh), (3, .int x3)] → W p l e room_1 s m #[Value.ref b] below meth c H locs (cells + 2) (slots + 222) (lw_Z below #[Value.ref b] s) (F0 m 1757 ls [])) : W p l e room_1 s m #[Value.ref b] below meth c H locs cells slots (lw_Z below #[Value.ref b] s) (F0 m 1479 ls []) := by
  obtain ⟨r, P10, P9, hR, w1, w2⟩ := hp
  refine lv_aload_n C.1 C.2.1 dL_law_1479 rfl (lv_at hl 1 rfl) ?_
  refine lv_aload_n C.1 C.2.1 dL_law_1480 rfl (lv_at hl 0 rfl) ?_
  refine lv_iload_n C.1 C.2.1 dL_law_1481 rfl (lv_at hl 3 rfl) ?_
  refine lv_iconst (v := 1) C.1 C.2.1 dL_law_1482 (by decide) ?_
  refine lv_iadd C.1 C.2.1 dL_law_1483 ?_
  refine va_sld C.1 C.2.1 hX hbl hbA hG.2.2 v1 dL_law_1484 ?_
  refine lv_aload_n C.1 C.2.1 dL_law_1485 rfl (lv_at hl 0 rfl) ?_
  refine lv_iload_n C.1 C.2.1 dL_law_1486 rfl (lv_at hl 3 rfl) ?_
  refine lv_iconst (v := 2) C.1 C.2.1 dL_law_1487 (by decide) ?_
  refine lv_iadd C.1 C.2.1 dL_law_1488 ?_
  refine va_sld C.1 C.2.1 hX hbl hbA hG.2.2 v2 dL_law_1489 ?_
  refine lv_aload_n C.1 C.2.1 dL_law_1490 rfl (lv_at hl 0 rfl) ?_
  refine lv_iload_n C.1 C.2.1 dL_law_1491 rfl (lv_at hl 3 rfl) ?_
  refine lv_iconst (v := 3) C.1 C.2.1 dL_law_1492 (by decide) ?_
  refine lv_iadd C.1 C.2.1 dL_law_1493 ?_
  refine va_sld C.1 C.2.1 hX hbl hbA hG.2.2 v3 dL_law_1494 ?_
  refine fx_calli (U := fw_F × fw_R) (w1 := (fun u : fw_F × fw_R => kw G ad kt u.1 u.2)) (va_runV (As := [.int (xs (x3 + 1).toNatClampNeg), .int (xs (x3 + 2).toNatClampNeg), .int (xs (x3 + 3).toNatClampNeg)]) (rest := []) ⟨C.1, C.2.1, C.2.2.2.2.2.2, C.2.2.2.2.2.1, C.2.2.2.2.1⟩ (soX9_put l G ad kt iv ar (xs (x3 + 1).toNatClampNeg) (xs (x3 + 2).toNatClampNeg) (xs (x3 + 3).toNatClampNeg) _ w1 H.size) (cwV 3 C.2.2.2.2.1 gL_law_X9_put rfl rfl rfl (by decide +kernel) ⟨Nat.le_of_ble_eq_true rfl, Nat.le_of_ble_eq_true rfl⟩) (fw_preV (fx_sub hG) hK (ci := 9) rfl kw_o9) rfl rfl hl.1 rfl (lv_room (Nat.le_of_ble_eq_true rfl)) dL_law_1495 ⟨by show cells + 0 ≤ 600000; omega, by show slots + 0 ≤ 7302250; omega⟩) hG hK (fun r1 u H locs h hG => ?_)
  obtain ⟨iv2, ar2⟩ := u
  obtain ⟨e1, p9⟩ := h
  dsimp only at p9 hG
  have hG := fx_swap hG
  refine lv_aload_n C.1 C.2.1 dL_law_1498 rfl (lv_at hl 2 rfl) ?_
  refine lv_aload_n C.1 C.2.1 dL_law_1499 rfl (lv_at hl 0 rfl) ?_
  refine lv_iload_n C.1 C.2.1 dL_law_1500 rfl (lv_at hl 3 rfl) ?_
  refine lv_iconst (v := 1) C.1 C.2.1 dL_law_1501 (by decide) ?_
  refine lv_iadd C.1 C.2.1 dL_law_1502 ?_
  refine va_sld C.1 C.2.1 hX hbl hbA hG.2.2 v1 dL_law_1503 ?_
  refine lv_aload_n C.1 C.2.1 dL_law_1504 rfl (lv_at hl 0 rfl) ?_
  refine lv_iload_n C.1 C.2.1 dL_law_1505 rfl (lv_at hl 3 rfl) ?_
  refine lv_iconst (v := 2) C.1 C.2.1 dL_law_1506 (by decide) ?_
  refine lv_iadd C.1 C.2.1 dL_law_1507 ?_
  refine va_sld C.1 C.2.1 hX hbl hbA hG.2.2 v2 dL_law_1508 ?_
  refine lv_aload_n C.1 C.2.1 dL_law_1509 rfl (lv_at hl 0 rfl) ?_
  refine lv_iload_n C.1 C.2.1 dL_law_1510 rfl (lv_at hl 3 rfl) ?_
  refine lv_iconst (v := 3) C.1 C.2.1 dL_law_1511 (by decide) ?_
  refine lv_iadd C.1 C.2.1 dL_law_1512 ?_
  refine va_sld C.1 C.2.1 hX hbl hbA hG.2.2 v3 dL_law_1513 ?_
  refine fx_calli (U := fw_F × fw_R) (w1 := fun u => mw G mh md u.1 u.2) (va_runV (As := [.int (xs (x3 + 1).toNatClampNeg), .int (xs (x3 + 2).toNatClampNeg), .int (xs (x3 + 3).toNatClampNeg)]) (rest := [.int r1]) ⟨C.1, C.2.1, C.2.2.2.2.2.2, C.2.2.2.2.2.1, C.2.2.2.2.1⟩ (soX10_put l G mh md jv br (xs (x3 + 1).toNatClampNeg) (xs (x3 + 2).toNatClampNeg) (xs (x3 + 3).toNatClampNeg) _ w2 H.size) (cwV 3 C.2.2.2.2.1 gL_law_X10_put rfl rfl rfl (by decide +kernel) ⟨Nat.le_of_ble_eq_true rfl, Nat.le_of_ble_eq_true rfl⟩) (fw_preV (fx_sub hG) hK (ci := 10) rfl mw_o) rfl rfl hl.1 rfl (lv_room (Nat.le_of_ble_eq_true rfl)) dL_law_1514 ⟨by show cells + 0 + 0 ≤ 600000; omega, by show slots + 0 + 0 ≤ 7302250; omega⟩) hG hK (fun r3 u H locs h hG => ?_)
  obtain ⟨jv2, br2⟩ := u
  obtain ⟨e2, p10⟩ := h
  dsimp only at p10 hG
  have hG := fx_swap hG
  refine lv_icmp_eq (tgt := 1757) C.1 C.2.1 dL_law_1517 (by decide) (fun _ => ?_) (fun c1 => absurd (e1.trans e2.symm) c1)
  refine W.widen (k := cells + 2) (n := slots + 222) (by omega) (by omega) ?_
  exact kX _ _ _ _ _ _ _ _ _ (hR _ _ p9 _ _ p10) hG hl
set_option maxHeartbeats 4000000 in
set_option maxRecDepth 100000 in
theorem lw_c28 {p : Program} {l : Launch} {e : Env} {s : State} {m : MethodId} {below : List Frame} {meth : Method} {c : Code} {b L : Nat} {xs : Nat → Int32} {G : fw_G} {mh : Nat} {md : Nat → Nat} {Rl : kw_T → fw_F → fw_R → fw_F → fw_R → Prop} {ad : Nat → Nat} {kt : kw_T} {iv : fw_F} {ar : fw_R} {jv : fw_F} {br : fw_R} {x3 : Int32} {cells slots : Nat} {H : Heap} {locs : List Loc} {ls : Array Slot} (C : fw_C p s m #[Value.ref b] meth c cL_law 4 ret wsL_law RL) (hK : fw_K G (fun q : Nat => s.heap.size ≤ q) s) (hX : va_X b L xs s s.heap) (hbl : b < s.heap.size) (hbA : ¬ (fun q : Nat => s.heap.size ≤ q) b) (hR : Rl kt iv ar jv br) (hp : pu_cell Rl kt iv ar jv br (xs (x3 + 1).toNatClampNeg) (xs (x3 + 2).toNatClampNeg) (xs (x3 + 3).toNatClampNeg)) (v1 : vp_in (x3 + 1) L) (v2 : vp_in (x3 + 2) L) (v3 : vp_in (x3 + 3) L) (hc : cells + 2 ≤ 600000) (hs : slots + 222 ≤ 7302250) (hG : fw_H G (mw G mh md jv br ++ kw G ad kt iv ar) (fun q : Nat => s.heap.size ≤ q) s H locs) (hl : lv_has ls 4 [(0, .ref b), (1, .ref (ad 0)), (2, .ref mh), (3, .int x3)]) (kX : ∀ (ad : Nat → Nat) (kt : kw_T) (iv : fw_F) (ar : fw_R) (jv : fw_F) (br : fw_R) (H : Heap) (locs : List Loc) (ls : Array Slot), Rl kt iv ar jv br → fw_H G (mw G mh md jv br ++ kw G ad kt iv ar) (fun q : Nat => s.heap.size ≤ q) s H locs → lv_has ls 4 [(0, .ref b), (1, .ref (ad 0)), (2, .ref mh), (3, .int x3)] → W p l e room_1 s m #[Value.ref b] below meth c H locs (cells + 2) (slots + 222) (lw_Z below #[Value.ref b] s) (F0 m 1757 ls [])) : W p l e room_1 s m #[Value.ref b] below meth c H locs cells slots (lw_Z below #[Value.ref b] s) (F0 m 1522 ls []) := by
  obtain ⟨r, P10, P9, hR, w1, w2⟩ := hp
  refine lv_aload_n C.1 C.2.1 dL_law_1522 rfl (lv_at hl 1 rfl) ?_
  refine lv_aload_n C.1 C.2.1 dL_law_1523 rfl (lv_at hl 0 rfl) ?_
  refine lv_iload_n C.1 C.2.1 dL_law_1524 rfl (lv_at hl 3 rfl) ?_
  refine lv_iconst (v := 1) C.1 C.2.1 dL_law_1525 (by decide) ?_
  refine lv_iadd C.1 C.2.1 dL_law_1526 ?_
  refine va_sld C.1 C.2.1 hX hbl hbA hG.2.2 v1 dL_law_1527 ?_
  refine lv_aload_n C.1 C.2.1 dL_law_1528 rfl (lv_at hl 0 rfl) ?_
  refine lv_iload_n C.1 C.2.1 dL_law_1529 rfl (lv_at hl 3 rfl) ?_
  refine lv_iconst (v := 2) C.1 C.2.1 dL_law_1530 (by decide) ?_
  refine lv_iadd C.1 C.2.1 dL_law_1531 ?_
  refine va_sld C.1 C.2.1 hX hbl hbA hG.2.2 v2 dL_law_1532 ?_
  refine lv_aload_n C.1 C.2.1 dL_law_1533 rfl (lv_at hl 0 rfl) ?_
  refine lv_iload_n C.1 C.2.1 dL_law_1534 rfl (lv_at hl 3 rfl) ?_
  refine lv_iconst (v := 3) C.1 C.2.1 dL_law_1535 (by decide) ?_
  refine lv_iadd C.1 C.2.1 dL_law_1536 ?_
  refine va_sld C.1 C.2.1 hX hbl hbA hG.2.2 v3 dL_law_1537 ?_
  refine fx_calll (U := fw_F × fw_R) (w1 := (fun u : fw_F × fw_R => kw G ad kt u.1 u.2)) (va_runV (As := [.int (xs (x3 + 1).toNatClampNeg), .int (xs (x3 + 2).toNatClampNeg), .int (xs (x3 + 3).toNatClampNeg)]) (rest := []) ⟨C.1, C.2.1, C.2.2.2.2.2.2, C.2.2.2.2.2.1, C.2.2.2.2.1⟩ (soX9_cell l G ad kt iv ar (xs (x3 + 1).toNatClampNeg) (xs (x3 + 2).toNatClampNeg) (xs (x3 + 3).toNatClampNeg) _ w1 H.size) (cwV 3 C.2.2.2.2.1 gL_law_X9_cell rfl rfl rfl (by decide +kernel) ⟨Nat.le_of_ble_eq_true rfl, Nat.le_of_ble_eq_true rfl⟩) (fw_preV (fx_sub hG) hK (ci := 9) rfl kw_o9) rfl rfl hl.1 rfl (lv_room (Nat.le_of_ble_eq_true rfl)) dL_law_1538 ⟨by show cells + 0 ≤ 600000; omega, by show slots + 0 ≤ 7302250; omega⟩) hG hK (fun r1 u H locs h hG => ?_)
  obtain ⟨iv2, ar2⟩ := u
  obtain ⟨e1, p9⟩ := h
  dsimp only at p9 hG
  have hG := fx_swap hG
  refine lv_aload_n C.1 C.2.1 dL_law_1541 rfl (lv_at hl 2 rfl) ?_
  refine lv_aload_n C.1 C.2.1 dL_law_1542 rfl (lv_at hl 0 rfl) ?_
  refine lv_iload_n C.1 C.2.1 dL_law_1543 rfl (lv_at hl 3 rfl) ?_
  refine lv_iconst (v := 1) C.1 C.2.1 dL_law_1544 (by decide) ?_
  refine lv_iadd C.1 C.2.1 dL_law_1545 ?_
  refine va_sld C.1 C.2.1 hX hbl hbA hG.2.2 v1 dL_law_1546 ?_
  refine lv_aload_n C.1 C.2.1 dL_law_1547 rfl (lv_at hl 0 rfl) ?_
  refine lv_iload_n C.1 C.2.1 dL_law_1548 rfl (lv_at hl 3 rfl) ?_
  refine lv_iconst (v := 2) C.1 C.2.1 dL_law_1549 (by decide) ?_
  refine lv_iadd C.1 C.2.1 dL_law_1550 ?_
  refine va_sld C.1 C.2.1 hX hbl hbA hG.2.2 v2 dL_law_1551 ?_
  refine lv_aload_n C.1 C.2.1 dL_law_1552 rfl (lv_at hl 0 rfl) ?_
  refine lv_iload_n C.1 C.2.1 dL_law_1553 rfl (lv_at hl 3 rfl) ?_
  refine lv_iconst (v := 3) C.1 C.2.1 dL_law_1554 (by decide) ?_
  refine lv_iadd C.1 C.2.1 dL_law_1555 ?_
  refine va_sld C.1 C.2.1 hX hbl hbA hG.2.2 v3 dL_law_1556 ?_
  refine fx_calll (U := fw_F × fw_R) (w1 := fun u => mw G mh md u.1 u.2) (va_runV (As := [.int (xs (x3 + 1).toNatClampNeg), .int (xs (x3 + 2).toNatClampNeg), .int (xs (x3 + 3).toNatClampNeg)]) (rest := [.long r1]) ⟨C.1, C.2.1, C.2.2.2.2.2.2, C.2.2.2.2.2.1, C.2.2.2.2.1⟩ (soX10_cell l G mh md jv br (xs (x3 + 1).toNatClampNeg) (xs (x3 + 2).toNatClampNeg) (xs (x3 + 3).toNatClampNeg) _ w2 H.size) (cwV 3 C.2.2.2.2.1 gL_law_X10_cell rfl rfl rfl (by decide +kernel) ⟨Nat.le_of_ble_eq_true rfl, Nat.le_of_ble_eq_true rfl⟩) (fw_preV (fx_sub hG) hK (ci := 10) rfl mw_o) rfl rfl hl.1 rfl (lv_room (Nat.le_of_ble_eq_true rfl)) dL_law_1557 ⟨by show cells + 0 + 0 ≤ 600000; omega, by show slots + 0 + 0 ≤ 7302250; omega⟩) hG hK (fun r3 u H locs h hG => ?_)
  obtain ⟨jv2, br2⟩ := u
  obtain ⟨e2, p10⟩ := h
  dsimp only at p10 hG
  have hG := fx_swap hG
  refine W.lcmp C.1 C.2.1 dL_law_1560 ?_
  refine lv_if_eq (tgt := 1757) C.1 C.2.1 dL_law_1561 (by decide) (fun _ => ?_) (fun c1 => absurd ((lg_cmp_eq r1 r3).mpr (e1.trans e2.symm)) c1)
  refine W.widen (k := cells + 2) (n := slots + 222) (by omega) (by omega) ?_
  exact kX _ _ _ _ _ _ _ _ _ (hR _ _ p9 _ _ p10) hG hl
set_option maxHeartbeats 4000000 in
set_option maxRecDepth 100000 in
theorem lw_c29 {p : Program} {l : Launch} {e : Env} {s : State} {m : MethodId} {below : List Frame} {meth : Method} {c : Code} {b L : Nat} {xs : Nat → Int32} {G : fw_G} {mh : Nat} {md : Nat → Nat} {Rl : kw_T → fw_F → fw_R → fw_F → fw_R → Prop} {ad : Nat → Nat} {kt : kw_T} {iv : fw_F} {ar : fw_R} {jv : fw_F} {br : fw_R} {x3 : Int32} {cells slots : Nat} {H : Heap} {locs : List Loc} {ls : Array Slot} (C : fw_C p s m #[Value.ref b] meth c cL_law 4 ret wsL_law RL) (hK : fw_K G (fun q : Nat => s.heap.size ≤ q) s) (hX : va_X b L xs s s.heap) (hbl : b < s.heap.size) (hbA : ¬ (fun q : Nat => s.heap.size ≤ q) b) (hR : Rl kt iv ar jv br) (hp : pu_copy Rl kt iv ar jv br (xs (x3 + 1).toNatClampNeg) (xs (x3 + 2).toNatClampNeg) (xs (x3 + 3).toNatClampNeg) (xs (x3 + 4).toNatClampNeg) (xs (x3 + 5).toNatClampNeg)) (v1 : vp_in (x3 + 1) L) (v2 : vp_in (x3 + 2) L) (v3 : vp_in (x3 + 3) L) (v4 : vp_in (x3 + 4) L) (v5 : vp_in (x3 + 5) L) (hc : cells + 2 ≤ 600000) (hs : slots + 222 ≤ 7302250) (hG : fw_H G (mw G mh md jv br ++ kw G ad kt iv ar) (fun q : Nat => s.heap.size ≤ q) s H locs) (hl : lv_has ls 4 [(0, .ref b), (1, .ref (ad 0)), (2, .ref mh), (3, .int x3)]) (kX : ∀ (ad : Nat → Nat) (kt : kw_T) (iv : fw_F) (ar : fw_R) (jv : fw_F) (br : fw_R) (H : Heap) (locs : List Loc) (ls : Array Slot), Rl kt iv ar jv br → fw_H G (mw G mh md jv br ++ kw G ad kt iv ar) (fun q : Nat => s.heap.size ≤ q) s H locs → lv_has ls 4 [(0, .ref b), (1, .ref (ad 0)), (2, .ref mh), (3, .int x3)] → W p l e room_1 s m #[Value.ref b] below meth c H locs (cells + 2) (slots + 222) (lw_Z below #[Value.ref b] s) (F0 m 1757 ls [])) : W p l e room_1 s m #[Value.ref b] below meth c H locs cells slots (lw_Z below #[Value.ref b] s) (F0 m 1566 ls []) := by
  obtain ⟨r, P10, P9, hR, w1, w2⟩ := hp
  refine lv_aload_n C.1 C.2.1 dL_law_1566 rfl (lv_at hl 1 rfl) ?_
  refine lv_aload_n C.1 C.2.1 dL_law_1567 rfl (lv_at hl 0 rfl) ?_
  refine lv_iload_n C.1 C.2.1 dL_law_1568 rfl (lv_at hl 3 rfl) ?_
  refine lv_iconst (v := 1) C.1 C.2.1 dL_law_1569 (by decide) ?_
  refine lv_iadd C.1 C.2.1 dL_law_1570 ?_
  refine va_sld C.1 C.2.1 hX hbl hbA hG.2.2 v1 dL_law_1571 ?_
  refine lv_aload_n C.1 C.2.1 dL_law_1572 rfl (lv_at hl 0 rfl) ?_
  refine lv_iload_n C.1 C.2.1 dL_law_1573 rfl (lv_at hl 3 rfl) ?_
  refine lv_iconst (v := 2) C.1 C.2.1 dL_law_1574 (by decide) ?_
  refine lv_iadd C.1 C.2.1 dL_law_1575 ?_
  refine va_sld C.1 C.2.1 hX hbl hbA hG.2.2 v2 dL_law_1576 ?_
  refine lv_aload_n C.1 C.2.1 dL_law_1577 rfl (lv_at hl 0 rfl) ?_
  refine lv_iload_n C.1 C.2.1 dL_law_1578 rfl (lv_at hl 3 rfl) ?_
  refine lv_iconst (v := 3) C.1 C.2.1 dL_law_1579 (by decide) ?_
  refine lv_iadd C.1 C.2.1 dL_law_1580 ?_
  refine va_sld C.1 C.2.1 hX hbl hbA hG.2.2 v3 dL_law_1581 ?_
  refine lv_aload_n C.1 C.2.1 dL_law_1582 rfl (lv_at hl 0 rfl) ?_
  refine lv_iload_n C.1 C.2.1 dL_law_1583 rfl (lv_at hl 3 rfl) ?_
  refine lv_iconst (v := 4) C.1 C.2.1 dL_law_1584 (by decide) ?_
  refine lv_iadd C.1 C.2.1 dL_law_1585 ?_
  refine va_sld C.1 C.2.1 hX hbl hbA hG.2.2 v4 dL_law_1586 ?_
  refine lv_aload_n C.1 C.2.1 dL_law_1587 rfl (lv_at hl 0 rfl) ?_
  refine lv_iload_n C.1 C.2.1 dL_law_1588 rfl (lv_at hl 3 rfl) ?_
  refine lv_iconst (v := 5) C.1 C.2.1 dL_law_1589 (by decide) ?_
  refine lv_iadd C.1 C.2.1 dL_law_1590 ?_
  refine va_sld C.1 C.2.1 hX hbl hbA hG.2.2 v5 dL_law_1591 ?_
  refine fx_calli (U := fw_F × fw_R) (w1 := (fun u : fw_F × fw_R => kw G ad kt u.1 u.2)) (va_runV (As := [.int (xs (x3 + 1).toNatClampNeg), .int (xs (x3 + 2).toNatClampNeg), .int (xs (x3 + 3).toNatClampNeg), .int (xs (x3 + 4).toNatClampNeg), .int (xs (x3 + 5).toNatClampNeg)]) (rest := []) ⟨C.1, C.2.1, C.2.2.2.2.2.2, C.2.2.2.2.2.1, C.2.2.2.2.1⟩ (soX9_copy l G ad kt iv ar (xs (x3 + 1).toNatClampNeg) (xs (x3 + 2).toNatClampNeg) (xs (x3 + 3).toNatClampNeg) (xs (x3 + 4).toNatClampNeg) (xs (x3 + 5).toNatClampNeg) _ w1 H.size) (cwV 5 C.2.2.2.2.1 gL_law_X9_copy rfl rfl rfl (by decide +kernel) ⟨Nat.le_of_ble_eq_true rfl, Nat.le_of_ble_eq_true rfl⟩) (fw_preV (fx_sub hG) hK (ci := 9) rfl kw_o9) rfl rfl hl.1 rfl (lv_room (Nat.le_of_ble_eq_true rfl)) dL_law_1592 ⟨by show cells + 0 ≤ 600000; omega, by show slots + 0 ≤ 7302250; omega⟩) hG hK (fun r1 u H locs h hG => ?_)
  obtain ⟨iv2, ar2⟩ := u
  obtain ⟨e1, p9⟩ := h
  dsimp only at p9 hG
  have hG := fx_swap hG
  refine lv_aload_n C.1 C.2.1 dL_law_1595 rfl (lv_at hl 2 rfl) ?_
  refine lv_aload_n C.1 C.2.1 dL_law_1596 rfl (lv_at hl 0 rfl) ?_
  refine lv_iload_n C.1 C.2.1 dL_law_1597 rfl (lv_at hl 3 rfl) ?_
  refine lv_iconst (v := 1) C.1 C.2.1 dL_law_1598 (by decide) ?_
  refine lv_iadd C.1 C.2.1 dL_law_1599 ?_
  refine va_sld C.1 C.2.1 hX hbl hbA hG.2.2 v1 dL_law_1600 ?_
  refine lv_aload_n C.1 C.2.1 dL_law_1601 rfl (lv_at hl 0 rfl) ?_
  refine lv_iload_n C.1 C.2.1 dL_law_1602 rfl (lv_at hl 3 rfl) ?_
  refine lv_iconst (v := 2) C.1 C.2.1 dL_law_1603 (by decide) ?_
  refine lv_iadd C.1 C.2.1 dL_law_1604 ?_
  refine va_sld C.1 C.2.1 hX hbl hbA hG.2.2 v2 dL_law_1605 ?_
  refine lv_aload_n C.1 C.2.1 dL_law_1606 rfl (lv_at hl 0 rfl) ?_
  refine lv_iload_n C.1 C.2.1 dL_law_1607 rfl (lv_at hl 3 rfl) ?_
  refine lv_iconst (v := 3) C.1 C.2.1 dL_law_1608 (by decide) ?_
  refine lv_iadd C.1 C.2.1 dL_law_1609 ?_
  refine va_sld C.1 C.2.1 hX hbl hbA hG.2.2 v3 dL_law_1610 ?_
  refine lv_aload_n C.1 C.2.1 dL_law_1611 rfl (lv_at hl 0 rfl) ?_
  refine lv_iload_n C.1 C.2.1 dL_law_1612 rfl (lv_at hl 3 rfl) ?_
  refine lv_iconst (v := 4) C.1 C.2.1 dL_law_1613 (by decide) ?_
  refine lv_iadd C.1 C.2.1 dL_law_1614 ?_
  refine va_sld C.1 C.2.1 hX hbl hbA hG.2.2 v4 dL_law_1615 ?_
  refine lv_aload_n C.1 C.2.1 dL_law_1616 rfl (lv_at hl 0 rfl) ?_
  refine lv_iload_n C.1 C.2.1 dL_law_1617 rfl (lv_at hl 3 rfl) ?_
  refine lv_iconst (v := 5) C.1 C.2.1 dL_law_1618 (by decide) ?_
  refine lv_iadd C.1 C.2.1 dL_law_1619 ?_
  refine va_sld C.1 C.2.1 hX hbl hbA hG.2.2 v5 dL_law_1620 ?_
  refine fx_calli (U := fw_F × fw_R) (w1 := fun u => mw G mh md u.1 u.2) (va_runV (As := [.int (xs (x3 + 1).toNatClampNeg), .int (xs (x3 + 2).toNatClampNeg), .int (xs (x3 + 3).toNatClampNeg), .int (xs (x3 + 4).toNatClampNeg), .int (xs (x3 + 5).toNatClampNeg)]) (rest := [.int r1]) ⟨C.1, C.2.1, C.2.2.2.2.2.2, C.2.2.2.2.2.1, C.2.2.2.2.1⟩ (soX10_copy l G mh md jv br (xs (x3 + 1).toNatClampNeg) (xs (x3 + 2).toNatClampNeg) (xs (x3 + 3).toNatClampNeg) (xs (x3 + 4).toNatClampNeg) (xs (x3 + 5).toNatClampNeg) _ w2 H.size) (cwV 5 C.2.2.2.2.1 gL_law_X10_copy rfl rfl rfl (by decide +kernel) ⟨Nat.le_of_ble_eq_true rfl, Nat.le_of_ble_eq_true rfl⟩) (fw_preV (fx_sub hG) hK (ci := 10) rfl mw_o) rfl rfl hl.1 rfl (lv_room (Nat.le_of_ble_eq_true rfl)) dL_law_1621 ⟨by show cells + 0 + 0 ≤ 600000; omega, by show slots + 0 + 0 ≤ 7302250; omega⟩) hG hK (fun r3 u H locs h hG => ?_)
  obtain ⟨jv2, br2⟩ := u
  obtain ⟨e2, p10⟩ := h
  dsimp only at p10 hG
  have hG := fx_swap hG
  refine lv_icmp_eq (tgt := 1757) C.1 C.2.1 dL_law_1624 (by decide) (fun _ => ?_) (fun c1 => absurd (e1.trans e2.symm) c1)
  refine W.widen (k := cells + 2) (n := slots + 222) (by omega) (by omega) ?_
  exact kX _ _ _ _ _ _ _ _ _ (hR _ _ p9 _ _ p10) hG hl
set_option maxHeartbeats 4000000 in
set_option maxRecDepth 100000 in
theorem lw_c30 {p : Program} {l : Launch} {e : Env} {s : State} {m : MethodId} {below : List Frame} {meth : Method} {c : Code} {b L : Nat} {xs : Nat → Int32} {G : fw_G} {mh : Nat} {md : Nat → Nat} {Rl : kw_T → fw_F → fw_R → fw_F → fw_R → Prop} {ad : Nat → Nat} {kt : kw_T} {iv : fw_F} {ar : fw_R} {jv : fw_F} {br : fw_R} {x3 : Int32} {cells slots : Nat} {H : Heap} {locs : List Loc} {ls : Array Slot} (C : fw_C p s m #[Value.ref b] meth c cL_law 4 ret wsL_law RL) (hK : fw_K G (fun q : Nat => s.heap.size ≤ q) s) (hX : va_X b L xs s s.heap) (hbl : b < s.heap.size) (hbA : ¬ (fun q : Nat => s.heap.size ≤ q) b) (hR : Rl kt iv ar jv br) (hp : pu_tell Rl kt iv ar jv br (xs (x3 + 1).toNatClampNeg)) (v1 : vp_in (x3 + 1) L) (hc : cells + 2 ≤ 600000) (hs : slots + 222 ≤ 7302250) (hG : fw_H G (mw G mh md jv br ++ kw G ad kt iv ar) (fun q : Nat => s.heap.size ≤ q) s H locs) (hl : lv_has ls 4 [(0, .ref b), (1, .ref (ad 0)), (2, .ref mh), (3, .int x3)]) (kX : ∀ (ad : Nat → Nat) (kt : kw_T) (iv : fw_F) (ar : fw_R) (jv : fw_F) (br : fw_R) (H : Heap) (locs : List Loc) (ls : Array Slot), Rl kt iv ar jv br → fw_H G (mw G mh md jv br ++ kw G ad kt iv ar) (fun q : Nat => s.heap.size ≤ q) s H locs → lv_has ls 4 [(0, .ref b), (1, .ref (ad 0)), (2, .ref mh), (3, .int x3)] → W p l e room_1 s m #[Value.ref b] below meth c H locs (cells + 2) (slots + 222) (lw_Z below #[Value.ref b] s) (F0 m 1757 ls [])) : W p l e room_1 s m #[Value.ref b] below meth c H locs cells slots (lw_Z below #[Value.ref b] s) (F0 m 1629 ls []) := by
  obtain ⟨r, P10, P9, hR, w1, w2⟩ := hp
  refine lv_aload_n C.1 C.2.1 dL_law_1629 rfl (lv_at hl 1 rfl) ?_
  refine lv_aload_n C.1 C.2.1 dL_law_1630 rfl (lv_at hl 0 rfl) ?_
  refine lv_iload_n C.1 C.2.1 dL_law_1631 rfl (lv_at hl 3 rfl) ?_
  refine lv_iconst (v := 1) C.1 C.2.1 dL_law_1632 (by decide) ?_
  refine lv_iadd C.1 C.2.1 dL_law_1633 ?_
  refine va_sld C.1 C.2.1 hX hbl hbA hG.2.2 v1 dL_law_1634 ?_
  refine fx_calli (U := fw_F × fw_R) (w1 := (fun u : fw_F × fw_R => kw G ad kt u.1 u.2)) (va_runV (As := [.int (xs (x3 + 1).toNatClampNeg)]) (rest := []) ⟨C.1, C.2.1, C.2.2.2.2.2.2, C.2.2.2.2.2.1, C.2.2.2.2.1⟩ (soX9_tell l G ad kt iv ar (xs (x3 + 1).toNatClampNeg) _ w1 H.size) (cwV 1 C.2.2.2.2.1 gL_law_X9_tell rfl rfl rfl (by decide +kernel) ⟨Nat.le_of_ble_eq_true rfl, Nat.le_of_ble_eq_true rfl⟩) (fw_preV (fx_sub hG) hK (ci := 9) rfl kw_o9) rfl rfl hl.1 rfl (lv_room (Nat.le_of_ble_eq_true rfl)) dL_law_1635 ⟨by show cells + 0 ≤ 600000; omega, by show slots + 0 ≤ 7302250; omega⟩) hG hK (fun r1 u H locs h hG => ?_)
  obtain ⟨iv2, ar2⟩ := u
  obtain ⟨e1, p9⟩ := h
  dsimp only at p9 hG
  have hG := fx_swap hG
  refine lv_aload_n C.1 C.2.1 dL_law_1638 rfl (lv_at hl 2 rfl) ?_
  refine lv_aload_n C.1 C.2.1 dL_law_1639 rfl (lv_at hl 0 rfl) ?_
  refine lv_iload_n C.1 C.2.1 dL_law_1640 rfl (lv_at hl 3 rfl) ?_
  refine lv_iconst (v := 1) C.1 C.2.1 dL_law_1641 (by decide) ?_
  refine lv_iadd C.1 C.2.1 dL_law_1642 ?_
  refine va_sld C.1 C.2.1 hX hbl hbA hG.2.2 v1 dL_law_1643 ?_
  refine fx_calli (U := fw_F × fw_R) (w1 := fun u => mw G mh md u.1 u.2) (va_runV (As := [.int (xs (x3 + 1).toNatClampNeg)]) (rest := [.int r1]) ⟨C.1, C.2.1, C.2.2.2.2.2.2, C.2.2.2.2.2.1, C.2.2.2.2.1⟩ (soX10_tell l G mh md jv br (xs (x3 + 1).toNatClampNeg) _ w2 H.size) (cwV 1 C.2.2.2.2.1 gL_law_X10_tell rfl rfl rfl (by decide +kernel) ⟨Nat.le_of_ble_eq_true rfl, Nat.le_of_ble_eq_true rfl⟩) (fw_preV (fx_sub hG) hK (ci := 10) rfl mw_o) rfl rfl hl.1 rfl (lv_room (Nat.le_of_ble_eq_true rfl)) dL_law_1644 ⟨by show cells + 0 + 0 ≤ 600000; omega, by show slots + 0 + 0 ≤ 7302250; omega⟩) hG hK (fun r3 u H locs h hG => ?_)
  obtain ⟨jv2, br2⟩ := u
  obtain ⟨e2, p10⟩ := h
  dsimp only at p10 hG
  have hG := fx_swap hG
  refine lv_icmp_eq (tgt := 1757) C.1 C.2.1 dL_law_1647 (by decide) (fun _ => ?_) (fun c1 => absurd (e1.trans e2.symm) c1)
  refine W.widen (k := cells + 2) (n := slots + 222) (by omega) (by omega) ?_
  exact kX _ _ _ _ _ _ _ _ _ (hR _ _ p9 _ _ p10) hG hl
set_option maxHeartbeats 4000000 in
set_option maxRecDepth 100000 in
theorem lw_c31 {p : Program} {l : Launch} {e : Env} {s : State} {m : MethodId} {below : List Frame} {meth : Method} {c : Code} {b L : Nat} {xs : Nat → Int32} {G : fw_G} {mh : Nat} {md : Nat → Nat} {Rl : kw_T → fw_F → fw_R → fw_F → fw_R → Prop} {ad : Nat → Nat} {kt : kw_T} {iv : fw_F} {ar : fw_R} {jv : fw_F} {br : fw_R} {x3 : Int32} {cells slots : Nat} {H : Heap} {locs : List Loc} {ls : Array Slot} (C : fw_C p s m #[Value.ref b] meth c cL_law 4 ret wsL_law RL) (hK : fw_K G (fun q : Nat => s.heap.size ≤ q) s) (hX : va_X b L xs s s.heap) (hbl : b < s.heap.size) (hbA : ¬ (fun q : Nat => s.heap.size ≤ q) b) (hR : Rl kt iv ar jv br) (hp : pu_whet Rl kt iv ar jv br (xs (x3 + 1).toNatClampNeg)) (v1 : vp_in (x3 + 1) L) (hc : cells + 2 ≤ 600000) (hs : slots + 222 ≤ 7302250) (hG : fw_H G (mw G mh md jv br ++ kw G ad kt iv ar) (fun q : Nat => s.heap.size ≤ q) s H locs) (hl : lv_has ls 4 [(0, .ref b), (1, .ref (ad 0)), (2, .ref mh), (3, .int x3)]) (kX : ∀ (ad : Nat → Nat) (kt : kw_T) (iv : fw_F) (ar : fw_R) (jv : fw_F) (br : fw_R) (H : Heap) (locs : List Loc) (ls : Array Slot), Rl kt iv ar jv br → fw_H G (mw G mh md jv br ++ kw G ad kt iv ar) (fun q : Nat => s.heap.size ≤ q) s H locs → lv_has ls 4 [(0, .ref b), (1, .ref (ad 0)), (2, .ref mh), (3, .int x3)] → W p l e room_1 s m #[Value.ref b] below meth c H locs (cells + 2) (slots + 222) (lw_Z below #[Value.ref b] s) (F0 m 1757 ls [])) : W p l e room_1 s m #[Value.ref b] below meth c H locs cells slots (lw_Z below #[Value.ref b] s) (F0 m 1652 ls []) := by
  obtain ⟨r, P10, P9, hR, w1, w2⟩ := hp
  refine lv_aload_n C.1 C.2.1 dL_law_1652 rfl (lv_at hl 1 rfl) ?_
  refine lv_aload_n C.1 C.2.1 dL_law_1653 rfl (lv_at hl 0 rfl) ?_
  refine lv_iload_n C.1 C.2.1 dL_law_1654 rfl (lv_at hl 3 rfl) ?_
  refine lv_iconst (v := 1) C.1 C.2.1 dL_law_1655 (by decide) ?_
  refine lv_iadd C.1 C.2.1 dL_law_1656 ?_
  refine va_sld C.1 C.2.1 hX hbl hbA hG.2.2 v1 dL_law_1657 ?_
  refine fx_calli (U := fw_F × fw_R) (w1 := (fun u : fw_F × fw_R => kw G ad kt u.1 u.2)) (va_runV (As := [.int (xs (x3 + 1).toNatClampNeg)]) (rest := []) ⟨C.1, C.2.1, C.2.2.2.2.2.2, C.2.2.2.2.2.1, C.2.2.2.2.1⟩ (soX9_whet l G ad kt iv ar (xs (x3 + 1).toNatClampNeg) _ w1 H.size) (cwV 1 C.2.2.2.2.1 gL_law_X9_whet rfl rfl rfl (by decide +kernel) ⟨Nat.le_of_ble_eq_true rfl, Nat.le_of_ble_eq_true rfl⟩) (fw_preV (fx_sub hG) hK (ci := 9) rfl kw_o9) rfl rfl hl.1 rfl (lv_room (Nat.le_of_ble_eq_true rfl)) dL_law_1658 ⟨by show cells + 0 ≤ 600000; omega, by show slots + 0 ≤ 7302250; omega⟩) hG hK (fun r1 u H locs h hG => ?_)
  obtain ⟨iv2, ar2⟩ := u
  obtain ⟨e1, p9⟩ := h
  dsimp only at p9 hG
  have hG := fx_swap hG
  refine lv_aload_n C.1 C.2.1 dL_law_1661 rfl (lv_at hl 2 rfl) ?_
  refine lv_aload_n C.1 C.2.1 dL_law_1662 rfl (lv_at hl 0 rfl) ?_
  refine lv_iload_n C.1 C.2.1 dL_law_1663 rfl (lv_at hl 3 rfl) ?_
  refine lv_iconst (v := 1) C.1 C.2.1 dL_law_1664 (by decide) ?_
  refine lv_iadd C.1 C.2.1 dL_law_1665 ?_
  refine va_sld C.1 C.2.1 hX hbl hbA hG.2.2 v1 dL_law_1666 ?_
  refine fx_calli (U := fw_F × fw_R) (w1 := fun u => mw G mh md u.1 u.2) (va_runV (As := [.int (xs (x3 + 1).toNatClampNeg)]) (rest := [.int r1]) ⟨C.1, C.2.1, C.2.2.2.2.2.2, C.2.2.2.2.2.1, C.2.2.2.2.1⟩ (soX10_whet l G mh md jv br (xs (x3 + 1).toNatClampNeg) _ w2 H.size) (cwV 1 C.2.2.2.2.1 gL_law_X10_whet rfl rfl rfl (by decide +kernel) ⟨Nat.le_of_ble_eq_true rfl, Nat.le_of_ble_eq_true rfl⟩) (fw_preV (fx_sub hG) hK (ci := 10) rfl mw_o) rfl rfl hl.1 rfl (lv_room (Nat.le_of_ble_eq_true rfl)) dL_law_1667 ⟨by show cells + 0 + 0 ≤ 600000; omega, by show slots + 0 + 0 ≤ 7302250; omega⟩) hG hK (fun r3 u H locs h hG => ?_)
  obtain ⟨jv2, br2⟩ := u
  obtain ⟨e2, p10⟩ := h
  dsimp only at p10 hG
  have hG := fx_swap hG
  refine lv_icmp_eq (tgt := 1757) C.1 C.2.1 dL_law_1670 (by decide) (fun _ => ?_) (fun c1 => absurd (e1.trans e2.symm) c1)
  refine W.widen (k := cells + 2) (n := slots + 222) (by omega) (by omega) ?_
  exact kX _ _ _ _ _ _ _ _ _ (hR _ _ p9 _ _ p10) hG hl
set_option maxHeartbeats 4000000 in
set_option maxRecDepth 100000 in
theorem lw_c32 {p : Program} {l : Launch} {e : Env} {s : State} {m : MethodId} {below : List Frame} {meth : Method} {c : Code} {b L : Nat} {xs : Nat → Int32} {G : fw_G} {mh : Nat} {md : Nat → Nat} {Rl : kw_T → fw_F → fw_R → fw_F → fw_R → Prop} {ad : Nat → Nat} {kt : kw_T} {iv : fw_F} {ar : fw_R} {jv : fw_F} {br : fw_R} {x3 : Int32} {cells slots : Nat} {H : Heap} {locs : List Loc} {ls : Array Slot} (C : fw_C p s m #[Value.ref b] meth c cL_law 4 ret wsL_law RL) (hK : fw_K G (fun q : Nat => s.heap.size ≤ q) s) (hX : va_X b L xs s s.heap) (hbl : b < s.heap.size) (hbA : ¬ (fun q : Nat => s.heap.size ≤ q) b) (hR : Rl kt iv ar jv br) (hp : pu_as Rl kt iv ar jv br (xs (x3 + 1).toNatClampNeg) (xs (x3 + 2).toNatClampNeg)) (v1 : vp_in (x3 + 1) L) (v2 : vp_in (x3 + 2) L) (hc : cells + 2 ≤ 600000) (hs : slots + 222 ≤ 7302250) (hG : fw_H G (mw G mh md jv br ++ kw G ad kt iv ar) (fun q : Nat => s.heap.size ≤ q) s H locs) (hl : lv_has ls 4 [(0, .ref b), (1, .ref (ad 0)), (2, .ref mh), (3, .int x3)]) (kX : ∀ (ad : Nat → Nat) (kt : kw_T) (iv : fw_F) (ar : fw_R) (jv : fw_F) (br : fw_R) (H : Heap) (locs : List Loc) (ls : Array Slot), Rl kt iv ar jv br → fw_H G (mw G mh md jv br ++ kw G ad kt iv ar) (fun q : Nat => s.heap.size ≤ q) s H locs → lv_has ls 4 [(0, .ref b), (1, .ref (ad 0)), (2, .ref mh), (3, .int x3)] → W p l e room_1 s m #[Value.ref b] below meth c H locs (cells + 2) (slots + 222) (lw_Z below #[Value.ref b] s) (F0 m 1757 ls [])) : W p l e room_1 s m #[Value.ref b] below meth c H locs cells slots (lw_Z below #[Value.ref b] s) (F0 m 1675 ls []) := by
  obtain ⟨r, P10, P9, hR, w1, w2⟩ := hp
  refine lv_aload_n C.1 C.2.1 dL_law_1675 rfl (lv_at hl 1 rfl) ?_
  refine lv_aload_n C.1 C.2.1 dL_law_1676 rfl (lv_at hl 0 rfl) ?_
  refine lv_iload_n C.1 C.2.1 dL_law_1677 rfl (lv_at hl 3 rfl) ?_
  refine lv_iconst (v := 1) C.1 C.2.1 dL_law_1678 (by decide) ?_
  refine lv_iadd C.1 C.2.1 dL_law_1679 ?_
  refine va_sld C.1 C.2.1 hX hbl hbA hG.2.2 v1 dL_law_1680 ?_
  refine lv_aload_n C.1 C.2.1 dL_law_1681 rfl (lv_at hl 0 rfl) ?_
  refine lv_iload_n C.1 C.2.1 dL_law_1682 rfl (lv_at hl 3 rfl) ?_
  refine lv_iconst (v := 2) C.1 C.2.1 dL_law_1683 (by decide) ?_
  refine lv_iadd C.1 C.2.1 dL_law_1684 ?_
  refine va_sld C.1 C.2.1 hX hbl hbA hG.2.2 v2 dL_law_1685 ?_
  refine fx_calli (U := fw_F × fw_R) (w1 := (fun u : fw_F × fw_R => kw G ad kt u.1 u.2)) (va_runV (As := [.int (xs (x3 + 1).toNatClampNeg), .int (xs (x3 + 2).toNatClampNeg)]) (rest := []) ⟨C.1, C.2.1, C.2.2.2.2.2.2, C.2.2.2.2.2.1, C.2.2.2.2.1⟩ (soX9_as l G ad kt iv ar (xs (x3 + 1).toNatClampNeg) (xs (x3 + 2).toNatClampNeg) _ w1 H.size) (cwV 2 C.2.2.2.2.1 gL_law_X9_as rfl rfl rfl (by decide +kernel) ⟨Nat.le_of_ble_eq_true rfl, Nat.le_of_ble_eq_true rfl⟩) (fw_preV (fx_sub hG) hK (ci := 9) rfl kw_o9) rfl rfl hl.1 rfl (lv_room (Nat.le_of_ble_eq_true rfl)) dL_law_1686 ⟨by show cells + 0 ≤ 600000; omega, by show slots + 0 ≤ 7302250; omega⟩) hG hK (fun r1 u H locs h hG => ?_)
  obtain ⟨iv2, ar2⟩ := u
  obtain ⟨e1, p9⟩ := h
  dsimp only at p9 hG
  have hG := fx_swap hG
  refine lv_aload_n C.1 C.2.1 dL_law_1689 rfl (lv_at hl 2 rfl) ?_
  refine lv_aload_n C.1 C.2.1 dL_law_1690 rfl (lv_at hl 0 rfl) ?_
  refine lv_iload_n C.1 C.2.1 dL_law_1691 rfl (lv_at hl 3 rfl) ?_
  refine lv_iconst (v := 1) C.1 C.2.1 dL_law_1692 (by decide) ?_
  refine lv_iadd C.1 C.2.1 dL_law_1693 ?_
  refine va_sld C.1 C.2.1 hX hbl hbA hG.2.2 v1 dL_law_1694 ?_
  refine lv_aload_n C.1 C.2.1 dL_law_1695 rfl (lv_at hl 0 rfl) ?_
  refine lv_iload_n C.1 C.2.1 dL_law_1696 rfl (lv_at hl 3 rfl) ?_
  refine lv_iconst (v := 2) C.1 C.2.1 dL_law_1697 (by decide) ?_
  refine lv_iadd C.1 C.2.1 dL_law_1698 ?_
  refine va_sld C.1 C.2.1 hX hbl hbA hG.2.2 v2 dL_law_1699 ?_
  refine fx_calli (U := fw_F × fw_R) (w1 := fun u => mw G mh md u.1 u.2) (va_runV (As := [.int (xs (x3 + 1).toNatClampNeg), .int (xs (x3 + 2).toNatClampNeg)]) (rest := [.int r1]) ⟨C.1, C.2.1, C.2.2.2.2.2.2, C.2.2.2.2.2.1, C.2.2.2.2.1⟩ (soX10_as l G mh md jv br (xs (x3 + 1).toNatClampNeg) (xs (x3 + 2).toNatClampNeg) _ w2 H.size) (cwV 2 C.2.2.2.2.1 gL_law_X10_as rfl rfl rfl (by decide +kernel) ⟨Nat.le_of_ble_eq_true rfl, Nat.le_of_ble_eq_true rfl⟩) (fw_preV (fx_sub hG) hK (ci := 10) rfl mw_o) rfl rfl hl.1 rfl (lv_room (Nat.le_of_ble_eq_true rfl)) dL_law_1700 ⟨by show cells + 0 + 0 ≤ 600000; omega, by show slots + 0 + 0 ≤ 7302250; omega⟩) hG hK (fun r3 u H locs h hG => ?_)
  obtain ⟨jv2, br2⟩ := u
  obtain ⟨e2, p10⟩ := h
  dsimp only at p10 hG
  have hG := fx_swap hG
  refine lv_icmp_eq (tgt := 1757) C.1 C.2.1 dL_law_1703 (by decide) (fun _ => ?_) (fun c1 => absurd (e1.trans e2.symm) c1)
  refine W.widen (k := cells + 2) (n := slots + 222) (by omega) (by omega) ?_
  exact kX _ _ _ _ _ _ _ _ _ (hR _ _ p9 _ _ p10) hG hl
set_option maxHeartbeats 4000000 in
set_option maxRecDepth 100000 in
theorem lw_c33 {p : Program} {l : Launch} {e : Env} {s : State} {m : MethodId} {below : List Frame} {meth : Method} {c : Code} {b L : Nat} {xs : Nat → Int32} {G : fw_G} {mh : Nat} {md : Nat → Nat} {Rl : kw_T → fw_F → fw_R → fw_F → fw_R → Prop} {ad : Nat → Nat} {kt : kw_T} {iv : fw_F} {ar : fw_R} {jv : fw_F} {br : fw_R} {x3 : Int32} {cells slots : Nat} {H : Heap} {locs : List Loc} {ls : Array Slot} (C : fw_C p s m #[Value.ref b] meth c cL_law 4 ret wsL_law RL) (hK : fw_K G (fun q : Nat => s.heap.size ≤ q) s) (hX : va_X b L xs s s.heap) (hbl : b < s.heap.size) (hbA : ¬ (fun q : Nat => s.heap.size ≤ q) b) (hR : Rl kt iv ar jv br) (hp : pu_trace Rl kt iv ar jv br )  (hc : cells + 2 ≤ 600000) (hs : slots + 222 ≤ 7302250) (hG : fw_H G (mw G mh md jv br ++ kw G ad kt iv ar) (fun q : Nat => s.heap.size ≤ q) s H locs) (hl : lv_has ls 4 [(0, .ref b), (1, .ref (ad 0)), (2, .ref mh), (3, .int x3)]) (kX : ∀ (ad : Nat → Nat) (kt : kw_T) (iv : fw_F) (ar : fw_R) (jv : fw_F) (br : fw_R) (H : Heap) (locs : List Loc) (ls : Array Slot), Rl kt iv ar jv br → fw_H G (mw G mh md jv br ++ kw G ad kt iv ar) (fun q : Nat => s.heap.size ≤ q) s H locs → lv_has ls 4 [(0, .ref b), (1, .ref (ad 0)), (2, .ref mh), (3, .int x3)] → W p l e room_1 s m #[Value.ref b] below meth c H locs (cells + 2) (slots + 222) (lw_Z below #[Value.ref b] s) (F0 m 1757 ls [])) : W p l e room_1 s m #[Value.ref b] below meth c H locs cells slots (lw_Z below #[Value.ref b] s) (F0 m 1708 ls []) := by
  obtain ⟨r, hR, w1, w2⟩ := hp
  refine lv_aload_n C.1 C.2.1 dL_law_1708 rfl (lv_at hl 1 rfl) ?_
  refine fx_calli (U := fw_F × fw_R) (w1 := (fun u : fw_F × fw_R => kw G ad kt u.1 u.2)) (va_runV (As := []) (rest := []) ⟨C.1, C.2.1, C.2.2.2.2.2.2, C.2.2.2.2.2.1, C.2.2.2.2.1⟩ (soX9_trace l G ad kt iv ar  _ w1 H.size) (cwV 0 C.2.2.2.2.1 gL_law_X9_trace rfl rfl rfl (by decide +kernel) ⟨Nat.le_of_ble_eq_true rfl, Nat.le_of_ble_eq_true rfl⟩) (fw_preV (fx_sub hG) hK (ci := 9) rfl kw_o9) rfl rfl hl.1 rfl (lv_room (Nat.le_of_ble_eq_true rfl)) dL_law_1709 ⟨by show cells + 0 ≤ 600000; omega, by show slots + 0 ≤ 7302250; omega⟩) hG hK (fun r1 u H locs h hG => ?_)
  obtain ⟨iv2, ar2⟩ := u
  obtain ⟨e1, ei, ea⟩ := h
  dsimp only at ei ea
  subst ei ea
  dsimp only at hG
  have hG := fx_swap hG
  refine lv_aload_n C.1 C.2.1 dL_law_1712 rfl (lv_at hl 2 rfl) ?_
  refine fx_calli (U := fw_F × fw_R) (w1 := fun u => mw G mh md u.1 u.2) (va_runV (As := []) (rest := [.int r1]) ⟨C.1, C.2.1, C.2.2.2.2.2.2, C.2.2.2.2.2.1, C.2.2.2.2.1⟩ (soX10_trace l G mh md jv br  _ w2 H.size) (cwV 0 C.2.2.2.2.1 gL_law_X10_trace rfl rfl rfl (by decide +kernel) ⟨Nat.le_of_ble_eq_true rfl, Nat.le_of_ble_eq_true rfl⟩) (fw_preV (fx_sub hG) hK (ci := 10) rfl mw_o) rfl rfl hl.1 rfl (lv_room (Nat.le_of_ble_eq_true rfl)) dL_law_1713 ⟨by show cells + 0 + 0 ≤ 600000; omega, by show slots + 0 + 0 ≤ 7302250; omega⟩) hG hK (fun r3 u H locs h hG => ?_)
  obtain ⟨jv2, br2⟩ := u
  obtain ⟨e2, ei, ea⟩ := h
  dsimp only at ei ea
  subst ei ea
  dsimp only at hG
  have hG := fx_swap hG
  refine lv_icmp_eq (tgt := 1757) C.1 C.2.1 dL_law_1716 (by decide) (fun _ => ?_) (fun c1 => absurd (e1.trans e2.symm) c1)
  refine W.widen (k := cells + 2) (n := slots + 222) (by omega) (by omega) ?_
  exact kX _ _ _ _ _ _ _ _ _ hR hG hl
set_option maxHeartbeats 4000000 in
set_option maxRecDepth 100000 in
theorem lw_c34 {p : Program} {l : Launch} {e : Env} {s : State} {m : MethodId} {below : List Frame} {meth : Method} {c : Code} {b L : Nat} {xs : Nat → Int32} {G : fw_G} {mh : Nat} {md : Nat → Nat} {Rl : kw_T → fw_F → fw_R → fw_F → fw_R → Prop} {ad : Nat → Nat} {kt : kw_T} {iv : fw_F} {ar : fw_R} {jv : fw_F} {br : fw_R} {x3 : Int32} {cells slots : Nat} {H : Heap} {locs : List Loc} {ls : Array Slot} (C : fw_C p s m #[Value.ref b] meth c cL_law 4 ret wsL_law RL) (hK : fw_K G (fun q : Nat => s.heap.size ≤ q) s) (hX : va_X b L xs s s.heap) (hbl : b < s.heap.size) (hbA : ¬ (fun q : Nat => s.heap.size ≤ q) b) (hR : Rl kt iv ar jv br) (hp : pu_fault Rl kt iv ar jv br )  (hc : cells + 2 ≤ 600000) (hs : slots + 222 ≤ 7302250) (hG : fw_H G (mw G mh md jv br ++ kw G ad kt iv ar) (fun q : Nat => s.heap.size ≤ q) s H locs) (hl : lv_has ls 4 [(0, .ref b), (1, .ref (ad 0)), (2, .ref mh), (3, .int x3)]) (kX : ∀ (ad : Nat → Nat) (kt : kw_T) (iv : fw_F) (ar : fw_R) (jv : fw_F) (br : fw_R) (H : Heap) (locs : List Loc) (ls : Array Slot), Rl kt iv ar jv br → fw_H G (mw G mh md jv br ++ kw G ad kt iv ar) (fun q : Nat => s.heap.size ≤ q) s H locs → lv_has ls 4 [(0, .ref b), (1, .ref (ad 0)), (2, .ref mh), (3, .int x3)] → W p l e room_1 s m #[Value.ref b] below meth c H locs (cells + 2) (slots + 222) (lw_Z below #[Value.ref b] s) (F0 m 1757 ls [])) : W p l e room_1 s m #[Value.ref b] below meth c H locs cells slots (lw_Z below #[Value.ref b] s) (F0 m 1721 ls []) := by
  obtain ⟨r, hR, w1, w2⟩ := hp
  refine lv_aload_n C.1 C.2.1 dL_law_1721 rfl (lv_at hl 1 rfl) ?_
  refine fx_calli (U := fw_F × fw_R) (w1 := (fun u : fw_F × fw_R => kw G ad kt u.1 u.2)) (va_runV (As := []) (rest := []) ⟨C.1, C.2.1, C.2.2.2.2.2.2, C.2.2.2.2.2.1, C.2.2.2.2.1⟩ (soX9_fault l G ad kt iv ar  _ w1 H.size) (cwV 0 C.2.2.2.2.1 gL_law_X9_fault rfl rfl rfl (by decide +kernel) ⟨Nat.le_of_ble_eq_true rfl, Nat.le_of_ble_eq_true rfl⟩) (fw_preV (fx_sub hG) hK (ci := 9) rfl kw_o9) rfl rfl hl.1 rfl (lv_room (Nat.le_of_ble_eq_true rfl)) dL_law_1722 ⟨by show cells + 0 ≤ 600000; omega, by show slots + 0 ≤ 7302250; omega⟩) hG hK (fun r1 u H locs h hG => ?_)
  obtain ⟨iv2, ar2⟩ := u
  obtain ⟨e1, ei, ea⟩ := h
  dsimp only at ei ea
  subst ei ea
  dsimp only at hG
  have hG := fx_swap hG
  refine lv_aload_n C.1 C.2.1 dL_law_1725 rfl (lv_at hl 2 rfl) ?_
  refine fx_calli (U := fw_F × fw_R) (w1 := fun u => mw G mh md u.1 u.2) (va_runV (As := []) (rest := [.int r1]) ⟨C.1, C.2.1, C.2.2.2.2.2.2, C.2.2.2.2.2.1, C.2.2.2.2.1⟩ (soX10_fault l G mh md jv br  _ w2 H.size) (cwV 0 C.2.2.2.2.1 gL_law_X10_fault rfl rfl rfl (by decide +kernel) ⟨Nat.le_of_ble_eq_true rfl, Nat.le_of_ble_eq_true rfl⟩) (fw_preV (fx_sub hG) hK (ci := 10) rfl mw_o) rfl rfl hl.1 rfl (lv_room (Nat.le_of_ble_eq_true rfl)) dL_law_1726 ⟨by show cells + 0 + 0 ≤ 600000; omega, by show slots + 0 + 0 ≤ 7302250; omega⟩) hG hK (fun r3 u H locs h hG => ?_)
  obtain ⟨jv2, br2⟩ := u
  obtain ⟨e2, ei, ea⟩ := h
  dsimp only at ei ea
  subst ei ea
  dsimp only at hG
  have hG := fx_swap hG
  refine lv_icmp_eq (tgt := 1757) C.1 C.2.1 dL_law_1729 (by decide) (fun _ => ?_) (fun c1 => absurd (e1.trans e2.symm) c1)
  refine W.widen (k := cells + 2) (n := slots + 222) (by omega) (by omega) ?_
  exact kX _ _ _ _ _ _ _ _ _ hR hG hl
set_option maxHeartbeats 4000000 in
set_option maxRecDepth 100000 in
theorem lw_c35 {p : Program} {l : Launch} {e : Env} {s : State} {m : MethodId} {below : List Frame} {meth : Method} {c : Code} {b L : Nat} {xs : Nat → Int32} {G : fw_G} {mh : Nat} {md : Nat → Nat} {Rl : kw_T → fw_F → fw_R → fw_F → fw_R → Prop} {ad : Nat → Nat} {kt : kw_T} {iv : fw_F} {ar : fw_R} {jv : fw_F} {br : fw_R} {x3 : Int32} {cells slots : Nat} {H : Heap} {locs : List Loc} {ls : Array Slot} (C : fw_C p s m #[Value.ref b] meth c cL_law 4 ret wsL_law RL) (hK : fw_K G (fun q : Nat => s.heap.size ≤ q) s) (hX : va_X b L xs s s.heap) (hbl : b < s.heap.size) (hbA : ¬ (fun q : Nat => s.heap.size ≤ q) b) (hR : Rl kt iv ar jv br) (hp : pu_many Rl kt iv ar jv br (xs (x3 + 1).toNatClampNeg)) (v1 : vp_in (x3 + 1) L) (hc : cells + 2 ≤ 600000) (hs : slots + 222 ≤ 7302250) (hG : fw_H G (mw G mh md jv br ++ kw G ad kt iv ar) (fun q : Nat => s.heap.size ≤ q) s H locs) (hl : lv_has ls 4 [(0, .ref b), (1, .ref (ad 0)), (2, .ref mh), (3, .int x3)]) (kX : ∀ (ad : Nat → Nat) (kt : kw_T) (iv : fw_F) (ar : fw_R) (jv : fw_F) (br : fw_R) (H : Heap) (locs : List Loc) (ls : Array Slot), Rl kt iv ar jv br → fw_H G (mw G mh md jv br ++ kw G ad kt iv ar) (fun q : Nat => s.heap.size ≤ q) s H locs → lv_has ls 4 [(0, .ref b), (1, .ref (ad 0)), (2, .ref mh), (3, .int x3)] → W p l e room_1 s m #[Value.ref b] below meth c H locs (cells + 2) (slots + 222) (lw_Z below #[Value.ref b] s) (F0 m 1757 ls [])) : W p l e room_1 s m #[Value.ref b] below meth c H locs cells slots (lw_Z below #[Value.ref b] s) (F0 m 1734 ls []) := by
  obtain ⟨r, hR, w1, w2⟩ := hp
  refine lv_aload_n C.1 C.2.1 dL_law_1734 rfl (lv_at hl 1 rfl) ?_
  refine lv_aload_n C.1 C.2.1 dL_law_1735 rfl (lv_at hl 0 rfl) ?_
  refine lv_iload_n C.1 C.2.1 dL_law_1736 rfl (lv_at hl 3 rfl) ?_
  refine lv_iconst (v := 1) C.1 C.2.1 dL_law_1737 (by decide) ?_
  refine lv_iadd C.1 C.2.1 dL_law_1738 ?_
  refine va_sld C.1 C.2.1 hX hbl hbA hG.2.2 v1 dL_law_1739 ?_
  refine fx_calli (U := fw_F × fw_R) (w1 := (fun u : fw_F × fw_R => kw G ad kt u.1 u.2)) (va_runV (As := [.int (xs (x3 + 1).toNatClampNeg)]) (rest := []) ⟨C.1, C.2.1, C.2.2.2.2.2.2, C.2.2.2.2.2.1, C.2.2.2.2.1⟩ (soX9_many l G ad kt iv ar (xs (x3 + 1).toNatClampNeg) _ w1 H.size) (cwV 1 C.2.2.2.2.1 gL_law_X9_many rfl rfl rfl (by decide +kernel) ⟨Nat.le_of_ble_eq_true rfl, Nat.le_of_ble_eq_true rfl⟩) (fw_preV (fx_sub hG) hK (ci := 9) rfl kw_o9) rfl rfl hl.1 rfl (lv_room (Nat.le_of_ble_eq_true rfl)) dL_law_1740 ⟨by show cells + 0 ≤ 600000; omega, by show slots + 0 ≤ 7302250; omega⟩) hG hK (fun r1 u H locs h hG => ?_)
  obtain ⟨iv2, ar2⟩ := u
  obtain ⟨e1, ei, ea⟩ := h
  dsimp only at ei ea
  subst ei ea
  dsimp only at hG
  have hG := fx_swap hG
  refine lv_aload_n C.1 C.2.1 dL_law_1743 rfl (lv_at hl 2 rfl) ?_
  refine lv_aload_n C.1 C.2.1 dL_law_1744 rfl (lv_at hl 0 rfl) ?_
  refine lv_iload_n C.1 C.2.1 dL_law_1745 rfl (lv_at hl 3 rfl) ?_
  refine lv_iconst (v := 1) C.1 C.2.1 dL_law_1746 (by decide) ?_
  refine lv_iadd C.1 C.2.1 dL_law_1747 ?_
  refine va_sld C.1 C.2.1 hX hbl hbA hG.2.2 v1 dL_law_1748 ?_
  refine fx_calli (U := fw_F × fw_R) (w1 := fun u => mw G mh md u.1 u.2) (va_runV (As := [.int (xs (x3 + 1).toNatClampNeg)]) (rest := [.int r1]) ⟨C.1, C.2.1, C.2.2.2.2.2.2, C.2.2.2.2.2.1, C.2.2.2.2.1⟩ (soX10_many l G mh md jv br (xs (x3 + 1).toNatClampNeg) _ w2 H.size) (cwV 1 C.2.2.2.2.1 gL_law_X10_many rfl rfl rfl (by decide +kernel) ⟨Nat.le_of_ble_eq_true rfl, Nat.le_of_ble_eq_true rfl⟩) (fw_preV (fx_sub hG) hK (ci := 10) rfl mw_o) rfl rfl hl.1 rfl (lv_room (Nat.le_of_ble_eq_true rfl)) dL_law_1749 ⟨by show cells + 0 + 0 ≤ 600000; omega, by show slots + 0 + 0 ≤ 7302250; omega⟩) hG hK (fun r3 u H locs h hG => ?_)
  obtain ⟨jv2, br2⟩ := u
  obtain ⟨e2, ei, ea⟩ := h
  dsimp only at ei ea
  subst ei ea
  dsimp only at hG
  have hG := fx_swap hG
  refine lv_icmp_eq (tgt := 1757) C.1 C.2.1 dL_law_1752 (by decide) (fun _ => ?_) (fun c1 => absurd (e1.trans e2.symm) c1)
  refine W.widen (k := cells + 2) (n := slots + 222) (by omega) (by omega) ?_
  exact kX _ _ _ _ _ _ _ _ _ hR hG hl
