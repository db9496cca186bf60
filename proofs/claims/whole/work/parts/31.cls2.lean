/-! KnifeBoard$Knife.holdsFast(II)Z -/
def rmX3_holdsFast : Room := { frames := 3, cells := 0, slots := 0, locals := 68 }
def wpX3_holdsFast (kt : kw_T) (iv : fw_F) (ar : fw_R) (i0 : Nat) (x1 : Int32) (x2 : Int32) (Q : Int32 → Prop) : Prop := wpX3_cameBy kt iv ar i0 x1 (kt.2.2.1 i0 2) x2 (fun (r1 : Int32) => (kt.2.1 i0 = 0 → wpX3_sticksSo kt iv ar i0 r1 (fun (r2 : Int32) => (r2 = 0 ∨ r2 = 1) ∧ Q r2)) ∧ (¬ kt.2.1 i0 = 0 → kt.2.1 i0 = 1 → wpX3_sticksSo kt iv ar i0 r1 (fun (r2 : Int32) => (r2 = 0 ∨ r2 = 1) ∧ Q r2)) ∧ (¬ kt.2.1 i0 = 0 → ¬ kt.2.1 i0 = 1 → wpX8_sticksSo kt iv ar i0 r1 (fun (r2 : Int32) => (r2 = 0 ∨ r2 = 1) ∧ Q r2)))
set_option maxHeartbeats 4000000 in
set_option maxRecDepth 100000 in
theorem soX3_holdsFast (l : Launch) (G : fw_G) (ad : Nat → Nat) (kt : kw_T) (iv : fw_F) (ar : fw_R) (i0 : Nat) (x1 : Int32) (x2 : Int32) (Q : Int32 → Prop) (hi0 : i0 < kt.1) (h : wpX3_holdsFast kt iv ar i0 x1 x2 Q) : fw_M l G (kw G ad kt) yX3_holdsFast wsX3_holdsFast rmX3_holdsFast [.ref (ad (28 + 2 * i0)), .int x1, .int x2] iv ar (fw_Qi G (kw G ad kt) (fun r iv1 ar1 => Q r ∧ iv = iv1 ∧ ar = ar1)) := by
  refine fw_start (cc := cX3_holdsFast) (nL := 3) (rt := (some .boolean)) (by decide) rfl (Nat.le_of_ble_eq_true rfl) ?_
  intro p e s m below meth c A ls H locs C hK hG hl
  obtain ⟨args, ea⟩ : ∃ z : Array Value, z = ([.ref (ad (28 + 2 * i0)), .int x1, .int x2] : List Value).toArray := ⟨_, rfl⟩
  rw [← ea] at C ⊢
  have C : fw_C p s m args meth c cX3_holdsFast 3 (some .boolean) wsX3_holdsFast RX3 := C
  have hl : lv_has ls 3 [(0, .ref (ad (28 + 2 * i0))), (1, .int x1), (2, .int x2)] := hl
  unfold wpX3_holdsFast at h
  have in_X2 : ∀ x ∈ wsX20, x ∈ wsX3_holdsFast := by decide +kernel
  have in_X3 : ∀ x ∈ wsX30, x ∈ wsX3_holdsFast := by decide +kernel
  have in_X8 : ∀ x ∈ wsX80, x ∈ wsX3_holdsFast := by decide +kernel
  have k31 := C.2.2.2.2.1 (.fieldLink RX3 31 "KnifeBoard$Knife" "turn" "I") (by decide +kernel)
  refine lv_aload_n C.1 C.2.1 dX3_holdsFast_0 rfl (lv_at hl 0 rfl) ?_
  refine lv_aload_n C.1 C.2.1 dX3_holdsFast_1 rfl (lv_at hl 0 rfl) ?_
  refine lv_iload_n C.1 C.2.1 dX3_holdsFast_2 rfl (lv_at hl 1 rfl) ?_
  refine lv_aload_n C.1 C.2.1 dX3_holdsFast_3 rfl (lv_at hl 0 rfl) ?_
  refine kw_gK C in_X3 in_X2 in_X8 hK hG hi0 2 (by decide) k31 rfl rfl dX3_holdsFast_4 ?_
  refine lv_iload_n C.1 C.2.1 dX3_holdsFast_7 rfl (lv_at hl 2 rfl) ?_
  have rn : va_Run p l e rmX3_holdsFast s m args below meth c H locs 0 0 0 0 (F0 m 8 ls (.int x2 :: .int (kt.2.2.1 i0 2) :: .int x1 :: .ref (ad (28 + 2 * i0)) :: [.ref (ad (28 + 2 * i0))])) [.ref (ad (28 + 2 * i0))] (fw_Qi G (kw G ad kt) (fun r iv1 ar1 => (fun (r1 : Int32) => (kt.2.1 i0 = 0 → wpX3_sticksSo kt iv ar i0 r1 (fun (r2 : Int32) => (r2 = 0 ∨ r2 = 1) ∧ Q r2)) ∧ (¬ kt.2.1 i0 = 0 → kt.2.1 i0 = 1 → wpX3_sticksSo kt iv ar i0 r1 (fun (r2 : Int32) => (r2 = 0 ∨ r2 = 1) ∧ Q r2)) ∧ (¬ kt.2.1 i0 = 0 → ¬ kt.2.1 i0 = 1 → wpX8_sticksSo kt iv ar i0 r1 (fun (r2 : Int32) => (r2 = 0 ∨ r2 = 1) ∧ Q r2))) r ∧ iv = iv1 ∧ ar = ar1) (va_A ((kw G ad kt) iv ar) H.size) (.ref (ad (28 + 2 * i0)) :: [.int x1, .int (kt.2.2.1 i0 2), .int x2]).toArray) (va_A ((kw G ad kt) iv ar) H.size) := by
    by_cases e0 : kt.2.1 i0 = 0
    · exact va_runV (As := [.int x1, .int (kt.2.2.1 i0 2), .int x2]) (rest := [.ref (ad (28 + 2 * i0))]) ⟨C.1, C.2.1, C.2.2.2.2.2.2, C.2.2.2.2.2.1, C.2.2.2.2.1⟩ (soX3_cameBy l G ad kt iv ar i0 x1 (kt.2.2.1 i0 2) x2 _ hi0 h H.size) (cwV 3 C.2.2.2.2.1 gX3_holdsFast_X3_cameBy rfl rfl rfl (by decide +kernel) ⟨Nat.le_of_ble_eq_true rfl, Nat.le_of_ble_eq_true rfl⟩) (fw_preV hG hK (ci := 3) rfl (kw_oK3 hi0 (kw_d3 e0))) rfl rfl hl.1 rfl (lv_room (Nat.le_of_ble_eq_true rfl)) dX3_holdsFast_8 ⟨Nat.zero_le _, Nat.zero_le _⟩
    · by_cases e1 : kt.2.1 i0 = 1
      · exact va_runU (As := [.int x1, .int (kt.2.2.1 i0 2), .int x2]) (rest := [.ref (ad (28 + 2 * i0))]) ⟨C.1, C.2.1, C.2.2.2.2.2.2, C.2.2.2.2.2.1, C.2.2.2.2.1⟩ (soX3_cameBy l G ad kt iv ar i0 x1 (kt.2.2.1 i0 2) x2 _ hi0 h H.size) (va_cwU 3 C.2.2.2.2.1 gX3_holdsFast_X3_cameBy_u54X2 rfl rfl rfl rfl (by decide +kernel) ⟨Nat.le_of_ble_eq_true rfl, Nat.le_of_ble_eq_true rfl⟩) (fw_preV hG hK (ci := 2) rfl (kw_oK2 hi0 (kw_d2 e0 e1))) rfl rfl hl.1 rfl (lv_room (Nat.le_of_ble_eq_true rfl)) dX3_holdsFast_8 ⟨Nat.zero_le _, Nat.zero_le _⟩
      · exact va_runU (As := [.int x1, .int (kt.2.2.1 i0 2), .int x2]) (rest := [.ref (ad (28 + 2 * i0))]) ⟨C.1, C.2.1, C.2.2.2.2.2.2, C.2.2.2.2.2.1, C.2.2.2.2.1⟩ (soX3_cameBy l G ad kt iv ar i0 x1 (kt.2.2.1 i0 2) x2 _ hi0 h H.size) (va_cwU 3 C.2.2.2.2.1 gX3_holdsFast_X3_cameBy_u54X8 rfl rfl rfl rfl (by decide +kernel) ⟨Nat.le_of_ble_eq_true rfl, Nat.le_of_ble_eq_true rfl⟩) (fw_preV hG hK (ci := 8) rfl (kw_oK8 hi0 (kw_d8 e0 e1))) rfl rfl hl.1 rfl (lv_room (Nat.le_of_ble_eq_true rfl)) dX3_holdsFast_8 ⟨Nat.zero_le _, Nat.zero_le _⟩
  refine fw_rcalli (rn) hG hK (fun r1  H locs h hG => ?_)
  have rn : va_Run p l e rmX3_holdsFast s m args below meth c H locs 0 0 0 0 (F0 m 11 ls (.int r1 :: .ref (ad (28 + 2 * i0)) :: [])) [] (fw_Qi G (kw G ad kt) (fun r iv1 ar1 => (fun (r2 : Int32) => (r2 = 0 ∨ r2 = 1) ∧ Q r2) r ∧ iv = iv1 ∧ ar = ar1) (va_A ((kw G ad kt) iv ar) H.size) (.ref (ad (28 + 2 * i0)) :: [.int r1]).toArray) (va_A ((kw G ad kt) iv ar) H.size) := by
    by_cases e0 : kt.2.1 i0 = 0
    · exact va_runV (As := [.int r1]) (rest := []) ⟨C.1, C.2.1, C.2.2.2.2.2.2, C.2.2.2.2.2.1, C.2.2.2.2.1⟩ (soX3_sticksSo l G ad kt iv ar i0 r1 _ hi0 (h.1 e0) H.size) (cwV 1 C.2.2.2.2.1 gX3_holdsFast_X3_sticksSo rfl rfl rfl (by decide +kernel) ⟨Nat.le_of_ble_eq_true rfl, Nat.le_of_ble_eq_true rfl⟩) (fw_preV hG hK (ci := 3) rfl (kw_oK3 hi0 (kw_d3 e0))) rfl rfl hl.1 rfl (lv_room (Nat.le_of_ble_eq_true rfl)) dX3_holdsFast_11 ⟨Nat.zero_le _, Nat.zero_le _⟩
    · by_cases e1 : kt.2.1 i0 = 1
      · exact va_runU (As := [.int r1]) (rest := []) ⟨C.1, C.2.1, C.2.2.2.2.2.2, C.2.2.2.2.2.1, C.2.2.2.2.1⟩ (soX3_sticksSo l G ad kt iv ar i0 r1 _ hi0 (h.2.1 e0 e1) H.size) (va_cwU 1 C.2.2.2.2.1 gX3_holdsFast_X3_sticksSo_u57X2 rfl rfl rfl rfl (by decide +kernel) ⟨Nat.le_of_ble_eq_true rfl, Nat.le_of_ble_eq_true rfl⟩) (fw_preV hG hK (ci := 2) rfl (kw_oK2 hi0 (kw_d2 e0 e1))) rfl rfl hl.1 rfl (lv_room (Nat.le_of_ble_eq_true rfl)) dX3_holdsFast_11 ⟨Nat.zero_le _, Nat.zero_le _⟩
      · exact va_runU (As := [.int r1]) (rest := []) ⟨C.1, C.2.1, C.2.2.2.2.2.2, C.2.2.2.2.2.1, C.2.2.2.2.1⟩ (soX8_sticksSo l G ad kt iv ar i0 r1 _ hi0 e0 e1 (h.2.2 e0 e1) H.size) (va_cwO 1 C.2.2.2.2.1 gX3_holdsFast_X8_sticksSo_u57X8 rfl rfl rfl (b0 := cX3_sticksSo) (m0 := 2) (r0 := (some .boolean)) (by decide +kernel) (by decide +kernel) ⟨Nat.le_of_ble_eq_true rfl, Nat.le_of_ble_eq_true rfl⟩) (fw_preV hG hK (ci := 8) rfl (kw_oK8 hi0 (kw_d8 e0 e1))) rfl rfl hl.1 rfl (lv_room (Nat.le_of_ble_eq_true rfl)) dX3_holdsFast_11 ⟨Nat.zero_le _, Nat.zero_le _⟩
  refine fw_rcalli (rn) hG hK (fun r2  H locs h hG => ?_)
  obtain ⟨cb, h⟩ := h
  exact fw_zret C hG (fw_nb cb) ⟨h, rfl, rfl⟩ dX3_holdsFast_14
/-! KnifeBoard$Knife.flightOf(I)I -/
def rmX3_flightOf : Room := { frames := 0, cells := 0, slots := 0, locals := 0 }
def wpX3_flightOf (kt : kw_T) (iv : fw_F) (ar : fw_R) (i0 : Nat) (x1 : Int32) (Q : Int32 → Prop) : Prop := ¬ (kt.2.2.1 i0 1) = 0 ∧ (Q (((x1 + (kt.2.2.1 i0 1)) - 1) / (kt.2.2.1 i0 1)))
set_option maxHeartbeats 4000000 in
set_option maxRecDepth 100000 in
theorem soX3_flightOf (l : Launch) (G : fw_G) (ad : Nat → Nat) (kt : kw_T) (iv : fw_F) (ar : fw_R) (i0 : Nat) (x1 : Int32) (Q : Int32 → Prop) (hi0 : i0 < kt.1) (h : wpX3_flightOf kt iv ar i0 x1 Q) : fw_M l G (kw G ad kt) yX3_flightOf wsX3_flightOf rmX3_flightOf [.ref (ad (28 + 2 * i0)), .int x1] iv ar (fw_Qi G (kw G ad kt) (fun r iv1 ar1 => Q r ∧ iv = iv1 ∧ ar = ar1)) := by
  refine fw_start (cc := cX3_flightOf) (nL := 2) (rt := (some .int)) (by decide) rfl (Nat.le_of_ble_eq_true rfl) ?_
  intro p e s m below meth c A ls H locs C hK hG hl
  obtain ⟨args, ea⟩ : ∃ z : Array Value, z = ([.ref (ad (28 + 2 * i0)), .int x1] : List Value).toArray := ⟨_, rfl⟩
  rw [← ea] at C ⊢
  have C : fw_C p s m args meth c cX3_flightOf 2 (some .int) wsX3_flightOf RX3 := C
  have hl : lv_has ls 2 [(0, .ref (ad (28 + 2 * i0))), (1, .int x1)] := hl
  unfold wpX3_flightOf at h
  have in_X2 : ∀ x ∈ wsX20, x ∈ wsX3_flightOf := by decide +kernel
  have in_X3 : ∀ x ∈ wsX30, x ∈ wsX3_flightOf := by decide +kernel
  have in_X8 : ∀ x ∈ wsX80, x ∈ wsX3_flightOf := by decide +kernel
  have k28 := C.2.2.2.2.1 (.fieldLink RX3 28 "KnifeBoard$Knife" "pace" "I") (by decide +kernel)
  refine lv_iload_n C.1 C.2.1 dX3_flightOf_0 rfl (lv_at hl 1 rfl) ?_
  refine lv_aload_n C.1 C.2.1 dX3_flightOf_1 rfl (lv_at hl 0 rfl) ?_
  refine kw_gK C in_X3 in_X2 in_X8 hK hG hi0 1 (by decide) k28 rfl rfl dX3_flightOf_2 ?_
  refine lv_iadd C.1 C.2.1 dX3_flightOf_5 ?_
  refine lv_iconst (v := 1) C.1 C.2.1 dX3_flightOf_6 (by decide) ?_
  refine lv_isub C.1 C.2.1 dX3_flightOf_7 ?_
  refine lv_aload_n C.1 C.2.1 dX3_flightOf_8 rfl (lv_at hl 0 rfl) ?_
  refine kw_gK C in_X3 in_X2 in_X8 hK hG hi0 1 (by decide) k28 rfl rfl dX3_flightOf_9 ?_
  obtain ⟨c1, h⟩ := h
  refine lv_idiv C.1 C.2.1 dX3_flightOf_12 c1 ?_
  exact fw_iret C hG ⟨h, rfl, rfl⟩ dX3_flightOf_13
/-! KnifeBoard$Knife.kindNumber()I -/
def rmX3_kindNumber : Room := { frames := 0, cells := 0, slots := 0, locals := 0 }
def wpX3_kindNumber (kt : kw_T) (iv : fw_F) (ar : fw_R) (i0 : Nat) (Q : Int32 → Prop) : Prop := Q 0
set_option maxHeartbeats 4000000 in
set_option maxRecDepth 100000 in
theorem soX3_kindNumber (l : Launch) (G : fw_G) (ad : Nat → Nat) (kt : kw_T) (iv : fw_F) (ar : fw_R) (i0 : Nat) (Q : Int32 → Prop) (hi0 : i0 < kt.1) (h : wpX3_kindNumber kt iv ar i0 Q) : fw_M l G (kw G ad kt) yX3_kindNumber wsX3_kindNumber rmX3_kindNumber [.ref (ad (28 + 2 * i0))] iv ar (fw_Qi G (kw G ad kt) (fun r iv1 ar1 => Q r ∧ iv = iv1 ∧ ar = ar1)) := by
  refine fw_start (cc := cX3_kindNumber) (nL := 1) (rt := (some .int)) (by decide) rfl (Nat.le_of_ble_eq_true rfl) ?_
  intro p e s m below meth c A ls H locs C hK hG hl
  obtain ⟨args, ea⟩ : ∃ z : Array Value, z = ([.ref (ad (28 + 2 * i0))] : List Value).toArray := ⟨_, rfl⟩
  rw [← ea] at C ⊢
  have C : fw_C p s m args meth c cX3_kindNumber 1 (some .int) wsX3_kindNumber RX3 := C
  have hl : lv_has ls 1 [(0, .ref (ad (28 + 2 * i0)))] := hl
  unfold wpX3_kindNumber at h
  refine lv_iconst (v := 0) C.1 C.2.1 dX3_kindNumber_0 (by decide) ?_
  exact fw_iret C hG ⟨h, rfl, rfl⟩ dX3_kindNumber_1
/-! KnifeBoard$Knife.telling(LKnifeBoard$Trace;)I -/
def rmX3_telling : Room := { frames := 2, cells := 0, slots := 0, locals := 42 }
def wpX3_telling (kt : kw_T) (iv : fw_F) (ar : fw_R) (i0 : Nat) (Q : Int32 → fw_F → fw_R → Prop) : Prop := wpX3_tellingOfKnife kt iv ar i0 (fun (r1 : Int32) (iv2 : fw_F) (ar3 : fw_R) => Q r1 iv2 ar3)
set_option maxHeartbeats 4000000 in
set_option maxRecDepth 100000 in
theorem soX3_telling (l : Launch) (G : fw_G) (ad : Nat → Nat) (kt : kw_T) (iv : fw_F) (ar : fw_R) (i0 : Nat) (Q : Int32 → fw_F → fw_R → Prop) (hi0 : i0 < kt.1) (h : wpX3_telling kt iv ar i0 Q) : fw_M l G (kw G ad kt) yX3_telling wsX3_telling rmX3_telling [.ref (ad (28 + 2 * i0)), .ref (ad 27)] iv ar (fw_Qi G (kw G ad kt) Q) := by
  refine fw_start (cc := cX3_telling) (nL := 2) (rt := (some .int)) (by decide) rfl (Nat.le_of_ble_eq_true rfl) ?_
  intro p e s m below meth c A ls H locs C hK hG hl
  obtain ⟨args, ea⟩ : ∃ z : Array Value, z = ([.ref (ad (28 + 2 * i0)), .ref (ad 27)] : List Value).toArray := ⟨_, rfl⟩
  rw [← ea] at C ⊢
  have C : fw_C p s m args meth c cX3_telling 2 (some .int) wsX3_telling RX3 := C
  have hl : lv_has ls 2 [(0, .ref (ad (28 + 2 * i0))), (1, .ref (ad 27))] := hl
  unfold wpX3_telling at h
  refine lv_aload_n C.1 C.2.1 dX3_telling_0 rfl (lv_at hl 0 rfl) ?_
  refine lv_aload_n C.1 C.2.1 dX3_telling_1 rfl (lv_at hl 1 rfl) ?_
  have rn : va_Run p l e rmX3_telling s m args below meth c H locs 0 0 0 0 (F0 m 2 ls (.ref (ad 27) :: .ref (ad (28 + 2 * i0)) :: [])) [] (fw_Qi G (kw G ad kt) (fun (r1 : Int32) (iv2 : fw_F) (ar3 : fw_R) => Q r1 iv2 ar3) (va_A ((kw G ad kt) iv ar) H.size) (.ref (ad (28 + 2 * i0)) :: [.ref (ad 27)]).toArray) (va_A ((kw G ad kt) iv ar) H.size) := by
    by_cases e0 : kt.2.1 i0 = 0
    · exact va_runV (As := [.ref (ad 27)]) (rest := []) ⟨C.1, C.2.1, C.2.2.2.2.2.2, C.2.2.2.2.2.1, C.2.2.2.2.1⟩ (soX3_tellingOfKnife l G ad kt iv ar i0 _ hi0 h H.size) (cwV 1 C.2.2.2.2.1 gX3_telling_X3_tellingOfKnife rfl rfl rfl (by decide +kernel) ⟨Nat.le_of_ble_eq_true rfl, Nat.le_of_ble_eq_true rfl⟩) (fw_preV hG hK (ci := 3) rfl (kw_oK3 hi0 (kw_d3 e0))) rfl rfl hl.1 rfl (lv_room (Nat.le_of_ble_eq_true rfl)) dX3_telling_2 ⟨Nat.zero_le _, Nat.zero_le _⟩
    · by_cases e1 : kt.2.1 i0 = 1
      · exact va_runU (As := [.ref (ad 27)]) (rest := []) ⟨C.1, C.2.1, C.2.2.2.2.2.2, C.2.2.2.2.2.1, C.2.2.2.2.1⟩ (soX3_tellingOfKnife l G ad kt iv ar i0 _ hi0 h H.size) (va_cwU 1 C.2.2.2.2.1 gX3_telling_X3_tellingOfKnife_u61X2 rfl rfl rfl rfl (by decide +kernel) ⟨Nat.le_of_ble_eq_true rfl, Nat.le_of_ble_eq_true rfl⟩) (fw_preV hG hK (ci := 2) rfl (kw_oK2 hi0 (kw_d2 e0 e1))) rfl rfl hl.1 rfl (lv_room (Nat.le_of_ble_eq_true rfl)) dX3_telling_2 ⟨Nat.zero_le _, Nat.zero_le _⟩
      · exact va_runU (As := [.ref (ad 27)]) (rest := []) ⟨C.1, C.2.1, C.2.2.2.2.2.2, C.2.2.2.2.2.1, C.2.2.2.2.1⟩ (soX3_tellingOfKnife l G ad kt iv ar i0 _ hi0 h H.size) (va_cwU 1 C.2.2.2.2.1 gX3_telling_X3_tellingOfKnife_u61X8 rfl rfl rfl rfl (by decide +kernel) ⟨Nat.le_of_ble_eq_true rfl, Nat.le_of_ble_eq_true rfl⟩) (fw_preV hG hK (ci := 8) rfl (kw_oK8 hi0 (kw_d8 e0 e1))) rfl rfl hl.1 rfl (lv_room (Nat.le_of_ble_eq_true rfl)) dX3_telling_2 ⟨Nat.zero_le _, Nat.zero_le _⟩
  refine fw_calli (rn) hG hK (fun r1 iv2 ar3 H locs h hG => ?_)
  exact fw_iret C hG h dX3_telling_5
/-! KnifeBoard$Knife.whetting(LKnifeBoard$Trace;)I -/
def rmX3_whetting : Room := { frames := 1, cells := 0, slots := 0, locals := 21 }
def wpX3_whetting (kt : kw_T) (iv : fw_F) (ar : fw_R) (i0 : Nat) (Q : Int32 → fw_F → fw_R → Prop) : Prop := wpX7_leave kt iv ar 4 (fun (iv1 : fw_F) (ar2 : fw_R) => Q (kt.2.2.1 i0 0) iv1 ar2)
set_option maxHeartbeats 4000000 in
set_option maxRecDepth 100000 in
theorem soX3_whetting (l : Launch) (G : fw_G) (ad : Nat → Nat) (kt : kw_T) (iv : fw_F) (ar : fw_R) (i0 : Nat) (Q : Int32 → fw_F → fw_R → Prop) (hi0 : i0 < kt.1) (h : wpX3_whetting kt iv ar i0 Q) : fw_M l G (kw G ad kt) yX3_whetting wsX3_whetting rmX3_whetting [.ref (ad (28 + 2 * i0)), .ref (ad 27)] iv ar (fw_Qi G (kw G ad kt) Q) := by
  refine fw_start (cc := cX3_whetting) (nL := 2) (rt := (some .int)) (by decide) rfl (Nat.le_of_ble_eq_true rfl) ?_
  intro p e s m below meth c A ls H locs C hK hG hl
  obtain ⟨args, ea⟩ : ∃ z : Array Value, z = ([.ref (ad (28 + 2 * i0)), .ref (ad 27)] : List Value).toArray := ⟨_, rfl⟩
  rw [← ea] at C ⊢
  have C : fw_C p s m args meth c cX3_whetting 2 (some .int) wsX3_whetting RX3 := C
  have hl : lv_has ls 2 [(0, .ref (ad (28 + 2 * i0))), (1, .ref (ad 27))] := hl
  unfold wpX3_whetting at h
  have in_X2 : ∀ x ∈ wsX20, x ∈ wsX3_whetting := by decide +kernel
  have in_X3 : ∀ x ∈ wsX30, x ∈ wsX3_whetting := by decide +kernel
  have in_X8 : ∀ x ∈ wsX80, x ∈ wsX3_whetting := by decide +kernel
  have k15 := C.2.2.2.2.1 (.fieldLink RX3 15 "KnifeBoard$Knife" "number" "I") (by decide +kernel)
  refine lv_aload_n C.1 C.2.1 dX3_whetting_0 rfl (lv_at hl 1 rfl) ?_
  refine lv_iconst (v := 4) C.1 C.2.1 dX3_whetting_1 (by decide) ?_
  refine fw_callv (va_runV (As := [.int 4]) (rest := []) ⟨C.1, C.2.1, C.2.2.2.2.2.2, C.2.2.2.2.2.1, C.2.2.2.2.1⟩ (soX7_leave l G ad kt iv ar 4 _  h H.size) (cwV 1 C.2.2.2.2.1 gX3_whetting_X7_leave rfl rfl rfl (by decide +kernel) ⟨Nat.le_of_ble_eq_true rfl, Nat.le_of_ble_eq_true rfl⟩) (fw_preV hG hK (ci := 7) rfl kw_o7) rfl rfl hl.1 rfl (lv_room (Nat.le_of_ble_eq_true rfl)) dX3_whetting_2 ⟨Nat.zero_le _, Nat.zero_le _⟩) hG hK (fun iv1 ar2 H locs h hG => ?_)
  refine lv_aload_n C.1 C.2.1 dX3_whetting_5 rfl (lv_at hl 0 rfl) ?_
  refine kw_gK C in_X3 in_X2 in_X8 hK hG hi0 0 (by decide) k15 rfl rfl dX3_whetting_6 ?_
  exact fw_iret C hG h dX3_whetting_9
/-! KnifeBoard$Marks.add(II)V -/
def rmX4_add : Room := { frames := 1, cells := 0, slots := 0, locals := 22 }
def wpX4_add (kt : kw_T) (iv : fw_F) (ar : fw_R) (x1 : Int32) (x2 : Int32) (Q : fw_F → fw_R → Prop) : Prop := wpX9_within (iv 7) 0 9 (fun (r1 : Int32) => (¬ r1 = 0 → (vp_in (iv 7) 10 ∧ (∀ ar4 : fw_R, ar4 = va_up ar 11 (upd (ar 11) (iv 7).toNatClampNeg x1) → (vp_in (iv 7) 10 ∧ (∀ ar6 : fw_R, ar6 = va_up ar4 12 (upd (ar4 12) (iv 7).toNatClampNeg x2) → (∀ iv7 : fw_F, iv7 = va_up iv 7 ((iv 7) + 1) → (Q iv7 ar6))))))) ∧ (r1 = 0 → (Q iv ar)))
set_option maxHeartbeats 4000000 in
set_option maxRecDepth 100000 in
theorem soX4_add (l : Launch) (G : fw_G) (ad : Nat → Nat) (kt : kw_T) (iv : fw_F) (ar : fw_R) (x1 : Int32) (x2 : Int32) (Q : fw_F → fw_R → Prop)  (h : wpX4_add kt iv ar x1 x2 Q) : fw_M l G (kw G ad kt) yX4_add wsX4_add rmX4_add [.ref (ad 10), .int x1, .int x2] iv ar (fw_Qv G (kw G ad kt) Q) := by
  refine fw_start (cc := cX4_add) (nL := 3) (rt := none) (by decide) rfl (Nat.le_of_ble_eq_true rfl) ?_
  intro p e s m below meth c A ls H locs C hK hG hl
  obtain ⟨args, ea⟩ : ∃ z : Array Value, z = ([.ref (ad 10), .int x1, .int x2] : List Value).toArray := ⟨_, rfl⟩
  rw [← ea] at C ⊢
  have C : fw_C p s m args meth c cX4_add 3 none wsX4_add RX4 := C
  have hl : lv_has ls 3 [(0, .ref (ad 10)), (1, .int x1), (2, .int x2)] := hl
  unfold wpX4_add at h
  have in_X4 : ∀ x ∈ wsX40, x ∈ wsX4_add := by decide +kernel
  have k15 := C.2.2.2.2.1 (.fieldLink RX4 15 "KnifeBoard$Marks" "came" "[I") (by decide +kernel)
  have k18 := C.2.2.2.2.1 (.fieldLink RX4 18 "KnifeBoard$Marks" "count" "I") (by decide +kernel)
  have k9 := C.2.2.2.2.1 (.fieldLink RX4 9 "KnifeBoard$Marks" "feet" "[I") (by decide +kernel)
  refine lv_aload_n C.1 C.2.1 dX4_add_0 rfl (lv_at hl 0 rfl) ?_
  refine fw_get (w := (kw G ad kt)) C in_X4 hK hG 10 kw_o4 rfl 2 (by decide) k18 rfl rfl dX4_add_1 ?_
  refine lv_iconst (v := 0) C.1 C.2.1 dX4_add_4 (by decide) ?_
  refine lv_bipush (v := 9) C.1 C.2.1 dX4_add_5 (by decide) ?_
  refine fw_pcalli (va_runSN (As := [.int (iv 7), .int 0, .int 9]) (rest := []) ⟨C.1, C.2.1, C.2.2.2.2.2.2, C.2.2.2.2.2.1, C.2.2.2.2.1⟩ (soX9_within l (iv 7) 0 9 _ h H.size) ⟨va_cnB 3 C.2.2.2.2.1 gX4_add_X9_within_n34 rfl rfl rfl hK.2.1.1.2.2.2 (C.2.2.2.2.1 (.initialized RX9) (by decide +kernel)) (by decide +kernel) ⟨Nat.le_of_ble_eq_true rfl, Nat.le_of_ble_eq_true rfl⟩, C.2.2.2.2.1 (.static yX9_within) (by decide +kernel), trivial⟩ fw_ppre rfl rfl hl.1 rfl (lv_room (Nat.le_of_ble_eq_true rfl)) dX4_add_7 ⟨Nat.zero_le _, Nat.zero_le _⟩) hG hK (fun r1  H locs h hG => ?_)
  refine lv_if_ne (tgt := 14) C.1 C.2.1 dX4_add_10 (by decide) (fun c2 => ?_) (fun c2 => ?_)
  · have h := h.1 c2
    refine lv_aload_n C.1 C.2.1 dX4_add_14 rfl (lv_at hl 0 rfl) ?_
    refine fw_get (w := (kw G ad kt)) C in_X4 hK hG 10 kw_o4 rfl 0 (by decide) k9 rfl rfl dX4_add_15 ?_
    refine lv_aload_n C.1 C.2.1 dX4_add_18 rfl (lv_at hl 0 rfl) ?_
    refine fw_get (w := (kw G ad kt)) C in_X4 hK hG 10 kw_o4 rfl 2 (by decide) k18 rfl rfl dX4_add_19 ?_
    refine lv_iload_n C.1 C.2.1 dX4_add_22 rfl (lv_at hl 1 rfl) ?_
    obtain ⟨c3, h⟩ := h
    obtain ⟨ar4, ear4⟩ : ∃ z : fw_R, z = va_up ar 11 (upd (ar 11) (iv 7).toNatClampNeg x1) := ⟨_, rfl⟩
    have h := h ar4 ear4
    refine fw_iast (w := (kw G ad kt)) C hK hG 11 kw_a11 c3 (ar1 := ar4) (by rw [ear4]; exact kw_s11) dX4_add_23 (fun H locs hG => ?_)
    refine lv_aload_n C.1 C.2.1 dX4_add_24 rfl (lv_at hl 0 rfl) ?_
    refine fw_get (w := (kw G ad kt)) C in_X4 hK hG 10 kw_o4 rfl 1 (by decide) k15 rfl rfl dX4_add_25 ?_
    refine lv_aload_n C.1 C.2.1 dX4_add_28 rfl (lv_at hl 0 rfl) ?_
    refine fw_get (w := (kw G ad kt)) C in_X4 hK hG 10 kw_o4 rfl 2 (by decide) k18 rfl rfl dX4_add_29 ?_
    refine lv_iload_n C.1 C.2.1 dX4_add_32 rfl (lv_at hl 2 rfl) ?_
    obtain ⟨c5, h⟩ := h
    obtain ⟨ar6, ear6⟩ : ∃ z : fw_R, z = va_up ar4 12 (upd (ar4 12) (iv 7).toNatClampNeg x2) := ⟨_, rfl⟩
    have h := h ar6 ear6
    refine fw_iast (w := (kw G ad kt)) C hK hG 12 kw_a12 c5 (ar1 := ar6) (by rw [ear6]; exact kw_s12) dX4_add_33 (fun H locs hG => ?_)
    refine lv_aload_n C.1 C.2.1 dX4_add_34 rfl (lv_at hl 0 rfl) ?_
    refine lv_dup C.1 C.2.1 dX4_add_35 rfl ?_
    refine fw_get (w := (kw G ad kt)) C in_X4 hK hG 10 kw_o4 rfl 2 (by decide) k18 rfl rfl dX4_add_36 ?_
    refine lv_iconst (v := 1) C.1 C.2.1 dX4_add_39 (by decide) ?_
    refine lv_iadd C.1 C.2.1 dX4_add_40 ?_
    obtain ⟨iv7, eiv7⟩ : ∃ z : fw_F, z = va_up iv 7 ((iv 7) + 1) := ⟨_, rfl⟩
    have h := h iv7 eiv7
    refine fw_put (w := (kw G ad kt)) C in_X4 tyX4 tyX4_ok nmX4 hK hG 10 kw_o4 rfl 2 (by decide) k18 rfl rfl (ty := .int) (v := .int ((iv 7) + 1)) (by decide +kernel) rfl rfl (by first | decide | exact Nat.le_of_ble_eq_true rfl) (iv1 := iv7) (by rw [eiv7]; exact kw_p4_count) dX4_add_41 (fun H locs hG => ?_)
    exact fw_vret C hG h dX4_add_44
  · have h := h.2 c2
    exact fw_vret C hG h dX4_add_13
/-! KnifeBoard$Marks.isSo(LKnifeBoard$Knife;II)Z -/
def rmX4_isSo : Room := { frames := 3, cells := 0, slots := 0, locals := 68 }
def wpX4_isSo_L3 (kt : kw_T) (i1 : Nat) (x2 : Int32) (x3 : Int32) (iv : fw_F) (ar : fw_R) (Q : Int32 → Prop) (K : Int32 → Prop) : Nat → Int32 → Prop
  | 0, _ => False
  | fu + 1, z4 => ((iv 7) ≤ z4 → (K z4)) ∧ (¬ (iv 7) ≤ z4 → (vp_in z4 10 ∧ (wpX3_cameBy kt iv ar i1 x2 x3 ((ar 11) z4.toNatClampNeg) (fun (r3 : Int32) => vp_in z4 10 ∧ ((r3 = ((ar 12) z4.toNatClampNeg) → (∀ y6 : Int32, y6 = z4 + 1 → (wpX4_isSo_L3 kt i1 x2 x3 iv ar Q K fu y6))) ∧ (¬ r3 = ((ar 12) z4.toNatClampNeg) → (Q 0)))))))
def wpX4_isSo (kt : kw_T) (iv : fw_F) (ar : fw_R) (i1 : Nat) (x2 : Int32) (x3 : Int32) (Q : Int32 → Prop) : Prop := ∃ ku : Nat, wpX4_isSo_L3 kt i1 x2 x3 iv ar Q (fun (w7 : Int32) => Q 1) ku 0
set_option maxHeartbeats 4000000 in
set_option maxRecDepth 100000 in
theorem soX4_isSo_L3 {p : Program} {l : Launch} {e : Env} {s : State} {m : MethodId} {args : Array Value} {below : List Frame} {meth : Method} {c : Code} {A : Nat → Prop} {G : fw_G} {ad : Nat → Nat} {kt : kw_T} {i1 : Nat} {x2 : Int32} {x3 : Int32} {iv : fw_F} {ar : fw_R} {Q : Int32 → Prop} {K : Int32 → Prop} (C : fw_C p s m args meth c cX4_isSo 5 (some .boolean) wsX4_isSo RX4) (hK : fw_K G A s) (hi1 : i1 < kt.1) (hX : ∀ (z4 : Int32), K z4 → ∀ (H : Heap) (locs : List Loc), fw_H G ((kw G ad kt) iv ar) A s H locs → ∀ (ls : Array Slot), lv_has ls 5 [(4, .int z4), (0, .ref (ad 10)), (1, .ref (ad (28 + 2 * i1))), (2, .int x2), (3, .int x3)] → W p l e rmX4_isSo s m args below meth c H locs 0 0 (MQ below (fw_Qi G (kw G ad kt) (fun r iv1 ar1 => Q r ∧ iv = iv1 ∧ ar = ar1) A) args s 0 0 A) (F0 m 43 ls [])) : ∀ (fu : Nat) (z4 : Int32), wpX4_isSo_L3 kt i1 x2 x3 iv ar Q K fu z4 → ∀ (H : Heap) (locs : List Loc), fw_H G ((kw G ad kt) iv ar) A s H locs → ∀ (ls : Array Slot), lv_has ls 5 [(4, .int z4), (0, .ref (ad 10)), (1, .ref (ad (28 + 2 * i1))), (2, .int x2), (3, .int x3)] → W p l e rmX4_isSo s m args below meth c H locs 0 0 (MQ below (fw_Qi G (kw G ad kt) (fun r iv1 ar1 => Q r ∧ iv = iv1 ∧ ar = ar1) A) args s 0 0 A) (F0 m 3 ls []) := by
  intro fu
  have in_X4 : ∀ x ∈ wsX40, x ∈ wsX4_isSo := by decide +kernel
  have k15 := C.2.2.2.2.1 (.fieldLink RX4 15 "KnifeBoard$Marks" "came" "[I") (by decide +kernel)
  have k18 := C.2.2.2.2.1 (.fieldLink RX4 18 "KnifeBoard$Marks" "count" "I") (by decide +kernel)
  have k9 := C.2.2.2.2.1 (.fieldLink RX4 9 "KnifeBoard$Marks" "feet" "[I") (by decide +kernel)
  induction fu with
  | zero => intro z4 h; exact h.elim
  | succ fu ih =>
    intro z4 h H locs hG ls hl
    unfold wpX4_isSo_L3 at h
    refine lv_iload C.1 C.2.1 dX4_isSo_3 (lv_at hl 0 rfl) ?_
    refine lv_aload_n C.1 C.2.1 dX4_isSo_5 rfl (lv_at hl 1 rfl) ?_
    refine fw_get (w := (kw G ad kt)) C in_X4 hK hG 10 kw_o4 rfl 2 (by decide) k18 rfl rfl dX4_isSo_6 ?_
    refine lv_icmp_ge (tgt := 43) C.1 C.2.1 dX4_isSo_9 (by decide) (fun c1 => ?_) (fun c1 => ?_)
    · have h := h.1 c1
      exact hX _ h _ _ hG ls (lv_sub hl [0, 1, 2, 3, 4] rfl)
    · have h := h.2 c1
      refine lv_aload_n C.1 C.2.1 dX4_isSo_12 rfl (lv_at hl 2 rfl) ?_
      refine lv_iload_n C.1 C.2.1 dX4_isSo_13 rfl (lv_at hl 3 rfl) ?_
      refine lv_iload_n C.1 C.2.1 dX4_isSo_14 rfl (lv_at hl 4 rfl) ?_
      refine lv_aload_n C.1 C.2.1 dX4_isSo_15 rfl (lv_at hl 1 rfl) ?_
      refine fw_get (w := (kw G ad kt)) C in_X4 hK hG 10 kw_o4 rfl 0 (by decide) k9 rfl rfl dX4_isSo_16 ?_
      refine lv_iload C.1 C.2.1 dX4_isSo_19 (lv_at hl 0 rfl) ?_
      obtain ⟨c2, h⟩ := h
      refine fw_iald (w := (kw G ad kt)) C hK hG 11 kw_a11 c2 dX4_isSo_21 ?_
      have rn : va_Run p l e rmX4_isSo s m args below meth c H locs 0 0 0 0 (F0 m 22 ls (.int ((ar 11) z4.toNatClampNeg) :: .int x3 :: .int x2 :: .ref (ad (28 + 2 * i1)) :: [])) [] (fw_Qi G (kw G ad kt) (fun r iv1 ar1 => (fun (r3 : Int32) => vp_in z4 10 ∧ ((r3 = ((ar 12) z4.toNatClampNeg) → (∀ y6 : Int32, y6 = z4 + 1 → (wpX4_isSo_L3 kt i1 x2 x3 iv ar Q K fu y6))) ∧ (¬ r3 = ((ar 12) z4.toNatClampNeg) → (Q 0)))) r ∧ iv = iv1 ∧ ar = ar1) (va_A ((kw G ad kt) iv ar) H.size) (.ref (ad (28 + 2 * i1)) :: [.int x2, .int x3, .int ((ar 11) z4.toNatClampNeg)]).toArray) (va_A ((kw G ad kt) iv ar) H.size) := by
        by_cases e0 : kt.2.1 i1 = 0
        · exact va_runV (As := [.int x2, .int x3, .int ((ar 11) z4.toNatClampNeg)]) (rest := []) ⟨C.1, C.2.1, C.2.2.2.2.2.2, C.2.2.2.2.2.1, C.2.2.2.2.1⟩ (soX3_cameBy l G ad kt iv ar i1 x2 x3 ((ar 11) z4.toNatClampNeg) _ hi1 h H.size) (cwV 3 C.2.2.2.2.1 gX4_isSo_X3_cameBy rfl rfl rfl (by decide +kernel) ⟨Nat.le_of_ble_eq_true rfl, Nat.le_of_ble_eq_true rfl⟩) (fw_preV hG hK (ci := 3) rfl (kw_oK3 hi1 (kw_d3 e0))) rfl rfl hl.1 rfl (lv_room (Nat.le_of_ble_eq_true rfl)) dX4_isSo_22 ⟨Nat.zero_le _, Nat.zero_le _⟩
        · by_cases e1 : kt.2.1 i1 = 1
          · exact va_runU (As := [.int x2, .int x3, .int ((ar 11) z4.toNatClampNeg)]) (rest := []) ⟨C.1, C.2.1, C.2.2.2.2.2.2, C.2.2.2.2.2.1, C.2.2.2.2.1⟩ (soX3_cameBy l G ad kt iv ar i1 x2 x3 ((ar 11) z4.toNatClampNeg) _ hi1 h H.size) (va_cwU 3 C.2.2.2.2.1 gX4_isSo_X3_cameBy_u42X2 rfl rfl rfl rfl (by decide +kernel) ⟨Nat.le_of_ble_eq_true rfl, Nat.le_of_ble_eq_true rfl⟩) (fw_preV hG hK (ci := 2) rfl (kw_oK2 hi1 (kw_d2 e0 e1))) rfl rfl hl.1 rfl (lv_room (Nat.le_of_ble_eq_true rfl)) dX4_isSo_22 ⟨Nat.zero_le _, Nat.zero_le _⟩
          · exact va_runU (As := [.int x2, .int x3, .int ((ar 11) z4.toNatClampNeg)]) (rest := []) ⟨C.1, C.2.1, C.2.2.2.2.2.2, C.2.2.2.2.2.1, C.2.2.2.2.1⟩ (soX3_cameBy l G ad kt iv ar i1 x2 x3 ((ar 11) z4.toNatClampNeg) _ hi1 h H.size) (va_cwU 3 C.2.2.2.2.1 gX4_isSo_X3_cameBy_u42X8 rfl rfl rfl rfl (by decide +kernel) ⟨Nat.le_of_ble_eq_true rfl, Nat.le_of_ble_eq_true rfl⟩) (fw_preV hG hK (ci := 8) rfl (kw_oK8 hi1 (kw_d8 e0 e1))) rfl rfl hl.1 rfl (lv_room (Nat.le_of_ble_eq_true rfl)) dX4_isSo_22 ⟨Nat.zero_le _, Nat.zero_le _⟩
      refine fw_rcalli (rn) hG hK (fun r3  H locs h hG => ?_)
      refine lv_aload_n C.1 C.2.1 dX4_isSo_25 rfl (lv_at hl 1 rfl) ?_
      refine fw_get (w := (kw G ad kt)) C in_X4 hK hG 10 kw_o4 rfl 1 (by decide) k15 rfl rfl dX4_isSo_26 ?_
      refine lv_iload C.1 C.2.1 dX4_isSo_29 (lv_at hl 0 rfl) ?_
      obtain ⟨c4, h⟩ := h
      refine fw_iald (w := (kw G ad kt)) C hK hG 12 kw_a12 c4 dX4_isSo_31 ?_
      refine lv_icmp_eq (tgt := 37) C.1 C.2.1 dX4_isSo_32 (by decide) (fun c5 => ?_) (fun c5 => ?_)
      · have h := h.1 c5
        obtain ⟨y6, ey6⟩ : ∃ z : Int32, z = z4 + 1 := ⟨_, rfl⟩
        have h := h y6 ey6
        refine lv_iinc (v := y6) (lv' := [(4, .int y6), (0, .ref (ad 10)), (1, .ref (ad (28 + 2 * i1))), (2, .int x2), (3, .int x3)]) C.1 C.2.1 dX4_isSo_37 hl (k := 0) rfl (by rw [ey6]; rfl) (by decide) rfl (fun ls hl => ?_)
        refine lv_goto (tgt := 3) C.1 C.2.1 dX4_isSo_40 (by decide) ?_
        exact ih _ h _ _ hG ls (lv_sub hl [0, 1, 2, 3, 4] rfl)
      · have h := h.2 c5
        refine lv_iconst (v := 0) C.1 C.2.1 dX4_isSo_35 (by decide) ?_
        exact fw_zret C hG (by decide) ⟨h, rfl, rfl⟩ dX4_isSo_36

set_option maxHeartbeats 4000000 in
set_option maxRecDepth 100000 in
theorem soX4_isSo (l : Launch) (G : fw_G) (ad : Nat → Nat) (kt : kw_T) (iv : fw_F) (ar : fw_R) (i1 : Nat) (x2 : Int32) (x3 : Int32) (Q : Int32 → Prop) (hi1 : i1 < kt.1) (h : wpX4_isSo kt iv ar i1 x2 x3 Q) : fw_M l G (kw G ad kt) yX4_isSo wsX4_isSo rmX4_isSo [.ref (ad 10), .ref (ad (28 + 2 * i1)), .int x2, .int x3] iv ar (fw_Qi G (kw G ad kt) (fun r iv1 ar1 => Q r ∧ iv = iv1 ∧ ar = ar1)) := by
  refine fw_start (cc := cX4_isSo) (nL := 5) (rt := (some .boolean)) (by decide) rfl (Nat.le_of_ble_eq_true rfl) ?_
  intro p e s m below meth c A ls H locs C hK hG hl
  obtain ⟨args, ea⟩ : ∃ z : Array Value, z = ([.ref (ad 10), .ref (ad (28 + 2 * i1)), .int x2, .int x3] : List Value).toArray := ⟨_, rfl⟩
  rw [← ea] at C ⊢
  have C : fw_C p s m args meth c cX4_isSo 5 (some .boolean) wsX4_isSo RX4 := C
  have hl : lv_has ls 5 [(0, .ref (ad 10)), (1, .ref (ad (28 + 2 * i1))), (2, .int x2), (3, .int x3)] := hl
  unfold wpX4_isSo at h
  refine lv_iconst (v := 0) C.1 C.2.1 dX4_isSo_0 (by decide) ?_
  refine lv_istore (lv' := [(4, .int 0), (0, .ref (ad 10)), (1, .ref (ad (28 + 2 * i1))), (2, .int x2), (3, .int x3)]) C.1 C.2.1 dX4_isSo_1 hl (by decide) rfl (fun ls hl => ?_)
  obtain ⟨ku, h⟩ := h
  refine soX4_isSo_L3 C hK hi1 ?_ ku _ h _ _ hG ls (lv_sub hl [0, 1, 2, 3, 4] rfl)
  intro w7 h H locs hG ls hl
  refine lv_iconst (v := 1) C.1 C.2.1 dX4_isSo_43 (by decide) ?_
  exact fw_zret C hG (by decide) ⟨h, rfl, rfl⟩ dX4_isSo_44
/-! KnifeBoard$Marks.seekThrown(LKnifeBoard$Knife;)V -/
def rmX4_seekThrown : Room := { frames := 4, cells := 0, slots := 0, locals := 92 }
def wpX4_seekThrown_L15 (kt : kw_T) (i1 : Nat) (z2 : Int32) (Q : fw_F → fw_R → Prop) (K : Int32 → fw_F → fw_R → Prop) : Nat → Int32 → fw_F → fw_R → Prop
  | 0, _, _, _ => False
  | fu + 1, z3, iv, ar => (24 < z3 → (K z3 iv ar)) ∧ (¬ 24 < z3 → ((576 ≤ (iv 8) → (∀ y5 : Int32, y5 = z3 + 1 → (wpX4_seekThrown_L15 kt i1 z2 Q K fu y5 iv ar))) ∧ (¬ 576 ≤ (iv 8) → (wpX4_isSo kt iv ar i1 z2 z3 (fun (r6 : Int32) => (r6 = 0 → (∀ y8 : Int32, y8 = z3 + 1 → (wpX4_seekThrown_L15 kt i1 z2 Q K fu y8 iv ar))) ∧ (¬ r6 = 0 → (vp_in (iv 8) 576 ∧ (∀ ar10 : fw_R, ar10 = va_up ar 13 (upd (ar 13) (iv 8).toNatClampNeg z2) → (vp_in (iv 8) 576 ∧ (∀ ar12 : fw_R, ar12 = va_up ar10 14 (upd (ar10 14) (iv 8).toNatClampNeg z3) → (∀ iv13 : fw_F, iv13 = va_up iv 8 ((iv 8) + 1) → (∀ y14 : Int32, y14 = z3 + 1 → (wpX4_seekThrown_L15 kt i1 z2 Q K fu y14 iv13 ar12)))))))))))))
def wpX4_seekThrown_L7 (kt : kw_T) (i1 : Nat) (Q : fw_F → fw_R → Prop) (K : Int32 → fw_F → fw_R → Prop) : Nat → Int32 → fw_F → fw_R → Prop
  | 0, _, _, _ => False
  | fu + 1, z2, iv, ar => (23 < z2 → (K z2 iv ar)) ∧ (¬ 23 < z2 → (∃ ku : Nat, wpX4_seekThrown_L15 kt i1 z2 Q (fun (w15 : Int32) (iv16 : fw_F) (ar17 : fw_R) => ∀ y18 : Int32, y18 = z2 + 1 → (wpX4_seekThrown_L7 kt i1 Q K fu y18 iv16 ar17)) ku 1 iv ar))
def wpX4_seekThrown (kt : kw_T) (iv : fw_F) (ar : fw_R) (i1 : Nat) (Q : fw_F → fw_R → Prop) : Prop := ∀ iv1 : fw_F, iv1 = va_up iv 8 0 → (∃ ku : Nat, wpX4_seekThrown_L7 kt i1 Q (fun (w19 : Int32) (iv20 : fw_F) (ar21 : fw_R) => Q iv20 ar21) ku 0 iv1 ar)
set_option maxHeartbeats 4000000 in
set_option maxRecDepth 100000 in
theorem soX4_seekThrown_L15 {p : Program} {l : Launch} {e : Env} {s : State} {m : MethodId} {args : Array Value} {below : List Frame} {meth : Method} {c : Code} {A : Nat → Prop} {G : fw_G} {ad : Nat → Nat} {kt : kw_T} {i1 : Nat} {z2 : Int32} {Q : fw_F → fw_R → Prop} {K : Int32 → fw_F → fw_R → Prop} (C : fw_C p s m args meth c cX4_seekThrown 4 none wsX4_seekThrown RX4) (hK : fw_K G A s) (hi1 : i1 < kt.1) (hX : ∀ (z3 : Int32) (iv : fw_F) (ar : fw_R), K z3 iv ar → ∀ (H : Heap) (locs : List Loc), fw_H G ((kw G ad kt) iv ar) A s H locs → ∀ (ls : Array Slot), lv_has ls 4 [(3, .int z3), (2, .int z2), (0, .ref (ad 10)), (1, .ref (ad (28 + 2 * i1)))] → W p l e rmX4_seekThrown s m args below meth c H locs 0 0 (MQ below (fw_Qv G (kw G ad kt) Q A) args s 0 0 A) (F0 m 77 ls [])) : ∀ (fu : Nat) (z3 : Int32) (iv : fw_F) (ar : fw_R), wpX4_seekThrown_L15 kt i1 z2 Q K fu z3 iv ar → ∀ (H : Heap) (locs : List Loc), fw_H G ((kw G ad kt) iv ar) A s H locs → ∀ (ls : Array Slot), lv_has ls 4 [(3, .int z3), (2, .int z2), (0, .ref (ad 10)), (1, .ref (ad (28 + 2 * i1)))] → W p l e rmX4_seekThrown s m args below meth c H locs 0 0 (MQ below (fw_Qv G (kw G ad kt) Q A) args s 0 0 A) (F0 m 15 ls []) := by
  intro fu
  have in_X4 : ∀ x ∈ wsX40, x ∈ wsX4_seekThrown := by decide +kernel
  have k22 := C.2.2.2.2.1 (.fieldLink RX4 22 "KnifeBoard$Marks" "starts" "[I") (by decide +kernel)
  have k25 := C.2.2.2.2.1 (.fieldLink RX4 25 "KnifeBoard$Marks" "turns" "[I") (by decide +kernel)
  have k31 := C.2.2.2.2.1 (.fieldLink RX4 31 "KnifeBoard$Marks" "left" "I") (by decide +kernel)
  induction fu with
  | zero => intro z3 iv ar h; exact h.elim
  | succ fu ih =>
    intro z3 iv ar h H locs hG ls hl
    unfold wpX4_seekThrown_L15 at h
    refine lv_iload_n C.1 C.2.1 dX4_seekThrown_15 rfl (lv_at hl 0 rfl) ?_
    refine lv_bipush (v := 24) C.1 C.2.1 dX4_seekThrown_16 (by decide) ?_
    refine lv_icmp_gt (tgt := 77) C.1 C.2.1 dX4_seekThrown_18 (by decide) (fun c3 => ?_) (fun c3 => ?_)
    · have h := h.1 c3
      exact hX _ _ _ h _ _ hG ls (lv_sub hl [0, 1, 2, 3] rfl)
    · have h := h.2 c3
      refine lv_aload_n C.1 C.2.1 dX4_seekThrown_21 rfl (lv_at hl 2 rfl) ?_
      refine fw_get (w := (kw G ad kt)) C in_X4 hK hG 10 kw_o4 rfl 6 (by decide) k31 rfl rfl dX4_seekThrown_22 ?_
      refine lv_sipush (v := 576) C.1 C.2.1 dX4_seekThrown_25 (by decide) ?_
      refine lv_icmp_ge (tgt := 71) C.1 C.2.1 dX4_seekThrown_28 (by decide) (fun c4 => ?_) (fun c4 => ?_)
      · have h := h.1 c4
        obtain ⟨y5, ey5⟩ : ∃ z : Int32, z = z3 + 1 := ⟨_, rfl⟩
        have h := h y5 ey5
        refine lv_iinc (v := y5) (lv' := [(3, .int y5), (2, .int z2), (0, .ref (ad 10)), (1, .ref (ad (28 + 2 * i1)))]) C.1 C.2.1 dX4_seekThrown_71 hl (k := 0) rfl (by rw [ey5]; rfl) (by decide) rfl (fun ls hl => ?_)
        refine lv_goto (tgt := 15) C.1 C.2.1 dX4_seekThrown_74 (by decide) ?_
        exact ih _ _ _ h _ _ hG ls (lv_sub hl [0, 1, 2, 3] rfl)
      · have h := h.2 c4
        refine lv_aload_n C.1 C.2.1 dX4_seekThrown_31 rfl (lv_at hl 2 rfl) ?_
        refine lv_aload_n C.1 C.2.1 dX4_seekThrown_32 rfl (lv_at hl 3 rfl) ?_
        refine lv_iload_n C.1 C.2.1 dX4_seekThrown_33 rfl (lv_at hl 1 rfl) ?_
        refine lv_iload_n C.1 C.2.1 dX4_seekThrown_34 rfl (lv_at hl 0 rfl) ?_
        refine fw_rcalli (va_runV (As := [.ref (ad (28 + 2 * i1)), .int z2, .int z3]) (rest := []) ⟨C.1, C.2.1, C.2.2.2.2.2.2, C.2.2.2.2.2.1, C.2.2.2.2.1⟩ (soX4_isSo l G ad kt iv ar i1 z2 z3 _ hi1 h H.size) (cwV 3 C.2.2.2.2.1 gX4_seekThrown_X4_isSo rfl rfl rfl (by decide +kernel) ⟨Nat.le_of_ble_eq_true rfl, Nat.le_of_ble_eq_true rfl⟩) (fw_preV hG hK (ci := 4) rfl kw_o4) rfl rfl hl.1 rfl (lv_room (Nat.le_of_ble_eq_true rfl)) dX4_seekThrown_35 ⟨Nat.zero_le _, Nat.zero_le _⟩) hG hK (fun r6  H locs h hG => ?_)
        refine lv_if_eq (tgt := 71) C.1 C.2.1 dX4_seekThrown_38 (by decide) (fun c7 => ?_) (fun c7 => ?_)
        · have h := h.1 c7
          obtain ⟨y8, ey8⟩ : ∃ z : Int32, z = z3 + 1 := ⟨_, rfl⟩
          have h := h y8 ey8
          refine lv_iinc (v := y8) (lv' := [(3, .int y8), (2, .int z2), (0, .ref (ad 10)), (1, .ref (ad (28 + 2 * i1)))]) C.1 C.2.1 dX4_seekThrown_71 hl (k := 0) rfl (by rw [ey8]; rfl) (by decide) rfl (fun ls hl => ?_)
          refine lv_goto (tgt := 15) C.1 C.2.1 dX4_seekThrown_74 (by decide) ?_
          exact ih _ _ _ h _ _ hG ls (lv_sub hl [0, 1, 2, 3] rfl)
        · have h := h.2 c7
          refine lv_aload_n C.1 C.2.1 dX4_seekThrown_41 rfl (lv_at hl 2 rfl) ?_
          refine fw_get (w := (kw G ad kt)) C in_X4 hK hG 10 kw_o4 rfl 3 (by decide) k22 rfl rfl dX4_seekThrown_42 ?_
          refine lv_aload_n C.1 C.2.1 dX4_seekThrown_45 rfl (lv_at hl 2 rfl) ?_
          refine fw_get (w := (kw G ad kt)) C in_X4 hK hG 10 kw_o4 rfl 6 (by decide) k31 rfl rfl dX4_seekThrown_46 ?_
          refine lv_iload_n C.1 C.2.1 dX4_seekThrown_49 rfl (lv_at hl 1 rfl) ?_
          obtain ⟨c9, h⟩ := h
          obtain ⟨ar10, ear10⟩ : ∃ z : fw_R, z = va_up ar 13 (upd (ar 13) (iv 8).toNatClampNeg z2) := ⟨_, rfl⟩
          have h := h ar10 ear10
          refine fw_iast (w := (kw G ad kt)) C hK hG 13 kw_a13 c9 (ar1 := ar10) (by rw [ear10]; exact kw_s13) dX4_seekThrown_50 (fun H locs hG => ?_)
          refine lv_aload_n C.1 C.2.1 dX4_seekThrown_51 rfl (lv_at hl 2 rfl) ?_
          refine fw_get (w := (kw G ad kt)) C in_X4 hK hG 10 kw_o4 rfl 4 (by decide) k25 rfl rfl dX4_seekThrown_52 ?_
          refine lv_aload_n C.1 C.2.1 dX4_seekThrown_55 rfl (lv_at hl 2 rfl) ?_
          refine fw_get (w := (kw G ad kt)) C in_X4 hK hG 10 kw_o4 rfl 6 (by decide) k31 rfl rfl dX4_seekThrown_56 ?_
          refine lv_iload_n C.1 C.2.1 dX4_seekThrown_59 rfl (lv_at hl 0 rfl) ?_
          obtain ⟨c11, h⟩ := h
          obtain ⟨ar12, ear12⟩ : ∃ z : fw_R, z = va_up ar10 14 (upd (ar10 14) (iv 8).toNatClampNeg z3) := ⟨_, rfl⟩
          have h := h ar12 ear12
          refine fw_iast (w := (kw G ad kt)) C hK hG 14 kw_a14 c11 (ar1 := ar12) (by rw [ear12]; exact kw_s14) dX4_seekThrown_60 (fun H locs hG => ?_)
          refine lv_aload_n C.1 C.2.1 dX4_seekThrown_61 rfl (lv_at hl 2 rfl) ?_
          refine lv_dup C.1 C.2.1 dX4_seekThrown_62 rfl ?_
          refine fw_get (w := (kw G ad kt)) C in_X4 hK hG 10 kw_o4 rfl 6 (by decide) k31 rfl rfl dX4_seekThrown_63 ?_
          refine lv_iconst (v := 1) C.1 C.2.1 dX4_seekThrown_66 (by decide) ?_
          refine lv_iadd C.1 C.2.1 dX4_seekThrown_67 ?_
          obtain ⟨iv13, eiv13⟩ : ∃ z : fw_F, z = va_up iv 8 ((iv 8) + 1) := ⟨_, rfl⟩
          have h := h iv13 eiv13
          refine fw_put (w := (kw G ad kt)) C in_X4 tyX4 tyX4_ok nmX4 hK hG 10 kw_o4 rfl 6 (by decide) k31 rfl rfl (ty := .int) (v := .int ((iv 8) + 1)) (by decide +kernel) rfl rfl (by first | decide | exact Nat.le_of_ble_eq_true rfl) (iv1 := iv13) (by rw [eiv13]; exact kw_p4_left) dX4_seekThrown_68 (fun H locs hG => ?_)
          obtain ⟨y14, ey14⟩ : ∃ z : Int32, z = z3 + 1 := ⟨_, rfl⟩
          have h := h y14 ey14
          refine lv_iinc (v := y14) (lv' := [(3, .int y14), (2, .int z2), (0, .ref (ad 10)), (1, .ref (ad (28 + 2 * i1)))]) C.1 C.2.1 dX4_seekThrown_71 hl (k := 0) rfl (by rw [ey14]; rfl) (by decide) rfl (fun ls hl => ?_)
          refine lv_goto (tgt := 15) C.1 C.2.1 dX4_seekThrown_74 (by decide) ?_
          exact ih _ _ _ h _ _ hG ls (lv_sub hl [0, 1, 2, 3] rfl)

set_option maxHeartbeats 4000000 in
set_option maxRecDepth 100000 in
theorem soX4_seekThrown_L7 {p : Program} {l : Launch} {e : Env} {s : State} {m : MethodId} {args : Array Value} {below : List Frame} {meth : Method} {c : Code} {A : Nat → Prop} {G : fw_G} {ad : Nat → Nat} {kt : kw_T} {i1 : Nat} {Q : fw_F → fw_R → Prop} {K : Int32 → fw_F → fw_R → Prop} (C : fw_C p s m args meth c cX4_seekThrown 4 none wsX4_seekThrown RX4) (hK : fw_K G A s) (hi1 : i1 < kt.1) (hX : ∀ (z2 : Int32) (iv : fw_F) (ar : fw_R), K z2 iv ar → ∀ (H : Heap) (locs : List Loc), fw_H G ((kw G ad kt) iv ar) A s H locs → ∀ (ls : Array Slot), lv_has ls 4 [(2, .int z2), (0, .ref (ad 10)), (1, .ref (ad (28 + 2 * i1)))] → W p l e rmX4_seekThrown s m args below meth c H locs 0 0 (MQ below (fw_Qv G (kw G ad kt) Q A) args s 0 0 A) (F0 m 83 ls [])) : ∀ (fu : Nat) (z2 : Int32) (iv : fw_F) (ar : fw_R), wpX4_seekThrown_L7 kt i1 Q K fu z2 iv ar → ∀ (H : Heap) (locs : List Loc), fw_H G ((kw G ad kt) iv ar) A s H locs → ∀ (ls : Array Slot), lv_has ls 4 [(2, .int z2), (0, .ref (ad 10)), (1, .ref (ad (28 + 2 * i1)))] → W p l e rmX4_seekThrown s m args below meth c H locs 0 0 (MQ below (fw_Qv G (kw G ad kt) Q A) args s 0 0 A) (F0 m 7 ls []) := by
  intro fu
  induction fu with
  | zero => intro z2 iv ar h; exact h.elim
  | succ fu ih =>
    intro z2 iv ar h H locs hG ls hl
    unfold wpX4_seekThrown_L7 at h
    refine lv_iload_n C.1 C.2.1 dX4_seekThrown_7 rfl (lv_at hl 0 rfl) ?_
    refine lv_bipush (v := 23) C.1 C.2.1 dX4_seekThrown_8 (by decide) ?_
    refine lv_icmp_gt (tgt := 83) C.1 C.2.1 dX4_seekThrown_10 (by decide) (fun c2 => ?_) (fun c2 => ?_)
    · have h := h.1 c2
      exact hX _ _ _ h _ _ hG ls (lv_sub hl [0, 1, 2] rfl)
    · have h := h.2 c2
      refine lv_iconst (v := 1) C.1 C.2.1 dX4_seekThrown_13 (by decide) ?_
      refine lv_istore_n (lv' := [(3, .int 1), (2, .int z2), (0, .ref (ad 10)), (1, .ref (ad (28 + 2 * i1)))]) C.1 C.2.1 dX4_seekThrown_14 rfl hl (by decide) rfl (fun ls hl => ?_)
      obtain ⟨ku, h⟩ := h
      refine soX4_seekThrown_L15 C hK hi1 ?_ ku _ _ _ h _ _ hG ls (lv_sub hl [0, 1, 2, 3] rfl)
      intro w15 iv16 ar17 h H locs hG ls hl
      obtain ⟨y18, ey18⟩ : ∃ z : Int32, z = z2 + 1 := ⟨_, rfl⟩
      have h := h y18 ey18
      refine lv_iinc (v := y18) (lv' := [(2, .int y18), (3, .int w15), (0, .ref (ad 10)), (1, .ref (ad (28 + 2 * i1)))]) C.1 C.2.1 dX4_seekThrown_77 hl (k := 1) rfl (by rw [ey18]; rfl) (by decide) rfl (fun ls hl => ?_)
      refine lv_goto (tgt := 7) C.1 C.2.1 dX4_seekThrown_80 (by decide) ?_
      exact ih _ _ _ h _ _ hG ls (lv_sub hl [0, 2, 3] rfl)

set_option maxHeartbeats 4000000 in
set_option maxRecDepth 100000 in
theorem soX4_seekThrown (l : Launch) (G : fw_G) (ad : Nat → Nat) (kt : kw_T) (iv : fw_F) (ar : fw_R) (i1 : Nat) (Q : fw_F → fw_R → Prop) (hi1 : i1 < kt.1) (h : wpX4_seekThrown kt iv ar i1 Q) : fw_M l G (kw G ad kt) yX4_seekThrown wsX4_seekThrown rmX4_seekThrown [.ref (ad 10), .ref (ad (28 + 2 * i1))] iv ar (fw_Qv G (kw G ad kt) Q) := by
  refine fw_start (cc := cX4_seekThrown) (nL := 4) (rt := none) (by decide) rfl (Nat.le_of_ble_eq_true rfl) ?_
  intro p e s m below meth c A ls H locs C hK hG hl
  obtain ⟨args, ea⟩ : ∃ z : Array Value, z = ([.ref (ad 10), .ref (ad (28 + 2 * i1))] : List Value).toArray := ⟨_, rfl⟩
  rw [← ea] at C ⊢
  have C : fw_C p s m args meth c cX4_seekThrown 4 none wsX4_seekThrown RX4 := C
  have hl : lv_has ls 4 [(0, .ref (ad 10)), (1, .ref (ad (28 + 2 * i1)))] := hl
  unfold wpX4_seekThrown at h
  have in_X4 : ∀ x ∈ wsX40, x ∈ wsX4_seekThrown := by decide +kernel
  have k31 := C.2.2.2.2.1 (.fieldLink RX4 31 "KnifeBoard$Marks" "left" "I") (by decide +kernel)
  refine lv_aload_n C.1 C.2.1 dX4_seekThrown_0 rfl (lv_at hl 0 rfl) ?_
  refine lv_iconst (v := 0) C.1 C.2.1 dX4_seekThrown_1 (by decide) ?_
  obtain ⟨iv1, eiv1⟩ : ∃ z : fw_F, z = va_up iv 8 0 := ⟨_, rfl⟩
  have h := h iv1 eiv1
  refine fw_put (w := (kw G ad kt)) C in_X4 tyX4 tyX4_ok nmX4 hK hG 10 kw_o4 rfl 6 (by decide) k31 rfl rfl (ty := .int) (v := .int 0) (by decide +kernel) rfl rfl (by first | decide | exact Nat.le_of_ble_eq_true rfl) (iv1 := iv1) (by rw [eiv1]; exact kw_p4_left) dX4_seekThrown_2 (fun H locs hG => ?_)
  refine lv_iconst (v := 0) C.1 C.2.1 dX4_seekThrown_5 (by decide) ?_
  refine lv_istore_n (lv' := [(2, .int 0), (0, .ref (ad 10)), (1, .ref (ad (28 + 2 * i1)))]) C.1 C.2.1 dX4_seekThrown_6 rfl hl (by decide) rfl (fun ls hl => ?_)
  obtain ⟨ku, h⟩ := h
  refine soX4_seekThrown_L7 C hK hi1 ?_ ku _ _ _ h _ _ hG ls (lv_sub hl [0, 1, 2] rfl)
  intro w19 iv20 ar21 h H locs hG ls hl
  exact fw_vret C hG h dX4_seekThrown_83
/-! KnifeBoard$Marks.firstThrown()I -/
def rmX4_firstThrown : Room := { frames := 0, cells := 0, slots := 0, locals := 0 }
def wpX4_firstThrown (kt : kw_T) (iv : fw_F) (ar : fw_R)  (Q : Int32 → Prop) : Prop := (¬ (iv 8) = 0 → (vp_in (0 : Int32) 576 ∧ (vp_in (0 : Int32) 576 ∧ (Q ((100 * ((ar 13) (0 : Int32).toNatClampNeg)) + ((ar 14) (0 : Int32).toNatClampNeg)))))) ∧ ((iv 8) = 0 → (Q (-9)))
set_option maxHeartbeats 4000000 in
set_option maxRecDepth 100000 in
theorem soX4_firstThrown (l : Launch) (G : fw_G) (ad : Nat → Nat) (kt : kw_T) (iv : fw_F) (ar : fw_R)  (Q : Int32 → Prop)  (h : wpX4_firstThrown kt iv ar  Q) : fw_M l G (kw G ad kt) yX4_firstThrown wsX4_firstThrown rmX4_firstThrown [.ref (ad 10)] iv ar (fw_Qi G (kw G ad kt) (fun r iv1 ar1 => Q r ∧ iv = iv1 ∧ ar = ar1)) := by
  refine fw_start (cc := cX4_firstThrown) (nL := 1) (rt := (some .int)) (by decide) rfl (Nat.le_of_ble_eq_true rfl) ?_
  intro p e s m below meth c A ls H locs C hK hG hl
  obtain ⟨args, ea⟩ : ∃ z : Array Value, z = ([.ref (ad 10)] : List Value).toArray := ⟨_, rfl⟩
  rw [← ea] at C ⊢
  have C : fw_C p s m args meth c cX4_firstThrown 1 (some .int) wsX4_firstThrown RX4 := C
  have hl : lv_has ls 1 [(0, .ref (ad 10))] := hl
  unfold wpX4_firstThrown at h
  have in_X4 : ∀ x ∈ wsX40, x ∈ wsX4_firstThrown := by decide +kernel
  have k22 := C.2.2.2.2.1 (.fieldLink RX4 22 "KnifeBoard$Marks" "starts" "[I") (by decide +kernel)
  have k25 := C.2.2.2.2.1 (.fieldLink RX4 25 "KnifeBoard$Marks" "turns" "[I") (by decide +kernel)
  have k31 := C.2.2.2.2.1 (.fieldLink RX4 31 "KnifeBoard$Marks" "left" "I") (by decide +kernel)
  refine lv_aload_n C.1 C.2.1 dX4_firstThrown_0 rfl (lv_at hl 0 rfl) ?_
  refine fw_get (w := (kw G ad kt)) C in_X4 hK hG 10 kw_o4 rfl 6 (by decide) k31 rfl rfl dX4_firstThrown_1 ?_
  refine lv_if_ne (tgt := 12) C.1 C.2.1 dX4_firstThrown_4 (by decide) (fun c1 => ?_) (fun c1 => ?_)
  · have h := h.1 c1
    refine lv_bipush (v := 100) C.1 C.2.1 dX4_firstThrown_12 (by decide) ?_
    refine lv_aload_n C.1 C.2.1 dX4_firstThrown_14 rfl (lv_at hl 0 rfl) ?_
    refine fw_get (w := (kw G ad kt)) C in_X4 hK hG 10 kw_o4 rfl 3 (by decide) k22 rfl rfl dX4_firstThrown_15 ?_
    refine lv_iconst (v := 0) C.1 C.2.1 dX4_firstThrown_18 (by decide) ?_
    obtain ⟨c2, h⟩ := h
    refine fw_iald (w := (kw G ad kt)) C hK hG 13 kw_a13 c2 dX4_firstThrown_19 ?_
    refine lv_imul C.1 C.2.1 dX4_firstThrown_20 ?_
    refine lv_aload_n C.1 C.2.1 dX4_firstThrown_21 rfl (lv_at hl 0 rfl) ?_
    refine fw_get (w := (kw G ad kt)) C in_X4 hK hG 10 kw_o4 rfl 4 (by decide) k25 rfl rfl dX4_firstThrown_22 ?_
    refine lv_iconst (v := 0) C.1 C.2.1 dX4_firstThrown_25 (by decide) ?_
    obtain ⟨c3, h⟩ := h
    refine fw_iald (w := (kw G ad kt)) C hK hG 14 kw_a14 c3 dX4_firstThrown_26 ?_
    refine lv_iadd C.1 C.2.1 dX4_firstThrown_27 ?_
    exact fw_iret C hG ⟨h, rfl, rfl⟩ dX4_firstThrown_28
  · have h := h.2 c1
    refine lv_bipush (v := (-9)) C.1 C.2.1 dX4_firstThrown_7 (by decide) ?_
    refine lv_goto (tgt := 28) C.1 C.2.1 dX4_firstThrown_9 (by decide) ?_
    exact fw_iret C hG ⟨h, rfl, rfl⟩ dX4_firstThrown_28
/-! KnifeBoard$Marks.leftAtWorst(LKnifeBoard$Knife;I)I -/
def rmX4_leftAtWorst : Room := { frames := 3, cells := 0, slots := 0, locals := 68 }
def wpX4_leftAtWorst_L2 (kt : kw_T) (i1 : Nat) (x2 : Int32) (Q : Int32 → fw_F → fw_R → Prop) (K : Int32 → fw_F → fw_R → Prop) : Nat → Int32 → fw_F → fw_R → Prop
  | 0, _, _, _ => False
  | fu + 1, z3, iv, ar => (3 < z3 → (K z3 iv ar)) ∧ (¬ 3 < z3 → (vp_in z3 4 ∧ (∀ ar3 : fw_R, ar3 = va_up ar 15 (upd (ar 15) z3.toNatClampNeg 0) → (∀ y4 : Int32, y4 = z3 + 1 → (wpX4_leftAtWorst_L2 kt i1 x2 Q K fu y4 iv ar3)))))
def wpX4_leftAtWorst_L22 (kt : kw_T) (i1 : Nat) (x2 : Int32) (Q : Int32 → fw_F → fw_R → Prop) (K : Int32 → fw_F → fw_R → Prop) : Nat → Int32 → fw_F → fw_R → Prop
  | 0, _, _, _ => False
  | fu + 1, z3, iv, ar => ((iv 8) ≤ z3 → (K z3 iv ar)) ∧ (¬ (iv 8) ≤ z3 → (vp_in z3 576 ∧ (vp_in z3 576 ∧ (wpX3_cameBy kt iv ar i1 ((ar 13) z3.toNatClampNeg) ((ar 14) z3.toNatClampNeg) x2 (fun (r11 : Int32) => vp_in r11 4 ∧ (vp_in r11 4 ∧ (∀ ar14 : fw_R, ar14 = va_up ar 15 (upd (ar 15) r11.toNatClampNeg (((ar 15) r11.toNatClampNeg) + 1)) → (∀ y15 : Int32, y15 = z3 + 1 → (wpX4_leftAtWorst_L22 kt i1 x2 Q K fu y15 iv ar14)))))))))
def wpX4_leftAtWorst (kt : kw_T) (iv : fw_F) (ar : fw_R) (i1 : Nat) (x2 : Int32) (Q : Int32 → fw_F → fw_R → Prop) : Prop := ∃ ku : Nat, wpX4_leftAtWorst_L2 kt i1 x2 Q (fun (w5 : Int32) (iv6 : fw_F) (ar7 : fw_R) => ∃ ku : Nat, wpX4_leftAtWorst_L22 kt i1 x2 Q (fun (w16 : Int32) (iv17 : fw_F) (ar18 : fw_R) => vp_in (0 : Int32) 4 ∧ (vp_in (1 : Int32) 4 ∧ (vp_in (2 : Int32) 4 ∧ (vp_in (3 : Int32) 4 ∧ (Q (if (if ((ar18 15) (0 : Int32).toNatClampNeg) < ((ar18 15) (1 : Int32).toNatClampNeg) then (ar18 15) (1 : Int32).toNatClampNeg else (ar18 15) (0 : Int32).toNatClampNeg) < (if ((ar18 15) (2 : Int32).toNatClampNeg) < ((ar18 15) (3 : Int32).toNatClampNeg) then (ar18 15) (3 : Int32).toNatClampNeg else (ar18 15) (2 : Int32).toNatClampNeg) then (if ((ar18 15) (2 : Int32).toNatClampNeg) < ((ar18 15) (3 : Int32).toNatClampNeg) then (ar18 15) (3 : Int32).toNatClampNeg else (ar18 15) (2 : Int32).toNatClampNeg) else (if ((ar18 15) (0 : Int32).toNatClampNeg) < ((ar18 15) (1 : Int32).toNatClampNeg) then (ar18 15) (1 : Int32).toNatClampNeg else (ar18 15) (0 : Int32).toNatClampNeg)) iv17 ar18))))) ku 0 iv6 ar7) ku 0 iv ar
set_option maxHeartbeats 4000000 in
set_option maxRecDepth 100000 in
theorem soX4_leftAtWorst_L2 {p : Program} {l : Launch} {e : Env} {s : State} {m : MethodId} {args : Array Value} {below : List Frame} {meth : Method} {c : Code} {A : Nat → Prop} {G : fw_G} {ad : Nat → Nat} {kt : kw_T} {i1 : Nat} {x2 : Int32} {Q : Int32 → fw_F → fw_R → Prop} {K : Int32 → fw_F → fw_R → Prop} (C : fw_C p s m args meth c cX4_leftAtWorst 4 (some .int) wsX4_leftAtWorst RX4) (hK : fw_K G A s) (hi1 : i1 < kt.1) (hX : ∀ (z3 : Int32) (iv : fw_F) (ar : fw_R), K z3 iv ar → ∀ (H : Heap) (locs : List Loc), fw_H G ((kw G ad kt) iv ar) A s H locs → ∀ (ls : Array Slot), lv_has ls 4 [(3, .int z3), (0, .ref (ad 10)), (1, .ref (ad (28 + 2 * i1))), (2, .int x2)] → W p l e rmX4_leftAtWorst s m args below meth c H locs 0 0 (MQ below (fw_Qi G (kw G ad kt) Q A) args s 0 0 A) (F0 m 20 ls [])) : ∀ (fu : Nat) (z3 : Int32) (iv : fw_F) (ar : fw_R), wpX4_leftAtWorst_L2 kt i1 x2 Q K fu z3 iv ar → ∀ (H : Heap) (locs : List Loc), fw_H G ((kw G ad kt) iv ar) A s H locs → ∀ (ls : Array Slot), lv_has ls 4 [(3, .int z3), (0, .ref (ad 10)), (1, .ref (ad (28 + 2 * i1))), (2, .int x2)] → W p l e rmX4_leftAtWorst s m args below meth c H locs 0 0 (MQ below (fw_Qi G (kw G ad kt) Q A) args s 0 0 A) (F0 m 2 ls []) := by
  intro fu
  have in_X4 : ∀ x ∈ wsX40, x ∈ wsX4_leftAtWorst := by decide +kernel
  have k28 := C.2.2.2.2.1 (.fieldLink RX4 28 "KnifeBoard$Marks" "leftBy" "[I") (by decide +kernel)
  induction fu with
  | zero => intro z3 iv ar h; exact h.elim
  | succ fu ih =>
    intro z3 iv ar h H locs hG ls hl
    unfold wpX4_leftAtWorst_L2 at h
    refine lv_iload_n C.1 C.2.1 dX4_leftAtWorst_2 rfl (lv_at hl 0 rfl) ?_
    refine lv_iconst (v := 3) C.1 C.2.1 dX4_leftAtWorst_3 (by decide) ?_
    refine lv_icmp_gt (tgt := 20) C.1 C.2.1 dX4_leftAtWorst_4 (by decide) (fun c1 => ?_) (fun c1 => ?_)
    · have h := h.1 c1
      exact hX _ _ _ h _ _ hG ls (lv_sub hl [0, 1, 2, 3] rfl)
    · have h := h.2 c1
      refine lv_aload_n C.1 C.2.1 dX4_leftAtWorst_7 rfl (lv_at hl 1 rfl) ?_
      refine fw_get (w := (kw G ad kt)) C in_X4 hK hG 10 kw_o4 rfl 5 (by decide) k28 rfl rfl dX4_leftAtWorst_8 ?_
      refine lv_iload_n C.1 C.2.1 dX4_leftAtWorst_11 rfl (lv_at hl 0 rfl) ?_
      refine lv_iconst (v := 0) C.1 C.2.1 dX4_leftAtWorst_12 (by decide) ?_
      obtain ⟨c2, h⟩ := h
      obtain ⟨ar3, ear3⟩ : ∃ z : fw_R, z = va_up ar 15 (upd (ar 15) z3.toNatClampNeg 0) := ⟨_, rfl⟩
      have h := h ar3 ear3
      refine fw_iast (w := (kw G ad kt)) C hK hG 15 kw_a15 c2 (ar1 := ar3) (by rw [ear3]; exact kw_s15) dX4_leftAtWorst_13 (fun H locs hG => ?_)
      obtain ⟨y4, ey4⟩ : ∃ z : Int32, z = z3 + 1 := ⟨_, rfl⟩
      have h := h y4 ey4
      refine lv_iinc (v := y4) (lv' := [(3, .int y4), (0, .ref (ad 10)), (1, .ref (ad (28 + 2 * i1))), (2, .int x2)]) C.1 C.2.1 dX4_leftAtWorst_14 hl (k := 0) rfl (by rw [ey4]; rfl) (by decide) rfl (fun ls hl => ?_)
      refine lv_goto (tgt := 2) C.1 C.2.1 dX4_leftAtWorst_17 (by decide) ?_
      exact ih _ _ _ h _ _ hG ls (lv_sub hl [0, 1, 2, 3] rfl)

set_option maxHeartbeats 4000000 in
set_option maxRecDepth 100000 in
theorem soX4_leftAtWorst_L22 {p : Program} {l : Launch} {e : Env} {s : State} {m : MethodId} {args : Array Value} {below : List Frame} {meth : Method} {c : Code} {A : Nat → Prop} {G : fw_G} {ad : Nat → Nat} {kt : kw_T} {i1 : Nat} {x2 : Int32} {Q : Int32 → fw_F → fw_R → Prop} {K : Int32 → fw_F → fw_R → Prop} (C : fw_C p s m args meth c cX4_leftAtWorst 4 (some .int) wsX4_leftAtWorst RX4) (hK : fw_K G A s) (hi1 : i1 < kt.1) (hX : ∀ (z3 : Int32) (iv : fw_F) (ar : fw_R), K z3 iv ar → ∀ (H : Heap) (locs : List Loc), fw_H G ((kw G ad kt) iv ar) A s H locs → ∀ (ls : Array Slot), lv_has ls 4 [(3, .int z3), (0, .ref (ad 10)), (1, .ref (ad (28 + 2 * i1))), (2, .int x2)] → W p l e rmX4_leftAtWorst s m args below meth c H locs 0 0 (MQ below (fw_Qi G (kw G ad kt) Q A) args s 0 0 A) (F0 m 62 ls [])) : ∀ (fu : Nat) (z3 : Int32) (iv : fw_F) (ar : fw_R), wpX4_leftAtWorst_L22 kt i1 x2 Q K fu z3 iv ar → ∀ (H : Heap) (locs : List Loc), fw_H G ((kw G ad kt) iv ar) A s H locs → ∀ (ls : Array Slot), lv_has ls 4 [(3, .int z3), (0, .ref (ad 10)), (1, .ref (ad (28 + 2 * i1))), (2, .int x2)] → W p l e rmX4_leftAtWorst s m args below meth c H locs 0 0 (MQ below (fw_Qi G (kw G ad kt) Q A) args s 0 0 A) (F0 m 22 ls []) := by
  intro fu
  have in_X4 : ∀ x ∈ wsX40, x ∈ wsX4_leftAtWorst := by decide +kernel
  have k22 := C.2.2.2.2.1 (.fieldLink RX4 22 "KnifeBoard$Marks" "starts" "[I") (by decide +kernel)
  have k25 := C.2.2.2.2.1 (.fieldLink RX4 25 "KnifeBoard$Marks" "turns" "[I") (by decide +kernel)
  have k28 := C.2.2.2.2.1 (.fieldLink RX4 28 "KnifeBoard$Marks" "leftBy" "[I") (by decide +kernel)
  have k31 := C.2.2.2.2.1 (.fieldLink RX4 31 "KnifeBoard$Marks" "left" "I") (by decide +kernel)
  induction fu with
  | zero => intro z3 iv ar h; exact h.elim
  | succ fu ih =>
    intro z3 iv ar h H locs hG ls hl
    unfold wpX4_leftAtWorst_L22 at h
    refine lv_iload_n C.1 C.2.1 dX4_leftAtWorst_22 rfl (lv_at hl 0 rfl) ?_
    refine lv_aload_n C.1 C.2.1 dX4_leftAtWorst_23 rfl (lv_at hl 1 rfl) ?_
    refine fw_get (w := (kw G ad kt)) C in_X4 hK hG 10 kw_o4 rfl 6 (by decide) k31 rfl rfl dX4_leftAtWorst_24 ?_
    refine lv_icmp_ge (tgt := 62) C.1 C.2.1 dX4_leftAtWorst_27 (by decide) (fun c8 => ?_) (fun c8 => ?_)
    · have h := h.1 c8
      exact hX _ _ _ h _ _ hG ls (lv_sub hl [0, 1, 2, 3] rfl)
    · have h := h.2 c8
      refine lv_aload_n C.1 C.2.1 dX4_leftAtWorst_30 rfl (lv_at hl 1 rfl) ?_
      refine fw_get (w := (kw G ad kt)) C in_X4 hK hG 10 kw_o4 rfl 5 (by decide) k28 rfl rfl dX4_leftAtWorst_31 ?_
      refine lv_aload_n C.1 C.2.1 dX4_leftAtWorst_34 rfl (lv_at hl 2 rfl) ?_
      refine lv_aload_n C.1 C.2.1 dX4_leftAtWorst_35 rfl (lv_at hl 1 rfl) ?_
      refine fw_get (w := (kw G ad kt)) C in_X4 hK hG 10 kw_o4 rfl 3 (by decide) k22 rfl rfl dX4_leftAtWorst_36 ?_
      refine lv_iload_n C.1 C.2.1 dX4_leftAtWorst_39 rfl (lv_at hl 0 rfl) ?_
      obtain ⟨c9, h⟩ := h
      refine fw_iald (w := (kw G ad kt)) C hK hG 13 kw_a13 c9 dX4_leftAtWorst_40 ?_
      refine lv_aload_n C.1 C.2.1 dX4_leftAtWorst_41 rfl (lv_at hl 1 rfl) ?_
      refine fw_get (w := (kw G ad kt)) C in_X4 hK hG 10 kw_o4 rfl 4 (by decide) k25 rfl rfl dX4_leftAtWorst_42 ?_
      refine lv_iload_n C.1 C.2.1 dX4_leftAtWorst_45 rfl (lv_at hl 0 rfl) ?_
      obtain ⟨c10, h⟩ := h
      refine fw_iald (w := (kw G ad kt)) C hK hG 14 kw_a14 c10 dX4_leftAtWorst_46 ?_
      refine lv_iload_n C.1 C.2.1 dX4_leftAtWorst_47 rfl (lv_at hl 3 rfl) ?_
      have rn : va_Run p l e rmX4_leftAtWorst s m args below meth c H locs 0 0 0 0 (F0 m 48 ls (.int x2 :: .int ((ar 14) z3.toNatClampNeg) :: .int ((ar 13) z3.toNatClampNeg) :: .ref (ad (28 + 2 * i1)) :: [.ref (ad 15)])) [.ref (ad 15)] (fw_Qi G (kw G ad kt) (fun r iv1 ar1 => (fun (r11 : Int32) => vp_in r11 4 ∧ (vp_in r11 4 ∧ (∀ ar14 : fw_R, ar14 = va_up ar 15 (upd (ar 15) r11.toNatClampNeg (((ar 15) r11.toNatClampNeg) + 1)) → (∀ y15 : Int32, y15 = z3 + 1 → (wpX4_leftAtWorst_L22 kt i1 x2 Q K fu y15 iv ar14))))) r ∧ iv = iv1 ∧ ar = ar1) (va_A ((kw G ad kt) iv ar) H.size) (.ref (ad (28 + 2 * i1)) :: [.int ((ar 13) z3.toNatClampNeg), .int ((ar 14) z3.toNatClampNeg), .int x2]).toArray) (va_A ((kw G ad kt) iv ar) H.size) := by
        by_cases e0 : kt.2.1 i1 = 0
        · exact va_runV (As := [.int ((ar 13) z3.toNatClampNeg), .int ((ar 14) z3.toNatClampNeg), .int x2]) (rest := [.ref (ad 15)]) ⟨C.1, C.2.1, C.2.2.2.2.2.2, C.2.2.2.2.2.1, C.2.2.2.2.1⟩ (soX3_cameBy l G ad kt iv ar i1 ((ar 13) z3.toNatClampNeg) ((ar 14) z3.toNatClampNeg) x2 _ hi1 h H.size) (cwV 3 C.2.2.2.2.1 gX4_leftAtWorst_X3_cameBy rfl rfl rfl (by decide +kernel) ⟨Nat.le_of_ble_eq_true rfl, Nat.le_of_ble_eq_true rfl⟩) (fw_preV hG hK (ci := 3) rfl (kw_oK3 hi1 (kw_d3 e0))) rfl rfl hl.1 rfl (lv_room (Nat.le_of_ble_eq_true rfl)) dX4_leftAtWorst_48 ⟨Nat.zero_le _, Nat.zero_le _⟩
        · by_cases e1 : kt.2.1 i1 = 1
          · exact va_runU (As := [.int ((ar 13) z3.toNatClampNeg), .int ((ar 14) z3.toNatClampNeg), .int x2]) (rest := [.ref (ad 15)]) ⟨C.1, C.2.1, C.2.2.2.2.2.2, C.2.2.2.2.2.1, C.2.2.2.2.1⟩ (soX3_cameBy l G ad kt iv ar i1 ((ar 13) z3.toNatClampNeg) ((ar 14) z3.toNatClampNeg) x2 _ hi1 h H.size) (va_cwU 3 C.2.2.2.2.1 gX4_leftAtWorst_X3_cameBy_u42X2 rfl rfl rfl rfl (by decide +kernel) ⟨Nat.le_of_ble_eq_true rfl, Nat.le_of_ble_eq_true rfl⟩) (fw_preV hG hK (ci := 2) rfl (kw_oK2 hi1 (kw_d2 e0 e1))) rfl rfl hl.1 rfl (lv_room (Nat.le_of_ble_eq_true rfl)) dX4_leftAtWorst_48 ⟨Nat.zero_le _, Nat.zero_le _⟩
          · exact va_runU (As := [.int ((ar 13) z3.toNatClampNeg), .int ((ar 14) z3.toNatClampNeg), .int x2]) (rest := [.ref (ad 15)]) ⟨C.1, C.2.1, C.2.2.2.2.2.2, C.2.2.2.2.2.1, C.2.2.2.2.1⟩ (soX3_cameBy l G ad kt iv ar i1 ((ar 13) z3.toNatClampNeg) ((ar 14) z3.toNatClampNeg) x2 _ hi1 h H.size) (va_cwU 3 C.2.2.2.2.1 gX4_leftAtWorst_X3_cameBy_u42X8 rfl rfl rfl rfl (by decide +kernel) ⟨Nat.le_of_ble_eq_true rfl, Nat.le_of_ble_eq_true rfl⟩) (fw_preV hG hK (ci := 8) rfl (kw_oK8 hi1 (kw_d8 e0 e1))) rfl rfl hl.1 rfl (lv_room (Nat.le_of_ble_eq_true rfl)) dX4_leftAtWorst_48 ⟨Nat.zero_le _, Nat.zero_le _⟩
      refine fw_rcalli (rn) hG hK (fun r11  H locs h hG => ?_)
      refine lv_dup2_11 C.1 C.2.1 dX4_leftAtWorst_51 rfl rfl ?_
      obtain ⟨c12, h⟩ := h
      refine fw_iald (w := (kw G ad kt)) C hK hG 15 kw_a15 c12 dX4_leftAtWorst_52 ?_
      refine lv_iconst (v := 1) C.1 C.2.1 dX4_leftAtWorst_53 (by decide) ?_
      refine lv_iadd C.1 C.2.1 dX4_leftAtWorst_54 ?_
      obtain ⟨c13, h⟩ := h
      obtain ⟨ar14, ear14⟩ : ∃ z : fw_R, z = va_up ar 15 (upd (ar 15) r11.toNatClampNeg (((ar 15) r11.toNatClampNeg) + 1)) := ⟨_, rfl⟩
      have h := h ar14 ear14
      refine fw_iast (w := (kw G ad kt)) C hK hG 15 kw_a15 c13 (ar1 := ar14) (by rw [ear14]; exact kw_s15) dX4_leftAtWorst_55 (fun H locs hG => ?_)
      obtain ⟨y15, ey15⟩ : ∃ z : Int32, z = z3 + 1 := ⟨_, rfl⟩
      have h := h y15 ey15
      refine lv_iinc (v := y15) (lv' := [(3, .int y15), (0, .ref (ad 10)), (1, .ref (ad (28 + 2 * i1))), (2, .int x2)]) C.1 C.2.1 dX4_leftAtWorst_56 hl (k := 0) rfl (by rw [ey15]; rfl) (by decide) rfl (fun ls hl => ?_)
      refine lv_goto (tgt := 22) C.1 C.2.1 dX4_leftAtWorst_59 (by decide) ?_
      exact ih _ _ _ h _ _ hG ls (lv_sub hl [0, 1, 2, 3] rfl)

set_option maxHeartbeats 4000000 in
set_option maxRecDepth 100000 in
theorem soX4_leftAtWorst (l : Launch) (G : fw_G) (ad : Nat → Nat) (kt : kw_T) (iv : fw_F) (ar : fw_R) (i1 : Nat) (x2 : Int32) (Q : Int32 → fw_F → fw_R → Prop) (hi1 : i1 < kt.1) (h : wpX4_leftAtWorst kt iv ar i1 x2 Q) : fw_M l G (kw G ad kt) yX4_leftAtWorst wsX4_leftAtWorst rmX4_leftAtWorst [.ref (ad 10), .ref (ad (28 + 2 * i1)), .int x2] iv ar (fw_Qi G (kw G ad kt) Q) := by
  refine fw_start (cc := cX4_leftAtWorst) (nL := 4) (rt := (some .int)) (by decide) rfl (Nat.le_of_ble_eq_true rfl) ?_
  intro p e s m below meth c A ls H locs C hK hG hl
  obtain ⟨args, ea⟩ : ∃ z : Array Value, z = ([.ref (ad 10), .ref (ad (28 + 2 * i1)), .int x2] : List Value).toArray := ⟨_, rfl⟩
  rw [← ea] at C ⊢
  have C : fw_C p s m args meth c cX4_leftAtWorst 4 (some .int) wsX4_leftAtWorst RX4 := C
  have hl : lv_has ls 4 [(0, .ref (ad 10)), (1, .ref (ad (28 + 2 * i1))), (2, .int x2)] := hl
  unfold wpX4_leftAtWorst at h
  have in_X4 : ∀ x ∈ wsX40, x ∈ wsX4_leftAtWorst := by decide +kernel
  have k28 := C.2.2.2.2.1 (.fieldLink RX4 28 "KnifeBoard$Marks" "leftBy" "[I") (by decide +kernel)
  have m48 := C.2.2.2.2.1 (.methodLink RX4 48 Lib.Math.max.name) (by decide +kernel)
  have mc_max : (Cond.code Lib.Math.max.name Lib.Math.max.code 2 (some .int)).before args s = true := C.2.2.2.2.1 _ (by decide +kernel)
  have mi_ := C.2.2.2.2.1 (.initialized "java/lang/Math") (by decide +kernel)
  have ms_max := C.2.2.2.2.1 (.static Lib.Math.max.name) (by decide +kernel)
  refine lv_iconst (v := 0) C.1 C.2.1 dX4_leftAtWorst_0 (by decide) ?_
  refine lv_istore_n (lv' := [(3, .int 0), (0, .ref (ad 10)), (1, .ref (ad (28 + 2 * i1))), (2, .int x2)]) C.1 C.2.1 dX4_leftAtWorst_1 rfl hl (by decide) rfl (fun ls hl => ?_)
  obtain ⟨ku, h⟩ := h
  refine soX4_leftAtWorst_L2 C hK hi1 ?_ ku _ _ _ h _ _ hG ls (lv_sub hl [0, 1, 2, 3] rfl)
  intro w5 iv6 ar7 h H locs hG ls hl
  refine lv_iconst (v := 0) C.1 C.2.1 dX4_leftAtWorst_20 (by decide) ?_
  refine lv_istore_n (lv' := [(3, .int 0), (0, .ref (ad 10)), (1, .ref (ad (28 + 2 * i1))), (2, .int x2)]) C.1 C.2.1 dX4_leftAtWorst_21 rfl hl (by decide) rfl (fun ls hl => ?_)
  obtain ⟨ku, h⟩ := h
  refine soX4_leftAtWorst_L22 C hK hi1 ?_ ku _ _ _ h _ _ hG ls (lv_sub hl [0, 1, 2, 3] rfl)
  intro w16 iv17 ar18 h H locs hG ls hl
  refine lv_aload_n C.1 C.2.1 dX4_leftAtWorst_62 rfl (lv_at hl 1 rfl) ?_
  refine fw_get (w := (kw G ad kt)) C in_X4 hK hG 10 kw_o4 rfl 5 (by decide) k28 rfl rfl dX4_leftAtWorst_63 ?_
  refine lv_iconst (v := 0) C.1 C.2.1 dX4_leftAtWorst_66 (by decide) ?_
  obtain ⟨c19, h⟩ := h
  refine fw_iald (w := (kw G ad kt)) C hK hG 15 kw_a15 c19 dX4_leftAtWorst_67 ?_
  refine lv_aload_n C.1 C.2.1 dX4_leftAtWorst_68 rfl (lv_at hl 1 rfl) ?_
  refine fw_get (w := (kw G ad kt)) C in_X4 hK hG 10 kw_o4 rfl 5 (by decide) k28 rfl rfl dX4_leftAtWorst_69 ?_
  refine lv_iconst (v := 1) C.1 C.2.1 dX4_leftAtWorst_72 (by decide) ?_
  obtain ⟨c20, h⟩ := h
  refine fw_iald (w := (kw G ad kt)) C hK hG 15 kw_a15 c20 dX4_leftAtWorst_73 ?_
  refine va_mmax C.1 C.2.1 (by rw [C.2.2.2.2.2.2]; exact hl.1.symm) C.2.2.2.2.2.1 m48 ms_max mi_ mc_max (Nat.le_of_ble_eq_true rfl) (Nat.le_of_ble_eq_true rfl) (Nat.zero_le _) (Nat.zero_le _) dX4_leftAtWorst_74 ?_
  refine lv_aload_n C.1 C.2.1 dX4_leftAtWorst_77 rfl (lv_at hl 1 rfl) ?_
  refine fw_get (w := (kw G ad kt)) C in_X4 hK hG 10 kw_o4 rfl 5 (by decide) k28 rfl rfl dX4_leftAtWorst_78 ?_
  refine lv_iconst (v := 2) C.1 C.2.1 dX4_leftAtWorst_81 (by decide) ?_
  obtain ⟨c21, h⟩ := h
  refine fw_iald (w := (kw G ad kt)) C hK hG 15 kw_a15 c21 dX4_leftAtWorst_82 ?_
  refine lv_aload_n C.1 C.2.1 dX4_leftAtWorst_83 rfl (lv_at hl 1 rfl) ?_
  refine fw_get (w := (kw G ad kt)) C in_X4 hK hG 10 kw_o4 rfl 5 (by decide) k28 rfl rfl dX4_leftAtWorst_84 ?_
  refine lv_iconst (v := 3) C.1 C.2.1 dX4_leftAtWorst_87 (by decide) ?_
  obtain ⟨c22, h⟩ := h
  refine fw_iald (w := (kw G ad kt)) C hK hG 15 kw_a15 c22 dX4_leftAtWorst_88 ?_
  refine va_mmax C.1 C.2.1 (by rw [C.2.2.2.2.2.2]; exact hl.1.symm) C.2.2.2.2.2.1 m48 ms_max mi_ mc_max (Nat.le_of_ble_eq_true rfl) (Nat.le_of_ble_eq_true rfl) (Nat.zero_le _) (Nat.zero_le _) dX4_leftAtWorst_89 ?_
  refine va_mmax C.1 C.2.1 (by rw [C.2.2.2.2.2.2]; exact hl.1.symm) C.2.2.2.2.2.1 m48 ms_max mi_ mc_max (Nat.le_of_ble_eq_true rfl) (Nat.le_of_ble_eq_true rfl) (Nat.zero_le _) (Nat.zero_le _) dX4_leftAtWorst_92 ?_
  exact fw_iret C hG h dX4_leftAtWorst_95
/-! KnifeBoard$Order.begin([II)V -/
def rmX5_begin : Room := { frames := 1, cells := 0, slots := 0, locals := 21 }
def wpX5_begin_L32 (kt : kw_T) (x2 : Int32) (z3 : Int32) (Q : fw_F → fw_R → Prop) (K : Int32 → fw_F → fw_R → Prop) : Nat → Int32 → fw_F → fw_R → Prop
  | 0, _, _, _ => False
  | fu + 1, z4, iv, ar => (z4 ≤ 0 → (K z4 iv ar)) ∧ (¬ z4 ≤ 0 → (vp_in (z4 - 1) 6 ∧ (vp_in z3 80 ∧ ((((ar 7) (z4 - 1).toNatClampNeg) ≤ ((ar 25) z3.toNatClampNeg) → (K z4 iv ar)) ∧ (¬ ((ar 7) (z4 - 1).toNatClampNeg) ≤ ((ar 25) z3.toNatClampNeg) → (vp_in (z4 - 1) 6 ∧ (vp_in z4 6 ∧ (∀ ar9 : fw_R, ar9 = va_up ar 7 (upd (ar 7) z4.toNatClampNeg ((ar 7) (z4 - 1).toNatClampNeg)) → (∀ y10 : Int32, y10 = z4 + (-1) → (wpX5_begin_L32 kt x2 z3 Q K fu y10 iv ar9))))))))))
def wpX5_begin_L21 (kt : kw_T) (x2 : Int32) (Q : fw_F → fw_R → Prop) (K : Int32 → fw_F → fw_R → Prop) : Nat → Int32 → fw_F → fw_R → Prop
  | 0, _, _, _ => False
  | fu + 1, z3, iv, ar => ((iv 6) ≤ z3 → (K z3 iv ar)) ∧ (¬ (iv 6) ≤ z3 → (∃ ku : Nat, wpX5_begin_L32 kt x2 z3 Q (fun (w11 : Int32) (iv12 : fw_F) (ar13 : fw_R) => vp_in z3 80 ∧ (vp_in w11 6 ∧ (∀ ar16 : fw_R, ar16 = va_up ar13 7 (upd (ar13 7) w11.toNatClampNeg ((ar13 25) z3.toNatClampNeg)) → (∀ y17 : Int32, y17 = z3 + 1 → (wpX5_begin_L21 kt x2 Q K fu y17 iv12 ar16))))) ku z3 iv ar))
def wpX5_begin (kt : kw_T) (iv : fw_F) (ar : fw_R) (x2 : Int32) (Q : fw_F → fw_R → Prop) : Prop := ∀ iv1 : fw_F, iv1 = va_up iv 6 (if 0 < (if 80 < (if 6 < x2 then 6 else x2) then 80 else (if 6 < x2 then 6 else x2)) then (if 80 < (if 6 < x2 then 6 else x2) then 80 else (if 6 < x2 then 6 else x2)) else 0) → (∃ ku : Nat, wpX5_begin_L21 kt x2 Q (fun (w18 : Int32) (iv19 : fw_F) (ar20 : fw_R) => Q iv19 ar20) ku 0 iv1 ar)
set_option maxHeartbeats 4000000 in
set_option maxRecDepth 100000 in
theorem soX5_begin_L32 {p : Program} {l : Launch} {e : Env} {s : State} {m : MethodId} {args : Array Value} {below : List Frame} {meth : Method} {c : Code} {A : Nat → Prop} {G : fw_G} {ad : Nat → Nat} {kt : kw_T} {x2 : Int32} {z3 : Int32} {Q : fw_F → fw_R → Prop} {K : Int32 → fw_F → fw_R → Prop} (C : fw_C p s m args meth c cX5_begin 5 none wsX5_begin RX5) (hK : fw_K G A s)  (hX : ∀ (z4 : Int32) (iv : fw_F) (ar : fw_R), K z4 iv ar → ∀ (H : Heap) (locs : List Loc), fw_H G ((kw G ad kt) iv ar) A s H locs → ∀ (ls : Array Slot), lv_has ls 5 [(4, .int z4), (3, .int z3), (0, .ref (ad 6)), (1, .ref (ad 25))] → W p l e rmX5_begin s m args below meth c H locs 0 0 (MQ below (fw_Qv G (kw G ad kt) Q A) args s 0 0 A) (F0 m 74 ls [])) : ∀ (fu : Nat) (z4 : Int32) (iv : fw_F) (ar : fw_R), wpX5_begin_L32 kt x2 z3 Q K fu z4 iv ar → ∀ (H : Heap) (locs : List Loc), fw_H G ((kw G ad kt) iv ar) A s H locs → ∀ (ls : Array Slot), lv_has ls 5 [(4, .int z4), (3, .int z3), (0, .ref (ad 6)), (1, .ref (ad 25))] → W p l e rmX5_begin s m args below meth c H locs 0 0 (MQ below (fw_Qv G (kw G ad kt) Q A) args s 0 0 A) (F0 m 32 ls []) := by
  intro fu
  have in_X5 : ∀ x ∈ wsX50, x ∈ wsX5_begin := by decide +kernel
  have k9 := C.2.2.2.2.1 (.fieldLink RX5 9 "KnifeBoard$Order" "cells" "[I") (by decide +kernel)
  induction fu with
  | zero => intro z4 iv ar h; exact h.elim
  | succ fu ih =>
    intro z4 iv ar h H locs hG ls hl
    unfold wpX5_begin_L32 at h
    refine lv_iload C.1 C.2.1 dX5_begin_32 (lv_at hl 0 rfl) ?_
    refine lv_if_le (tgt := 74) C.1 C.2.1 dX5_begin_34 (by decide) (fun c3 => ?_) (fun c3 => ?_)
    · have h := h.1 c3
      exact hX _ _ _ h _ _ hG ls (lv_sub hl [0, 1, 2, 3] rfl)
    · have h := h.2 c3
      refine lv_aload_n C.1 C.2.1 dX5_begin_37 rfl (lv_at hl 2 rfl) ?_
      refine fw_get (w := (kw G ad kt)) C in_X5 hK hG 6 kw_o5 rfl 0 (by decide) k9 rfl rfl dX5_begin_38 ?_
      refine lv_iload C.1 C.2.1 dX5_begin_41 (lv_at hl 0 rfl) ?_
      refine lv_iconst (v := 1) C.1 C.2.1 dX5_begin_43 (by decide) ?_
      refine lv_isub C.1 C.2.1 dX5_begin_44 ?_
      obtain ⟨c4, h⟩ := h
      refine fw_iald (w := (kw G ad kt)) C hK hG 7 kw_a7 c4 dX5_begin_45 ?_
      refine lv_aload_n C.1 C.2.1 dX5_begin_46 rfl (lv_at hl 3 rfl) ?_
      refine lv_iload_n C.1 C.2.1 dX5_begin_47 rfl (lv_at hl 1 rfl) ?_
      obtain ⟨c5, h⟩ := h
      refine fw_iald (w := (kw G ad kt)) C hK hG 25 kw_a25 c5 dX5_begin_48 ?_
      refine lv_icmp_le (tgt := 74) C.1 C.2.1 dX5_begin_49 (by decide) (fun c6 => ?_) (fun c6 => ?_)
      · have h := h.1 c6
        exact hX _ _ _ h _ _ hG ls (lv_sub hl [0, 1, 2, 3] rfl)
      · have h := h.2 c6
        refine lv_aload_n C.1 C.2.1 dX5_begin_52 rfl (lv_at hl 2 rfl) ?_
        refine fw_get (w := (kw G ad kt)) C in_X5 hK hG 6 kw_o5 rfl 0 (by decide) k9 rfl rfl dX5_begin_53 ?_
        refine lv_iload C.1 C.2.1 dX5_begin_56 (lv_at hl 0 rfl) ?_
        refine lv_aload_n C.1 C.2.1 dX5_begin_58 rfl (lv_at hl 2 rfl) ?_
        refine fw_get (w := (kw G ad kt)) C in_X5 hK hG 6 kw_o5 rfl 0 (by decide) k9 rfl rfl dX5_begin_59 ?_
        refine lv_iload C.1 C.2.1 dX5_begin_62 (lv_at hl 0 rfl) ?_
        refine lv_iconst (v := 1) C.1 C.2.1 dX5_begin_64 (by decide) ?_
        refine lv_isub C.1 C.2.1 dX5_begin_65 ?_
        obtain ⟨c7, h⟩ := h
        refine fw_iald (w := (kw G ad kt)) C hK hG 7 kw_a7 c7 dX5_begin_66 ?_
        obtain ⟨c8, h⟩ := h
        obtain ⟨ar9, ear9⟩ : ∃ z : fw_R, z = va_up ar 7 (upd (ar 7) z4.toNatClampNeg ((ar 7) (z4 - 1).toNatClampNeg)) := ⟨_, rfl⟩
        have h := h ar9 ear9
        refine fw_iast (w := (kw G ad kt)) C hK hG 7 kw_a7 c8 (ar1 := ar9) (by rw [ear9]; exact kw_s7) dX5_begin_67 (fun H locs hG => ?_)
        obtain ⟨y10, ey10⟩ : ∃ z : Int32, z = z4 + (-1) := ⟨_, rfl⟩
        have h := h y10 ey10
        refine lv_iinc (v := y10) (lv' := [(4, .int y10), (3, .int z3), (0, .ref (ad 6)), (1, .ref (ad 25))]) C.1 C.2.1 dX5_begin_68 hl (k := 0) rfl (by rw [ey10]; rfl) (by decide) rfl (fun ls hl => ?_)
        refine lv_goto (tgt := 32) C.1 C.2.1 dX5_begin_71 (by decide) ?_
        exact ih _ _ _ h _ _ hG ls (lv_sub hl [0, 1, 2, 3] rfl)

set_option maxHeartbeats 4000000 in
set_option maxRecDepth 100000 in
theorem soX5_begin_L21 {p : Program} {l : Launch} {e : Env} {s : State} {m : MethodId} {args : Array Value} {below : List Frame} {meth : Method} {c : Code} {A : Nat → Prop} {G : fw_G} {ad : Nat → Nat} {kt : kw_T} {x2 : Int32} {Q : fw_F → fw_R → Prop} {K : Int32 → fw_F → fw_R → Prop} (C : fw_C p s m args meth c cX5_begin 5 none wsX5_begin RX5) (hK : fw_K G A s)  (hX : ∀ (z3 : Int32) (iv : fw_F) (ar : fw_R), K z3 iv ar → ∀ (H : Heap) (locs : List Loc), fw_H G ((kw G ad kt) iv ar) A s H locs → ∀ (ls : Array Slot), lv_has ls 5 [(3, .int z3), (0, .ref (ad 6)), (1, .ref (ad 25))] → W p l e rmX5_begin s m args below meth c H locs 0 0 (MQ below (fw_Qv G (kw G ad kt) Q A) args s 0 0 A) (F0 m 90 ls [])) : ∀ (fu : Nat) (z3 : Int32) (iv : fw_F) (ar : fw_R), wpX5_begin_L21 kt x2 Q K fu z3 iv ar → ∀ (H : Heap) (locs : List Loc), fw_H G ((kw G ad kt) iv ar) A s H locs → ∀ (ls : Array Slot), lv_has ls 5 [(3, .int z3), (0, .ref (ad 6)), (1, .ref (ad 25))] → W p l e rmX5_begin s m args below meth c H locs 0 0 (MQ below (fw_Qv G (kw G ad kt) Q A) args s 0 0 A) (F0 m 21 ls []) := by
  intro fu
  have in_X5 : ∀ x ∈ wsX50, x ∈ wsX5_begin := by decide +kernel
  have k21 := C.2.2.2.2.1 (.fieldLink RX5 21 "KnifeBoard$Order" "size" "I") (by decide +kernel)
  have k9 := C.2.2.2.2.1 (.fieldLink RX5 9 "KnifeBoard$Order" "cells" "[I") (by decide +kernel)
  induction fu with
  | zero => intro z3 iv ar h; exact h.elim
  | succ fu ih =>
    intro z3 iv ar h H locs hG ls hl
    unfold wpX5_begin_L21 at h
    refine lv_iload_n C.1 C.2.1 dX5_begin_21 rfl (lv_at hl 0 rfl) ?_
    refine lv_aload_n C.1 C.2.1 dX5_begin_22 rfl (lv_at hl 1 rfl) ?_
    refine fw_get (w := (kw G ad kt)) C in_X5 hK hG 6 kw_o5 rfl 3 (by decide) k21 rfl rfl dX5_begin_23 ?_
    refine lv_icmp_ge (tgt := 90) C.1 C.2.1 dX5_begin_26 (by decide) (fun c2 => ?_) (fun c2 => ?_)
    · have h := h.1 c2
      exact hX _ _ _ h _ _ hG ls (lv_sub hl [0, 1, 2] rfl)
    · have h := h.2 c2
      refine lv_iload_n C.1 C.2.1 dX5_begin_29 rfl (lv_at hl 0 rfl) ?_
      refine lv_istore (lv' := [(4, .int z3), (3, .int z3), (0, .ref (ad 6)), (1, .ref (ad 25))]) C.1 C.2.1 dX5_begin_30 hl (by decide) rfl (fun ls hl => ?_)
      obtain ⟨ku, h⟩ := h
      refine soX5_begin_L32 C hK  ?_ ku _ _ _ h _ _ hG ls (lv_sub hl [0, 1, 2, 3] rfl)
      intro w11 iv12 ar13 h H locs hG ls hl
      refine lv_aload_n C.1 C.2.1 dX5_begin_74 rfl (lv_at hl 2 rfl) ?_
      refine fw_get (w := (kw G ad kt)) C in_X5 hK hG 6 kw_o5 rfl 0 (by decide) k9 rfl rfl dX5_begin_75 ?_
      refine lv_iload C.1 C.2.1 dX5_begin_78 (lv_at hl 0 rfl) ?_
      refine lv_aload_n C.1 C.2.1 dX5_begin_80 rfl (lv_at hl 3 rfl) ?_
      refine lv_iload_n C.1 C.2.1 dX5_begin_81 rfl (lv_at hl 1 rfl) ?_
      obtain ⟨c14, h⟩ := h
      refine fw_iald (w := (kw G ad kt)) C hK hG 25 kw_a25 c14 dX5_begin_82 ?_
      obtain ⟨c15, h⟩ := h
      obtain ⟨ar16, ear16⟩ : ∃ z : fw_R, z = va_up ar13 7 (upd (ar13 7) w11.toNatClampNeg ((ar13 25) z3.toNatClampNeg)) := ⟨_, rfl⟩
      have h := h ar16 ear16
      refine fw_iast (w := (kw G ad kt)) C hK hG 7 kw_a7 c15 (ar1 := ar16) (by rw [ear16]; exact kw_s7) dX5_begin_83 (fun H locs hG => ?_)
      obtain ⟨y17, ey17⟩ : ∃ z : Int32, z = z3 + 1 := ⟨_, rfl⟩
      have h := h y17 ey17
      refine lv_iinc (v := y17) (lv' := [(3, .int y17), (4, .int w11), (0, .ref (ad 6)), (1, .ref (ad 25))]) C.1 C.2.1 dX5_begin_84 hl (k := 1) rfl (by rw [ey17]; rfl) (by decide) rfl (fun ls hl => ?_)
      refine lv_goto (tgt := 21) C.1 C.2.1 dX5_begin_87 (by decide) ?_
      exact ih _ _ _ h _ _ hG ls (lv_sub hl [0, 2, 3] rfl)

set_option maxHeartbeats 4000000 in
set_option maxRecDepth 100000 in
theorem soX5_begin (l : Launch) (G : fw_G) (ad : Nat → Nat) (kt : kw_T) (iv : fw_F) (ar : fw_R) (x2 : Int32) (Q : fw_F → fw_R → Prop)  (h : wpX5_begin kt iv ar x2 Q) : fw_M l G (kw G ad kt) yX5_begin wsX5_begin rmX5_begin [.ref (ad 6), .ref (ad 25), .int x2] iv ar (fw_Qv G (kw G ad kt) Q) := by
  refine fw_start (cc := cX5_begin) (nL := 5) (rt := none) (by decide) rfl (Nat.le_of_ble_eq_true rfl) ?_
  intro p e s m below meth c A ls H locs C hK hG hl
  obtain ⟨args, ea⟩ : ∃ z : Array Value, z = ([.ref (ad 6), .ref (ad 25), .int x2] : List Value).toArray := ⟨_, rfl⟩
  rw [← ea] at C ⊢
  have C : fw_C p s m args meth c cX5_begin 5 none wsX5_begin RX5 := C
  have hl : lv_has ls 5 [(0, .ref (ad 6)), (1, .ref (ad 25)), (2, .int x2)] := hl
  unfold wpX5_begin at h
  have in_X5 : ∀ x ∈ wsX50, x ∈ wsX5_begin := by decide +kernel
  have k21 := C.2.2.2.2.1 (.fieldLink RX5 21 "KnifeBoard$Order" "size" "I") (by decide +kernel)
  have m25 := C.2.2.2.2.1 (.methodLink RX5 25 Lib.Math.min.name) (by decide +kernel)
  have m31 := C.2.2.2.2.1 (.methodLink RX5 31 Lib.Math.max.name) (by decide +kernel)
  have mc_max : (Cond.code Lib.Math.max.name Lib.Math.max.code 2 (some .int)).before args s = true := C.2.2.2.2.1 _ (by decide +kernel)
  have mc_min : (Cond.code Lib.Math.min.name Lib.Math.min.code 2 (some .int)).before args s = true := C.2.2.2.2.1 _ (by decide +kernel)
  have mi_ := C.2.2.2.2.1 (.initialized "java/lang/Math") (by decide +kernel)
  have ms_max := C.2.2.2.2.1 (.static Lib.Math.max.name) (by decide +kernel)
  have ms_min := C.2.2.2.2.1 (.static Lib.Math.min.name) (by decide +kernel)
  refine lv_aload_n C.1 C.2.1 dX5_begin_0 rfl (lv_at hl 0 rfl) ?_
  refine lv_iconst (v := 0) C.1 C.2.1 dX5_begin_1 (by decide) ?_
  refine lv_iload_n C.1 C.2.1 dX5_begin_2 rfl (lv_at hl 2 rfl) ?_
  refine lv_bipush (v := 6) C.1 C.2.1 dX5_begin_3 (by decide) ?_
  refine va_mmin C.1 C.2.1 (by rw [C.2.2.2.2.2.2]; exact hl.1.symm) C.2.2.2.2.2.1 m25 ms_min mi_ mc_min (Nat.le_of_ble_eq_true rfl) (Nat.le_of_ble_eq_true rfl) (Nat.zero_le _) (Nat.zero_le _) dX5_begin_5 ?_
  refine lv_aload_n C.1 C.2.1 dX5_begin_8 rfl (lv_at hl 1 rfl) ?_
  refine va_alen (v := 80) C.1 C.2.1 hK.1 hG.1 25 0 (kw_a25 : ((kw G ad kt) iv ar)[25]? = _) rfl rfl dX5_begin_9 ?_
  refine va_mmin C.1 C.2.1 (by rw [C.2.2.2.2.2.2]; exact hl.1.symm) C.2.2.2.2.2.1 m25 ms_min mi_ mc_min (Nat.le_of_ble_eq_true rfl) (Nat.le_of_ble_eq_true rfl) (Nat.zero_le _) (Nat.zero_le _) dX5_begin_10 ?_
  refine va_mmax C.1 C.2.1 (by rw [C.2.2.2.2.2.2]; exact hl.1.symm) C.2.2.2.2.2.1 m31 ms_max mi_ mc_max (Nat.le_of_ble_eq_true rfl) (Nat.le_of_ble_eq_true rfl) (Nat.zero_le _) (Nat.zero_le _) dX5_begin_13 ?_
  obtain ⟨iv1, eiv1⟩ : ∃ z : fw_F, z = va_up iv 6 (if 0 < (if 80 < (if 6 < x2 then 6 else x2) then 80 else (if 6 < x2 then 6 else x2)) then (if 80 < (if 6 < x2 then 6 else x2) then 80 else (if 6 < x2 then 6 else x2)) else 0) := ⟨_, rfl⟩
  have h := h iv1 eiv1
  refine fw_put (w := (kw G ad kt)) C in_X5 tyX5 tyX5_ok nmX5 hK hG 6 kw_o5 rfl 3 (by decide) k21 rfl rfl (ty := .int) (v := .int (if 0 < (if 80 < (if 6 < x2 then 6 else x2) then 80 else (if 6 < x2 then 6 else x2)) then (if 80 < (if 6 < x2 then 6 else x2) then 80 else (if 6 < x2 then 6 else x2)) else 0)) (by decide +kernel) rfl rfl (by first | decide | exact Nat.le_of_ble_eq_true rfl) (iv1 := iv1) (by rw [eiv1]; exact kw_p5_size) dX5_begin_16 (fun H locs hG => ?_)
  refine lv_iconst (v := 0) C.1 C.2.1 dX5_begin_19 (by decide) ?_
  refine lv_istore_n (lv' := [(3, .int 0), (0, .ref (ad 6)), (1, .ref (ad 25)), (2, .int x2)]) C.1 C.2.1 dX5_begin_20 rfl hl (by decide) rfl (fun ls hl => ?_)
  obtain ⟨ku, h⟩ := h
  refine soX5_begin_L21 C hK  ?_ ku _ _ _ h _ _ hG ls (lv_sub hl [0, 1, 2] rfl)
  intro w18 iv19 ar20 h H locs hG ls hl
  exact fw_vret C hG h dX5_begin_90
/-! KnifeBoard$Order.sortedCell(I)I -/
def rmX5_sortedCell : Room := { frames := 0, cells := 0, slots := 0, locals := 0 }
def wpX5_sortedCell (kt : kw_T) (iv : fw_F) (ar : fw_R) (x1 : Int32) (Q : Int32 → Prop) : Prop := vp_in x1 6 ∧ (Q ((ar 7) x1.toNatClampNeg))
set_option maxHeartbeats 4000000 in
set_option maxRecDepth 100000 in
theorem soX5_sortedCell (l : Launch) (G : fw_G) (ad : Nat → Nat) (kt : kw_T) (iv : fw_F) (ar : fw_R) (x1 : Int32) (Q : Int32 → Prop)  (h : wpX5_sortedCell kt iv ar x1 Q) : fw_M l G (kw G ad kt) yX5_sortedCell wsX5_sortedCell rmX5_sortedCell [.ref (ad 6), .int x1] iv ar (fw_Qi G (kw G ad kt) (fun r iv1 ar1 => Q r ∧ iv = iv1 ∧ ar = ar1)) := by
  refine fw_start (cc := cX5_sortedCell) (nL := 2) (rt := (some .int)) (by decide) rfl (Nat.le_of_ble_eq_true rfl) ?_
  intro p e s m below meth c A ls H locs C hK hG hl
  obtain ⟨args, ea⟩ : ∃ z : Array Value, z = ([.ref (ad 6), .int x1] : List Value).toArray := ⟨_, rfl⟩
  rw [← ea] at C ⊢
  have C : fw_C p s m args meth c cX5_sortedCell 2 (some .int) wsX5_sortedCell RX5 := C
  have hl : lv_has ls 2 [(0, .ref (ad 6)), (1, .int x1)] := hl
  unfold wpX5_sortedCell at h
  have in_X5 : ∀ x ∈ wsX50, x ∈ wsX5_sortedCell := by decide +kernel
  have k9 := C.2.2.2.2.1 (.fieldLink RX5 9 "KnifeBoard$Order" "cells" "[I") (by decide +kernel)
  refine lv_aload_n C.1 C.2.1 dX5_sortedCell_0 rfl (lv_at hl 0 rfl) ?_
  refine fw_get (w := (kw G ad kt)) C in_X5 hK hG 6 kw_o5 rfl 0 (by decide) k9 rfl rfl dX5_sortedCell_1 ?_
  refine lv_iload_n C.1 C.2.1 dX5_sortedCell_4 rfl (lv_at hl 1 rfl) ?_
  obtain ⟨c1, h⟩ := h
  refine fw_iald (w := (kw G ad kt)) C hK hG 7 kw_a7 c1 dX5_sortedCell_5 ?_
  exact fw_iret C hG ⟨h, rfl, rfl⟩ dX5_sortedCell_6
/-! KnifeBoard$Order.setCost(III)V -/
def rmX5_setCost : Room := { frames := 0, cells := 0, slots := 0, locals := 0 }
def wpX5_setCost (kt : kw_T) (iv : fw_F) (ar : fw_R) (x1 : Int32) (x2 : Int32) (x3 : Int32) (Q : fw_F → fw_R → Prop) : Prop := vp_in ((6 * x1) + x2) 36 ∧ (∀ ar2 : fw_R, ar2 = va_up ar 8 (upd (ar 8) ((6 * x1) + x2).toNatClampNeg x3) → (Q iv ar2))
set_option maxHeartbeats 4000000 in
set_option maxRecDepth 100000 in
theorem soX5_setCost (l : Launch) (G : fw_G) (ad : Nat → Nat) (kt : kw_T) (iv : fw_F) (ar : fw_R) (x1 : Int32) (x2 : Int32) (x3 : Int32) (Q : fw_F → fw_R → Prop)  (h : wpX5_setCost kt iv ar x1 x2 x3 Q) : fw_M l G (kw G ad kt) yX5_setCost wsX5_setCost rmX5_setCost [.ref (ad 6), .int x1, .int x2, .int x3] iv ar (fw_Qv G (kw G ad kt) Q) := by
  refine fw_start (cc := cX5_setCost) (nL := 4) (rt := none) (by decide) rfl (Nat.le_of_ble_eq_true rfl) ?_
  intro p e s m below meth c A ls H locs C hK hG hl
  obtain ⟨args, ea⟩ : ∃ z : Array Value, z = ([.ref (ad 6), .int x1, .int x2, .int x3] : List Value).toArray := ⟨_, rfl⟩
  rw [← ea] at C ⊢
  have C : fw_C p s m args meth c cX5_setCost 4 none wsX5_setCost RX5 := C
  have hl : lv_has ls 4 [(0, .ref (ad 6)), (1, .int x1), (2, .int x2), (3, .int x3)] := hl
  unfold wpX5_setCost at h
  have in_X5 : ∀ x ∈ wsX50, x ∈ wsX5_setCost := by decide +kernel
  have k15 := C.2.2.2.2.1 (.fieldLink RX5 15 "KnifeBoard$Order" "costs" "[I") (by decide +kernel)
  refine lv_aload_n C.1 C.2.1 dX5_setCost_0 rfl (lv_at hl 0 rfl) ?_
  refine fw_get (w := (kw G ad kt)) C in_X5 hK hG 6 kw_o5 rfl 1 (by decide) k15 rfl rfl dX5_setCost_1 ?_
  refine lv_bipush (v := 6) C.1 C.2.1 dX5_setCost_4 (by decide) ?_
  refine lv_iload_n C.1 C.2.1 dX5_setCost_6 rfl (lv_at hl 1 rfl) ?_
  refine lv_imul C.1 C.2.1 dX5_setCost_7 ?_
  refine lv_iload_n C.1 C.2.1 dX5_setCost_8 rfl (lv_at hl 2 rfl) ?_
  refine lv_iadd C.1 C.2.1 dX5_setCost_9 ?_
  refine lv_iload_n C.1 C.2.1 dX5_setCost_10 rfl (lv_at hl 3 rfl) ?_
  obtain ⟨c1, h⟩ := h
  obtain ⟨ar2, ear2⟩ : ∃ z : fw_R, z = va_up ar 8 (upd (ar 8) ((6 * x1) + x2).toNatClampNeg x3) := ⟨_, rfl⟩
  have h := h ar2 ear2
  refine fw_iast (w := (kw G ad kt)) C hK hG 8 kw_a8 c1 (ar1 := ar2) (by rw [ear2]; exact kw_s8) dX5_setCost_11 (fun H locs hG => ?_)
  exact fw_vret C hG h dX5_setCost_12
/-! java/lang/Integer.bitCount(I)I -/
def rmJ6_bitCount_0f7a4 : Room := { frames := 0, cells := 0, slots := 0, locals := 0 }
def wpJ6_bitCount_0f7a4 (x0 : Int32) (Q : Int32 → Prop) : Prop := ∀ y1 : Int32, y1 = x0 - (((x0.toUInt32 >>> ((1 : Int32).toUInt32 &&& Int32.toUInt32 31)).toInt32) &&& 1431655765) → (∀ y2 : Int32, y2 = (y1 &&& 858993459) + (((y1.toUInt32 >>> ((2 : Int32).toUInt32 &&& Int32.toUInt32 31)).toInt32) &&& 858993459) → (∀ y3 : Int32, y3 = (y2 + ((y2.toUInt32 >>> ((4 : Int32).toUInt32 &&& Int32.toUInt32 31)).toInt32)) &&& 252645135 → (∀ y4 : Int32, y4 = y3 + ((y3.toUInt32 >>> ((8 : Int32).toUInt32 &&& Int32.toUInt32 31)).toInt32) → (∀ y5 : Int32, y5 = y4 + ((y4.toUInt32 >>> ((16 : Int32).toUInt32 &&& Int32.toUInt32 31)).toInt32) → (Q (y5 &&& 63))))))
set_option maxHeartbeats 4000000 in
set_option maxRecDepth 100000 in
theorem soJ6_bitCount_0f7a4 (l : Launch) (x0 : Int32) (Q : Int32 → Prop) (h : wpJ6_bitCount_0f7a4 x0 Q) : fw_pM l yJ6_bitCount_0f7a4 wsJ6_bitCount_0f7a4 rmJ6_bitCount_0f7a4 [.int x0] (fw_pQi Q) := by
  refine fw_fstart (cc := cJ6_bitCount_0f7a4) (nL := 1) (rt := (some .int)) (by decide +kernel) rfl (Nat.le_of_ble_eq_true rfl) ?_
  intro p e s m below meth c A ls H locs C hA hS hl
  obtain ⟨args, ea⟩ : ∃ z : Array Value, z = ([.int x0] : List Value).toArray := ⟨_, rfl⟩
  rw [← ea] at C ⊢
  have C : fw_C p s m args meth c cJ6_bitCount_0f7a4 1 (some .int) wsJ6_bitCount_0f7a4 RJ6 := C
  have hl : lv_has ls 1 [(0, .int x0)] := hl
  unfold wpJ6_bitCount_0f7a4 at h
  have k265 := C.2.2.2.2.1 (.constant RJ6 265 1431655765) (by decide +kernel)
  have k266 := C.2.2.2.2.1 (.constant RJ6 266 858993459) (by decide +kernel)
  have k267 := C.2.2.2.2.1 (.constant RJ6 267 252645135) (by decide +kernel)
  refine lv_iload_n C.1 C.2.1 dJ6_bitCount_0f7a4_0 rfl (lv_at hl 0 rfl) ?_
  refine lv_iload_n C.1 C.2.1 dJ6_bitCount_0f7a4_1 rfl (lv_at hl 0 rfl) ?_
  refine lv_iconst (v := 1) C.1 C.2.1 dJ6_bitCount_0f7a4_2 (by decide) ?_
  refine lv_iushr C.1 C.2.1 dJ6_bitCount_0f7a4_3 rfl ?_
  refine lv_ldcw C.1 C.2.1 C.2.2.2.2.2.1 k265 dJ6_bitCount_0f7a4_4 ?_
  refine lv_iand C.1 C.2.1 dJ6_bitCount_0f7a4_7 ?_
  refine lv_isub C.1 C.2.1 dJ6_bitCount_0f7a4_8 ?_
  refine lv_topi (fun y1 ey1 => ?_)
  have h := h y1 ey1
  refine lv_istore_n (lv' := [(0, .int y1)]) C.1 C.2.1 dJ6_bitCount_0f7a4_9 rfl hl (by decide) rfl (fun ls hl => ?_)
  refine lv_iload_n C.1 C.2.1 dJ6_bitCount_0f7a4_10 rfl (lv_at hl 0 rfl) ?_
  refine lv_ldcw C.1 C.2.1 C.2.2.2.2.2.1 k266 dJ6_bitCount_0f7a4_11 ?_
  refine lv_iand C.1 C.2.1 dJ6_bitCount_0f7a4_14 ?_
  refine lv_iload_n C.1 C.2.1 dJ6_bitCount_0f7a4_15 rfl (lv_at hl 0 rfl) ?_
  refine lv_iconst (v := 2) C.1 C.2.1 dJ6_bitCount_0f7a4_16 (by decide) ?_
  refine lv_iushr C.1 C.2.1 dJ6_bitCount_0f7a4_17 rfl ?_
  refine lv_ldcw C.1 C.2.1 C.2.2.2.2.2.1 k266 dJ6_bitCount_0f7a4_18 ?_
  refine lv_iand C.1 C.2.1 dJ6_bitCount_0f7a4_21 ?_
  refine lv_iadd C.1 C.2.1 dJ6_bitCount_0f7a4_22 ?_
  refine lv_topi (fun y2 ey2 => ?_)
  have h := h y2 ey2
  refine lv_istore_n (lv' := [(0, .int y2)]) C.1 C.2.1 dJ6_bitCount_0f7a4_23 rfl hl (by decide) rfl (fun ls hl => ?_)
  refine lv_iload_n C.1 C.2.1 dJ6_bitCount_0f7a4_24 rfl (lv_at hl 0 rfl) ?_
  refine lv_iload_n C.1 C.2.1 dJ6_bitCount_0f7a4_25 rfl (lv_at hl 0 rfl) ?_
  refine lv_iconst (v := 4) C.1 C.2.1 dJ6_bitCount_0f7a4_26 (by decide) ?_
  refine lv_iushr C.1 C.2.1 dJ6_bitCount_0f7a4_27 rfl ?_
  refine lv_iadd C.1 C.2.1 dJ6_bitCount_0f7a4_28 ?_
  refine lv_ldcw C.1 C.2.1 C.2.2.2.2.2.1 k267 dJ6_bitCount_0f7a4_29 ?_
  refine lv_iand C.1 C.2.1 dJ6_bitCount_0f7a4_32 ?_
  refine lv_topi (fun y3 ey3 => ?_)
  have h := h y3 ey3
  refine lv_istore_n (lv' := [(0, .int y3)]) C.1 C.2.1 dJ6_bitCount_0f7a4_33 rfl hl (by decide) rfl (fun ls hl => ?_)
  refine lv_iload_n C.1 C.2.1 dJ6_bitCount_0f7a4_34 rfl (lv_at hl 0 rfl) ?_
  refine lv_iload_n C.1 C.2.1 dJ6_bitCount_0f7a4_35 rfl (lv_at hl 0 rfl) ?_
  refine lv_bipush (v := 8) C.1 C.2.1 dJ6_bitCount_0f7a4_36 (by decide) ?_
  refine lv_iushr C.1 C.2.1 dJ6_bitCount_0f7a4_38 rfl ?_
  refine lv_iadd C.1 C.2.1 dJ6_bitCount_0f7a4_39 ?_
  refine lv_topi (fun y4 ey4 => ?_)
  have h := h y4 ey4
  refine lv_istore_n (lv' := [(0, .int y4)]) C.1 C.2.1 dJ6_bitCount_0f7a4_40 rfl hl (by decide) rfl (fun ls hl => ?_)
  refine lv_iload_n C.1 C.2.1 dJ6_bitCount_0f7a4_41 rfl (lv_at hl 0 rfl) ?_
  refine lv_iload_n C.1 C.2.1 dJ6_bitCount_0f7a4_42 rfl (lv_at hl 0 rfl) ?_
  refine lv_bipush (v := 16) C.1 C.2.1 dJ6_bitCount_0f7a4_43 (by decide) ?_
  refine lv_iushr C.1 C.2.1 dJ6_bitCount_0f7a4_45 rfl ?_
  refine lv_iadd C.1 C.2.1 dJ6_bitCount_0f7a4_46 ?_
  refine lv_topi (fun y5 ey5 => ?_)
  have h := h y5 ey5
  refine lv_istore_n (lv' := [(0, .int y5)]) C.1 C.2.1 dJ6_bitCount_0f7a4_47 rfl hl (by decide) rfl (fun ls hl => ?_)
  refine lv_iload_n C.1 C.2.1 dJ6_bitCount_0f7a4_48 rfl (lv_at hl 0 rfl) ?_
  refine lv_bipush (v := 63) C.1 C.2.1 dJ6_bitCount_0f7a4_49 (by decide) ?_
  refine lv_iand C.1 C.2.1 dJ6_bitCount_0f7a4_51 ?_
  exact fw_piret C hS h dJ6_bitCount_0f7a4_52
/-! KnifeBoard$Order.costBy(II)I -/
def rmX5_costBy : Room := { frames := 1, cells := 0, slots := 0, locals := 20 }
def wpX5_costBy (kt : kw_T) (iv : fw_F) (ar : fw_R) (x1 : Int32) (x2 : Int32) (Q : Int32 → Prop) : Prop := wpJ6_bitCount_0f7a4 x1 (fun (r1 : Int32) => vp_in ((6 * x2) + r1) 36 ∧ (vp_in (x1 ||| ((1 : Int32) <<< (x2 &&& 31))) 64 ∧ (Q (((ar 8) ((6 * x2) + r1).toNatClampNeg) + ((ar 9) (x1 ||| ((1 : Int32) <<< (x2 &&& 31))).toNatClampNeg)))))
set_option maxHeartbeats 4000000 in
set_option maxRecDepth 100000 in
theorem soX5_costBy (l : Launch) (G : fw_G) (ad : Nat → Nat) (kt : kw_T) (iv : fw_F) (ar : fw_R) (x1 : Int32) (x2 : Int32) (Q : Int32 → Prop)  (h : wpX5_costBy kt iv ar x1 x2 Q) : fw_M l G (kw G ad kt) yX5_costBy wsX5_costBy rmX5_costBy [.ref (ad 6), .int x1, .int x2] iv ar (fw_Qi G (kw G ad kt) (fun r iv1 ar1 => Q r ∧ iv = iv1 ∧ ar = ar1)) := by
  refine fw_start (cc := cX5_costBy) (nL := 3) (rt := (some .int)) (by decide) rfl (Nat.le_of_ble_eq_true rfl) ?_
  intro p e s m below meth c A ls H locs C hK hG hl
  obtain ⟨args, ea⟩ : ∃ z : Array Value, z = ([.ref (ad 6), .int x1, .int x2] : List Value).toArray := ⟨_, rfl⟩
  rw [← ea] at C ⊢
  have C : fw_C p s m args meth c cX5_costBy 3 (some .int) wsX5_costBy RX5 := C
  have hl : lv_has ls 3 [(0, .ref (ad 6)), (1, .int x1), (2, .int x2)] := hl
  unfold wpX5_costBy at h
  have in_X5 : ∀ x ∈ wsX50, x ∈ wsX5_costBy := by decide +kernel
  have k15 := C.2.2.2.2.1 (.fieldLink RX5 15 "KnifeBoard$Order" "costs" "[I") (by decide +kernel)
  have k18 := C.2.2.2.2.1 (.fieldLink RX5 18 "KnifeBoard$Order" "rests" "[I") (by decide +kernel)
  refine lv_aload_n C.1 C.2.1 dX5_costBy_0 rfl (lv_at hl 0 rfl) ?_
  refine fw_get (w := (kw G ad kt)) C in_X5 hK hG 6 kw_o5 rfl 1 (by decide) k15 rfl rfl dX5_costBy_1 ?_
  refine lv_bipush (v := 6) C.1 C.2.1 dX5_costBy_4 (by decide) ?_
  refine lv_iload_n C.1 C.2.1 dX5_costBy_6 rfl (lv_at hl 2 rfl) ?_
  refine lv_imul C.1 C.2.1 dX5_costBy_7 ?_
  refine lv_iload_n C.1 C.2.1 dX5_costBy_8 rfl (lv_at hl 1 rfl) ?_
  refine fw_pcalli (va_runS (As := [.int x1]) (rest := [.int (6 * x2), .ref (ad 8)]) ⟨C.1, C.2.1, C.2.2.2.2.2.2, C.2.2.2.2.2.1, C.2.2.2.2.1⟩ (soJ6_bitCount_0f7a4 l x1 _ h H.size) (va_cwS 1 C.2.2.2.2.1 gX5_costBy_J6_bitCount_0f7a4 rfl rfl rfl (by decide +kernel) ⟨Nat.le_of_ble_eq_true rfl, Nat.le_of_ble_eq_true rfl⟩) fw_ppre rfl rfl hl.1 rfl (lv_room (Nat.le_of_ble_eq_true rfl)) dX5_costBy_9 ⟨Nat.zero_le _, Nat.zero_le _⟩) hG hK (fun r1  H locs h hG => ?_)
  refine lv_iadd C.1 C.2.1 dX5_costBy_12 ?_
  obtain ⟨c2, h⟩ := h
  refine fw_iald (w := (kw G ad kt)) C hK hG 8 kw_a8 c2 dX5_costBy_13 ?_
  refine lv_aload_n C.1 C.2.1 dX5_costBy_14 rfl (lv_at hl 0 rfl) ?_
  refine fw_get (w := (kw G ad kt)) C in_X5 hK hG 6 kw_o5 rfl 2 (by decide) k18 rfl rfl dX5_costBy_15 ?_
  refine lv_iload_n C.1 C.2.1 dX5_costBy_18 rfl (lv_at hl 1 rfl) ?_
  refine lv_iconst (v := 1) C.1 C.2.1 dX5_costBy_19 (by decide) ?_
  refine lv_iload_n C.1 C.2.1 dX5_costBy_20 rfl (lv_at hl 2 rfl) ?_
  refine lv_ishl C.1 C.2.1 dX5_costBy_21 ?_
  refine lv_ior C.1 C.2.1 dX5_costBy_22 ?_
  obtain ⟨c3, h⟩ := h
  refine fw_iald (w := (kw G ad kt)) C hK hG 9 kw_a9 c3 dX5_costBy_23 ?_
  refine lv_iadd C.1 C.2.1 dX5_costBy_24 ?_
  exact fw_iret C hG ⟨h, rfl, rfl⟩ dX5_costBy_25
/-! KnifeBoard$Order.nextOf(I)I -/
def rmX5_nextOf : Room := { frames := 2, cells := 0, slots := 0, locals := 42 }
def wpX5_nextOf_L4 (kt : kw_T) (x1 : Int32) (iv : fw_F) (ar : fw_R) (Q : Int32 → Prop) (K : Int32 → Int32 → Prop) : Nat → Int32 → Int32 → Prop
  | 0, _, _ => False
  | fu + 1, z2, z3 => ((iv 6) ≤ z3 → (K z2 z3)) ∧ (¬ (iv 6) ≤ z3 → ((((x1 >>> ((z3 : Int32) &&& 31)) &&& 1) = 0 → ((z2 < 0 → (∀ y4 : Int32, y4 = z3 + 1 → (wpX5_nextOf_L4 kt x1 iv ar Q K fu z3 y4))) ∧ (¬ z2 < 0 → (wpX5_costBy kt iv ar x1 z3 (fun (r5 : Int32) => wpX5_costBy kt iv ar x1 z2 (fun (r6 : Int32) => (r6 ≤ r5 → (∀ y8 : Int32, y8 = z3 + 1 → (wpX5_nextOf_L4 kt x1 iv ar Q K fu z2 y8))) ∧ (¬ r6 ≤ r5 → (∀ y9 : Int32, y9 = z3 + 1 → (wpX5_nextOf_L4 kt x1 iv ar Q K fu z3 y9))))))))) ∧ (¬ ((x1 >>> ((z3 : Int32) &&& 31)) &&& 1) = 0 → (∀ y10 : Int32, y10 = z3 + 1 → (wpX5_nextOf_L4 kt x1 iv ar Q K fu z2 y10)))))
def wpX5_nextOf (kt : kw_T) (iv : fw_F) (ar : fw_R) (x1 : Int32) (Q : Int32 → Prop) : Prop := ∃ ku : Nat, wpX5_nextOf_L4 kt x1 iv ar Q (fun (w11 : Int32) (w12 : Int32) => Q (if 0 < w11 then w11 else 0)) ku (-1) 0
set_option maxHeartbeats 4000000 in
set_option maxRecDepth 100000 in
theorem soX5_nextOf_L4 {p : Program} {l : Launch} {e : Env} {s : State} {m : MethodId} {args : Array Value} {below : List Frame} {meth : Method} {c : Code} {A : Nat → Prop} {G : fw_G} {ad : Nat → Nat} {kt : kw_T} {x1 : Int32} {iv : fw_F} {ar : fw_R} {Q : Int32 → Prop} {K : Int32 → Int32 → Prop} (C : fw_C p s m args meth c cX5_nextOf 4 (some .int) wsX5_nextOf RX5) (hK : fw_K G A s)  (hX : ∀ (z2 : Int32) (z3 : Int32), K z2 z3 → ∀ (H : Heap) (locs : List Loc), fw_H G ((kw G ad kt) iv ar) A s H locs → ∀ (ls : Array Slot), lv_has ls 4 [(3, .int z3), (2, .int z2), (0, .ref (ad 6)), (1, .int x1)] → W p l e rmX5_nextOf s m args below meth c H locs 0 0 (MQ below (fw_Qi G (kw G ad kt) (fun r iv1 ar1 => Q r ∧ iv = iv1 ∧ ar = ar1) A) args s 0 0 A) (F0 m 50 ls [])) : ∀ (fu : Nat) (z2 : Int32) (z3 : Int32), wpX5_nextOf_L4 kt x1 iv ar Q K fu z2 z3 → ∀ (H : Heap) (locs : List Loc), fw_H G ((kw G ad kt) iv ar) A s H locs → ∀ (ls : Array Slot), lv_has ls 4 [(3, .int z3), (2, .int z2), (0, .ref (ad 6)), (1, .int x1)] → W p l e rmX5_nextOf s m args below meth c H locs 0 0 (MQ below (fw_Qi G (kw G ad kt) (fun r iv1 ar1 => Q r ∧ iv = iv1 ∧ ar = ar1) A) args s 0 0 A) (F0 m 4 ls []) := by
  intro fu
  have in_X5 : ∀ x ∈ wsX50, x ∈ wsX5_nextOf := by decide +kernel
  have k21 := C.2.2.2.2.1 (.fieldLink RX5 21 "KnifeBoard$Order" "size" "I") (by decide +kernel)
  induction fu with
  | zero => intro z2 z3 h; exact h.elim
  | succ fu ih =>
    intro z2 z3 h H locs hG ls hl
    unfold wpX5_nextOf_L4 at h
    refine lv_iload_n C.1 C.2.1 dX5_nextOf_4 rfl (lv_at hl 0 rfl) ?_
    refine lv_aload_n C.1 C.2.1 dX5_nextOf_5 rfl (lv_at hl 2 rfl) ?_
    refine fw_get (w := (kw G ad kt)) C in_X5 hK hG 6 kw_o5 rfl 3 (by decide) k21 rfl rfl dX5_nextOf_6 ?_
    refine lv_icmp_ge (tgt := 50) C.1 C.2.1 dX5_nextOf_9 (by decide) (fun c1 => ?_) (fun c1 => ?_)
    · have h := h.1 c1
      exact hX _ _ h _ _ hG ls (lv_sub hl [0, 1, 2, 3] rfl)
    · have h := h.2 c1
      refine lv_iload_n C.1 C.2.1 dX5_nextOf_12 rfl (lv_at hl 3 rfl) ?_
      refine lv_iload_n C.1 C.2.1 dX5_nextOf_13 rfl (lv_at hl 0 rfl) ?_
      refine lv_ishr C.1 C.2.1 dX5_nextOf_14 ?_
      refine lv_iconst (v := 1) C.1 C.2.1 dX5_nextOf_15 (by decide) ?_
      refine lv_iand C.1 C.2.1 dX5_nextOf_16 ?_
      refine lv_if_eq (tgt := 23) C.1 C.2.1 dX5_nextOf_17 (by decide) (fun c2 => ?_) (fun c2 => ?_)
      · have h := h.1 c2
        refine lv_iload_n C.1 C.2.1 dX5_nextOf_23 rfl (lv_at hl 1 rfl) ?_
        refine lv_if_lt (tgt := 42) C.1 C.2.1 dX5_nextOf_24 (by decide) (fun c3 => ?_) (fun c3 => ?_)
        · have h := h.1 c3
          refine lv_iload_n C.1 C.2.1 dX5_nextOf_42 rfl (lv_at hl 0 rfl) ?_
          refine lv_istore_n (lv' := [(2, .int z3), (3, .int z3), (0, .ref (ad 6)), (1, .int x1)]) C.1 C.2.1 dX5_nextOf_43 rfl hl (by decide) rfl (fun ls hl => ?_)
          obtain ⟨y4, ey4⟩ : ∃ z : Int32, z = z3 + 1 := ⟨_, rfl⟩
          have h := h y4 ey4
          refine lv_iinc (v := y4) (lv' := [(3, .int y4), (2, .int z3), (0, .ref (ad 6)), (1, .int x1)]) C.1 C.2.1 dX5_nextOf_44 hl (k := 1) rfl (by rw [ey4]; rfl) (by decide) rfl (fun ls hl => ?_)
          refine lv_goto (tgt := 4) C.1 C.2.1 dX5_nextOf_47 (by decide) ?_
          exact ih _ _ h _ _ hG ls (lv_sub hl [0, 1, 2, 3] rfl)
        · have h := h.2 c3
          refine lv_aload_n C.1 C.2.1 dX5_nextOf_27 rfl (lv_at hl 2 rfl) ?_
          refine lv_iload_n C.1 C.2.1 dX5_nextOf_28 rfl (lv_at hl 3 rfl) ?_
          refine lv_iload_n C.1 C.2.1 dX5_nextOf_29 rfl (lv_at hl 0 rfl) ?_
          refine fw_rcalli (va_runV (As := [.int x1, .int z3]) (rest := []) ⟨C.1, C.2.1, C.2.2.2.2.2.2, C.2.2.2.2.2.1, C.2.2.2.2.1⟩ (soX5_costBy l G ad kt iv ar x1 z3 _  h H.size) (cwV 2 C.2.2.2.2.1 gX5_nextOf_X5_costBy rfl rfl rfl (by decide +kernel) ⟨Nat.le_of_ble_eq_true rfl, Nat.le_of_ble_eq_true rfl⟩) (fw_preV hG hK (ci := 5) rfl kw_o5) rfl rfl hl.1 rfl (lv_room (Nat.le_of_ble_eq_true rfl)) dX5_nextOf_30 ⟨Nat.zero_le _, Nat.zero_le _⟩) hG hK (fun r5  H locs h hG => ?_)
          refine lv_aload_n C.1 C.2.1 dX5_nextOf_33 rfl (lv_at hl 2 rfl) ?_
          refine lv_iload_n C.1 C.2.1 dX5_nextOf_34 rfl (lv_at hl 3 rfl) ?_
          refine lv_iload_n C.1 C.2.1 dX5_nextOf_35 rfl (lv_at hl 1 rfl) ?_
          refine fw_rcalli (va_runV (As := [.int x1, .int z2]) (rest := [.int r5]) ⟨C.1, C.2.1, C.2.2.2.2.2.2, C.2.2.2.2.2.1, C.2.2.2.2.1⟩ (soX5_costBy l G ad kt iv ar x1 z2 _  h H.size) (cwV 2 C.2.2.2.2.1 gX5_nextOf_X5_costBy rfl rfl rfl (by decide +kernel) ⟨Nat.le_of_ble_eq_true rfl, Nat.le_of_ble_eq_true rfl⟩) (fw_preV hG hK (ci := 5) rfl kw_o5) rfl rfl hl.1 rfl (lv_room (Nat.le_of_ble_eq_true rfl)) dX5_nextOf_36 ⟨Nat.zero_le _, Nat.zero_le _⟩) hG hK (fun r6  H locs h hG => ?_)
          refine lv_icmp_ge (tgt := 44) C.1 C.2.1 dX5_nextOf_39 (by decide) (fun c7 => ?_) (fun c7 => ?_)
          · have h := h.1 c7
            obtain ⟨y8, ey8⟩ : ∃ z : Int32, z = z3 + 1 := ⟨_, rfl⟩
            have h := h y8 ey8
            refine lv_iinc (v := y8) (lv' := [(3, .int y8), (2, .int z2), (0, .ref (ad 6)), (1, .int x1)]) C.1 C.2.1 dX5_nextOf_44 hl (k := 0) rfl (by rw [ey8]; rfl) (by decide) rfl (fun ls hl => ?_)
            refine lv_goto (tgt := 4) C.1 C.2.1 dX5_nextOf_47 (by decide) ?_
            exact ih _ _ h _ _ hG ls (lv_sub hl [0, 1, 2, 3] rfl)
          · have h := h.2 c7
            refine lv_iload_n C.1 C.2.1 dX5_nextOf_42 rfl (lv_at hl 0 rfl) ?_
            refine lv_istore_n (lv' := [(2, .int z3), (3, .int z3), (0, .ref (ad 6)), (1, .int x1)]) C.1 C.2.1 dX5_nextOf_43 rfl hl (by decide) rfl (fun ls hl => ?_)
            obtain ⟨y9, ey9⟩ : ∃ z : Int32, z = z3 + 1 := ⟨_, rfl⟩
            have h := h y9 ey9
            refine lv_iinc (v := y9) (lv' := [(3, .int y9), (2, .int z3), (0, .ref (ad 6)), (1, .int x1)]) C.1 C.2.1 dX5_nextOf_44 hl (k := 1) rfl (by rw [ey9]; rfl) (by decide) rfl (fun ls hl => ?_)
            refine lv_goto (tgt := 4) C.1 C.2.1 dX5_nextOf_47 (by decide) ?_
            exact ih _ _ h _ _ hG ls (lv_sub hl [0, 1, 2, 3] rfl)
      · have h := h.2 c2
        refine lv_goto (tgt := 44) C.1 C.2.1 dX5_nextOf_20 (by decide) ?_
        obtain ⟨y10, ey10⟩ : ∃ z : Int32, z = z3 + 1 := ⟨_, rfl⟩
        have h := h y10 ey10
        refine lv_iinc (v := y10) (lv' := [(3, .int y10), (2, .int z2), (0, .ref (ad 6)), (1, .int x1)]) C.1 C.2.1 dX5_nextOf_44 hl (k := 0) rfl (by rw [ey10]; rfl) (by decide) rfl (fun ls hl => ?_)
        refine lv_goto (tgt := 4) C.1 C.2.1 dX5_nextOf_47 (by decide) ?_
        exact ih _ _ h _ _ hG ls (lv_sub hl [0, 1, 2, 3] rfl)

set_option maxHeartbeats 4000000 in
set_option maxRecDepth 100000 in
theorem soX5_nextOf (l : Launch) (G : fw_G) (ad : Nat → Nat) (kt : kw_T) (iv : fw_F) (ar : fw_R) (x1 : Int32) (Q : Int32 → Prop)  (h : wpX5_nextOf kt iv ar x1 Q) : fw_M l G (kw G ad kt) yX5_nextOf wsX5_nextOf rmX5_nextOf [.ref (ad 6), .int x1] iv ar (fw_Qi G (kw G ad kt) (fun r iv1 ar1 => Q r ∧ iv = iv1 ∧ ar = ar1)) := by
  refine fw_start (cc := cX5_nextOf) (nL := 4) (rt := (some .int)) (by decide) rfl (Nat.le_of_ble_eq_true rfl) ?_
  intro p e s m below meth c A ls H locs C hK hG hl
  obtain ⟨args, ea⟩ : ∃ z : Array Value, z = ([.ref (ad 6), .int x1] : List Value).toArray := ⟨_, rfl⟩
  rw [← ea] at C ⊢
  have C : fw_C p s m args meth c cX5_nextOf 4 (some .int) wsX5_nextOf RX5 := C
  have hl : lv_has ls 4 [(0, .ref (ad 6)), (1, .int x1)] := hl
  unfold wpX5_nextOf at h
  have m31 := C.2.2.2.2.1 (.methodLink RX5 31 Lib.Math.max.name) (by decide +kernel)
  have mc_max : (Cond.code Lib.Math.max.name Lib.Math.max.code 2 (some .int)).before args s = true := C.2.2.2.2.1 _ (by decide +kernel)
  have mi_ := C.2.2.2.2.1 (.initialized "java/lang/Math") (by decide +kernel)
  have ms_max := C.2.2.2.2.1 (.static Lib.Math.max.name) (by decide +kernel)
  refine lv_iconst (v := (-1)) C.1 C.2.1 dX5_nextOf_0 (by decide) ?_
  refine lv_istore_n (lv' := [(2, .int (-1)), (0, .ref (ad 6)), (1, .int x1)]) C.1 C.2.1 dX5_nextOf_1 rfl hl (by decide) rfl (fun ls hl => ?_)
  refine lv_iconst (v := 0) C.1 C.2.1 dX5_nextOf_2 (by decide) ?_
  refine lv_istore_n (lv' := [(3, .int 0), (2, .int (-1)), (0, .ref (ad 6)), (1, .int x1)]) C.1 C.2.1 dX5_nextOf_3 rfl hl (by decide) rfl (fun ls hl => ?_)
  obtain ⟨ku, h⟩ := h
  refine soX5_nextOf_L4 C hK  ?_ ku _ _ h _ _ hG ls (lv_sub hl [0, 1, 2, 3] rfl)
  intro w11 w12 h H locs hG ls hl
  refine lv_iconst (v := 0) C.1 C.2.1 dX5_nextOf_50 (by decide) ?_
  refine lv_iload_n C.1 C.2.1 dX5_nextOf_51 rfl (lv_at hl 1 rfl) ?_
  refine va_mmax C.1 C.2.1 (by rw [C.2.2.2.2.2.2]; exact hl.1.symm) C.2.2.2.2.2.1 m31 ms_max mi_ mc_max (Nat.le_of_ble_eq_true rfl) (Nat.le_of_ble_eq_true rfl) (Nat.zero_le _) (Nat.zero_le _) dX5_nextOf_52 ?_
  exact fw_iret C hG ⟨h, rfl, rfl⟩ dX5_nextOf_55
/-! KnifeBoard$Order.weighRests()V -/
def rmX5_weighRests : Room := { frames := 3, cells := 0, slots := 0, locals := 65 }
def wpX5_weighRests_L20 (kt : kw_T)  (Q : fw_F → fw_R → Prop) (K : Int32 → fw_F → fw_R → Prop) : Nat → Int32 → fw_F → fw_R → Prop
  | 0, _, _, _ => False
  | fu + 1, z2, iv, ar => (z2 < 0 → (K z2 iv ar)) ∧ (¬ z2 < 0 → (wpX5_nextOf kt iv ar z2 (fun (r6 : Int32) => wpX5_costBy kt iv ar z2 r6 (fun (r7 : Int32) => vp_in z2 64 ∧ (∀ ar9 : fw_R, ar9 = va_up ar 9 (upd (ar 9) z2.toNatClampNeg r7) → (∀ y10 : Int32, y10 = z2 + (-1) → (wpX5_weighRests_L20 kt  Q K fu y10 iv ar9)))))))
def wpX5_weighRests (kt : kw_T) (iv : fw_F) (ar : fw_R)  (Q : fw_F → fw_R → Prop) : Prop := ∀ y1 : Int32, y1 = ((1 : Int32) <<< ((iv 6) &&& 31)) - 1 → (vp_in y1 64 ∧ (∀ ar3 : fw_R, ar3 = va_up ar 9 (upd (ar 9) y1.toNatClampNeg 0) → (∀ y4 : Int32, y4 = y1 - 1 → (∃ ku : Nat, wpX5_weighRests_L20 kt  Q (fun (w11 : Int32) (iv12 : fw_F) (ar13 : fw_R) => Q iv12 ar13) ku y4 iv ar3))))
set_option maxHeartbeats 4000000 in
set_option maxRecDepth 100000 in
theorem soX5_weighRests_L20 {p : Program} {l : Launch} {e : Env} {s : State} {m : MethodId} {args : Array Value} {below : List Frame} {meth : Method} {c : Code} {A : Nat → Prop} {G : fw_G} {ad : Nat → Nat} {kt : kw_T}  {Q : fw_F → fw_R → Prop} {K : Int32 → fw_F → fw_R → Prop} (C : fw_C p s m args meth c cX5_weighRests 3 none wsX5_weighRests RX5) (hK : fw_K G A s)  (hX : ∀ (z2 : Int32) (iv : fw_F) (ar : fw_R), K z2 iv ar → ∀ (H : Heap) (locs : List Loc), fw_H G ((kw G ad kt) iv ar) A s H locs → ∀ (ls : Array Slot), lv_has ls 3 [(2, .int z2), (0, .ref (ad 6))] → W p l e rmX5_weighRests s m args below meth c H locs 0 0 (MQ below (fw_Qv G (kw G ad kt) Q A) args s 0 0 A) (F0 m 46 ls [])) : ∀ (fu : Nat) (z2 : Int32) (iv : fw_F) (ar : fw_R), wpX5_weighRests_L20 kt  Q K fu z2 iv ar → ∀ (H : Heap) (locs : List Loc), fw_H G ((kw G ad kt) iv ar) A s H locs → ∀ (ls : Array Slot), lv_has ls 3 [(2, .int z2), (0, .ref (ad 6))] → W p l e rmX5_weighRests s m args below meth c H locs 0 0 (MQ below (fw_Qv G (kw G ad kt) Q A) args s 0 0 A) (F0 m 20 ls []) := by
  intro fu
  have in_X5 : ∀ x ∈ wsX50, x ∈ wsX5_weighRests := by decide +kernel
  have k18 := C.2.2.2.2.1 (.fieldLink RX5 18 "KnifeBoard$Order" "rests" "[I") (by decide +kernel)
  induction fu with
  | zero => intro z2 iv ar h; exact h.elim
  | succ fu ih =>
    intro z2 iv ar h H locs hG ls hl
    unfold wpX5_weighRests_L20 at h
    refine lv_iload_n C.1 C.2.1 dX5_weighRests_20 rfl (lv_at hl 0 rfl) ?_
    refine lv_if_lt (tgt := 46) C.1 C.2.1 dX5_weighRests_21 (by decide) (fun c5 => ?_) (fun c5 => ?_)
    · have h := h.1 c5
      exact hX _ _ _ h _ _ hG ls (lv_sub hl [0, 1] rfl)
    · have h := h.2 c5
      refine lv_aload_n C.1 C.2.1 dX5_weighRests_24 rfl (lv_at hl 1 rfl) ?_
      refine fw_get (w := (kw G ad kt)) C in_X5 hK hG 6 kw_o5 rfl 2 (by decide) k18 rfl rfl dX5_weighRests_25 ?_
      refine lv_iload_n C.1 C.2.1 dX5_weighRests_28 rfl (lv_at hl 0 rfl) ?_
      refine lv_aload_n C.1 C.2.1 dX5_weighRests_29 rfl (lv_at hl 1 rfl) ?_
      refine lv_iload_n C.1 C.2.1 dX5_weighRests_30 rfl (lv_at hl 0 rfl) ?_
      refine lv_aload_n C.1 C.2.1 dX5_weighRests_31 rfl (lv_at hl 1 rfl) ?_
      refine lv_iload_n C.1 C.2.1 dX5_weighRests_32 rfl (lv_at hl 0 rfl) ?_
      refine fw_rcalli (va_runV (As := [.int z2]) (rest := [.int z2, .ref (ad 6), .int z2, .ref (ad 9)]) ⟨C.1, C.2.1, C.2.2.2.2.2.2, C.2.2.2.2.2.1, C.2.2.2.2.1⟩ (soX5_nextOf l G ad kt iv ar z2 _  h H.size) (cwV 1 C.2.2.2.2.1 gX5_weighRests_X5_nextOf rfl rfl rfl (by decide +kernel) ⟨Nat.le_of_ble_eq_true rfl, Nat.le_of_ble_eq_true rfl⟩) (fw_preV hG hK (ci := 5) rfl kw_o5) rfl rfl hl.1 rfl (lv_room (Nat.le_of_ble_eq_true rfl)) dX5_weighRests_33 ⟨Nat.zero_le _, Nat.zero_le _⟩) hG hK (fun r6  H locs h hG => ?_)
      refine fw_rcalli (va_runV (As := [.int z2, .int r6]) (rest := [.int z2, .ref (ad 9)]) ⟨C.1, C.2.1, C.2.2.2.2.2.2, C.2.2.2.2.2.1, C.2.2.2.2.1⟩ (soX5_costBy l G ad kt iv ar z2 r6 _  h H.size) (cwV 2 C.2.2.2.2.1 gX5_weighRests_X5_costBy rfl rfl rfl (by decide +kernel) ⟨Nat.le_of_ble_eq_true rfl, Nat.le_of_ble_eq_true rfl⟩) (fw_preV hG hK (ci := 5) rfl kw_o5) rfl rfl hl.1 rfl (lv_room (Nat.le_of_ble_eq_true rfl)) dX5_weighRests_36 ⟨Nat.zero_le _, Nat.zero_le _⟩) hG hK (fun r7  H locs h hG => ?_)
      obtain ⟨c8, h⟩ := h
      obtain ⟨ar9, ear9⟩ : ∃ z : fw_R, z = va_up ar 9 (upd (ar 9) z2.toNatClampNeg r7) := ⟨_, rfl⟩
      have h := h ar9 ear9
      refine fw_iast (w := (kw G ad kt)) C hK hG 9 kw_a9 c8 (ar1 := ar9) (by rw [ear9]; exact kw_s9) dX5_weighRests_39 (fun H locs hG => ?_)
      obtain ⟨y10, ey10⟩ : ∃ z : Int32, z = z2 + (-1) := ⟨_, rfl⟩
      have h := h y10 ey10
      refine lv_iinc (v := y10) (lv' := [(2, .int y10), (0, .ref (ad 6))]) C.1 C.2.1 dX5_weighRests_40 hl (k := 0) rfl (by rw [ey10]; rfl) (by decide) rfl (fun ls hl => ?_)
      refine lv_goto (tgt := 20) C.1 C.2.1 dX5_weighRests_43 (by decide) ?_
      exact ih _ _ _ h _ _ hG ls (lv_sub hl [0, 1] rfl)

set_option maxHeartbeats 4000000 in
set_option maxRecDepth 100000 in
theorem soX5_weighRests (l : Launch) (G : fw_G) (ad : Nat → Nat) (kt : kw_T) (iv : fw_F) (ar : fw_R)  (Q : fw_F → fw_R → Prop)  (h : wpX5_weighRests kt iv ar  Q) : fw_M l G (kw G ad kt) yX5_weighRests wsX5_weighRests rmX5_weighRests [.ref (ad 6)] iv ar (fw_Qv G (kw G ad kt) Q) := by
  refine fw_start (cc := cX5_weighRests) (nL := 3) (rt := none) (by decide) rfl (Nat.le_of_ble_eq_true rfl) ?_
  intro p e s m below meth c A ls H locs C hK hG hl
  obtain ⟨args, ea⟩ : ∃ z : Array Value, z = ([.ref (ad 6)] : List Value).toArray := ⟨_, rfl⟩
  rw [← ea] at C ⊢
  have C : fw_C p s m args meth c cX5_weighRests 3 none wsX5_weighRests RX5 := C
  have hl : lv_has ls 3 [(0, .ref (ad 6))] := hl
  unfold wpX5_weighRests at h
  have in_X5 : ∀ x ∈ wsX50, x ∈ wsX5_weighRests := by decide +kernel
  have k18 := C.2.2.2.2.1 (.fieldLink RX5 18 "KnifeBoard$Order" "rests" "[I") (by decide +kernel)
  have k21 := C.2.2.2.2.1 (.fieldLink RX5 21 "KnifeBoard$Order" "size" "I") (by decide +kernel)
  refine lv_iconst (v := 1) C.1 C.2.1 dX5_weighRests_0 (by decide) ?_
  refine lv_aload_n C.1 C.2.1 dX5_weighRests_1 rfl (lv_at hl 0 rfl) ?_
  refine fw_get (w := (kw G ad kt)) C in_X5 hK hG 6 kw_o5 rfl 3 (by decide) k21 rfl rfl dX5_weighRests_2 ?_
  refine lv_ishl C.1 C.2.1 dX5_weighRests_5 ?_
  refine lv_iconst (v := 1) C.1 C.2.1 dX5_weighRests_6 (by decide) ?_
  refine lv_isub C.1 C.2.1 dX5_weighRests_7 ?_
  refine lv_topi (fun y1 ey1 => ?_)
  have h := h y1 ey1
  refine lv_istore_n (lv' := [(1, .int y1), (0, .ref (ad 6))]) C.1 C.2.1 dX5_weighRests_8 rfl hl (by decide) rfl (fun ls hl => ?_)
  refine lv_aload_n C.1 C.2.1 dX5_weighRests_9 rfl (lv_at hl 1 rfl) ?_
  refine fw_get (w := (kw G ad kt)) C in_X5 hK hG 6 kw_o5 rfl 2 (by decide) k18 rfl rfl dX5_weighRests_10 ?_
  refine lv_iload_n C.1 C.2.1 dX5_weighRests_13 rfl (lv_at hl 0 rfl) ?_
  refine lv_iconst (v := 0) C.1 C.2.1 dX5_weighRests_14 (by decide) ?_
  obtain ⟨c2, h⟩ := h
  obtain ⟨ar3, ear3⟩ : ∃ z : fw_R, z = va_up ar 9 (upd (ar 9) y1.toNatClampNeg 0) := ⟨_, rfl⟩
  have h := h ar3 ear3
  refine fw_iast (w := (kw G ad kt)) C hK hG 9 kw_a9 c2 (ar1 := ar3) (by rw [ear3]; exact kw_s9) dX5_weighRests_15 (fun H locs hG => ?_)
  refine lv_iload_n C.1 C.2.1 dX5_weighRests_16 rfl (lv_at hl 0 rfl) ?_
  refine lv_iconst (v := 1) C.1 C.2.1 dX5_weighRests_17 (by decide) ?_
  refine lv_isub C.1 C.2.1 dX5_weighRests_18 ?_
  refine lv_topi (fun y4 ey4 => ?_)
  have h := h y4 ey4
  refine lv_istore_n (lv' := [(2, .int y4), (1, .int y1), (0, .ref (ad 6))]) C.1 C.2.1 dX5_weighRests_19 rfl hl (by decide) rfl (fun ls hl => ?_)
  obtain ⟨ku, h⟩ := h
  refine soX5_weighRests_L20 C hK  ?_ ku _ _ _ h _ _ hG ls (lv_sub hl [0, 2] rfl)
  intro w11 iv12 ar13 h H locs hG ls hl
  exact fw_vret C hG h dX5_weighRests_46
/-! KnifeBoard$Order.leastSum()I -/
def rmX5_leastSum : Room := { frames := 0, cells := 0, slots := 0, locals := 0 }
def wpX5_leastSum (kt : kw_T) (iv : fw_F) (ar : fw_R)  (Q : Int32 → Prop) : Prop := vp_in (0 : Int32) 64 ∧ (Q ((ar 9) (0 : Int32).toNatClampNeg))
set_option maxHeartbeats 4000000 in
set_option maxRecDepth 100000 in
theorem soX5_leastSum (l : Launch) (G : fw_G) (ad : Nat → Nat) (kt : kw_T) (iv : fw_F) (ar : fw_R)  (Q : Int32 → Prop)  (h : wpX5_leastSum kt iv ar  Q) : fw_M l G (kw G ad kt) yX5_leastSum wsX5_leastSum rmX5_leastSum [.ref (ad 6)] iv ar (fw_Qi G (kw G ad kt) (fun r iv1 ar1 => Q r ∧ iv = iv1 ∧ ar = ar1)) := by
  refine fw_start (cc := cX5_leastSum) (nL := 1) (rt := (some .int)) (by decide) rfl (Nat.le_of_ble_eq_true rfl) ?_
  intro p e s m below meth c A ls H locs C hK hG hl
  obtain ⟨args, ea⟩ : ∃ z : Array Value, z = ([.ref (ad 6)] : List Value).toArray := ⟨_, rfl⟩
  rw [← ea] at C ⊢
  have C : fw_C p s m args meth c cX5_leastSum 1 (some .int) wsX5_leastSum RX5 := C
  have hl : lv_has ls 1 [(0, .ref (ad 6))] := hl
  unfold wpX5_leastSum at h
  have in_X5 : ∀ x ∈ wsX50, x ∈ wsX5_leastSum := by decide +kernel
  have k18 := C.2.2.2.2.1 (.fieldLink RX5 18 "KnifeBoard$Order" "rests" "[I") (by decide +kernel)
  refine lv_aload_n C.1 C.2.1 dX5_leastSum_0 rfl (lv_at hl 0 rfl) ?_
  refine fw_get (w := (kw G ad kt)) C in_X5 hK hG 6 kw_o5 rfl 2 (by decide) k18 rfl rfl dX5_leastSum_1 ?_
  refine lv_iconst (v := 0) C.1 C.2.1 dX5_leastSum_4 (by decide) ?_
  obtain ⟨c1, h⟩ := h
  refine fw_iald (w := (kw G ad kt)) C hK hG 9 kw_a9 c1 dX5_leastSum_5 ?_
  exact fw_iret C hG ⟨h, rfl, rfl⟩ dX5_leastSum_6
/-! KnifeBoard$Order.cellThrown(I)I -/
def rmX5_cellThrown : Room := { frames := 3, cells := 0, slots := 0, locals := 65 }
def wpX5_cellThrown_L7 (kt : kw_T) (x1 : Int32) (iv : fw_F) (ar : fw_R) (Q : Int32 → Prop) (K : Int32 → Int32 → Int32 → Prop) : Nat → Int32 → Int32 → Int32 → Prop
  | 0, _, _, _ => False
  | fu + 1, z2, z3, z4 => (x1 < z4 → (K z2 z3 z4)) ∧ (¬ x1 < z4 → (((iv 6) ≤ z4 → (K z2 z3 z4)) ∧ (¬ (iv 6) ≤ z4 → (wpX5_nextOf kt iv ar z2 (fun (r3 : Int32) => ∀ y4 : Int32, y4 = z2 ||| ((1 : Int32) <<< (r3 &&& 31)) → (∀ y5 : Int32, y5 = z4 + 1 → (wpX5_cellThrown_L7 kt x1 iv ar Q K fu y4 r3 y5)))))))
def wpX5_cellThrown (kt : kw_T) (iv : fw_F) (ar : fw_R) (x1 : Int32) (Q : Int32 → Prop) : Prop := ∃ ku : Nat, wpX5_cellThrown_L7 kt x1 iv ar Q (fun (w6 : Int32) (w7 : Int32) (w8 : Int32) => vp_in w7 6 ∧ (Q ((ar 7) w7.toNatClampNeg))) ku 0 0 0
set_option maxHeartbeats 4000000 in
set_option maxRecDepth 100000 in
theorem soX5_cellThrown_L7 {p : Program} {l : Launch} {e : Env} {s : State} {m : MethodId} {args : Array Value} {below : List Frame} {meth : Method} {c : Code} {A : Nat → Prop} {G : fw_G} {ad : Nat → Nat} {kt : kw_T} {x1 : Int32} {iv : fw_F} {ar : fw_R} {Q : Int32 → Prop} {K : Int32 → Int32 → Int32 → Prop} (C : fw_C p s m args meth c cX5_cellThrown 5 (some .int) wsX5_cellThrown RX5) (hK : fw_K G A s)  (hX : ∀ (z2 : Int32) (z3 : Int32) (z4 : Int32), K z2 z3 z4 → ∀ (H : Heap) (locs : List Loc), fw_H G ((kw G ad kt) iv ar) A s H locs → ∀ (ls : Array Slot), lv_has ls 5 [(4, .int z4), (3, .int z3), (2, .int z2), (0, .ref (ad 6)), (1, .int x1)] → W p l e rmX5_cellThrown s m args below meth c H locs 0 0 (MQ below (fw_Qi G (kw G ad kt) (fun r iv1 ar1 => Q r ∧ iv = iv1 ∧ ar = ar1) A) args s 0 0 A) (F0 m 40 ls [])) : ∀ (fu : Nat) (z2 : Int32) (z3 : Int32) (z4 : Int32), wpX5_cellThrown_L7 kt x1 iv ar Q K fu z2 z3 z4 → ∀ (H : Heap) (locs : List Loc), fw_H G ((kw G ad kt) iv ar) A s H locs → ∀ (ls : Array Slot), lv_has ls 5 [(4, .int z4), (3, .int z3), (2, .int z2), (0, .ref (ad 6)), (1, .int x1)] → W p l e rmX5_cellThrown s m args below meth c H locs 0 0 (MQ below (fw_Qi G (kw G ad kt) (fun r iv1 ar1 => Q r ∧ iv = iv1 ∧ ar = ar1) A) args s 0 0 A) (F0 m 7 ls []) := by
  intro fu
  have in_X5 : ∀ x ∈ wsX50, x ∈ wsX5_cellThrown := by decide +kernel
  have k21 := C.2.2.2.2.1 (.fieldLink RX5 21 "KnifeBoard$Order" "size" "I") (by decide +kernel)
  induction fu with
  | zero => intro z2 z3 z4 h; exact h.elim
  | succ fu ih =>
    intro z2 z3 z4 h H locs hG ls hl
    unfold wpX5_cellThrown_L7 at h
    refine lv_iload C.1 C.2.1 dX5_cellThrown_7 (lv_at hl 0 rfl) ?_
    refine lv_iload_n C.1 C.2.1 dX5_cellThrown_9 rfl (lv_at hl 4 rfl) ?_
    refine lv_icmp_gt (tgt := 40) C.1 C.2.1 dX5_cellThrown_10 (by decide) (fun c1 => ?_) (fun c1 => ?_)
    · have h := h.1 c1
      exact hX _ _ _ h _ _ hG ls (lv_sub hl [0, 1, 2, 3, 4] rfl)
    · have h := h.2 c1
      refine lv_iload C.1 C.2.1 dX5_cellThrown_13 (lv_at hl 0 rfl) ?_
      refine lv_aload_n C.1 C.2.1 dX5_cellThrown_15 rfl (lv_at hl 3 rfl) ?_
      refine fw_get (w := (kw G ad kt)) C in_X5 hK hG 6 kw_o5 rfl 3 (by decide) k21 rfl rfl dX5_cellThrown_16 ?_
      refine lv_icmp_ge (tgt := 40) C.1 C.2.1 dX5_cellThrown_19 (by decide) (fun c2 => ?_) (fun c2 => ?_)
      · have h := h.1 c2
        exact hX _ _ _ h _ _ hG ls (lv_sub hl [0, 1, 2, 3, 4] rfl)
      · have h := h.2 c2
        refine lv_aload_n C.1 C.2.1 dX5_cellThrown_22 rfl (lv_at hl 3 rfl) ?_
        refine lv_iload_n C.1 C.2.1 dX5_cellThrown_23 rfl (lv_at hl 2 rfl) ?_
        refine fw_rcalli (va_runV (As := [.int z2]) (rest := []) ⟨C.1, C.2.1, C.2.2.2.2.2.2, C.2.2.2.2.2.1, C.2.2.2.2.1⟩ (soX5_nextOf l G ad kt iv ar z2 _  h H.size) (cwV 1 C.2.2.2.2.1 gX5_cellThrown_X5_nextOf rfl rfl rfl (by decide +kernel) ⟨Nat.le_of_ble_eq_true rfl, Nat.le_of_ble_eq_true rfl⟩) (fw_preV hG hK (ci := 5) rfl kw_o5) rfl rfl hl.1 rfl (lv_room (Nat.le_of_ble_eq_true rfl)) dX5_cellThrown_24 ⟨Nat.zero_le _, Nat.zero_le _⟩) hG hK (fun r3  H locs h hG => ?_)
        refine lv_istore_n (lv' := [(3, .int r3), (4, .int z4), (2, .int z2), (0, .ref (ad 6)), (1, .int x1)]) C.1 C.2.1 dX5_cellThrown_27 rfl hl (by decide) rfl (fun ls hl => ?_)
        refine lv_iload_n C.1 C.2.1 dX5_cellThrown_28 rfl (lv_at hl 2 rfl) ?_
        refine lv_iconst (v := 1) C.1 C.2.1 dX5_cellThrown_29 (by decide) ?_
        refine lv_iload_n C.1 C.2.1 dX5_cellThrown_30 rfl (lv_at hl 0 rfl) ?_
        refine lv_ishl C.1 C.2.1 dX5_cellThrown_31 ?_
        refine lv_ior C.1 C.2.1 dX5_cellThrown_32 ?_
        refine lv_topi (fun y4 ey4 => ?_)
        have h := h y4 ey4
        refine lv_istore_n (lv' := [(2, .int y4), (3, .int r3), (4, .int z4), (0, .ref (ad 6)), (1, .int x1)]) C.1 C.2.1 dX5_cellThrown_33 rfl hl (by decide) rfl (fun ls hl => ?_)
        obtain ⟨y5, ey5⟩ : ∃ z : Int32, z = z4 + 1 := ⟨_, rfl⟩
        have h := h y5 ey5
        refine lv_iinc (v := y5) (lv' := [(4, .int y5), (2, .int y4), (3, .int r3), (0, .ref (ad 6)), (1, .int x1)]) C.1 C.2.1 dX5_cellThrown_34 hl (k := 2) rfl (by rw [ey5]; rfl) (by decide) rfl (fun ls hl => ?_)
        refine lv_goto (tgt := 7) C.1 C.2.1 dX5_cellThrown_37 (by decide) ?_
        exact ih _ _ _ h _ _ hG ls (lv_sub hl [0, 2, 1, 3, 4] rfl)

set_option maxHeartbeats 4000000 in
set_option maxRecDepth 100000 in
theorem soX5_cellThrown (l : Launch) (G : fw_G) (ad : Nat → Nat) (kt : kw_T) (iv : fw_F) (ar : fw_R) (x1 : Int32) (Q : Int32 → Prop)  (h : wpX5_cellThrown kt iv ar x1 Q) : fw_M l G (kw G ad kt) yX5_cellThrown wsX5_cellThrown rmX5_cellThrown [.ref (ad 6), .int x1] iv ar (fw_Qi G (kw G ad kt) (fun r iv1 ar1 => Q r ∧ iv = iv1 ∧ ar = ar1)) := by
  refine fw_start (cc := cX5_cellThrown) (nL := 5) (rt := (some .int)) (by decide) rfl (Nat.le_of_ble_eq_true rfl) ?_
  intro p e s m below meth c A ls H locs C hK hG hl
  obtain ⟨args, ea⟩ : ∃ z : Array Value, z = ([.ref (ad 6), .int x1] : List Value).toArray := ⟨_, rfl⟩
  rw [← ea] at C ⊢
  have C : fw_C p s m args meth c cX5_cellThrown 5 (some .int) wsX5_cellThrown RX5 := C
  have hl : lv_has ls 5 [(0, .ref (ad 6)), (1, .int x1)] := hl
  unfold wpX5_cellThrown at h
  have in_X5 : ∀ x ∈ wsX50, x ∈ wsX5_cellThrown := by decide +kernel
  have k9 := C.2.2.2.2.1 (.fieldLink RX5 9 "KnifeBoard$Order" "cells" "[I") (by decide +kernel)
  refine lv_iconst (v := 0) C.1 C.2.1 dX5_cellThrown_0 (by decide) ?_
  refine lv_istore_n (lv' := [(2, .int 0), (0, .ref (ad 6)), (1, .int x1)]) C.1 C.2.1 dX5_cellThrown_1 rfl hl (by decide) rfl (fun ls hl => ?_)
  refine lv_iconst (v := 0) C.1 C.2.1 dX5_cellThrown_2 (by decide) ?_
  refine lv_istore_n (lv' := [(3, .int 0), (2, .int 0), (0, .ref (ad 6)), (1, .int x1)]) C.1 C.2.1 dX5_cellThrown_3 rfl hl (by decide) rfl (fun ls hl => ?_)
  refine lv_iconst (v := 0) C.1 C.2.1 dX5_cellThrown_4 (by decide) ?_
  refine lv_istore (lv' := [(4, .int 0), (3, .int 0), (2, .int 0), (0, .ref (ad 6)), (1, .int x1)]) C.1 C.2.1 dX5_cellThrown_5 hl (by decide) rfl (fun ls hl => ?_)
  obtain ⟨ku, h⟩ := h
  refine soX5_cellThrown_L7 C hK  ?_ ku _ _ _ h _ _ hG ls (lv_sub hl [0, 1, 2, 3, 4] rfl)
  intro w6 w7 w8 h H locs hG ls hl
  refine lv_aload_n C.1 C.2.1 dX5_cellThrown_40 rfl (lv_at hl 3 rfl) ?_
  refine fw_get (w := (kw G ad kt)) C in_X5 hK hG 6 kw_o5 rfl 0 (by decide) k9 rfl rfl dX5_cellThrown_41 ?_
  refine lv_iload_n C.1 C.2.1 dX5_cellThrown_44 rfl (lv_at hl 1 rfl) ?_
  obtain ⟨c9, h⟩ := h
  refine fw_iald (w := (kw G ad kt)) C hK hG 7 kw_a7 c9 dX5_cellThrown_45 ?_
  exact fw_iret C hG ⟨h, rfl, rfl⟩ dX5_cellThrown_46
/-! KnifeBoard$Sheet.renew(II)V -/
def rmX6_renew : Room := { frames := 1, cells := 0, slots := 0, locals := 21 }
def wpX6_renew_L26 (kt : kw_T) (j0 : Nat) (x1 : Int32) (x2 : Int32) (Q : fw_F → fw_R → Prop) (K : Int32 → fw_F → fw_R → Prop) : Nat → Int32 → fw_F → fw_R → Prop
  | 0, _, _, _ => False
  | fu + 1, z3, iv, ar => ((iv (17 + j0)) ≤ z3 → (K z3 iv ar)) ∧ (¬ (iv (17 + j0)) ≤ z3 → (vp_in z3 80 ∧ (∀ ar6 : fw_R, ar6 = va_up ar (21 + j0) (upd (ar (21 + j0)) z3.toNatClampNeg 0) → (∀ y7 : Int32, y7 = z3 + 1 → (wpX6_renew_L26 kt j0 x1 x2 Q K fu y7 iv ar6)))))
def wpX6_renew (kt : kw_T) (iv : fw_F) (ar : fw_R) (j0 : Nat) (x1 : Int32) (x2 : Int32) (Q : fw_F → fw_R → Prop) : Prop := ∀ iv1 : fw_F, iv1 = va_up iv (9 + j0) 1 → (∀ iv2 : fw_F, iv2 = va_up iv1 (13 + j0) x1 → (∀ iv3 : fw_F, iv3 = va_up iv2 (17 + j0) (if 0 < (if 80 < x2 then 80 else x2) then (if 80 < x2 then 80 else x2) else 0) → (∃ ku : Nat, wpX6_renew_L26 kt j0 x1 x2 Q (fun (w8 : Int32) (iv9 : fw_F) (ar10 : fw_R) => Q iv9 ar10) ku 0 iv3 ar)))
set_option maxHeartbeats 4000000 in
set_option maxRecDepth 100000 in
theorem soX6_renew_L26 {p : Program} {l : Launch} {e : Env} {s : State} {m : MethodId} {args : Array Value} {below : List Frame} {meth : Method} {c : Code} {A : Nat → Prop} {G : fw_G} {ad : Nat → Nat} {kt : kw_T} {j0 : Nat} {x1 : Int32} {x2 : Int32} {Q : fw_F → fw_R → Prop} {K : Int32 → fw_F → fw_R → Prop} (C : fw_C p s m args meth c cX6_renew 4 none wsX6_renew RX6) (hK : fw_K G A s) (hj0 : j0 < 4) (hX : ∀ (z3 : Int32) (iv : fw_F) (ar : fw_R), K z3 iv ar → ∀ (H : Heap) (locs : List Loc), fw_H G ((kw G ad kt) iv ar) A s H locs → ∀ (ls : Array Slot), lv_has ls 4 [(3, .int z3), (0, .ref (ad (17 + j0)))] → W p l e rmX6_renew s m args below meth c H locs 0 0 (MQ below (fw_Qv G (kw G ad kt) Q A) args s 0 0 A) (F0 m 47 ls [])) : ∀ (fu : Nat) (z3 : Int32) (iv : fw_F) (ar : fw_R), wpX6_renew_L26 kt j0 x1 x2 Q K fu z3 iv ar → ∀ (H : Heap) (locs : List Loc), fw_H G ((kw G ad kt) iv ar) A s H locs → ∀ (ls : Array Slot), lv_has ls 4 [(3, .int z3), (0, .ref (ad (17 + j0)))] → W p l e rmX6_renew s m args below meth c H locs 0 0 (MQ below (fw_Qv G (kw G ad kt) Q A) args s 0 0 A) (F0 m 26 ls []) := by
  intro fu
  have in_X6 : ∀ x ∈ wsX60, x ∈ wsX6_renew := by decide +kernel
  have k23 := C.2.2.2.2.1 (.fieldLink RX6 23 "KnifeBoard$Sheet" "length" "I") (by decide +kernel)
  have k9 := C.2.2.2.2.1 (.fieldLink RX6 9 "KnifeBoard$Sheet" "cells" "[I") (by decide +kernel)
  induction fu with
  | zero => intro z3 iv ar h; exact h.elim
  | succ fu ih =>
    intro z3 iv ar h H locs hG ls hl
    unfold wpX6_renew_L26 at h
    refine lv_iload_n C.1 C.2.1 dX6_renew_26 rfl (lv_at hl 0 rfl) ?_
    refine lv_aload_n C.1 C.2.1 dX6_renew_27 rfl (lv_at hl 1 rfl) ?_
    refine fw_get (w := (kw G ad kt)) C in_X6 hK hG (17 + j0) (kw_o6 hj0) rfl 3 (by decide) k23 rfl rfl dX6_renew_28 ?_
    refine lv_icmp_ge (tgt := 47) C.1 C.2.1 dX6_renew_31 (by decide) (fun c4 => ?_) (fun c4 => ?_)
    · have h := h.1 c4
      exact hX _ _ _ h _ _ hG ls (lv_sub hl [0, 1] rfl)
    · have h := h.2 c4
      refine lv_aload_n C.1 C.2.1 dX6_renew_34 rfl (lv_at hl 1 rfl) ?_
      refine fw_get (w := (kw G ad kt)) C in_X6 hK hG (17 + j0) (kw_o6 hj0) rfl 0 (by decide) k9 rfl rfl dX6_renew_35 ?_
      refine lv_iload_n C.1 C.2.1 dX6_renew_38 rfl (lv_at hl 0 rfl) ?_
      refine lv_iconst (v := 0) C.1 C.2.1 dX6_renew_39 (by decide) ?_
      obtain ⟨c5, h⟩ := h
      obtain ⟨ar6, ear6⟩ : ∃ z : fw_R, z = va_up ar (21 + j0) (upd (ar (21 + j0)) z3.toNatClampNeg 0) := ⟨_, rfl⟩
      have h := h ar6 ear6
      refine fw_iast (w := (kw G ad kt)) C hK hG (21 + j0) (kw_aS hj0) c5 (ar1 := ar6) (by rw [ear6]; exact (kw_sS hj0)) dX6_renew_40 (fun H locs hG => ?_)
      obtain ⟨y7, ey7⟩ : ∃ z : Int32, z = z3 + 1 := ⟨_, rfl⟩
      have h := h y7 ey7
      refine lv_iinc (v := y7) (lv' := [(3, .int y7), (0, .ref (ad (17 + j0)))]) C.1 C.2.1 dX6_renew_41 hl (k := 0) rfl (by rw [ey7]; rfl) (by decide) rfl (fun ls hl => ?_)
      refine lv_goto (tgt := 26) C.1 C.2.1 dX6_renew_44 (by decide) ?_
      exact ih _ _ _ h _ _ hG ls (lv_sub hl [0, 1] rfl)

set_option maxHeartbeats 4000000 in
set_option maxRecDepth 100000 in
theorem soX6_renew (l : Launch) (G : fw_G) (ad : Nat → Nat) (kt : kw_T) (iv : fw_F) (ar : fw_R) (j0 : Nat) (x1 : Int32) (x2 : Int32) (Q : fw_F → fw_R → Prop) (hj0 : j0 < 4) (h : wpX6_renew kt iv ar j0 x1 x2 Q) : fw_M l G (kw G ad kt) yX6_renew wsX6_renew rmX6_renew [.ref (ad (17 + j0)), .int x1, .int x2] iv ar (fw_Qv G (kw G ad kt) Q) := by
  refine fw_start (cc := cX6_renew) (nL := 4) (rt := none) (by decide) rfl (Nat.le_of_ble_eq_true rfl) ?_
  intro p e s m below meth c A ls H locs C hK hG hl
  obtain ⟨args, ea⟩ : ∃ z : Array Value, z = ([.ref (ad (17 + j0)), .int x1, .int x2] : List Value).toArray := ⟨_, rfl⟩
  rw [← ea] at C ⊢
  have C : fw_C p s m args meth c cX6_renew 4 none wsX6_renew RX6 := C
  have hl : lv_has ls 4 [(0, .ref (ad (17 + j0))), (1, .int x1), (2, .int x2)] := hl
  unfold wpX6_renew at h
  have in_X6 : ∀ x ∈ wsX60, x ∈ wsX6_renew := by decide +kernel
  have k15 := C.2.2.2.2.1 (.fieldLink RX6 15 "KnifeBoard$Sheet" "has" "Z") (by decide +kernel)
  have k19 := C.2.2.2.2.1 (.fieldLink RX6 19 "KnifeBoard$Sheet" "sort" "I") (by decide +kernel)
  have k23 := C.2.2.2.2.1 (.fieldLink RX6 23 "KnifeBoard$Sheet" "length" "I") (by decide +kernel)
  have m26 := C.2.2.2.2.1 (.methodLink RX6 26 Lib.Math.min.name) (by decide +kernel)
  have m32 := C.2.2.2.2.1 (.methodLink RX6 32 Lib.Math.max.name) (by decide +kernel)
  have mc_max : (Cond.code Lib.Math.max.name Lib.Math.max.code 2 (some .int)).before args s = true := C.2.2.2.2.1 _ (by decide +kernel)
  have mc_min : (Cond.code Lib.Math.min.name Lib.Math.min.code 2 (some .int)).before args s = true := C.2.2.2.2.1 _ (by decide +kernel)
  have mi_ := C.2.2.2.2.1 (.initialized "java/lang/Math") (by decide +kernel)
  have ms_max := C.2.2.2.2.1 (.static Lib.Math.max.name) (by decide +kernel)
  have ms_min := C.2.2.2.2.1 (.static Lib.Math.min.name) (by decide +kernel)
  refine lv_aload_n C.1 C.2.1 dX6_renew_0 rfl (lv_at hl 0 rfl) ?_
  refine lv_iconst (v := 1) C.1 C.2.1 dX6_renew_1 (by decide) ?_
  obtain ⟨iv1, eiv1⟩ : ∃ z : fw_F, z = va_up iv (9 + j0) 1 := ⟨_, rfl⟩
  have h := h iv1 eiv1
  refine fw_put (w := (kw G ad kt)) C in_X6 tyX6 tyX6_ok nmX6 hK hG (17 + j0) (kw_o6 hj0) rfl 1 (by decide) k15 rfl rfl (ty := .boolean) (v := .int 1) (by decide +kernel) (by decide) (by decide) (by first | decide | exact Nat.le_of_ble_eq_true rfl) (iv1 := iv1) (by rw [eiv1]; exact (kw_p6_has hj0)) dX6_renew_2 (fun H locs hG => ?_)
  refine lv_aload_n C.1 C.2.1 dX6_renew_5 rfl (lv_at hl 0 rfl) ?_
  refine lv_iload_n C.1 C.2.1 dX6_renew_6 rfl (lv_at hl 1 rfl) ?_
  obtain ⟨iv2, eiv2⟩ : ∃ z : fw_F, z = va_up iv1 (13 + j0) x1 := ⟨_, rfl⟩
  have h := h iv2 eiv2
  refine fw_put (w := (kw G ad kt)) C in_X6 tyX6 tyX6_ok nmX6 hK hG (17 + j0) (kw_o6 hj0) rfl 2 (by decide) k19 rfl rfl (ty := .int) (v := .int x1) (by decide +kernel) rfl rfl (by first | decide | exact Nat.le_of_ble_eq_true rfl) (iv1 := iv2) (by rw [eiv2]; exact (kw_p6_sort hj0)) dX6_renew_7 (fun H locs hG => ?_)
  refine lv_aload_n C.1 C.2.1 dX6_renew_10 rfl (lv_at hl 0 rfl) ?_
  refine lv_iconst (v := 0) C.1 C.2.1 dX6_renew_11 (by decide) ?_
  refine lv_iload_n C.1 C.2.1 dX6_renew_12 rfl (lv_at hl 2 rfl) ?_
  refine lv_bipush (v := 80) C.1 C.2.1 dX6_renew_13 (by decide) ?_
  refine va_mmin C.1 C.2.1 (by rw [C.2.2.2.2.2.2]; exact hl.1.symm) C.2.2.2.2.2.1 m26 ms_min mi_ mc_min (Nat.le_of_ble_eq_true rfl) (Nat.le_of_ble_eq_true rfl) (Nat.zero_le _) (Nat.zero_le _) dX6_renew_15 ?_
  refine va_mmax C.1 C.2.1 (by rw [C.2.2.2.2.2.2]; exact hl.1.symm) C.2.2.2.2.2.1 m32 ms_max mi_ mc_max (Nat.le_of_ble_eq_true rfl) (Nat.le_of_ble_eq_true rfl) (Nat.zero_le _) (Nat.zero_le _) dX6_renew_18 ?_
  obtain ⟨iv3, eiv3⟩ : ∃ z : fw_F, z = va_up iv2 (17 + j0) (if 0 < (if 80 < x2 then 80 else x2) then (if 80 < x2 then 80 else x2) else 0) := ⟨_, rfl⟩
  have h := h iv3 eiv3
  refine fw_put (w := (kw G ad kt)) C in_X6 tyX6 tyX6_ok nmX6 hK hG (17 + j0) (kw_o6 hj0) rfl 3 (by decide) k23 rfl rfl (ty := .int) (v := .int (if 0 < (if 80 < x2 then 80 else x2) then (if 80 < x2 then 80 else x2) else 0)) (by decide +kernel) rfl rfl (by first | decide | exact Nat.le_of_ble_eq_true rfl) (iv1 := iv3) (by rw [eiv3]; exact (kw_p6_length hj0)) dX6_renew_21 (fun H locs hG => ?_)
  refine lv_iconst (v := 0) C.1 C.2.1 dX6_renew_24 (by decide) ?_
  refine lv_istore_n (lv' := [(3, .int 0), (0, .ref (ad (17 + j0))), (1, .int x1), (2, .int x2)]) C.1 C.2.1 dX6_renew_25 rfl hl (by decide) rfl (fun ls hl => ?_)
  obtain ⟨ku, h⟩ := h
  refine soX6_renew_L26 C hK hj0 ?_ ku _ _ _ h _ _ hG ls (lv_sub hl [0, 1] rfl)
  intro w8 iv9 ar10 h H locs hG ls hl
  exact fw_vret C hG h dX6_renew_47
/-! KnifeBoard$Sheet.reaches(IJ)Z -/
def rmX6_reaches : Room := { frames := 1, cells := 0, slots := 0, locals := 22 }
def wpX6_reaches (kt : kw_T) (iv : fw_F) (ar : fw_R) (j0 : Nat) (x1 : Int32) (x2 : Int64) (Q : Int32 → Prop) : Prop := wpX9_within x1 0 (iv (17 + j0)) (fun (r1 : Int32) => (r1 = 0 → (Q 0)) ∧ (¬ r1 = 0 → ((0 < (lg_cmp x2 (((iv (17 + j0)) - x1).toInt64)) → (Q 0)) ∧ (¬ 0 < (lg_cmp x2 (((iv (17 + j0)) - x1).toInt64)) → (Q 1)))))
set_option maxHeartbeats 4000000 in
set_option maxRecDepth 100000 in
theorem soX6_reaches (l : Launch) (G : fw_G) (ad : Nat → Nat) (kt : kw_T) (iv : fw_F) (ar : fw_R) (j0 : Nat) (x1 : Int32) (x2 : Int64) (Q : Int32 → Prop) (hj0 : j0 < 4) (h : wpX6_reaches kt iv ar j0 x1 x2 Q) : fw_M l G (kw G ad kt) yX6_reaches wsX6_reaches rmX6_reaches [.ref (ad (17 + j0)), .int x1, .long x2] iv ar (fw_Qi G (kw G ad kt) (fun r iv1 ar1 => Q r ∧ iv = iv1 ∧ ar = ar1)) := by
  refine fw_start (cc := cX6_reaches) (nL := 4) (rt := (some .boolean)) (by decide) rfl (Nat.le_of_ble_eq_true rfl) ?_
  intro p e s m below meth c A ls H locs C hK hG hl
  obtain ⟨args, ea⟩ : ∃ z : Array Value, z = ([.ref (ad (17 + j0)), .int x1, .long x2] : List Value).toArray := ⟨_, rfl⟩
  rw [← ea] at C ⊢
  have C : fw_C p s m args meth c cX6_reaches 4 (some .boolean) wsX6_reaches RX6 := C
  have hl : lv_has ls 4 [(0, .ref (ad (17 + j0))), (1, .int x1), (2, .long x2)] := hl
  unfold wpX6_reaches at h
  have in_X6 : ∀ x ∈ wsX60, x ∈ wsX6_reaches := by decide +kernel
  have k23 := C.2.2.2.2.1 (.fieldLink RX6 23 "KnifeBoard$Sheet" "length" "I") (by decide +kernel)
  refine lv_iload_n C.1 C.2.1 dX6_reaches_0 rfl (lv_at hl 1 rfl) ?_
  refine lv_iconst (v := 0) C.1 C.2.1 dX6_reaches_1 (by decide) ?_
  refine lv_aload_n C.1 C.2.1 dX6_reaches_2 rfl (lv_at hl 0 rfl) ?_
  refine fw_get (w := (kw G ad kt)) C in_X6 hK hG (17 + j0) (kw_o6 hj0) rfl 3 (by decide) k23 rfl rfl dX6_reaches_3 ?_
  refine fw_pcalli (va_runSN (As := [.int x1, .int 0, .int (iv (17 + j0))]) (rest := []) ⟨C.1, C.2.1, C.2.2.2.2.2.2, C.2.2.2.2.2.1, C.2.2.2.2.1⟩ (soX9_within l x1 0 (iv (17 + j0)) _ h H.size) ⟨va_cnB 3 C.2.2.2.2.1 gX6_reaches_X9_within_n39 rfl rfl rfl hK.2.1.1.1 (C.2.2.2.2.1 (.initialized RX9) (by decide +kernel)) (by decide +kernel) ⟨Nat.le_of_ble_eq_true rfl, Nat.le_of_ble_eq_true rfl⟩, C.2.2.2.2.1 (.static yX9_within) (by decide +kernel), trivial⟩ fw_ppre rfl rfl hl.1 rfl (lv_room (Nat.le_of_ble_eq_true rfl)) dX6_reaches_6 ⟨Nat.zero_le _, Nat.zero_le _⟩) hG hK (fun r1  H locs h hG => ?_)
  refine lv_if_eq (tgt := 28) C.1 C.2.1 dX6_reaches_9 (by decide) (fun c2 => ?_) (fun c2 => ?_)
  · have h := h.1 c2
    refine lv_iconst (v := 0) C.1 C.2.1 dX6_reaches_28 (by decide) ?_
    exact fw_zret C hG (by decide) ⟨h, rfl, rfl⟩ dX6_reaches_29
  · have h := h.2 c2
    refine lv_lload_n C.1 C.2.1 dX6_reaches_12 rfl (lv_at hl 2 rfl) ?_
    refine lv_aload_n C.1 C.2.1 dX6_reaches_13 rfl (lv_at hl 0 rfl) ?_
    refine fw_get (w := (kw G ad kt)) C in_X6 hK hG (17 + j0) (kw_o6 hj0) rfl 3 (by decide) k23 rfl rfl dX6_reaches_14 ?_
    refine lv_iload_n C.1 C.2.1 dX6_reaches_17 rfl (lv_at hl 1 rfl) ?_
    refine lv_isub C.1 C.2.1 dX6_reaches_18 ?_
    refine lv_i2l C.1 C.2.1 dX6_reaches_19 rfl ?_
    refine W.lcmp C.1 C.2.1 dX6_reaches_20 ?_
    refine lv_if_gt (tgt := 28) C.1 C.2.1 dX6_reaches_21 (by decide) (fun c3 => ?_) (fun c3 => ?_)
    · have h := h.1 c3
      refine lv_iconst (v := 0) C.1 C.2.1 dX6_reaches_28 (by decide) ?_
      exact fw_zret C hG (by decide) ⟨h, rfl, rfl⟩ dX6_reaches_29
    · have h := h.2 c3
      refine lv_iconst (v := 1) C.1 C.2.1 dX6_reaches_24 (by decide) ?_
      refine lv_goto (tgt := 29) C.1 C.2.1 dX6_reaches_25 (by decide) ?_
      exact fw_zret C hG (by decide) ⟨h, rfl, rfl⟩ dX6_reaches_29
/-! KnifeBoard$Sheet.faultOfTaking(IIJ)I -/
def rmX6_faultOfTaking : Room := { frames := 2, cells := 0, slots := 0, locals := 45 }
def wpX6_faultOfTaking (kt : kw_T) (iv : fw_F) (ar : fw_R) (j0 : Nat) (x1 : Int32) (x2 : Int32) (x3 : Int64) (Q : Int32 → Prop) : Prop := ((iv (9 + j0)) = 0 → ((¬ (iv (9 + j0)) = 0 → ((0 ≤ (lg_cmp x3 0) → (wpX6_reaches kt iv ar j0 x2 x3 (fun (r4 : Int32) => (r4 = 0 → (Q 3)) ∧ (¬ r4 = 0 → (Q 0))))) ∧ (¬ 0 ≤ (lg_cmp x3 0) → (Q 4)))) ∧ ((iv (9 + j0)) = 0 → (Q 1)))) ∧ (¬ (iv (9 + j0)) = 0 → (((iv (13 + j0)) = x1 → ((¬ (iv (9 + j0)) = 0 → ((0 ≤ (lg_cmp x3 0) → (wpX6_reaches kt iv ar j0 x2 x3 (fun (r9 : Int32) => (r9 = 0 → (Q 3)) ∧ (¬ r9 = 0 → (Q 0))))) ∧ (¬ 0 ≤ (lg_cmp x3 0) → (Q 4)))) ∧ ((iv (9 + j0)) = 0 → (Q 1)))) ∧ (¬ (iv (13 + j0)) = x1 → (Q 2))))
set_option maxHeartbeats 4000000 in
set_option maxRecDepth 100000 in
theorem soX6_faultOfTaking (l : Launch) (G : fw_G) (ad : Nat → Nat) (kt : kw_T) (iv : fw_F) (ar : fw_R) (j0 : Nat) (x1 : Int32) (x2 : Int32) (x3 : Int64) (Q : Int32 → Prop) (hj0 : j0 < 4) (h : wpX6_faultOfTaking kt iv ar j0 x1 x2 x3 Q) : fw_M l G (kw G ad kt) yX6_faultOfTaking wsX6_faultOfTaking rmX6_faultOfTaking [.ref (ad (17 + j0)), .int x1, .int x2, .long x3] iv ar (fw_Qi G (kw G ad kt) (fun r iv1 ar1 => Q r ∧ iv = iv1 ∧ ar = ar1)) := by
  refine fw_start (cc := cX6_faultOfTaking) (nL := 5) (rt := (some .int)) (by decide) rfl (Nat.le_of_ble_eq_true rfl) ?_
  intro p e s m below meth c A ls H locs C hK hG hl
  obtain ⟨args, ea⟩ : ∃ z : Array Value, z = ([.ref (ad (17 + j0)), .int x1, .int x2, .long x3] : List Value).toArray := ⟨_, rfl⟩
  rw [← ea] at C ⊢
  have C : fw_C p s m args meth c cX6_faultOfTaking 5 (some .int) wsX6_faultOfTaking RX6 := C
  have hl : lv_has ls 5 [(0, .ref (ad (17 + j0))), (1, .int x1), (2, .int x2), (3, .long x3)] := hl
  unfold wpX6_faultOfTaking at h
  have in_X6 : ∀ x ∈ wsX60, x ∈ wsX6_faultOfTaking := by decide +kernel
  have k15 := C.2.2.2.2.1 (.fieldLink RX6 15 "KnifeBoard$Sheet" "has" "Z") (by decide +kernel)
  have k19 := C.2.2.2.2.1 (.fieldLink RX6 19 "KnifeBoard$Sheet" "sort" "I") (by decide +kernel)
  refine lv_aload_n C.1 C.2.1 dX6_faultOfTaking_0 rfl (lv_at hl 0 rfl) ?_
  refine fw_get (w := (kw G ad kt)) C in_X6 hK hG (17 + j0) (kw_o6 hj0) rfl 1 (by decide) k15 rfl rfl dX6_faultOfTaking_1 ?_
  refine lv_if_eq (tgt := 17) C.1 C.2.1 dX6_faultOfTaking_4 (by decide) (fun c1 => ?_) (fun c1 => ?_)
  · have h := h.1 c1
    refine lv_aload_n C.1 C.2.1 dX6_faultOfTaking_17 rfl (lv_at hl 0 rfl) ?_
    refine fw_get (w := (kw G ad kt)) C in_X6 hK hG (17 + j0) (kw_o6 hj0) rfl 1 (by decide) k15 rfl rfl dX6_faultOfTaking_18 ?_
    refine lv_if_ne (tgt := 26) C.1 C.2.1 dX6_faultOfTaking_21 (by decide) (fun c2 => ?_) (fun c2 => ?_)
    · have h := h.1 c2
      refine lv_lload_n C.1 C.2.1 dX6_faultOfTaking_26 rfl (lv_at hl 3 rfl) ?_
      refine lv_lconst (v := 0) C.1 C.2.1 dX6_faultOfTaking_27 (by decide) ?_
      refine W.lcmp C.1 C.2.1 dX6_faultOfTaking_28 ?_
      refine lv_if_ge (tgt := 34) C.1 C.2.1 dX6_faultOfTaking_29 (by decide) (fun c3 => ?_) (fun c3 => ?_)
      · have h := h.1 c3
        refine lv_aload_n C.1 C.2.1 dX6_faultOfTaking_34 rfl (lv_at hl 0 rfl) ?_
        refine lv_iload_n C.1 C.2.1 dX6_faultOfTaking_35 rfl (lv_at hl 2 rfl) ?_
        refine lv_lload_n C.1 C.2.1 dX6_faultOfTaking_36 rfl (lv_at hl 3 rfl) ?_
        refine fw_rcalli (va_runV (As := [.int x2, .long x3]) (rest := []) ⟨C.1, C.2.1, C.2.2.2.2.2.2, C.2.2.2.2.2.1, C.2.2.2.2.1⟩ (soX6_reaches l G ad kt iv ar j0 x2 x3 _ hj0 h H.size) (cwV 2 C.2.2.2.2.1 gX6_faultOfTaking_X6_reaches rfl rfl rfl (by decide +kernel) ⟨Nat.le_of_ble_eq_true rfl, Nat.le_of_ble_eq_true rfl⟩) (fw_preV hG hK (ci := 6) rfl (kw_o6 hj0)) rfl rfl hl.1 rfl (lv_room (Nat.le_of_ble_eq_true rfl)) dX6_faultOfTaking_37 ⟨Nat.zero_le _, Nat.zero_le _⟩) hG hK (fun r4  H locs h hG => ?_)
        refine lv_if_eq (tgt := 47) C.1 C.2.1 dX6_faultOfTaking_40 (by decide) (fun c5 => ?_) (fun c5 => ?_)
        · have h := h.1 c5
          refine lv_iconst (v := 3) C.1 C.2.1 dX6_faultOfTaking_47 (by decide) ?_
          exact fw_iret C hG ⟨h, rfl, rfl⟩ dX6_faultOfTaking_48
        · have h := h.2 c5
          refine lv_iconst (v := 0) C.1 C.2.1 dX6_faultOfTaking_43 (by decide) ?_
          refine lv_goto (tgt := 48) C.1 C.2.1 dX6_faultOfTaking_44 (by decide) ?_
          exact fw_iret C hG ⟨h, rfl, rfl⟩ dX6_faultOfTaking_48
      · have h := h.2 c3
        refine lv_iconst (v := 4) C.1 C.2.1 dX6_faultOfTaking_32 (by decide) ?_
        exact fw_iret C hG ⟨h, rfl, rfl⟩ dX6_faultOfTaking_33
    · have h := h.2 c2
      refine lv_iconst (v := 1) C.1 C.2.1 dX6_faultOfTaking_24 (by decide) ?_
      exact fw_iret C hG ⟨h, rfl, rfl⟩ dX6_faultOfTaking_25
  · have h := h.2 c1
    refine lv_aload_n C.1 C.2.1 dX6_faultOfTaking_7 rfl (lv_at hl 0 rfl) ?_
    refine fw_get (w := (kw G ad kt)) C in_X6 hK hG (17 + j0) (kw_o6 hj0) rfl 2 (by decide) k19 rfl rfl dX6_faultOfTaking_8 ?_
    refine lv_iload_n C.1 C.2.1 dX6_faultOfTaking_11 rfl (lv_at hl 1 rfl) ?_
    refine lv_icmp_eq (tgt := 17) C.1 C.2.1 dX6_faultOfTaking_12 (by decide) (fun c6 => ?_) (fun c6 => ?_)
    · have h := h.1 c6
      refine lv_aload_n C.1 C.2.1 dX6_faultOfTaking_17 rfl (lv_at hl 0 rfl) ?_
      refine fw_get (w := (kw G ad kt)) C in_X6 hK hG (17 + j0) (kw_o6 hj0) rfl 1 (by decide) k15 rfl rfl dX6_faultOfTaking_18 ?_
      refine lv_if_ne (tgt := 26) C.1 C.2.1 dX6_faultOfTaking_21 (by decide) (fun c7 => ?_) (fun c7 => ?_)
      · have h := h.1 c7
        refine lv_lload_n C.1 C.2.1 dX6_faultOfTaking_26 rfl (lv_at hl 3 rfl) ?_
        refine lv_lconst (v := 0) C.1 C.2.1 dX6_faultOfTaking_27 (by decide) ?_
        refine W.lcmp C.1 C.2.1 dX6_faultOfTaking_28 ?_
        refine lv_if_ge (tgt := 34) C.1 C.2.1 dX6_faultOfTaking_29 (by decide) (fun c8 => ?_) (fun c8 => ?_)
        · have h := h.1 c8
          refine lv_aload_n C.1 C.2.1 dX6_faultOfTaking_34 rfl (lv_at hl 0 rfl) ?_
          refine lv_iload_n C.1 C.2.1 dX6_faultOfTaking_35 rfl (lv_at hl 2 rfl) ?_
          refine lv_lload_n C.1 C.2.1 dX6_faultOfTaking_36 rfl (lv_at hl 3 rfl) ?_
          refine fw_rcalli (va_runV (As := [.int x2, .long x3]) (rest := []) ⟨C.1, C.2.1, C.2.2.2.2.2.2, C.2.2.2.2.2.1, C.2.2.2.2.1⟩ (soX6_reaches l G ad kt iv ar j0 x2 x3 _ hj0 h H.size) (cwV 2 C.2.2.2.2.1 gX6_faultOfTaking_X6_reaches rfl rfl rfl (by decide +kernel) ⟨Nat.le_of_ble_eq_true rfl, Nat.le_of_ble_eq_true rfl⟩) (fw_preV hG hK (ci := 6) rfl (kw_o6 hj0)) rfl rfl hl.1 rfl (lv_room (Nat.le_of_ble_eq_true rfl)) dX6_faultOfTaking_37 ⟨Nat.zero_le _, Nat.zero_le _⟩) hG hK (fun r9  H locs h hG => ?_)
          refine lv_if_eq (tgt := 47) C.1 C.2.1 dX6_faultOfTaking_40 (by decide) (fun c10 => ?_) (fun c10 => ?_)
          · have h := h.1 c10
            refine lv_iconst (v := 3) C.1 C.2.1 dX6_faultOfTaking_47 (by decide) ?_
            exact fw_iret C hG ⟨h, rfl, rfl⟩ dX6_faultOfTaking_48
          · have h := h.2 c10
            refine lv_iconst (v := 0) C.1 C.2.1 dX6_faultOfTaking_43 (by decide) ?_
            refine lv_goto (tgt := 48) C.1 C.2.1 dX6_faultOfTaking_44 (by decide) ?_
            exact fw_iret C hG ⟨h, rfl, rfl⟩ dX6_faultOfTaking_48
        · have h := h.2 c8
          refine lv_iconst (v := 4) C.1 C.2.1 dX6_faultOfTaking_32 (by decide) ?_
          exact fw_iret C hG ⟨h, rfl, rfl⟩ dX6_faultOfTaking_33
      · have h := h.2 c7
        refine lv_iconst (v := 1) C.1 C.2.1 dX6_faultOfTaking_24 (by decide) ?_
        exact fw_iret C hG ⟨h, rfl, rfl⟩ dX6_faultOfTaking_25
    · have h := h.2 c6
      refine lv_iconst (v := 2) C.1 C.2.1 dX6_faultOfTaking_15 (by decide) ?_
      exact fw_iret C hG ⟨h, rfl, rfl⟩ dX6_faultOfTaking_16
/-! KnifeBoard$Sheet.store(II)V -/
def rmX6_store : Room := { frames := 1, cells := 0, slots := 0, locals := 22 }
def wpX6_store (kt : kw_T) (iv : fw_F) (ar : fw_R) (j0 : Nat) (x1 : Int32) (x2 : Int32) (Q : fw_F → fw_R → Prop) : Prop := wpX9_within x1 0 ((iv (17 + j0)) - 1) (fun (r1 : Int32) => (¬ r1 = 0 → ((¬ (iv (13 + j0)) = 0 → ((¬ (iv (13 + j0)) = 1 → (vp_in x1 80 ∧ (∀ ar6 : fw_R, ar6 = va_up ar (21 + j0) (upd (ar (21 + j0)) x1.toNatClampNeg x2) → (Q iv ar6)))) ∧ ((iv (13 + j0)) = 1 → (vp_in x1 80 ∧ (∀ ar8 : fw_R, ar8 = va_up ar (21 + j0) (upd (ar (21 + j0)) x1.toNatClampNeg x2.toInt16.toInt32) → (Q iv ar8)))))) ∧ ((iv (13 + j0)) = 0 → (vp_in x1 80 ∧ (∀ ar10 : fw_R, ar10 = va_up ar (21 + j0) (upd (ar (21 + j0)) x1.toNatClampNeg x2.toInt8.toInt32) → (Q iv ar10)))))) ∧ (r1 = 0 → (Q iv ar)))
set_option maxHeartbeats 4000000 in
set_option maxRecDepth 100000 in
theorem soX6_store (l : Launch) (G : fw_G) (ad : Nat → Nat) (kt : kw_T) (iv : fw_F) (ar : fw_R) (j0 : Nat) (x1 : Int32) (x2 : Int32) (Q : fw_F → fw_R → Prop) (hj0 : j0 < 4) (h : wpX6_store kt iv ar j0 x1 x2 Q) : fw_M l G (kw G ad kt) yX6_store wsX6_store rmX6_store [.ref (ad (17 + j0)), .int x1, .int x2] iv ar (fw_Qv G (kw G ad kt) Q) := by
  refine fw_start (cc := cX6_store) (nL := 3) (rt := none) (by decide) rfl (Nat.le_of_ble_eq_true rfl) ?_
  intro p e s m below meth c A ls H locs C hK hG hl
  obtain ⟨args, ea⟩ : ∃ z : Array Value, z = ([.ref (ad (17 + j0)), .int x1, .int x2] : List Value).toArray := ⟨_, rfl⟩
  rw [← ea] at C ⊢
  have C : fw_C p s m args meth c cX6_store 3 none wsX6_store RX6 := C
  have hl : lv_has ls 3 [(0, .ref (ad (17 + j0))), (1, .int x1), (2, .int x2)] := hl
  unfold wpX6_store at h
  have in_X6 : ∀ x ∈ wsX60, x ∈ wsX6_store := by decide +kernel
  have k19 := C.2.2.2.2.1 (.fieldLink RX6 19 "KnifeBoard$Sheet" "sort" "I") (by decide +kernel)
  have k23 := C.2.2.2.2.1 (.fieldLink RX6 23 "KnifeBoard$Sheet" "length" "I") (by decide +kernel)
  have k9 := C.2.2.2.2.1 (.fieldLink RX6 9 "KnifeBoard$Sheet" "cells" "[I") (by decide +kernel)
  refine lv_iload_n C.1 C.2.1 dX6_store_0 rfl (lv_at hl 1 rfl) ?_
  refine lv_iconst (v := 0) C.1 C.2.1 dX6_store_1 (by decide) ?_
  refine lv_aload_n C.1 C.2.1 dX6_store_2 rfl (lv_at hl 0 rfl) ?_
  refine fw_get (w := (kw G ad kt)) C in_X6 hK hG (17 + j0) (kw_o6 hj0) rfl 3 (by decide) k23 rfl rfl dX6_store_3 ?_
  refine lv_iconst (v := 1) C.1 C.2.1 dX6_store_6 (by decide) ?_
  refine lv_isub C.1 C.2.1 dX6_store_7 ?_
  refine fw_pcalli (va_runSN (As := [.int x1, .int 0, .int ((iv (17 + j0)) - 1)]) (rest := []) ⟨C.1, C.2.1, C.2.2.2.2.2.2, C.2.2.2.2.2.1, C.2.2.2.2.1⟩ (soX9_within l x1 0 ((iv (17 + j0)) - 1) _ h H.size) ⟨va_cnB 3 C.2.2.2.2.1 gX6_store_X9_within_n39 rfl rfl rfl hK.2.1.1.1 (C.2.2.2.2.1 (.initialized RX9) (by decide +kernel)) (by decide +kernel) ⟨Nat.le_of_ble_eq_true rfl, Nat.le_of_ble_eq_true rfl⟩, C.2.2.2.2.1 (.static yX9_within) (by decide +kernel), trivial⟩ fw_ppre rfl rfl hl.1 rfl (lv_room (Nat.le_of_ble_eq_true rfl)) dX6_store_8 ⟨Nat.zero_le _, Nat.zero_le _⟩) hG hK (fun r1  H locs h hG => ?_)
  refine lv_if_ne (tgt := 15) C.1 C.2.1 dX6_store_11 (by decide) (fun c2 => ?_) (fun c2 => ?_)
  · have h := h.1 c2
    refine lv_aload_n C.1 C.2.1 dX6_store_15 rfl (lv_at hl 0 rfl) ?_
    refine fw_get (w := (kw G ad kt)) C in_X6 hK hG (17 + j0) (kw_o6 hj0) rfl 2 (by decide) k19 rfl rfl dX6_store_16 ?_
    refine lv_if_ne (tgt := 33) C.1 C.2.1 dX6_store_19 (by decide) (fun c3 => ?_) (fun c3 => ?_)
    · have h := h.1 c3
      refine lv_aload_n C.1 C.2.1 dX6_store_33 rfl (lv_at hl 0 rfl) ?_
      refine fw_get (w := (kw G ad kt)) C in_X6 hK hG (17 + j0) (kw_o6 hj0) rfl 2 (by decide) k19 rfl rfl dX6_store_34 ?_
      refine lv_iconst (v := 1) C.1 C.2.1 dX6_store_37 (by decide) ?_
      refine lv_icmp_ne (tgt := 52) C.1 C.2.1 dX6_store_38 (by decide) (fun c4 => ?_) (fun c4 => ?_)
      · have h := h.1 c4
        refine lv_aload_n C.1 C.2.1 dX6_store_52 rfl (lv_at hl 0 rfl) ?_
        refine fw_get (w := (kw G ad kt)) C in_X6 hK hG (17 + j0) (kw_o6 hj0) rfl 0 (by decide) k9 rfl rfl dX6_store_53 ?_
        refine lv_iload_n C.1 C.2.1 dX6_store_56 rfl (lv_at hl 1 rfl) ?_
        refine lv_iload_n C.1 C.2.1 dX6_store_57 rfl (lv_at hl 2 rfl) ?_
        obtain ⟨c5, h⟩ := h
        obtain ⟨ar6, ear6⟩ : ∃ z : fw_R, z = va_up ar (21 + j0) (upd (ar (21 + j0)) x1.toNatClampNeg x2) := ⟨_, rfl⟩
        have h := h ar6 ear6
        refine fw_iast (w := (kw G ad kt)) C hK hG (21 + j0) (kw_aS hj0) c5 (ar1 := ar6) (by rw [ear6]; exact (kw_sS hj0)) dX6_store_58 (fun H locs hG => ?_)
        exact fw_vret C hG h dX6_store_59
      · have h := h.2 c4
        refine lv_aload_n C.1 C.2.1 dX6_store_41 rfl (lv_at hl 0 rfl) ?_
        refine fw_get (w := (kw G ad kt)) C in_X6 hK hG (17 + j0) (kw_o6 hj0) rfl 0 (by decide) k9 rfl rfl dX6_store_42 ?_
        refine lv_iload_n C.1 C.2.1 dX6_store_45 rfl (lv_at hl 1 rfl) ?_
        refine lv_iload_n C.1 C.2.1 dX6_store_46 rfl (lv_at hl 2 rfl) ?_
        refine lv_i2s C.1 C.2.1 dX6_store_47 rfl ?_
        obtain ⟨c7, h⟩ := h
        obtain ⟨ar8, ear8⟩ : ∃ z : fw_R, z = va_up ar (21 + j0) (upd (ar (21 + j0)) x1.toNatClampNeg x2.toInt16.toInt32) := ⟨_, rfl⟩
        have h := h ar8 ear8
        refine fw_iast (w := (kw G ad kt)) C hK hG (21 + j0) (kw_aS hj0) c7 (ar1 := ar8) (by rw [ear8]; exact (kw_sS hj0)) dX6_store_48 (fun H locs hG => ?_)
        refine lv_goto (tgt := 59) C.1 C.2.1 dX6_store_49 (by decide) ?_
        exact fw_vret C hG h dX6_store_59
    · have h := h.2 c3
      refine lv_aload_n C.1 C.2.1 dX6_store_22 rfl (lv_at hl 0 rfl) ?_
      refine fw_get (w := (kw G ad kt)) C in_X6 hK hG (17 + j0) (kw_o6 hj0) rfl 0 (by decide) k9 rfl rfl dX6_store_23 ?_
      refine lv_iload_n C.1 C.2.1 dX6_store_26 rfl (lv_at hl 1 rfl) ?_
      refine lv_iload_n C.1 C.2.1 dX6_store_27 rfl (lv_at hl 2 rfl) ?_
      refine lv_i2b C.1 C.2.1 dX6_store_28 rfl ?_
      obtain ⟨c9, h⟩ := h
      obtain ⟨ar10, ear10⟩ : ∃ z : fw_R, z = va_up ar (21 + j0) (upd (ar (21 + j0)) x1.toNatClampNeg x2.toInt8.toInt32) := ⟨_, rfl⟩
      have h := h ar10 ear10
      refine fw_iast (w := (kw G ad kt)) C hK hG (21 + j0) (kw_aS hj0) c9 (ar1 := ar10) (by rw [ear10]; exact (kw_sS hj0)) dX6_store_29 (fun H locs hG => ?_)
      refine lv_goto (tgt := 59) C.1 C.2.1 dX6_store_30 (by decide) ?_
      exact fw_vret C hG h dX6_store_59
  · have h := h.2 c2
    exact fw_vret C hG h dX6_store_14
/-! KnifeBoard$Twin.kindNumber()I -/
def rmX8_kindNumber : Room := { frames := 0, cells := 0, slots := 0, locals := 0 }
def wpX8_kindNumber (kt : kw_T) (iv : fw_F) (ar : fw_R) (i0 : Nat) (Q : Int32 → Prop) : Prop := Q 2
set_option maxHeartbeats 4000000 in
set_option maxRecDepth 100000 in
theorem soX8_kindNumber (l : Launch) (G : fw_G) (ad : Nat → Nat) (kt : kw_T) (iv : fw_F) (ar : fw_R) (i0 : Nat) (Q : Int32 → Prop) (hi0 : i0 < kt.1) (hk0 : ¬ kt.2.1 i0 = 0) (hk1 : ¬ kt.2.1 i0 = 1) (h : wpX8_kindNumber kt iv ar i0 Q) : fw_M l G (kw G ad kt) yX8_kindNumber wsX8_kindNumber rmX8_kindNumber [.ref (ad (28 + 2 * i0))] iv ar (fw_Qi G (kw G ad kt) (fun r iv1 ar1 => Q r ∧ iv = iv1 ∧ ar = ar1)) := by
  refine fw_start (cc := cX8_kindNumber) (nL := 1) (rt := (some .int)) (by decide) rfl (Nat.le_of_ble_eq_true rfl) ?_
  intro p e s m below meth c A ls H locs C hK hG hl
  obtain ⟨args, ea⟩ : ∃ z : Array Value, z = ([.ref (ad (28 + 2 * i0))] : List Value).toArray := ⟨_, rfl⟩
  rw [← ea] at C ⊢
  have C : fw_C p s m args meth c cX8_kindNumber 1 (some .int) wsX8_kindNumber RX8 := C
  have hl : lv_has ls 1 [(0, .ref (ad (28 + 2 * i0)))] := hl
  unfold wpX8_kindNumber at h
  refine lv_iconst (v := 2) C.1 C.2.1 dX8_kindNumber_0 (by decide) ?_
  exact fw_iret C hG ⟨h, rfl, rfl⟩ dX8_kindNumber_1
/-! KnifeBoard$Twin.telling(LKnifeBoard$Trace;)I -/
def rmX8_telling : Room := { frames := 3, cells := 0, slots := 0, locals := 63 }
def wpX8_telling (kt : kw_T) (iv : fw_F) (ar : fw_R) (i0 : Nat) (Q : Int32 → fw_F → fw_R → Prop) : Prop := wpX7_leave kt iv ar 3 (fun (iv1 : fw_F) (ar2 : fw_R) => wpX2_telling kt iv1 ar2 i0 (fun (r3 : Int32) (iv4 : fw_F) (ar5 : fw_R) => wpX3_tellingOfKnife kt iv4 ar5 i0 (fun (r6 : Int32) (iv7 : fw_F) (ar8 : fw_R) => Q (r3 + r6) iv7 ar8)))
set_option maxHeartbeats 4000000 in
set_option maxRecDepth 100000 in
theorem soX8_telling (l : Launch) (G : fw_G) (ad : Nat → Nat) (kt : kw_T) (iv : fw_F) (ar : fw_R) (i0 : Nat) (Q : Int32 → fw_F → fw_R → Prop) (hi0 : i0 < kt.1) (hk0 : ¬ kt.2.1 i0 = 0) (hk1 : ¬ kt.2.1 i0 = 1) (h : wpX8_telling kt iv ar i0 Q) : fw_M l G (kw G ad kt) yX8_telling wsX8_telling rmX8_telling [.ref (ad (28 + 2 * i0)), .ref (ad 27)] iv ar (fw_Qi G (kw G ad kt) Q) := by
  refine fw_start (cc := cX8_telling) (nL := 3) (rt := (some .int)) (by decide) rfl (Nat.le_of_ble_eq_true rfl) ?_
  intro p e s m below meth c A ls H locs C hK hG hl
  obtain ⟨args, ea⟩ : ∃ z : Array Value, z = ([.ref (ad (28 + 2 * i0)), .ref (ad 27)] : List Value).toArray := ⟨_, rfl⟩
  rw [← ea] at C ⊢
  have C : fw_C p s m args meth c cX8_telling 3 (some .int) wsX8_telling RX8 := C
  have hl : lv_has ls 3 [(0, .ref (ad (28 + 2 * i0))), (1, .ref (ad 27))] := hl
  unfold wpX8_telling at h
  refine lv_aload_n C.1 C.2.1 dX8_telling_0 rfl (lv_at hl 1 rfl) ?_
  refine lv_iconst (v := 3) C.1 C.2.1 dX8_telling_1 (by decide) ?_
  refine fw_callv (va_runV (As := [.int 3]) (rest := []) ⟨C.1, C.2.1, C.2.2.2.2.2.2, C.2.2.2.2.2.1, C.2.2.2.2.1⟩ (soX7_leave l G ad kt iv ar 3 _  h H.size) (cwV 1 C.2.2.2.2.1 gX8_telling_X7_leave rfl rfl rfl (by decide +kernel) ⟨Nat.le_of_ble_eq_true rfl, Nat.le_of_ble_eq_true rfl⟩) (fw_preV hG hK (ci := 7) rfl kw_o7) rfl rfl hl.1 rfl (lv_room (Nat.le_of_ble_eq_true rfl)) dX8_telling_2 ⟨Nat.zero_le _, Nat.zero_le _⟩) hG hK (fun iv1 ar2 H locs h hG => ?_)
  refine lv_aload_n C.1 C.2.1 dX8_telling_5 rfl (lv_at hl 0 rfl) ?_
  refine lv_aload_n C.1 C.2.1 dX8_telling_6 rfl (lv_at hl 1 rfl) ?_
  refine fw_calli (va_runSU (As := [.ref (ad 27)]) (rest := []) (hK.1.1 8 _ rfl).2 ⟨C.1, C.2.1, C.2.2.2.2.2.2, C.2.2.2.2.2.1, C.2.2.2.2.1⟩ (soX2_telling l G ad kt iv1 ar2 i0 _ hi0 hk0 h H.size) (va_cwSU 1 C.2.2.2.2.1 gX8_telling_X2_telling_s15 rfl rfl rfl (by decide +kernel) ⟨Nat.le_of_ble_eq_true rfl, Nat.le_of_ble_eq_true rfl⟩) (fw_preV hG hK (ci := 8) rfl (kw_oK8 hi0 (kw_d8 hk0 hk1))) rfl rfl hl.1 rfl (lv_room (Nat.le_of_ble_eq_true rfl)) dX8_telling_7 ⟨Nat.zero_le _, Nat.zero_le _⟩) hG hK (fun r3 iv4 ar5 H locs h hG => ?_)
  refine lv_istore_n (lv' := [(2, .int r3), (0, .ref (ad (28 + 2 * i0))), (1, .ref (ad 27))]) C.1 C.2.1 dX8_telling_10 rfl hl (by decide) rfl (fun ls hl => ?_)
  refine lv_iload_n C.1 C.2.1 dX8_telling_11 rfl (lv_at hl 0 rfl) ?_
  refine lv_aload_n C.1 C.2.1 dX8_telling_12 rfl (lv_at hl 1 rfl) ?_
  refine lv_aload_n C.1 C.2.1 dX8_telling_13 rfl (lv_at hl 2 rfl) ?_
  have rn : va_Run p l e rmX8_telling s m args below meth c H locs 0 0 0 0 (F0 m 14 ls (.ref (ad 27) :: .ref (ad (28 + 2 * i0)) :: [.int r3])) [.int r3] (fw_Qi G (kw G ad kt) (fun (r6 : Int32) (iv7 : fw_F) (ar8 : fw_R) => Q (r3 + r6) iv7 ar8) (va_A ((kw G ad kt) iv4 ar5) H.size) (.ref (ad (28 + 2 * i0)) :: [.ref (ad 27)]).toArray) (va_A ((kw G ad kt) iv4 ar5) H.size) := by
    by_cases e0 : kt.2.1 i0 = 0
    · exact absurd e0 hk0
    · by_cases e1 : kt.2.1 i0 = 1
      · exact absurd e1 hk1
      · exact va_runU (As := [.ref (ad 27)]) (rest := [.int r3]) ⟨C.1, C.2.1, C.2.2.2.2.2.2, C.2.2.2.2.2.1, C.2.2.2.2.1⟩ (soX3_tellingOfKnife l G ad kt iv4 ar5 i0 _ hi0 h H.size) (va_cwU 1 C.2.2.2.2.1 gX8_telling_X3_tellingOfKnife_u19X8 rfl rfl rfl rfl (by decide +kernel) ⟨Nat.le_of_ble_eq_true rfl, Nat.le_of_ble_eq_true rfl⟩) (fw_preV hG hK (ci := 8) rfl (kw_oK8 hi0 (kw_d8 e0 e1))) rfl rfl hl.1 rfl (lv_room (Nat.le_of_ble_eq_true rfl)) dX8_telling_14 ⟨Nat.zero_le _, Nat.zero_le _⟩
  refine fw_calli (rn) hG hK (fun r6 iv7 ar8 H locs h hG => ?_)
  refine lv_iadd C.1 C.2.1 dX8_telling_17 ?_
  exact fw_iret C hG h dX8_telling_18
/-! KnifeBoard$Twin.whetting(LKnifeBoard$Trace;)I -/
def rmX8_whetting : Room := { frames := 1, cells := 0, slots := 0, locals := 21 }
def wpX8_whetting (kt : kw_T) (iv : fw_F) (ar : fw_R) (i0 : Nat) (Q : Int32 → fw_F → fw_R → Prop) : Prop := wpX7_leave kt iv ar 5 (fun (iv1 : fw_F) (ar2 : fw_R) => Q 20 iv1 ar2)
set_option maxHeartbeats 4000000 in
set_option maxRecDepth 100000 in
theorem soX8_whetting (l : Launch) (G : fw_G) (ad : Nat → Nat) (kt : kw_T) (iv : fw_F) (ar : fw_R) (i0 : Nat) (Q : Int32 → fw_F → fw_R → Prop) (hi0 : i0 < kt.1) (hk0 : ¬ kt.2.1 i0 = 0) (hk1 : ¬ kt.2.1 i0 = 1) (h : wpX8_whetting kt iv ar i0 Q) : fw_M l G (kw G ad kt) yX8_whetting wsX8_whetting rmX8_whetting [.ref (ad (28 + 2 * i0)), .ref (ad 27)] iv ar (fw_Qi G (kw G ad kt) Q) := by
  refine fw_start (cc := cX8_whetting) (nL := 2) (rt := (some .int)) (by decide) rfl (Nat.le_of_ble_eq_true rfl) ?_
  intro p e s m below meth c A ls H locs C hK hG hl
  obtain ⟨args, ea⟩ : ∃ z : Array Value, z = ([.ref (ad (28 + 2 * i0)), .ref (ad 27)] : List Value).toArray := ⟨_, rfl⟩
  rw [← ea] at C ⊢
  have C : fw_C p s m args meth c cX8_whetting 2 (some .int) wsX8_whetting RX8 := C
  have hl : lv_has ls 2 [(0, .ref (ad (28 + 2 * i0))), (1, .ref (ad 27))] := hl
  unfold wpX8_whetting at h
  refine lv_aload_n C.1 C.2.1 dX8_whetting_0 rfl (lv_at hl 1 rfl) ?_
  refine lv_iconst (v := 5) C.1 C.2.1 dX8_whetting_1 (by decide) ?_
  refine fw_callv (va_runV (As := [.int 5]) (rest := []) ⟨C.1, C.2.1, C.2.2.2.2.2.2, C.2.2.2.2.2.1, C.2.2.2.2.1⟩ (soX7_leave l G ad kt iv ar 5 _  h H.size) (cwV 1 C.2.2.2.2.1 gX8_whetting_X7_leave rfl rfl rfl (by decide +kernel) ⟨Nat.le_of_ble_eq_true rfl, Nat.le_of_ble_eq_true rfl⟩) (fw_preV hG hK (ci := 7) rfl kw_o7) rfl rfl hl.1 rfl (lv_room (Nat.le_of_ble_eq_true rfl)) dX8_whetting_2 ⟨Nat.zero_le _, Nat.zero_le _⟩) hG hK (fun iv1 ar2 H locs h hG => ?_)
  refine lv_bipush (v := 20) C.1 C.2.1 dX8_whetting_5 (by decide) ?_
  exact fw_iret C hG h dX8_whetting_7
/-! KnifeBoard.knifeAt(I)LKnifeBoard$Knife; -/
def rmX9_knifeAt : Room := { frames := 1, cells := 0, slots := 0, locals := 22 }
def wpX9_knifeAt (kt : kw_T) (iv : fw_F) (ar : fw_R) (x1 : Int32) (Q : Option Nat → Prop) : Prop := wpX9_within x1 0 ((iv 0) - 1) (fun (r1 : Int32) => (r1 = 0 → (Q none)) ∧ (¬ r1 = 0 → (vp_in x1 6 ∧ (∀ j4 : Nat, j4 = x1.toNatClampNeg → j4 < kt.1 ∧ (Q (some j4))))))
set_option maxHeartbeats 4000000 in
set_option maxRecDepth 100000 in
theorem soX9_knifeAt (l : Launch) (G : fw_G) (ad : Nat → Nat) (kt : kw_T) (iv : fw_F) (ar : fw_R) (x1 : Int32) (Q : Option Nat → Prop)  (h : wpX9_knifeAt kt iv ar x1 Q) : fw_M l G (kw G ad kt) yX9_knifeAt wsX9_knifeAt rmX9_knifeAt [.ref (ad 0), .int x1] iv ar (fw_Qq G (kw G ad kt) (fun r iv1 ar1 => (∃ o : Option Nat, r = o.map (fun i => ad (28 + 2 * i)) ∧ Q o) ∧ iv = iv1 ∧ ar = ar1)) := by
  refine fw_start (cc := cX9_knifeAt) (nL := 2) (rt := (some (.object "KnifeBoard$Knife"))) (by decide) rfl (Nat.le_of_ble_eq_true rfl) ?_
  intro p e s m below meth c A ls H locs C hK hG hl
  obtain ⟨args, ea⟩ : ∃ z : Array Value, z = ([.ref (ad 0), .int x1] : List Value).toArray := ⟨_, rfl⟩
  rw [← ea] at C ⊢
  have C : fw_C p s m args meth c cX9_knifeAt 2 (some (.object "KnifeBoard$Knife")) wsX9_knifeAt RX9 := C
  have hl : lv_has ls 2 [(0, .ref (ad 0)), (1, .int x1)] := hl
  unfold wpX9_knifeAt at h
  have in_X9 : ∀ x ∈ wsX90, x ∈ wsX9_knifeAt := by decide +kernel
  have k13 := C.2.2.2.2.1 (.fieldLink RX9 13 "KnifeBoard" "knives" "[LKnifeBoard$Knife;") (by decide +kernel)
  have k17 := C.2.2.2.2.1 (.fieldLink RX9 17 "KnifeBoard" "knifeCount" "I") (by decide +kernel)
  refine lv_iload_n C.1 C.2.1 dX9_knifeAt_0 rfl (lv_at hl 1 rfl) ?_
  refine lv_iconst (v := 0) C.1 C.2.1 dX9_knifeAt_1 (by decide) ?_
  refine lv_aload_n C.1 C.2.1 dX9_knifeAt_2 rfl (lv_at hl 0 rfl) ?_
  refine fw_get (w := (kw G ad kt)) C in_X9 hK hG 0 kw_o9 rfl 1 (by decide) k17 rfl rfl dX9_knifeAt_3 ?_
  refine lv_iconst (v := 1) C.1 C.2.1 dX9_knifeAt_6 (by decide) ?_
  refine lv_isub C.1 C.2.1 dX9_knifeAt_7 ?_
  refine fw_pcalli (va_runS (As := [.int x1, .int 0, .int ((iv 0) - 1)]) (rest := []) ⟨C.1, C.2.1, C.2.2.2.2.2.2, C.2.2.2.2.2.1, C.2.2.2.2.1⟩ (soX9_within l x1 0 ((iv 0) - 1) _ h H.size) (va_cwS 3 C.2.2.2.2.1 gX9_knifeAt_X9_within rfl rfl rfl (by decide +kernel) ⟨Nat.le_of_ble_eq_true rfl, Nat.le_of_ble_eq_true rfl⟩) fw_ppre rfl rfl hl.1 rfl (lv_room (Nat.le_of_ble_eq_true rfl)) dX9_knifeAt_8 ⟨Nat.zero_le _, Nat.zero_le _⟩) hG hK (fun r1  H locs h hG => ?_)
  refine lv_if_eq (tgt := 23) C.1 C.2.1 dX9_knifeAt_11 (by decide) (fun c2 => ?_) (fun c2 => ?_)
  · have h := h.1 c2
    refine lv_null C.1 C.2.1 dX9_knifeAt_23 ?_
    refine W.eq (g2 := F0 m 24 ls [va_rf none]) rfl ?_
    exact fw_aret C hG ⟨⟨none, rfl, h⟩, rfl, rfl⟩ dX9_knifeAt_24
  · have h := h.2 c2
    refine lv_aload_n C.1 C.2.1 dX9_knifeAt_14 rfl (lv_at hl 0 rfl) ?_
    refine fw_get (w := (kw G ad kt)) C in_X9 hK hG 0 kw_o9 rfl 0 (by decide) k13 rfl rfl dX9_knifeAt_15 ?_
    refine lv_iload_n C.1 C.2.1 dX9_knifeAt_18 rfl (lv_at hl 1 rfl) ?_
    obtain ⟨c3, h⟩ := h
    refine va_aldq C.1 C.2.1 hK.1 hG.1 1 2 (kw_r1 : ((kw G ad kt) iv ar)[1]? = _) rfl c3 dX9_knifeAt_19 ?_
    obtain ⟨j4, ej4⟩ : ∃ z : Nat, z = x1.toNatClampNeg := ⟨_, rfl⟩
    obtain ⟨hj4, h⟩ := h j4 ej4
    refine W.eq (g2 := F0 m 20 ls (.ref (ad (28 + 2 * j4)) :: [])) (by rw [← ej4]; exact congrArg (fun z => F0 m 20 ls (z :: [])) (kw_knAt hj4)) ?_
    refine lv_goto (tgt := 24) C.1 C.2.1 dX9_knifeAt_20 (by decide) ?_
    refine W.eq (g2 := F0 m 24 ls [va_rf (some (ad (28 + 2 * j4)))]) rfl ?_
    exact fw_aret C hG ⟨⟨(some j4), rfl, h⟩, rfl, rfl⟩ dX9_knifeAt_24
