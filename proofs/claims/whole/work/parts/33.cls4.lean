/-! KnifeBoard.hurts(IIZI)J -/
def rmX9_hurts : Room := { frames := 5, cells := 0, slots := 0, locals := 125 }
def wpX9_hurts (kt : kw_T) (iv : fw_F) (ar : fw_R) (x1 : Int32) (x2 : Int32) (x3 : Int32) (x4 : Int32) (Q : Int64 → Prop) : Prop := wpX0_knows kt iv ar x1 (fun (r1 : Int32) => (r1 = 0 → (Q (-9223372036854775808))) ∧ (¬ r1 = 0 → (wpX9_isStage x2 (fun (r3 : Int32) => (r3 = 0 → (Q (-9223372036854775808))) ∧ (¬ r3 = 0 → (wpX9_within x4 0 1 (fun (r5 : Int32) => (r5 = 0 → (Q (-9223372036854775808))) ∧ (¬ r5 = 0 → ((¬ (iv 2) = 0 → ((x3 = 0 → (wpX9_weightTo kt iv ar 4 x1 x2 0 (fun (r9 : Int32) => wpX9_weightOfAll kt iv ar x2 (fun (r10 : Int32) => wpX9_share r9.toInt64 r10.toInt64 x4 (fun (r11 : Int64) => Q r11))))) ∧ (¬ x3 = 0 → (wpX9_weightTo kt iv ar 12 x1 x2 0 (fun (r12 : Int32) => wpX9_weightOfAll kt iv ar x2 (fun (r13 : Int32) => wpX9_share r12.toInt64 r13.toInt64 x4 (fun (r14 : Int64) => Q r14))))))) ∧ ((iv 2) = 0 → (Q (-9223372036854775808))))))))))))
set_option maxHeartbeats 4000000 in
set_option maxRecDepth 100000 in
theorem soX9_hurts (l : Launch) (G : fw_G) (ad : Nat → Nat) (kt : kw_T) (iv : fw_F) (ar : fw_R) (x1 : Int32) (x2 : Int32) (x3 : Int32) (x4 : Int32) (Q : Int64 → Prop)  (h : wpX9_hurts kt iv ar x1 x2 x3 x4 Q) : fw_M l G (kw G ad kt) yX9_hurts wsX9_hurts rmX9_hurts [.ref (ad 0), .int x1, .int x2, .int x3, .int x4] iv ar (fw_Ql G (kw G ad kt) (fun r iv1 ar1 => Q r ∧ iv = iv1 ∧ ar = ar1)) := by
  refine fw_start (cc := cX9_hurts) (nL := 5) (rt := (some .long)) (by decide) rfl (Nat.le_of_ble_eq_true rfl) ?_
  intro p e s m below meth c A ls H locs C hK hG hl
  obtain ⟨args, ea⟩ : ∃ z : Array Value, z = ([.ref (ad 0), .int x1, .int x2, .int x3, .int x4] : List Value).toArray := ⟨_, rfl⟩
  rw [← ea] at C ⊢
  have C : fw_C p s m args meth c cX9_hurts 5 (some .long) wsX9_hurts RX9 := C
  have hl : lv_has ls 5 [(0, .ref (ad 0)), (1, .int x1), (2, .int x2), (3, .int x3), (4, .int x4)] := hl
  unfold wpX9_hurts at h
  have in_X1 : ∀ x ∈ wsX10, x ∈ wsX9_hurts := by decide +kernel
  have in_X9 : ∀ x ∈ wsX90, x ∈ wsX9_hurts := by decide +kernel
  have k113 := C.2.2.2.2.1 (.constantLong RX9 113 (-9223372036854775808)) (by decide +kernel)
  have k145 := C.2.2.2.2.1 (.fieldLink RX9 145 "KnifeBoard$Hand" "told" "Z") (by decide +kernel)
  have k24 := C.2.2.2.2.1 (.fieldLink RX9 24 "KnifeBoard" "theHand" "LKnifeBoard$Hand;") (by decide +kernel)
  have k31 := C.2.2.2.2.1 (.fieldLink RX9 31 "KnifeBoard" "theBoard" "LKnifeBoard$Board;") (by decide +kernel)
  refine lv_aload_n C.1 C.2.1 dX9_hurts_0 rfl (lv_at hl 0 rfl) ?_
  refine fw_get (w := (kw G ad kt)) C in_X9 hK hG 0 kw_o9 rfl 3 (by decide) k31 rfl rfl dX9_hurts_1 ?_
  refine lv_iload_n C.1 C.2.1 dX9_hurts_4 rfl (lv_at hl 1 rfl) ?_
  refine fw_rcalli (va_runV (As := [.int x1]) (rest := []) ⟨C.1, C.2.1, C.2.2.2.2.2.2, C.2.2.2.2.2.1, C.2.2.2.2.1⟩ (soX0_knows l G ad kt iv ar x1 _  h H.size) (cwV 1 C.2.2.2.2.1 gX9_hurts_X0_knows rfl rfl rfl (by decide +kernel) ⟨Nat.le_of_ble_eq_true rfl, Nat.le_of_ble_eq_true rfl⟩) (fw_preV hG hK (ci := 0) rfl kw_o0) rfl rfl hl.1 rfl (lv_room (Nat.le_of_ble_eq_true rfl)) dX9_hurts_5 ⟨Nat.zero_le _, Nat.zero_le _⟩) hG hK (fun r1  H locs h hG => ?_)
  refine lv_if_eq (tgt := 38) C.1 C.2.1 dX9_hurts_8 (by decide) (fun c2 => ?_) (fun c2 => ?_)
  · have h := h.1 c2
    refine lv_ldc2 C.1 C.2.1 C.2.2.2.2.2.1 k113 dX9_hurts_38 ?_
    exact fw_lret C hG ⟨h, rfl, rfl⟩ dX9_hurts_41
  · have h := h.2 c2
    refine lv_iload_n C.1 C.2.1 dX9_hurts_11 rfl (lv_at hl 2 rfl) ?_
    refine fw_pcalli (va_runS (As := [.int x2]) (rest := []) ⟨C.1, C.2.1, C.2.2.2.2.2.2, C.2.2.2.2.2.1, C.2.2.2.2.1⟩ (soX9_isStage l x2 _ h H.size) (va_cwS 1 C.2.2.2.2.1 gX9_hurts_X9_isStage rfl rfl rfl (by decide +kernel) ⟨Nat.le_of_ble_eq_true rfl, Nat.le_of_ble_eq_true rfl⟩) fw_ppre rfl rfl hl.1 rfl (lv_room (Nat.le_of_ble_eq_true rfl)) dX9_hurts_12 ⟨Nat.zero_le _, Nat.zero_le _⟩) hG hK (fun r3  H locs h hG => ?_)
    refine lv_if_eq (tgt := 38) C.1 C.2.1 dX9_hurts_15 (by decide) (fun c4 => ?_) (fun c4 => ?_)
    · have h := h.1 c4
      refine lv_ldc2 C.1 C.2.1 C.2.2.2.2.2.1 k113 dX9_hurts_38 ?_
      exact fw_lret C hG ⟨h, rfl, rfl⟩ dX9_hurts_41
    · have h := h.2 c4
      refine lv_iload C.1 C.2.1 dX9_hurts_18 (lv_at hl 4 rfl) ?_
      refine lv_iconst (v := 0) C.1 C.2.1 dX9_hurts_20 (by decide) ?_
      refine lv_iconst (v := 1) C.1 C.2.1 dX9_hurts_21 (by decide) ?_
      refine fw_pcalli (va_runS (As := [.int x4, .int 0, .int 1]) (rest := []) ⟨C.1, C.2.1, C.2.2.2.2.2.2, C.2.2.2.2.2.1, C.2.2.2.2.1⟩ (soX9_within l x4 0 1 _ h H.size) (va_cwS 3 C.2.2.2.2.1 gX9_hurts_X9_within rfl rfl rfl (by decide +kernel) ⟨Nat.le_of_ble_eq_true rfl, Nat.le_of_ble_eq_true rfl⟩) fw_ppre rfl rfl hl.1 rfl (lv_room (Nat.le_of_ble_eq_true rfl)) dX9_hurts_22 ⟨Nat.zero_le _, Nat.zero_le _⟩) hG hK (fun r5  H locs h hG => ?_)
      refine lv_if_eq (tgt := 38) C.1 C.2.1 dX9_hurts_25 (by decide) (fun c6 => ?_) (fun c6 => ?_)
      · have h := h.1 c6
        refine lv_ldc2 C.1 C.2.1 C.2.2.2.2.2.1 k113 dX9_hurts_38 ?_
        exact fw_lret C hG ⟨h, rfl, rfl⟩ dX9_hurts_41
      · have h := h.2 c6
        refine lv_aload_n C.1 C.2.1 dX9_hurts_28 rfl (lv_at hl 0 rfl) ?_
        refine fw_get (w := (kw G ad kt)) C in_X9 hK hG 0 kw_o9 rfl 2 (by decide) k24 rfl rfl dX9_hurts_29 ?_
        refine fw_get (w := (kw G ad kt)) C in_X1 hK hG 2 kw_o1 rfl 1 (by decide) k145 rfl rfl dX9_hurts_32 ?_
        refine lv_if_ne (tgt := 42) C.1 C.2.1 dX9_hurts_35 (by decide) (fun c7 => ?_) (fun c7 => ?_)
        · have h := h.1 c7
          refine lv_aload_n C.1 C.2.1 dX9_hurts_42 rfl (lv_at hl 0 rfl) ?_
          refine lv_iload_n C.1 C.2.1 dX9_hurts_43 rfl (lv_at hl 3 rfl) ?_
          refine lv_if_eq (tgt := 52) C.1 C.2.1 dX9_hurts_44 (by decide) (fun c8 => ?_) (fun c8 => ?_)
          · have h := h.1 c8
            refine lv_iconst (v := 4) C.1 C.2.1 dX9_hurts_52 (by decide) ?_
            refine lv_iload_n C.1 C.2.1 dX9_hurts_53 rfl (lv_at hl 1 rfl) ?_
            refine lv_iload_n C.1 C.2.1 dX9_hurts_54 rfl (lv_at hl 2 rfl) ?_
            refine lv_iconst (v := 0) C.1 C.2.1 dX9_hurts_55 (by decide) ?_
            refine fw_rcalli (va_runV (As := [.int 4, .int x1, .int x2, .int 0]) (rest := []) ⟨C.1, C.2.1, C.2.2.2.2.2.2, C.2.2.2.2.2.1, C.2.2.2.2.1⟩ (soX9_weightTo l G ad kt iv ar 4 x1 x2 0 _  h H.size) (cwV 4 C.2.2.2.2.1 gX9_hurts_X9_weightTo rfl rfl rfl (by decide +kernel) ⟨Nat.le_of_ble_eq_true rfl, Nat.le_of_ble_eq_true rfl⟩) (fw_preV hG hK (ci := 9) rfl kw_o9) rfl rfl hl.1 rfl (lv_room (Nat.le_of_ble_eq_true rfl)) dX9_hurts_56 ⟨Nat.zero_le _, Nat.zero_le _⟩) hG hK (fun r9  H locs h hG => ?_)
            refine lv_i2l C.1 C.2.1 dX9_hurts_59 rfl ?_
            refine lv_aload_n C.1 C.2.1 dX9_hurts_60 rfl (lv_at hl 0 rfl) ?_
            refine lv_iload_n C.1 C.2.1 dX9_hurts_61 rfl (lv_at hl 2 rfl) ?_
            refine fw_rcalli (va_runV (As := [.int x2]) (rest := [.long r9.toInt64]) ⟨C.1, C.2.1, C.2.2.2.2.2.2, C.2.2.2.2.2.1, C.2.2.2.2.1⟩ (soX9_weightOfAll l G ad kt iv ar x2 _  h H.size) (cwV 1 C.2.2.2.2.1 gX9_hurts_X9_weightOfAll rfl rfl rfl (by decide +kernel) ⟨Nat.le_of_ble_eq_true rfl, Nat.le_of_ble_eq_true rfl⟩) (fw_preV hG hK (ci := 9) rfl kw_o9) rfl rfl hl.1 rfl (lv_room (Nat.le_of_ble_eq_true rfl)) dX9_hurts_62 ⟨Nat.zero_le _, Nat.zero_le _⟩) hG hK (fun r10  H locs h hG => ?_)
            refine lv_i2l C.1 C.2.1 dX9_hurts_65 rfl ?_
            refine lv_iload C.1 C.2.1 dX9_hurts_66 (lv_at hl 4 rfl) ?_
            refine fw_pcalll (va_runS (As := [.long r9.toInt64, .long r10.toInt64, .int x4]) (rest := []) ⟨C.1, C.2.1, C.2.2.2.2.2.2, C.2.2.2.2.2.1, C.2.2.2.2.1⟩ (soX9_share l r9.toInt64 r10.toInt64 x4 _ h H.size) (va_cwS 3 C.2.2.2.2.1 gX9_hurts_X9_share rfl rfl rfl (by decide +kernel) ⟨Nat.le_of_ble_eq_true rfl, Nat.le_of_ble_eq_true rfl⟩) fw_ppre rfl rfl hl.1 rfl (lv_room (Nat.le_of_ble_eq_true rfl)) dX9_hurts_68 ⟨Nat.zero_le _, Nat.zero_le _⟩) hG hK (fun r11  H locs h hG => ?_)
            exact fw_lret C hG ⟨h, rfl, rfl⟩ dX9_hurts_71
          · have h := h.2 c8
            refine lv_bipush (v := 12) C.1 C.2.1 dX9_hurts_47 (by decide) ?_
            refine lv_goto (tgt := 53) C.1 C.2.1 dX9_hurts_49 (by decide) ?_
            refine lv_iload_n C.1 C.2.1 dX9_hurts_53 rfl (lv_at hl 1 rfl) ?_
            refine lv_iload_n C.1 C.2.1 dX9_hurts_54 rfl (lv_at hl 2 rfl) ?_
            refine lv_iconst (v := 0) C.1 C.2.1 dX9_hurts_55 (by decide) ?_
            refine fw_rcalli (va_runV (As := [.int 12, .int x1, .int x2, .int 0]) (rest := []) ⟨C.1, C.2.1, C.2.2.2.2.2.2, C.2.2.2.2.2.1, C.2.2.2.2.1⟩ (soX9_weightTo l G ad kt iv ar 12 x1 x2 0 _  h H.size) (cwV 4 C.2.2.2.2.1 gX9_hurts_X9_weightTo rfl rfl rfl (by decide +kernel) ⟨Nat.le_of_ble_eq_true rfl, Nat.le_of_ble_eq_true rfl⟩) (fw_preV hG hK (ci := 9) rfl kw_o9) rfl rfl hl.1 rfl (lv_room (Nat.le_of_ble_eq_true rfl)) dX9_hurts_56 ⟨Nat.zero_le _, Nat.zero_le _⟩) hG hK (fun r12  H locs h hG => ?_)
            refine lv_i2l C.1 C.2.1 dX9_hurts_59 rfl ?_
            refine lv_aload_n C.1 C.2.1 dX9_hurts_60 rfl (lv_at hl 0 rfl) ?_
            refine lv_iload_n C.1 C.2.1 dX9_hurts_61 rfl (lv_at hl 2 rfl) ?_
            refine fw_rcalli (va_runV (As := [.int x2]) (rest := [.long r12.toInt64]) ⟨C.1, C.2.1, C.2.2.2.2.2.2, C.2.2.2.2.2.1, C.2.2.2.2.1⟩ (soX9_weightOfAll l G ad kt iv ar x2 _  h H.size) (cwV 1 C.2.2.2.2.1 gX9_hurts_X9_weightOfAll rfl rfl rfl (by decide +kernel) ⟨Nat.le_of_ble_eq_true rfl, Nat.le_of_ble_eq_true rfl⟩) (fw_preV hG hK (ci := 9) rfl kw_o9) rfl rfl hl.1 rfl (lv_room (Nat.le_of_ble_eq_true rfl)) dX9_hurts_62 ⟨Nat.zero_le _, Nat.zero_le _⟩) hG hK (fun r13  H locs h hG => ?_)
            refine lv_i2l C.1 C.2.1 dX9_hurts_65 rfl ?_
            refine lv_iload C.1 C.2.1 dX9_hurts_66 (lv_at hl 4 rfl) ?_
            refine fw_pcalll (va_runS (As := [.long r12.toInt64, .long r13.toInt64, .int x4]) (rest := []) ⟨C.1, C.2.1, C.2.2.2.2.2.2, C.2.2.2.2.2.1, C.2.2.2.2.1⟩ (soX9_share l r12.toInt64 r13.toInt64 x4 _ h H.size) (va_cwS 3 C.2.2.2.2.1 gX9_hurts_X9_share rfl rfl rfl (by decide +kernel) ⟨Nat.le_of_ble_eq_true rfl, Nat.le_of_ble_eq_true rfl⟩) fw_ppre rfl rfl hl.1 rfl (lv_room (Nat.le_of_ble_eq_true rfl)) dX9_hurts_68 ⟨Nat.zero_le _, Nat.zero_le _⟩) hG hK (fun r14  H locs h hG => ?_)
            exact fw_lret C hG ⟨h, rfl, rfl⟩ dX9_hurts_71
        · have h := h.2 c7
          refine lv_ldc2 C.1 C.2.1 C.2.2.2.2.2.1 k113 dX9_hurts_38 ?_
          exact fw_lret C hG ⟨h, rfl, rfl⟩ dX9_hurts_41
/-! KnifeBoard.holds(IIIIII)J -/
def rmX9_holds : Room := { frames := 5, cells := 0, slots := 0, locals := 125 }
def wpX9_holds (kt : kw_T) (iv : fw_F) (ar : fw_R) (x1 : Int32) (x2 : Int32) (x3 : Int32) (x4 : Int32) (x5 : Int32) (x6 : Int32) (Q : Int64 → Prop) : Prop := wpX9_knifeAt kt iv ar x1 (fun (r1 : Option Nat) => (r1 = none → (Q (-9223372036854775808))) ∧ (∀ i2 : Nat, r1 = some i2 → i2 < kt.1 ∧ (wpX0_knows kt iv ar x4 (fun (r3 : Int32) => (¬ r3 = 0 → (wpX9_isThrow x2 x3 (fun (r5 : Int32) => (r5 = 0 → (Q (-9223372036854775808))) ∧ (¬ r5 = 0 → (wpX9_isStage x5 (fun (r7 : Int32) => (r7 = 0 → (Q (-9223372036854775808))) ∧ (¬ r7 = 0 → (wpX9_within x6 0 1 (fun (r9 : Int32) => (r9 = 0 → (Q (-9223372036854775808))) ∧ (¬ r9 = 0 → ((¬ (iv 2) = 0 → (wpX9_stickWeight kt iv ar i2 x2 x3 x5 (fun (r12 : Int32) => wpX9_weightTo kt iv ar 1 x4 x5 0 (fun (r13 : Int32) => ∀ y14 : Int64, y14 = r12.toInt64 * r13.toInt64 → (wpX1_sumOf kt iv ar 0 x5 (fun (r15 : Int32) => wpX9_weightOfAll kt iv ar x5 (fun (r16 : Int32) => ∀ y17 : Int64, y17 = r15.toInt64 * r16.toInt64 → (wpX9_share y14 y17 x6 (fun (r18 : Int64) => Q r18))))))))) ∧ ((iv 2) = 0 → (Q (-9223372036854775808)))))))))))))) ∧ (r3 = 0 → (Q (-9223372036854775808)))))))
set_option maxHeartbeats 4000000 in
set_option maxRecDepth 100000 in
theorem soX9_holds (l : Launch) (G : fw_G) (ad : Nat → Nat) (kt : kw_T) (iv : fw_F) (ar : fw_R) (x1 : Int32) (x2 : Int32) (x3 : Int32) (x4 : Int32) (x5 : Int32) (x6 : Int32) (Q : Int64 → Prop)  (h : wpX9_holds kt iv ar x1 x2 x3 x4 x5 x6 Q) : fw_M l G (kw G ad kt) yX9_holds wsX9_holds rmX9_holds [.ref (ad 0), .int x1, .int x2, .int x3, .int x4, .int x5, .int x6] iv ar (fw_Ql G (kw G ad kt) (fun r iv1 ar1 => Q r ∧ iv = iv1 ∧ ar = ar1)) := by
  refine fw_start (cc := cX9_holds) (nL := 12) (rt := (some .long)) (by decide) rfl (Nat.le_of_ble_eq_true rfl) ?_
  intro p e s m below meth c A ls H locs C hK hG hl
  obtain ⟨args, ea⟩ : ∃ z : Array Value, z = ([.ref (ad 0), .int x1, .int x2, .int x3, .int x4, .int x5, .int x6] : List Value).toArray := ⟨_, rfl⟩
  rw [← ea] at C ⊢
  have C : fw_C p s m args meth c cX9_holds 12 (some .long) wsX9_holds RX9 := C
  have hl : lv_has ls 12 [(0, .ref (ad 0)), (1, .int x1), (2, .int x2), (3, .int x3), (4, .int x4), (5, .int x5), (6, .int x6)] := hl
  unfold wpX9_holds at h
  have in_X1 : ∀ x ∈ wsX10, x ∈ wsX9_holds := by decide +kernel
  have in_X9 : ∀ x ∈ wsX90, x ∈ wsX9_holds := by decide +kernel
  have k113 := C.2.2.2.2.1 (.constantLong RX9 113 (-9223372036854775808)) (by decide +kernel)
  have k145 := C.2.2.2.2.1 (.fieldLink RX9 145 "KnifeBoard$Hand" "told" "Z") (by decide +kernel)
  have k24 := C.2.2.2.2.1 (.fieldLink RX9 24 "KnifeBoard" "theHand" "LKnifeBoard$Hand;") (by decide +kernel)
  have k31 := C.2.2.2.2.1 (.fieldLink RX9 31 "KnifeBoard" "theBoard" "LKnifeBoard$Board;") (by decide +kernel)
  refine lv_aload_n C.1 C.2.1 dX9_holds_0 rfl (lv_at hl 0 rfl) ?_
  refine lv_iload_n C.1 C.2.1 dX9_holds_1 rfl (lv_at hl 1 rfl) ?_
  refine fw_rcallq (va_runV (As := [.int x1]) (rest := []) ⟨C.1, C.2.1, C.2.2.2.2.2.2, C.2.2.2.2.2.1, C.2.2.2.2.1⟩ (soX9_knifeAt l G ad kt iv ar x1 _  h H.size) (cwV 1 C.2.2.2.2.1 gX9_holds_X9_knifeAt rfl rfl rfl (by decide +kernel) ⟨Nat.le_of_ble_eq_true rfl, Nat.le_of_ble_eq_true rfl⟩) (fw_preV hG hK (ci := 9) rfl kw_o9) rfl rfl hl.1 rfl (lv_room (Nat.le_of_ble_eq_true rfl)) dX9_holds_2 ⟨Nat.zero_le _, Nat.zero_le _⟩) hG hK (fun r1  H locs h hG => ?_)
  rcases r1 with _ | i2
  · have h := h.1 rfl
    refine W.eq (g2 := F0 m 5 ls (.null :: [])) rfl ?_
    refine lv_astoreN (lv' := [(7, .null), (0, .ref (ad 0)), (1, .int x1), (2, .int x2), (3, .int x3), (4, .int x4), (5, .int x5), (6, .int x6)]) C.1 C.2.1 dX9_holds_5 hl (by decide) rfl (fun ls hl => ?_)
    refine lv_aloadN C.1 C.2.1 dX9_holds_7 (lv_at hl 0 rfl) ?_
    refine lv_ifnullN (tgt := 24) C.1 C.2.1 dX9_holds_9 (by decide) ?_
    refine lv_ldc2 C.1 C.2.1 C.2.2.2.2.2.1 k113 dX9_holds_24 ?_
    exact fw_lret C hG ⟨h, rfl, rfl⟩ dX9_holds_27
  · obtain ⟨hi2, h⟩ := h.2 i2 rfl
    refine W.eq (g2 := F0 m 5 ls (.ref (ad (28 + 2 * i2)) :: [])) rfl ?_
    refine lv_astore (lv' := [(7, .ref (ad (28 + 2 * i2))), (0, .ref (ad 0)), (1, .int x1), (2, .int x2), (3, .int x3), (4, .int x4), (5, .int x5), (6, .int x6)]) C.1 C.2.1 dX9_holds_5 hl (by decide) rfl (fun ls hl => ?_)
    refine lv_aload C.1 C.2.1 dX9_holds_7 (lv_at hl 0 rfl) ?_
    refine lv_ifnull C.1 C.2.1 dX9_holds_9 ?_
    refine lv_aload_n C.1 C.2.1 dX9_holds_12 rfl (lv_at hl 1 rfl) ?_
    refine fw_get (w := (kw G ad kt)) C in_X9 hK hG 0 kw_o9 rfl 3 (by decide) k31 rfl rfl dX9_holds_13 ?_
    refine lv_iload C.1 C.2.1 dX9_holds_16 (lv_at hl 5 rfl) ?_
    refine fw_rcalli (va_runV (As := [.int x4]) (rest := []) ⟨C.1, C.2.1, C.2.2.2.2.2.2, C.2.2.2.2.2.1, C.2.2.2.2.1⟩ (soX0_knows l G ad kt iv ar x4 _  h H.size) (cwV 1 C.2.2.2.2.1 gX9_holds_X0_knows rfl rfl rfl (by decide +kernel) ⟨Nat.le_of_ble_eq_true rfl, Nat.le_of_ble_eq_true rfl⟩) (fw_preV hG hK (ci := 0) rfl kw_o0) rfl rfl hl.1 rfl (lv_room (Nat.le_of_ble_eq_true rfl)) dX9_holds_18 ⟨Nat.zero_le _, Nat.zero_le _⟩) hG hK (fun r3  H locs h hG => ?_)
    refine lv_if_ne (tgt := 28) C.1 C.2.1 dX9_holds_21 (by decide) (fun c4 => ?_) (fun c4 => ?_)
    · have h := h.1 c4
      refine lv_iload_n C.1 C.2.1 dX9_holds_28 rfl (lv_at hl 3 rfl) ?_
      refine lv_iload_n C.1 C.2.1 dX9_holds_29 rfl (lv_at hl 4 rfl) ?_
      refine fw_pcalli (va_runS (As := [.int x2, .int x3]) (rest := []) ⟨C.1, C.2.1, C.2.2.2.2.2.2, C.2.2.2.2.2.1, C.2.2.2.2.1⟩ (soX9_isThrow l x2 x3 _ h H.size) (va_cwS 2 C.2.2.2.2.1 gX9_holds_X9_isThrow rfl rfl rfl (by decide +kernel) ⟨Nat.le_of_ble_eq_true rfl, Nat.le_of_ble_eq_true rfl⟩) fw_ppre rfl rfl hl.1 rfl (lv_room (Nat.le_of_ble_eq_true rfl)) dX9_holds_30 ⟨Nat.zero_le _, Nat.zero_le _⟩) hG hK (fun r5  H locs h hG => ?_)
      refine lv_if_eq (tgt := 64) C.1 C.2.1 dX9_holds_33 (by decide) (fun c6 => ?_) (fun c6 => ?_)
      · have h := h.1 c6
        refine lv_ldc2 C.1 C.2.1 C.2.2.2.2.2.1 k113 dX9_holds_64 ?_
        exact fw_lret C hG ⟨h, rfl, rfl⟩ dX9_holds_67
      · have h := h.2 c6
        refine lv_iload C.1 C.2.1 dX9_holds_36 (lv_at hl 6 rfl) ?_
        refine fw_pcalli (va_runS (As := [.int x5]) (rest := []) ⟨C.1, C.2.1, C.2.2.2.2.2.2, C.2.2.2.2.2.1, C.2.2.2.2.1⟩ (soX9_isStage l x5 _ h H.size) (va_cwS 1 C.2.2.2.2.1 gX9_holds_X9_isStage rfl rfl rfl (by decide +kernel) ⟨Nat.le_of_ble_eq_true rfl, Nat.le_of_ble_eq_true rfl⟩) fw_ppre rfl rfl hl.1 rfl (lv_room (Nat.le_of_ble_eq_true rfl)) dX9_holds_38 ⟨Nat.zero_le _, Nat.zero_le _⟩) hG hK (fun r7  H locs h hG => ?_)
        refine lv_if_eq (tgt := 64) C.1 C.2.1 dX9_holds_41 (by decide) (fun c8 => ?_) (fun c8 => ?_)
        · have h := h.1 c8
          refine lv_ldc2 C.1 C.2.1 C.2.2.2.2.2.1 k113 dX9_holds_64 ?_
          exact fw_lret C hG ⟨h, rfl, rfl⟩ dX9_holds_67
        · have h := h.2 c8
          refine lv_iload C.1 C.2.1 dX9_holds_44 (lv_at hl 7 rfl) ?_
          refine lv_iconst (v := 0) C.1 C.2.1 dX9_holds_46 (by decide) ?_
          refine lv_iconst (v := 1) C.1 C.2.1 dX9_holds_47 (by decide) ?_
          refine fw_pcalli (va_runS (As := [.int x6, .int 0, .int 1]) (rest := []) ⟨C.1, C.2.1, C.2.2.2.2.2.2, C.2.2.2.2.2.1, C.2.2.2.2.1⟩ (soX9_within l x6 0 1 _ h H.size) (va_cwS 3 C.2.2.2.2.1 gX9_holds_X9_within rfl rfl rfl (by decide +kernel) ⟨Nat.le_of_ble_eq_true rfl, Nat.le_of_ble_eq_true rfl⟩) fw_ppre rfl rfl hl.1 rfl (lv_room (Nat.le_of_ble_eq_true rfl)) dX9_holds_48 ⟨Nat.zero_le _, Nat.zero_le _⟩) hG hK (fun r9  H locs h hG => ?_)
          refine lv_if_eq (tgt := 64) C.1 C.2.1 dX9_holds_51 (by decide) (fun c10 => ?_) (fun c10 => ?_)
          · have h := h.1 c10
            refine lv_ldc2 C.1 C.2.1 C.2.2.2.2.2.1 k113 dX9_holds_64 ?_
            exact fw_lret C hG ⟨h, rfl, rfl⟩ dX9_holds_67
          · have h := h.2 c10
            refine lv_aload_n C.1 C.2.1 dX9_holds_54 rfl (lv_at hl 1 rfl) ?_
            refine fw_get (w := (kw G ad kt)) C in_X9 hK hG 0 kw_o9 rfl 2 (by decide) k24 rfl rfl dX9_holds_55 ?_
            refine fw_get (w := (kw G ad kt)) C in_X1 hK hG 2 kw_o1 rfl 1 (by decide) k145 rfl rfl dX9_holds_58 ?_
            refine lv_if_ne (tgt := 68) C.1 C.2.1 dX9_holds_61 (by decide) (fun c11 => ?_) (fun c11 => ?_)
            · have h := h.1 c11
              refine lv_aload_n C.1 C.2.1 dX9_holds_68 rfl (lv_at hl 1 rfl) ?_
              refine lv_aload C.1 C.2.1 dX9_holds_69 (lv_at hl 0 rfl) ?_
              refine lv_iload_n C.1 C.2.1 dX9_holds_71 rfl (lv_at hl 3 rfl) ?_
              refine lv_iload_n C.1 C.2.1 dX9_holds_72 rfl (lv_at hl 4 rfl) ?_
              refine lv_iload C.1 C.2.1 dX9_holds_73 (lv_at hl 6 rfl) ?_
              refine fw_rcalli (va_runV (As := [.ref (ad (28 + 2 * i2)), .int x2, .int x3, .int x5]) (rest := []) ⟨C.1, C.2.1, C.2.2.2.2.2.2, C.2.2.2.2.2.1, C.2.2.2.2.1⟩ (soX9_stickWeight l G ad kt iv ar i2 x2 x3 x5 _ hi2 h H.size) (cwV 4 C.2.2.2.2.1 gX9_holds_X9_stickWeight rfl rfl rfl (by decide +kernel) ⟨Nat.le_of_ble_eq_true rfl, Nat.le_of_ble_eq_true rfl⟩) (fw_preV hG hK (ci := 9) rfl kw_o9) rfl rfl hl.1 rfl (lv_room (Nat.le_of_ble_eq_true rfl)) dX9_holds_75 ⟨Nat.zero_le _, Nat.zero_le _⟩) hG hK (fun r12  H locs h hG => ?_)
              refine lv_i2l C.1 C.2.1 dX9_holds_78 rfl ?_
              refine lv_aload_n C.1 C.2.1 dX9_holds_79 rfl (lv_at hl 1 rfl) ?_
              refine lv_iconst (v := 1) C.1 C.2.1 dX9_holds_80 (by decide) ?_
              refine lv_iload C.1 C.2.1 dX9_holds_81 (lv_at hl 5 rfl) ?_
              refine lv_iload C.1 C.2.1 dX9_holds_83 (lv_at hl 6 rfl) ?_
              refine lv_iconst (v := 0) C.1 C.2.1 dX9_holds_85 (by decide) ?_
              refine fw_rcalli (va_runV (As := [.int 1, .int x4, .int x5, .int 0]) (rest := [.long r12.toInt64]) ⟨C.1, C.2.1, C.2.2.2.2.2.2, C.2.2.2.2.2.1, C.2.2.2.2.1⟩ (soX9_weightTo l G ad kt iv ar 1 x4 x5 0 _  h H.size) (cwV 4 C.2.2.2.2.1 gX9_holds_X9_weightTo rfl rfl rfl (by decide +kernel) ⟨Nat.le_of_ble_eq_true rfl, Nat.le_of_ble_eq_true rfl⟩) (fw_preV hG hK (ci := 9) rfl kw_o9) rfl rfl hl.1 rfl (lv_room (Nat.le_of_ble_eq_true rfl)) dX9_holds_86 ⟨Nat.zero_le _, Nat.zero_le _⟩) hG hK (fun r13  H locs h hG => ?_)
              refine lv_i2l C.1 C.2.1 dX9_holds_89 rfl ?_
              refine lv_lmul C.1 C.2.1 dX9_holds_90 ?_
              refine lv_topl (fun y14 ey14 => ?_)
              have h := h y14 ey14
              refine lv_lstore (lv' := [(8, .long y14), (7, .ref (ad (28 + 2 * i2))), (0, .ref (ad 0)), (1, .int x1), (2, .int x2), (3, .int x3), (4, .int x4), (5, .int x5), (6, .int x6)]) C.1 C.2.1 dX9_holds_91 hl (by decide) rfl (fun ls hl => ?_)
              refine lv_aload_n C.1 C.2.1 dX9_holds_93 rfl (lv_at hl 2 rfl) ?_
              refine fw_get (w := (kw G ad kt)) C in_X9 hK hG 0 kw_o9 rfl 2 (by decide) k24 rfl rfl dX9_holds_94 ?_
              refine lv_iconst (v := 0) C.1 C.2.1 dX9_holds_97 (by decide) ?_
              refine lv_iload C.1 C.2.1 dX9_holds_98 (lv_at hl 7 rfl) ?_
              refine fw_rcalli (va_runV (As := [.int 0, .int x5]) (rest := []) ⟨C.1, C.2.1, C.2.2.2.2.2.2, C.2.2.2.2.2.1, C.2.2.2.2.1⟩ (soX1_sumOf l G ad kt iv ar 0 x5 _  h H.size) (cwV 2 C.2.2.2.2.1 gX9_holds_X1_sumOf rfl rfl rfl (by decide +kernel) ⟨Nat.le_of_ble_eq_true rfl, Nat.le_of_ble_eq_true rfl⟩) (fw_preV hG hK (ci := 1) rfl kw_o1) rfl rfl hl.1 rfl (lv_room (Nat.le_of_ble_eq_true rfl)) dX9_holds_100 ⟨Nat.zero_le _, Nat.zero_le _⟩) hG hK (fun r15  H locs h hG => ?_)
              refine lv_i2l C.1 C.2.1 dX9_holds_103 rfl ?_
              refine lv_aload_n C.1 C.2.1 dX9_holds_104 rfl (lv_at hl 2 rfl) ?_
              refine lv_iload C.1 C.2.1 dX9_holds_105 (lv_at hl 7 rfl) ?_
              refine fw_rcalli (va_runV (As := [.int x5]) (rest := [.long r15.toInt64]) ⟨C.1, C.2.1, C.2.2.2.2.2.2, C.2.2.2.2.2.1, C.2.2.2.2.1⟩ (soX9_weightOfAll l G ad kt iv ar x5 _  h H.size) (cwV 1 C.2.2.2.2.1 gX9_holds_X9_weightOfAll rfl rfl rfl (by decide +kernel) ⟨Nat.le_of_ble_eq_true rfl, Nat.le_of_ble_eq_true rfl⟩) (fw_preV hG hK (ci := 9) rfl kw_o9) rfl rfl hl.1 rfl (lv_room (Nat.le_of_ble_eq_true rfl)) dX9_holds_107 ⟨Nat.zero_le _, Nat.zero_le _⟩) hG hK (fun r16  H locs h hG => ?_)
              refine lv_i2l C.1 C.2.1 dX9_holds_110 rfl ?_
              refine lv_lmul C.1 C.2.1 dX9_holds_111 ?_
              refine lv_topl (fun y17 ey17 => ?_)
              have h := h y17 ey17
              refine lv_lstore (lv' := [(10, .long y17), (8, .long y14), (7, .ref (ad (28 + 2 * i2))), (0, .ref (ad 0)), (1, .int x1), (2, .int x2), (3, .int x3), (4, .int x4), (5, .int x5), (6, .int x6)]) C.1 C.2.1 dX9_holds_112 hl (by decide) rfl (fun ls hl => ?_)
              refine lv_lload C.1 C.2.1 dX9_holds_114 (lv_at hl 1 rfl) ?_
              refine lv_lload C.1 C.2.1 dX9_holds_116 (lv_at hl 0 rfl) ?_
              refine lv_iload C.1 C.2.1 dX9_holds_118 (lv_at hl 9 rfl) ?_
              refine fw_pcalll (va_runS (As := [.long y14, .long y17, .int x6]) (rest := []) ⟨C.1, C.2.1, C.2.2.2.2.2.2, C.2.2.2.2.2.1, C.2.2.2.2.1⟩ (soX9_share l y14 y17 x6 _ h H.size) (va_cwS 3 C.2.2.2.2.1 gX9_holds_X9_share rfl rfl rfl (by decide +kernel) ⟨Nat.le_of_ble_eq_true rfl, Nat.le_of_ble_eq_true rfl⟩) fw_ppre rfl rfl hl.1 rfl (lv_room (Nat.le_of_ble_eq_true rfl)) dX9_holds_120 ⟨Nat.zero_le _, Nat.zero_le _⟩) hG hK (fun r18  H locs h hG => ?_)
              exact fw_lret C hG ⟨h, rfl, rfl⟩ dX9_holds_123
            · have h := h.2 c11
              refine lv_ldc2 C.1 C.2.1 C.2.2.2.2.2.1 k113 dX9_holds_64 ?_
              exact fw_lret C hG ⟨h, rfl, rfl⟩ dX9_holds_67
    · have h := h.2 c4
      refine lv_ldc2 C.1 C.2.1 C.2.2.2.2.2.1 k113 dX9_holds_24 ?_
      exact fw_lret C hG ⟨h, rfl, rfl⟩ dX9_holds_27
/-! KnifeBoard.refusesRule(II)I -/
def rmX9_refusesRule : Room := { frames := 2, cells := 0, slots := 0, locals := 42 }
def wpX9_refusesRule (kt : kw_T) (iv : fw_F) (ar : fw_R) (x1 : Int32) (x2 : Int32) (Q : Int32 → Prop) : Prop := wpX9_within x1 0 1000 (fun (r1 : Int32) => (r1 = 0 → (Q (-2))) ∧ (¬ r1 = 0 → (wpX9_isStage x2 (fun (r3 : Int32) => (¬ r3 = 0 → (((iv 2) = 0 → (Q (-3))) ∧ (¬ (iv 2) = 0 → (wpX0_count kt iv ar  (fun (r6 : Int32) => (r6 ≤ 0 → (Q (-3))) ∧ (¬ r6 ≤ 0 → (Q 0))))))) ∧ (r3 = 0 → (Q (-2)))))))
set_option maxHeartbeats 4000000 in
set_option maxRecDepth 100000 in
theorem soX9_refusesRule (l : Launch) (G : fw_G) (ad : Nat → Nat) (kt : kw_T) (iv : fw_F) (ar : fw_R) (x1 : Int32) (x2 : Int32) (Q : Int32 → Prop)  (h : wpX9_refusesRule kt iv ar x1 x2 Q) : fw_M l G (kw G ad kt) yX9_refusesRule wsX9_refusesRule rmX9_refusesRule [.ref (ad 0), .int x1, .int x2] iv ar (fw_Qi G (kw G ad kt) (fun r iv1 ar1 => Q r ∧ iv = iv1 ∧ ar = ar1)) := by
  refine fw_start (cc := cX9_refusesRule) (nL := 3) (rt := (some .int)) (by decide) rfl (Nat.le_of_ble_eq_true rfl) ?_
  intro p e s m below meth c A ls H locs C hK hG hl
  obtain ⟨args, ea⟩ : ∃ z : Array Value, z = ([.ref (ad 0), .int x1, .int x2] : List Value).toArray := ⟨_, rfl⟩
  rw [← ea] at C ⊢
  have C : fw_C p s m args meth c cX9_refusesRule 3 (some .int) wsX9_refusesRule RX9 := C
  have hl : lv_has ls 3 [(0, .ref (ad 0)), (1, .int x1), (2, .int x2)] := hl
  unfold wpX9_refusesRule at h
  have in_X1 : ∀ x ∈ wsX10, x ∈ wsX9_refusesRule := by decide +kernel
  have in_X9 : ∀ x ∈ wsX90, x ∈ wsX9_refusesRule := by decide +kernel
  have k145 := C.2.2.2.2.1 (.fieldLink RX9 145 "KnifeBoard$Hand" "told" "Z") (by decide +kernel)
  have k24 := C.2.2.2.2.1 (.fieldLink RX9 24 "KnifeBoard" "theHand" "LKnifeBoard$Hand;") (by decide +kernel)
  have k31 := C.2.2.2.2.1 (.fieldLink RX9 31 "KnifeBoard" "theBoard" "LKnifeBoard$Board;") (by decide +kernel)
  refine lv_iload_n C.1 C.2.1 dX9_refusesRule_0 rfl (lv_at hl 1 rfl) ?_
  refine lv_iconst (v := 0) C.1 C.2.1 dX9_refusesRule_1 (by decide) ?_
  refine lv_sipush (v := 1000) C.1 C.2.1 dX9_refusesRule_2 (by decide) ?_
  refine fw_pcalli (va_runS (As := [.int x1, .int 0, .int 1000]) (rest := []) ⟨C.1, C.2.1, C.2.2.2.2.2.2, C.2.2.2.2.2.1, C.2.2.2.2.1⟩ (soX9_within l x1 0 1000 _ h H.size) (va_cwS 3 C.2.2.2.2.1 gX9_refusesRule_X9_within rfl rfl rfl (by decide +kernel) ⟨Nat.le_of_ble_eq_true rfl, Nat.le_of_ble_eq_true rfl⟩) fw_ppre rfl rfl hl.1 rfl (lv_room (Nat.le_of_ble_eq_true rfl)) dX9_refusesRule_5 ⟨Nat.zero_le _, Nat.zero_le _⟩) hG hK (fun r1  H locs h hG => ?_)
  refine lv_if_eq (tgt := 18) C.1 C.2.1 dX9_refusesRule_8 (by decide) (fun c2 => ?_) (fun c2 => ?_)
  · have h := h.1 c2
    refine lv_bipush (v := (-2)) C.1 C.2.1 dX9_refusesRule_18 (by decide) ?_
    exact fw_iret C hG ⟨h, rfl, rfl⟩ dX9_refusesRule_20
  · have h := h.2 c2
    refine lv_iload_n C.1 C.2.1 dX9_refusesRule_11 rfl (lv_at hl 2 rfl) ?_
    refine fw_pcalli (va_runS (As := [.int x2]) (rest := []) ⟨C.1, C.2.1, C.2.2.2.2.2.2, C.2.2.2.2.2.1, C.2.2.2.2.1⟩ (soX9_isStage l x2 _ h H.size) (va_cwS 1 C.2.2.2.2.1 gX9_refusesRule_X9_isStage rfl rfl rfl (by decide +kernel) ⟨Nat.le_of_ble_eq_true rfl, Nat.le_of_ble_eq_true rfl⟩) fw_ppre rfl rfl hl.1 rfl (lv_room (Nat.le_of_ble_eq_true rfl)) dX9_refusesRule_12 ⟨Nat.zero_le _, Nat.zero_le _⟩) hG hK (fun r3  H locs h hG => ?_)
    refine lv_if_ne (tgt := 21) C.1 C.2.1 dX9_refusesRule_15 (by decide) (fun c4 => ?_) (fun c4 => ?_)
    · have h := h.1 c4
      refine lv_aload_n C.1 C.2.1 dX9_refusesRule_21 rfl (lv_at hl 0 rfl) ?_
      refine fw_get (w := (kw G ad kt)) C in_X9 hK hG 0 kw_o9 rfl 2 (by decide) k24 rfl rfl dX9_refusesRule_22 ?_
      refine fw_get (w := (kw G ad kt)) C in_X1 hK hG 2 kw_o1 rfl 1 (by decide) k145 rfl rfl dX9_refusesRule_25 ?_
      refine lv_if_eq (tgt := 45) C.1 C.2.1 dX9_refusesRule_28 (by decide) (fun c5 => ?_) (fun c5 => ?_)
      · have h := h.1 c5
        refine lv_bipush (v := (-3)) C.1 C.2.1 dX9_refusesRule_45 (by decide) ?_
        exact fw_iret C hG ⟨h, rfl, rfl⟩ dX9_refusesRule_47
      · have h := h.2 c5
        refine lv_aload_n C.1 C.2.1 dX9_refusesRule_31 rfl (lv_at hl 0 rfl) ?_
        refine fw_get (w := (kw G ad kt)) C in_X9 hK hG 0 kw_o9 rfl 3 (by decide) k31 rfl rfl dX9_refusesRule_32 ?_
        refine fw_rcalli (va_runV (As := []) (rest := []) ⟨C.1, C.2.1, C.2.2.2.2.2.2, C.2.2.2.2.2.1, C.2.2.2.2.1⟩ (soX0_count l G ad kt iv ar  _  h H.size) (cwV 0 C.2.2.2.2.1 gX9_refusesRule_X0_count rfl rfl rfl (by decide +kernel) ⟨Nat.le_of_ble_eq_true rfl, Nat.le_of_ble_eq_true rfl⟩) (fw_preV hG hK (ci := 0) rfl kw_o0) rfl rfl hl.1 rfl (lv_room (Nat.le_of_ble_eq_true rfl)) dX9_refusesRule_35 ⟨Nat.zero_le _, Nat.zero_le _⟩) hG hK (fun r6  H locs h hG => ?_)
        refine lv_if_le (tgt := 45) C.1 C.2.1 dX9_refusesRule_38 (by decide) (fun c7 => ?_) (fun c7 => ?_)
        · have h := h.1 c7
          refine lv_bipush (v := (-3)) C.1 C.2.1 dX9_refusesRule_45 (by decide) ?_
          exact fw_iret C hG ⟨h, rfl, rfl⟩ dX9_refusesRule_47
        · have h := h.2 c7
          refine lv_iconst (v := 0) C.1 C.2.1 dX9_refusesRule_41 (by decide) ?_
          refine lv_goto (tgt := 47) C.1 C.2.1 dX9_refusesRule_42 (by decide) ?_
          exact fw_iret C hG ⟨h, rfl, rfl⟩ dX9_refusesRule_47
    · have h := h.2 c4
      refine lv_bipush (v := (-2)) C.1 C.2.1 dX9_refusesRule_18 (by decide) ?_
      exact fw_iret C hG ⟨h, rfl, rfl⟩ dX9_refusesRule_20
/-! KnifeBoard.isAtMost(III)Z -/
def rmX9_isAtMost : Room := { frames := 4, cells := 0, slots := 0, locals := 90 }
def wpX9_isAtMost (kt : kw_T) (iv : fw_F) (ar : fw_R) (x1 : Int32) (x2 : Int32) (x3 : Int32) (Q : Int32 → Prop) : Prop := wpX9_weightOfAll kt iv ar x3 (fun (r1 : Int32) => (0 < (lg_cmp (x2.toInt64 * 1000) (x1.toInt64 * r1.toInt64)) → (Q 0)) ∧ (¬ 0 < (lg_cmp (x2.toInt64 * 1000) (x1.toInt64 * r1.toInt64)) → (Q 1)))
set_option maxHeartbeats 4000000 in
set_option maxRecDepth 100000 in
theorem soX9_isAtMost (l : Launch) (G : fw_G) (ad : Nat → Nat) (kt : kw_T) (iv : fw_F) (ar : fw_R) (x1 : Int32) (x2 : Int32) (x3 : Int32) (Q : Int32 → Prop)  (h : wpX9_isAtMost kt iv ar x1 x2 x3 Q) : fw_M l G (kw G ad kt) yX9_isAtMost wsX9_isAtMost rmX9_isAtMost [.ref (ad 0), .int x1, .int x2, .int x3] iv ar (fw_Qi G (kw G ad kt) (fun r iv1 ar1 => Q r ∧ iv = iv1 ∧ ar = ar1)) := by
  refine fw_start (cc := cX9_isAtMost) (nL := 4) (rt := (some .boolean)) (by decide) rfl (Nat.le_of_ble_eq_true rfl) ?_
  intro p e s m below meth c A ls H locs C hK hG hl
  obtain ⟨args, ea⟩ : ∃ z : Array Value, z = ([.ref (ad 0), .int x1, .int x2, .int x3] : List Value).toArray := ⟨_, rfl⟩
  rw [← ea] at C ⊢
  have C : fw_C p s m args meth c cX9_isAtMost 4 (some .boolean) wsX9_isAtMost RX9 := C
  have hl : lv_has ls 4 [(0, .ref (ad 0)), (1, .int x1), (2, .int x2), (3, .int x3)] := hl
  unfold wpX9_isAtMost at h
  have k334 := C.2.2.2.2.1 (.constantLong RX9 334 1000) (by decide +kernel)
  refine lv_iload_n C.1 C.2.1 dX9_isAtMost_0 rfl (lv_at hl 2 rfl) ?_
  refine lv_i2l C.1 C.2.1 dX9_isAtMost_1 rfl ?_
  refine lv_ldc2 C.1 C.2.1 C.2.2.2.2.2.1 k334 dX9_isAtMost_2 ?_
  refine lv_lmul C.1 C.2.1 dX9_isAtMost_5 ?_
  refine lv_iload_n C.1 C.2.1 dX9_isAtMost_6 rfl (lv_at hl 1 rfl) ?_
  refine lv_i2l C.1 C.2.1 dX9_isAtMost_7 rfl ?_
  refine lv_aload_n C.1 C.2.1 dX9_isAtMost_8 rfl (lv_at hl 0 rfl) ?_
  refine lv_iload_n C.1 C.2.1 dX9_isAtMost_9 rfl (lv_at hl 3 rfl) ?_
  refine fw_rcalli (va_runV (As := [.int x3]) (rest := [.long x1.toInt64, .long (x2.toInt64 * 1000)]) ⟨C.1, C.2.1, C.2.2.2.2.2.2, C.2.2.2.2.2.1, C.2.2.2.2.1⟩ (soX9_weightOfAll l G ad kt iv ar x3 _  h H.size) (cwV 1 C.2.2.2.2.1 gX9_isAtMost_X9_weightOfAll rfl rfl rfl (by decide +kernel) ⟨Nat.le_of_ble_eq_true rfl, Nat.le_of_ble_eq_true rfl⟩) (fw_preV hG hK (ci := 9) rfl kw_o9) rfl rfl hl.1 rfl (lv_room (Nat.le_of_ble_eq_true rfl)) dX9_isAtMost_10 ⟨Nat.zero_le _, Nat.zero_le _⟩) hG hK (fun r1  H locs h hG => ?_)
  refine lv_i2l C.1 C.2.1 dX9_isAtMost_13 rfl ?_
  refine lv_lmul C.1 C.2.1 dX9_isAtMost_14 ?_
  refine W.lcmp C.1 C.2.1 dX9_isAtMost_15 ?_
  refine lv_if_gt (tgt := 23) C.1 C.2.1 dX9_isAtMost_16 (by decide) (fun c2 => ?_) (fun c2 => ?_)
  · have h := h.1 c2
    refine lv_iconst (v := 0) C.1 C.2.1 dX9_isAtMost_23 (by decide) ?_
    exact fw_zret C hG (by decide) ⟨h, rfl, rfl⟩ dX9_isAtMost_24
  · have h := h.2 c2
    refine lv_iconst (v := 1) C.1 C.2.1 dX9_isAtMost_19 (by decide) ?_
    refine lv_goto (tgt := 24) C.1 C.2.1 dX9_isAtMost_20 (by decide) ?_
    exact fw_zret C hG (by decide) ⟨h, rfl, rfl⟩ dX9_isAtMost_24
/-! KnifeBoard.isAllowed(III)Z -/
def rmX9_isAllowed : Room := { frames := 5, cells := 0, slots := 0, locals := 125 }
def wpX9_isAllowed (kt : kw_T) (iv : fw_F) (ar : fw_R) (x1 : Int32) (x2 : Int32) (x3 : Int32) (Q : Int32 → Prop) : Prop := wpX0_rowOf kt iv ar x1 (fun (r1 : Int32) => wpX0_columnOf kt iv ar x1 (fun (r2 : Int32) => wpX0_letterAt kt iv ar r1 r2 0 (fun (r3 : Int32) => (r3 = 0 → (wpX9_weightTo kt iv ar 12 x1 x3 0 (fun (r5 : Int32) => wpX9_isAtMost kt iv ar x2 r5 x3 (fun (r6 : Int32) => (r6 = 0 ∨ r6 = 1) ∧ Q r6)))) ∧ (¬ r3 = 0 → (Q 0)))))
set_option maxHeartbeats 4000000 in
set_option maxRecDepth 100000 in
theorem soX9_isAllowed (l : Launch) (G : fw_G) (ad : Nat → Nat) (kt : kw_T) (iv : fw_F) (ar : fw_R) (x1 : Int32) (x2 : Int32) (x3 : Int32) (Q : Int32 → Prop)  (h : wpX9_isAllowed kt iv ar x1 x2 x3 Q) : fw_M l G (kw G ad kt) yX9_isAllowed wsX9_isAllowed rmX9_isAllowed [.ref (ad 0), .int x1, .int x2, .int x3] iv ar (fw_Qi G (kw G ad kt) (fun r iv1 ar1 => Q r ∧ iv = iv1 ∧ ar = ar1)) := by
  refine fw_start (cc := cX9_isAllowed) (nL := 4) (rt := (some .boolean)) (by decide) rfl (Nat.le_of_ble_eq_true rfl) ?_
  intro p e s m below meth c A ls H locs C hK hG hl
  obtain ⟨args, ea⟩ : ∃ z : Array Value, z = ([.ref (ad 0), .int x1, .int x2, .int x3] : List Value).toArray := ⟨_, rfl⟩
  rw [← ea] at C ⊢
  have C : fw_C p s m args meth c cX9_isAllowed 4 (some .boolean) wsX9_isAllowed RX9 := C
  have hl : lv_has ls 4 [(0, .ref (ad 0)), (1, .int x1), (2, .int x2), (3, .int x3)] := hl
  unfold wpX9_isAllowed at h
  have in_X9 : ∀ x ∈ wsX90, x ∈ wsX9_isAllowed := by decide +kernel
  have k31 := C.2.2.2.2.1 (.fieldLink RX9 31 "KnifeBoard" "theBoard" "LKnifeBoard$Board;") (by decide +kernel)
  refine lv_aload_n C.1 C.2.1 dX9_isAllowed_0 rfl (lv_at hl 0 rfl) ?_
  refine fw_get (w := (kw G ad kt)) C in_X9 hK hG 0 kw_o9 rfl 3 (by decide) k31 rfl rfl dX9_isAllowed_1 ?_
  refine lv_aload_n C.1 C.2.1 dX9_isAllowed_4 rfl (lv_at hl 0 rfl) ?_
  refine fw_get (w := (kw G ad kt)) C in_X9 hK hG 0 kw_o9 rfl 3 (by decide) k31 rfl rfl dX9_isAllowed_5 ?_
  refine lv_iload_n C.1 C.2.1 dX9_isAllowed_8 rfl (lv_at hl 1 rfl) ?_
  refine fw_rcalli (va_runV (As := [.int x1]) (rest := [.ref (ad 4)]) ⟨C.1, C.2.1, C.2.2.2.2.2.2, C.2.2.2.2.2.1, C.2.2.2.2.1⟩ (soX0_rowOf l G ad kt iv ar x1 _  h H.size) (cwV 1 C.2.2.2.2.1 gX9_isAllowed_X0_rowOf rfl rfl rfl (by decide +kernel) ⟨Nat.le_of_ble_eq_true rfl, Nat.le_of_ble_eq_true rfl⟩) (fw_preV hG hK (ci := 0) rfl kw_o0) rfl rfl hl.1 rfl (lv_room (Nat.le_of_ble_eq_true rfl)) dX9_isAllowed_9 ⟨Nat.zero_le _, Nat.zero_le _⟩) hG hK (fun r1  H locs h hG => ?_)
  refine lv_aload_n C.1 C.2.1 dX9_isAllowed_12 rfl (lv_at hl 0 rfl) ?_
  refine fw_get (w := (kw G ad kt)) C in_X9 hK hG 0 kw_o9 rfl 3 (by decide) k31 rfl rfl dX9_isAllowed_13 ?_
  refine lv_iload_n C.1 C.2.1 dX9_isAllowed_16 rfl (lv_at hl 1 rfl) ?_
  refine fw_rcalli (va_runV (As := [.int x1]) (rest := [.int r1, .ref (ad 4)]) ⟨C.1, C.2.1, C.2.2.2.2.2.2, C.2.2.2.2.2.1, C.2.2.2.2.1⟩ (soX0_columnOf l G ad kt iv ar x1 _  h H.size) (cwV 1 C.2.2.2.2.1 gX9_isAllowed_X0_columnOf rfl rfl rfl (by decide +kernel) ⟨Nat.le_of_ble_eq_true rfl, Nat.le_of_ble_eq_true rfl⟩) (fw_preV hG hK (ci := 0) rfl kw_o0) rfl rfl hl.1 rfl (lv_room (Nat.le_of_ble_eq_true rfl)) dX9_isAllowed_17 ⟨Nat.zero_le _, Nat.zero_le _⟩) hG hK (fun r2  H locs h hG => ?_)
  refine lv_iconst (v := 0) C.1 C.2.1 dX9_isAllowed_20 (by decide) ?_
  refine fw_rcalli (va_runV (As := [.int r1, .int r2, .int 0]) (rest := []) ⟨C.1, C.2.1, C.2.2.2.2.2.2, C.2.2.2.2.2.1, C.2.2.2.2.1⟩ (soX0_letterAt l G ad kt iv ar r1 r2 0 _  h H.size) (cwV 3 C.2.2.2.2.1 gX9_isAllowed_X0_letterAt rfl rfl rfl (by decide +kernel) ⟨Nat.le_of_ble_eq_true rfl, Nat.le_of_ble_eq_true rfl⟩) (fw_preV hG hK (ci := 0) rfl kw_o0) rfl rfl hl.1 rfl (lv_room (Nat.le_of_ble_eq_true rfl)) dX9_isAllowed_21 ⟨Nat.zero_le _, Nat.zero_le _⟩) hG hK (fun r3  H locs h hG => ?_)
  refine lv_if_eq (tgt := 29) C.1 C.2.1 dX9_isAllowed_24 (by decide) (fun c4 => ?_) (fun c4 => ?_)
  · have h := h.1 c4
    refine lv_aload_n C.1 C.2.1 dX9_isAllowed_29 rfl (lv_at hl 0 rfl) ?_
    refine lv_iload_n C.1 C.2.1 dX9_isAllowed_30 rfl (lv_at hl 2 rfl) ?_
    refine lv_aload_n C.1 C.2.1 dX9_isAllowed_31 rfl (lv_at hl 0 rfl) ?_
    refine lv_bipush (v := 12) C.1 C.2.1 dX9_isAllowed_32 (by decide) ?_
    refine lv_iload_n C.1 C.2.1 dX9_isAllowed_34 rfl (lv_at hl 1 rfl) ?_
    refine lv_iload_n C.1 C.2.1 dX9_isAllowed_35 rfl (lv_at hl 3 rfl) ?_
    refine lv_iconst (v := 0) C.1 C.2.1 dX9_isAllowed_36 (by decide) ?_
    refine fw_rcalli (va_runV (As := [.int 12, .int x1, .int x3, .int 0]) (rest := [.int x2, .ref (ad 0)]) ⟨C.1, C.2.1, C.2.2.2.2.2.2, C.2.2.2.2.2.1, C.2.2.2.2.1⟩ (soX9_weightTo l G ad kt iv ar 12 x1 x3 0 _  h H.size) (cwV 4 C.2.2.2.2.1 gX9_isAllowed_X9_weightTo rfl rfl rfl (by decide +kernel) ⟨Nat.le_of_ble_eq_true rfl, Nat.le_of_ble_eq_true rfl⟩) (fw_preV hG hK (ci := 9) rfl kw_o9) rfl rfl hl.1 rfl (lv_room (Nat.le_of_ble_eq_true rfl)) dX9_isAllowed_37 ⟨Nat.zero_le _, Nat.zero_le _⟩) hG hK (fun r5  H locs h hG => ?_)
    refine lv_iload_n C.1 C.2.1 dX9_isAllowed_40 rfl (lv_at hl 3 rfl) ?_
    refine fw_rcalli (va_runV (As := [.int x2, .int r5, .int x3]) (rest := []) ⟨C.1, C.2.1, C.2.2.2.2.2.2, C.2.2.2.2.2.1, C.2.2.2.2.1⟩ (soX9_isAtMost l G ad kt iv ar x2 r5 x3 _  h H.size) (cwV 3 C.2.2.2.2.1 gX9_isAllowed_X9_isAtMost rfl rfl rfl (by decide +kernel) ⟨Nat.le_of_ble_eq_true rfl, Nat.le_of_ble_eq_true rfl⟩) (fw_preV hG hK (ci := 9) rfl kw_o9) rfl rfl hl.1 rfl (lv_room (Nat.le_of_ble_eq_true rfl)) dX9_isAllowed_41 ⟨Nat.zero_le _, Nat.zero_le _⟩) hG hK (fun r6  H locs h hG => ?_)
    obtain ⟨cb, h⟩ := h
    exact fw_zret C hG (fw_nb cb) ⟨h, rfl, rfl⟩ dX9_isAllowed_44
  · have h := h.2 c4
    refine lv_iconst (v := 0) C.1 C.2.1 dX9_isAllowed_27 (by decide) ?_
    exact fw_zret C hG (by decide) ⟨h, rfl, rfl⟩ dX9_isAllowed_28
/-! KnifeBoard.allowed(II)I -/
def rmX9_allowed : Room := { frames := 6, cells := 0, slots := 0, locals := 148 }
def wpX9_allowed_L19 (kt : kw_T) (x1 : Int32) (x2 : Int32) (iv : fw_F) (ar : fw_R) (Q : Int32 → Prop) (K : Int32 → Int32 → Prop) : Nat → Int32 → Int32 → Prop
  | 0, _, _ => False
  | fu + 1, z4, z5 => wpX0_count kt iv ar  (fun (r3 : Int32) => (r3 ≤ z5 → (K z4 z5)) ∧ (¬ r3 ≤ z5 → ((30 < z5 → (K z4 z5)) ∧ (¬ 30 < z5 → (wpX9_isAllowed kt iv ar z5 x1 x2 (fun (r6 : Int32) => (r6 = 0 → (∀ y8 : Int32, y8 = z5 + 1 → (wpX9_allowed_L19 kt x1 x2 iv ar Q K fu z4 y8))) ∧ (¬ r6 = 0 → (∀ y9 : Int32, y9 = z4 ||| ((1 : Int32) <<< (z5 &&& 31)) → (∀ y10 : Int32, y10 = z5 + 1 → (wpX9_allowed_L19 kt x1 x2 iv ar Q K fu y9 y10))))))))))
def wpX9_allowed (kt : kw_T) (iv : fw_F) (ar : fw_R) (x1 : Int32) (x2 : Int32) (Q : Int32 → Prop) : Prop := wpX9_refusesRule kt iv ar x1 x2 (fun (r1 : Int32) => (r1 = 0 → (∃ ku : Nat, wpX9_allowed_L19 kt x1 x2 iv ar Q (fun (w11 : Int32) (w12 : Int32) => Q w11) ku 0 0)) ∧ (¬ r1 = 0 → (Q r1)))
set_option maxHeartbeats 4000000 in
set_option maxRecDepth 100000 in
theorem soX9_allowed_L19 {p : Program} {l : Launch} {e : Env} {s : State} {m : MethodId} {args : Array Value} {below : List Frame} {meth : Method} {c : Code} {A : Nat → Prop} {G : fw_G} {ad : Nat → Nat} {kt : kw_T} {x1 : Int32} {x2 : Int32} {iv : fw_F} {ar : fw_R} {Q : Int32 → Prop} {K : Int32 → Int32 → Prop} (C : fw_C p s m args meth c cX9_allowed 6 (some .int) wsX9_allowed RX9) (hK : fw_K G A s)  (hX : ∀ (z4 : Int32) (z5 : Int32), K z4 z5 → ∀ (H : Heap) (locs : List Loc), fw_H G ((kw G ad kt) iv ar) A s H locs → ∀ (ls : Array Slot), lv_has ls 6 [(5, .int z5), (4, .int z4), (0, .ref (ad 0)), (1, .int x1), (2, .int x2)] → W p l e rmX9_allowed s m args below meth c H locs 0 0 (MQ below (fw_Qi G (kw G ad kt) (fun r iv1 ar1 => Q r ∧ iv = iv1 ∧ ar = ar1) A) args s 0 0 A) (F0 m 64 ls [])) : ∀ (fu : Nat) (z4 : Int32) (z5 : Int32), wpX9_allowed_L19 kt x1 x2 iv ar Q K fu z4 z5 → ∀ (H : Heap) (locs : List Loc), fw_H G ((kw G ad kt) iv ar) A s H locs → ∀ (ls : Array Slot), lv_has ls 6 [(5, .int z5), (4, .int z4), (0, .ref (ad 0)), (1, .int x1), (2, .int x2)] → W p l e rmX9_allowed s m args below meth c H locs 0 0 (MQ below (fw_Qi G (kw G ad kt) (fun r iv1 ar1 => Q r ∧ iv = iv1 ∧ ar = ar1) A) args s 0 0 A) (F0 m 19 ls []) := by
  intro fu
  have in_X9 : ∀ x ∈ wsX90, x ∈ wsX9_allowed := by decide +kernel
  have k31 := C.2.2.2.2.1 (.fieldLink RX9 31 "KnifeBoard" "theBoard" "LKnifeBoard$Board;") (by decide +kernel)
  induction fu with
  | zero => intro z4 z5 h; exact h.elim
  | succ fu ih =>
    intro z4 z5 h H locs hG ls hl
    unfold wpX9_allowed_L19 at h
    refine lv_iload C.1 C.2.1 dX9_allowed_19 (lv_at hl 0 rfl) ?_
    refine lv_aload_n C.1 C.2.1 dX9_allowed_21 rfl (lv_at hl 2 rfl) ?_
    refine fw_get (w := (kw G ad kt)) C in_X9 hK hG 0 kw_o9 rfl 3 (by decide) k31 rfl rfl dX9_allowed_22 ?_
    refine fw_rcalli (va_runV (As := []) (rest := [.int z5]) ⟨C.1, C.2.1, C.2.2.2.2.2.2, C.2.2.2.2.2.1, C.2.2.2.2.1⟩ (soX0_count l G ad kt iv ar  _  h H.size) (cwV 0 C.2.2.2.2.1 gX9_allowed_X0_count rfl rfl rfl (by decide +kernel) ⟨Nat.le_of_ble_eq_true rfl, Nat.le_of_ble_eq_true rfl⟩) (fw_preV hG hK (ci := 0) rfl kw_o0) rfl rfl hl.1 rfl (lv_room (Nat.le_of_ble_eq_true rfl)) dX9_allowed_25 ⟨Nat.zero_le _, Nat.zero_le _⟩) hG hK (fun r3  H locs h hG => ?_)
    refine lv_icmp_ge (tgt := 64) C.1 C.2.1 dX9_allowed_28 (by decide) (fun c4 => ?_) (fun c4 => ?_)
    · have h := h.1 c4
      exact hX _ _ h _ _ hG ls (lv_sub hl [0, 1, 2, 3, 4] rfl)
    · have h := h.2 c4
      refine lv_iload C.1 C.2.1 dX9_allowed_31 (lv_at hl 0 rfl) ?_
      refine lv_bipush (v := 30) C.1 C.2.1 dX9_allowed_33 (by decide) ?_
      refine lv_icmp_gt (tgt := 64) C.1 C.2.1 dX9_allowed_35 (by decide) (fun c5 => ?_) (fun c5 => ?_)
      · have h := h.1 c5
        exact hX _ _ h _ _ hG ls (lv_sub hl [0, 1, 2, 3, 4] rfl)
      · have h := h.2 c5
        refine lv_aload_n C.1 C.2.1 dX9_allowed_38 rfl (lv_at hl 2 rfl) ?_
        refine lv_iload C.1 C.2.1 dX9_allowed_39 (lv_at hl 0 rfl) ?_
        refine lv_iload_n C.1 C.2.1 dX9_allowed_41 rfl (lv_at hl 3 rfl) ?_
        refine lv_iload_n C.1 C.2.1 dX9_allowed_42 rfl (lv_at hl 4 rfl) ?_
        refine fw_rcalli (va_runV (As := [.int z5, .int x1, .int x2]) (rest := []) ⟨C.1, C.2.1, C.2.2.2.2.2.2, C.2.2.2.2.2.1, C.2.2.2.2.1⟩ (soX9_isAllowed l G ad kt iv ar z5 x1 x2 _  h H.size) (cwV 3 C.2.2.2.2.1 gX9_allowed_X9_isAllowed rfl rfl rfl (by decide +kernel) ⟨Nat.le_of_ble_eq_true rfl, Nat.le_of_ble_eq_true rfl⟩) (fw_preV hG hK (ci := 9) rfl kw_o9) rfl rfl hl.1 rfl (lv_room (Nat.le_of_ble_eq_true rfl)) dX9_allowed_43 ⟨Nat.zero_le _, Nat.zero_le _⟩) hG hK (fun r6  H locs h hG => ?_)
        refine lv_if_eq (tgt := 58) C.1 C.2.1 dX9_allowed_46 (by decide) (fun c7 => ?_) (fun c7 => ?_)
        · have h := h.1 c7
          obtain ⟨y8, ey8⟩ : ∃ z : Int32, z = z5 + 1 := ⟨_, rfl⟩
          have h := h y8 ey8
          refine lv_iinc (v := y8) (lv' := [(5, .int y8), (4, .int z4), (0, .ref (ad 0)), (1, .int x1), (2, .int x2)]) C.1 C.2.1 dX9_allowed_58 hl (k := 0) rfl (by rw [ey8]; rfl) (by decide) rfl (fun ls hl => ?_)
          refine lv_goto (tgt := 19) C.1 C.2.1 dX9_allowed_61 (by decide) ?_
          exact ih _ _ h _ _ hG ls (lv_sub hl [0, 1, 2, 3, 4] rfl)
        · have h := h.2 c7
          refine lv_iload C.1 C.2.1 dX9_allowed_49 (lv_at hl 1 rfl) ?_
          refine lv_iconst (v := 1) C.1 C.2.1 dX9_allowed_51 (by decide) ?_
          refine lv_iload C.1 C.2.1 dX9_allowed_52 (lv_at hl 0 rfl) ?_
          refine lv_ishl C.1 C.2.1 dX9_allowed_54 ?_
          refine lv_ior C.1 C.2.1 dX9_allowed_55 ?_
          refine lv_topi (fun y9 ey9 => ?_)
          have h := h y9 ey9
          refine lv_istore (lv' := [(4, .int y9), (5, .int z5), (0, .ref (ad 0)), (1, .int x1), (2, .int x2)]) C.1 C.2.1 dX9_allowed_56 hl (by decide) rfl (fun ls hl => ?_)
          obtain ⟨y10, ey10⟩ : ∃ z : Int32, z = z5 + 1 := ⟨_, rfl⟩
          have h := h y10 ey10
          refine lv_iinc (v := y10) (lv' := [(5, .int y10), (4, .int y9), (0, .ref (ad 0)), (1, .int x1), (2, .int x2)]) C.1 C.2.1 dX9_allowed_58 hl (k := 1) rfl (by rw [ey10]; rfl) (by decide) rfl (fun ls hl => ?_)
          refine lv_goto (tgt := 19) C.1 C.2.1 dX9_allowed_61 (by decide) ?_
          exact ih _ _ h _ _ hG ls (lv_sub hl [0, 1, 2, 3, 4] rfl)

set_option maxHeartbeats 4000000 in
set_option maxRecDepth 100000 in
theorem soX9_allowed (l : Launch) (G : fw_G) (ad : Nat → Nat) (kt : kw_T) (iv : fw_F) (ar : fw_R) (x1 : Int32) (x2 : Int32) (Q : Int32 → Prop)  (h : wpX9_allowed kt iv ar x1 x2 Q) : fw_M l G (kw G ad kt) yX9_allowed wsX9_allowed rmX9_allowed [.ref (ad 0), .int x1, .int x2] iv ar (fw_Qi G (kw G ad kt) (fun r iv1 ar1 => Q r ∧ iv = iv1 ∧ ar = ar1)) := by
  refine fw_start (cc := cX9_allowed) (nL := 6) (rt := (some .int)) (by decide) rfl (Nat.le_of_ble_eq_true rfl) ?_
  intro p e s m below meth c A ls H locs C hK hG hl
  obtain ⟨args, ea⟩ : ∃ z : Array Value, z = ([.ref (ad 0), .int x1, .int x2] : List Value).toArray := ⟨_, rfl⟩
  rw [← ea] at C ⊢
  have C : fw_C p s m args meth c cX9_allowed 6 (some .int) wsX9_allowed RX9 := C
  have hl : lv_has ls 6 [(0, .ref (ad 0)), (1, .int x1), (2, .int x2)] := hl
  unfold wpX9_allowed at h
  refine lv_aload_n C.1 C.2.1 dX9_allowed_0 rfl (lv_at hl 0 rfl) ?_
  refine lv_iload_n C.1 C.2.1 dX9_allowed_1 rfl (lv_at hl 1 rfl) ?_
  refine lv_iload_n C.1 C.2.1 dX9_allowed_2 rfl (lv_at hl 2 rfl) ?_
  refine fw_rcalli (va_runV (As := [.int x1, .int x2]) (rest := []) ⟨C.1, C.2.1, C.2.2.2.2.2.2, C.2.2.2.2.2.1, C.2.2.2.2.1⟩ (soX9_refusesRule l G ad kt iv ar x1 x2 _  h H.size) (cwV 2 C.2.2.2.2.1 gX9_allowed_X9_refusesRule rfl rfl rfl (by decide +kernel) ⟨Nat.le_of_ble_eq_true rfl, Nat.le_of_ble_eq_true rfl⟩) (fw_preV hG hK (ci := 9) rfl kw_o9) rfl rfl hl.1 rfl (lv_room (Nat.le_of_ble_eq_true rfl)) dX9_allowed_3 ⟨Nat.zero_le _, Nat.zero_le _⟩) hG hK (fun r1  H locs h hG => ?_)
  refine lv_istore_n (lv' := [(3, .int r1), (0, .ref (ad 0)), (1, .int x1), (2, .int x2)]) C.1 C.2.1 dX9_allowed_6 rfl hl (by decide) rfl (fun ls hl => ?_)
  refine lv_iload_n C.1 C.2.1 dX9_allowed_7 rfl (lv_at hl 0 rfl) ?_
  refine lv_if_eq (tgt := 13) C.1 C.2.1 dX9_allowed_8 (by decide) (fun c2 => ?_) (fun c2 => ?_)
  · have h := h.1 c2
    refine lv_iconst (v := 0) C.1 C.2.1 dX9_allowed_13 (by decide) ?_
    refine lv_istore (lv' := [(4, .int 0), (3, .int r1), (0, .ref (ad 0)), (1, .int x1), (2, .int x2)]) C.1 C.2.1 dX9_allowed_14 hl (by decide) rfl (fun ls hl => ?_)
    refine lv_iconst (v := 0) C.1 C.2.1 dX9_allowed_16 (by decide) ?_
    refine lv_istore (lv' := [(5, .int 0), (4, .int 0), (3, .int r1), (0, .ref (ad 0)), (1, .int x1), (2, .int x2)]) C.1 C.2.1 dX9_allowed_17 hl (by decide) rfl (fun ls hl => ?_)
    obtain ⟨ku, h⟩ := h
    refine soX9_allowed_L19 C hK  ?_ ku _ _ h _ _ hG ls (lv_sub hl [0, 1, 3, 4, 5] rfl)
    intro w11 w12 h H locs hG ls hl
    refine lv_iload C.1 C.2.1 dX9_allowed_64 (lv_at hl 1 rfl) ?_
    exact fw_iret C hG ⟨h, rfl, rfl⟩ dX9_allowed_66
  · have h := h.2 c2
    refine lv_iload_n C.1 C.2.1 dX9_allowed_11 rfl (lv_at hl 0 rfl) ?_
    exact fw_iret C hG ⟨h, rfl, rfl⟩ dX9_allowed_12
/-! KnifeBoard.nearest(II)I -/
def rmX9_nearest : Room := { frames := 6, cells := 0, slots := 0, locals := 148 }
def wpX9_nearest_L23 (kt : kw_T) (x1 : Int32) (x2 : Int32) (iv : fw_F) (ar : fw_R) (Q : Int32 → Prop) (K : Int32 → Int32 → Int32 → Prop) : Nat → Int32 → Int32 → Int32 → Prop
  | 0, _, _, _ => False
  | fu + 1, z4, z5, z6 => wpX0_count kt iv ar  (fun (r3 : Int32) => (r3 ≤ z6 → (K z4 z5 z6)) ∧ (¬ r3 ≤ z6 → (wpX0_hersAbout kt iv ar z6 (fun (r5 : Int32) => (r5 ≤ z5 → (∀ y7 : Int32, y7 = z6 + 1 → (wpX9_nearest_L23 kt x1 x2 iv ar Q K fu z4 z5 y7))) ∧ (¬ r5 ≤ z5 → (wpX9_isAllowed kt iv ar z6 x1 x2 (fun (r8 : Int32) => (r8 = 0 → (∀ y10 : Int32, y10 = z6 + 1 → (wpX9_nearest_L23 kt x1 x2 iv ar Q K fu z4 z5 y10))) ∧ (¬ r8 = 0 → (∀ y11 : Int32, y11 = z6 + 1 → (wpX9_nearest_L23 kt x1 x2 iv ar Q K fu z6 r5 y11))))))))))
def wpX9_nearest (kt : kw_T) (iv : fw_F) (ar : fw_R) (x1 : Int32) (x2 : Int32) (Q : Int32 → Prop) : Prop := wpX9_refusesRule kt iv ar x1 x2 (fun (r1 : Int32) => (r1 = 0 → (∃ ku : Nat, wpX9_nearest_L23 kt x1 x2 iv ar Q (fun (w12 : Int32) (w13 : Int32) (w14 : Int32) => Q w12) ku (-9) (-1) 0)) ∧ (¬ r1 = 0 → (Q r1)))
set_option maxHeartbeats 4000000 in
set_option maxRecDepth 100000 in
theorem soX9_nearest_L23 {p : Program} {l : Launch} {e : Env} {s : State} {m : MethodId} {args : Array Value} {below : List Frame} {meth : Method} {c : Code} {A : Nat → Prop} {G : fw_G} {ad : Nat → Nat} {kt : kw_T} {x1 : Int32} {x2 : Int32} {iv : fw_F} {ar : fw_R} {Q : Int32 → Prop} {K : Int32 → Int32 → Int32 → Prop} (C : fw_C p s m args meth c cX9_nearest 8 (some .int) wsX9_nearest RX9) (hK : fw_K G A s)  (hX : ∀ (z4 : Int32) (z5 : Int32) (z6 : Int32), K z4 z5 z6 → ∀ (H : Heap) (locs : List Loc), fw_H G ((kw G ad kt) iv ar) A s H locs → ∀ (ls : Array Slot), lv_has ls 8 [(6, .int z6), (5, .int z5), (4, .int z4), (0, .ref (ad 0)), (1, .int x1), (2, .int x2)] → W p l e rmX9_nearest s m args below meth c H locs 0 0 (MQ below (fw_Qi G (kw G ad kt) (fun r iv1 ar1 => Q r ∧ iv = iv1 ∧ ar = ar1) A) args s 0 0 A) (F0 m 78 ls [])) : ∀ (fu : Nat) (z4 : Int32) (z5 : Int32) (z6 : Int32), wpX9_nearest_L23 kt x1 x2 iv ar Q K fu z4 z5 z6 → ∀ (H : Heap) (locs : List Loc), fw_H G ((kw G ad kt) iv ar) A s H locs → ∀ (ls : Array Slot), lv_has ls 8 [(6, .int z6), (5, .int z5), (4, .int z4), (0, .ref (ad 0)), (1, .int x1), (2, .int x2)] → W p l e rmX9_nearest s m args below meth c H locs 0 0 (MQ below (fw_Qi G (kw G ad kt) (fun r iv1 ar1 => Q r ∧ iv = iv1 ∧ ar = ar1) A) args s 0 0 A) (F0 m 23 ls []) := by
  intro fu
  have in_X9 : ∀ x ∈ wsX90, x ∈ wsX9_nearest := by decide +kernel
  have k31 := C.2.2.2.2.1 (.fieldLink RX9 31 "KnifeBoard" "theBoard" "LKnifeBoard$Board;") (by decide +kernel)
  induction fu with
  | zero => intro z4 z5 z6 h; exact h.elim
  | succ fu ih =>
    intro z4 z5 z6 h H locs hG ls hl
    unfold wpX9_nearest_L23 at h
    refine lv_iload C.1 C.2.1 dX9_nearest_23 (lv_at hl 0 rfl) ?_
    refine lv_aload_n C.1 C.2.1 dX9_nearest_25 rfl (lv_at hl 3 rfl) ?_
    refine fw_get (w := (kw G ad kt)) C in_X9 hK hG 0 kw_o9 rfl 3 (by decide) k31 rfl rfl dX9_nearest_26 ?_
    refine fw_rcalli (va_runV (As := []) (rest := [.int z6]) ⟨C.1, C.2.1, C.2.2.2.2.2.2, C.2.2.2.2.2.1, C.2.2.2.2.1⟩ (soX0_count l G ad kt iv ar  _  h H.size) (cwV 0 C.2.2.2.2.1 gX9_nearest_X0_count rfl rfl rfl (by decide +kernel) ⟨Nat.le_of_ble_eq_true rfl, Nat.le_of_ble_eq_true rfl⟩) (fw_preV hG hK (ci := 0) rfl kw_o0) rfl rfl hl.1 rfl (lv_room (Nat.le_of_ble_eq_true rfl)) dX9_nearest_29 ⟨Nat.zero_le _, Nat.zero_le _⟩) hG hK (fun r3  H locs h hG => ?_)
    refine lv_icmp_ge (tgt := 78) C.1 C.2.1 dX9_nearest_32 (by decide) (fun c4 => ?_) (fun c4 => ?_)
    · have h := h.1 c4
      exact hX _ _ _ h _ _ hG ls (lv_sub hl [0, 1, 2, 3, 4, 5] rfl)
    · have h := h.2 c4
      refine lv_aload_n C.1 C.2.1 dX9_nearest_35 rfl (lv_at hl 3 rfl) ?_
      refine fw_get (w := (kw G ad kt)) C in_X9 hK hG 0 kw_o9 rfl 3 (by decide) k31 rfl rfl dX9_nearest_36 ?_
      refine lv_iload C.1 C.2.1 dX9_nearest_39 (lv_at hl 0 rfl) ?_
      refine fw_rcalli (va_runV (As := [.int z6]) (rest := []) ⟨C.1, C.2.1, C.2.2.2.2.2.2, C.2.2.2.2.2.1, C.2.2.2.2.1⟩ (soX0_hersAbout l G ad kt iv ar z6 _  h H.size) (cwV 1 C.2.2.2.2.1 gX9_nearest_X0_hersAbout rfl rfl rfl (by decide +kernel) ⟨Nat.le_of_ble_eq_true rfl, Nat.le_of_ble_eq_true rfl⟩) (fw_preV hG hK (ci := 0) rfl kw_o0) rfl rfl hl.1 rfl (lv_room (Nat.le_of_ble_eq_true rfl)) dX9_nearest_41 ⟨Nat.zero_le _, Nat.zero_le _⟩) hG hK (fun r5  H locs h hG => ?_)
      refine lv_istore (lv' := [(7, .int r5), (6, .int z6), (5, .int z5), (4, .int z4), (0, .ref (ad 0)), (1, .int x1), (2, .int x2)]) C.1 C.2.1 dX9_nearest_44 hl (by decide) rfl (fun ls hl => ?_)
      refine lv_iload C.1 C.2.1 dX9_nearest_46 (lv_at hl 0 rfl) ?_
      refine lv_iload C.1 C.2.1 dX9_nearest_48 (lv_at hl 2 rfl) ?_
      refine lv_icmp_le (tgt := 72) C.1 C.2.1 dX9_nearest_50 (by decide) (fun c6 => ?_) (fun c6 => ?_)
      · have h := h.1 c6
        obtain ⟨y7, ey7⟩ : ∃ z : Int32, z = z6 + 1 := ⟨_, rfl⟩
        have h := h y7 ey7
        refine lv_iinc (v := y7) (lv' := [(6, .int y7), (7, .int r5), (5, .int z5), (4, .int z4), (0, .ref (ad 0)), (1, .int x1), (2, .int x2)]) C.1 C.2.1 dX9_nearest_72 hl (k := 1) rfl (by rw [ey7]; rfl) (by decide) rfl (fun ls hl => ?_)
        refine lv_goto (tgt := 23) C.1 C.2.1 dX9_nearest_75 (by decide) ?_
        exact ih _ _ _ h _ _ hG ls (lv_sub hl [0, 2, 3, 4, 5, 6] rfl)
      · have h := h.2 c6
        refine lv_aload_n C.1 C.2.1 dX9_nearest_53 rfl (lv_at hl 4 rfl) ?_
        refine lv_iload C.1 C.2.1 dX9_nearest_54 (lv_at hl 1 rfl) ?_
        refine lv_iload_n C.1 C.2.1 dX9_nearest_56 rfl (lv_at hl 5 rfl) ?_
        refine lv_iload_n C.1 C.2.1 dX9_nearest_57 rfl (lv_at hl 6 rfl) ?_
        refine fw_rcalli (va_runV (As := [.int z6, .int x1, .int x2]) (rest := []) ⟨C.1, C.2.1, C.2.2.2.2.2.2, C.2.2.2.2.2.1, C.2.2.2.2.1⟩ (soX9_isAllowed l G ad kt iv ar z6 x1 x2 _  h H.size) (cwV 3 C.2.2.2.2.1 gX9_nearest_X9_isAllowed rfl rfl rfl (by decide +kernel) ⟨Nat.le_of_ble_eq_true rfl, Nat.le_of_ble_eq_true rfl⟩) (fw_preV hG hK (ci := 9) rfl kw_o9) rfl rfl hl.1 rfl (lv_room (Nat.le_of_ble_eq_true rfl)) dX9_nearest_58 ⟨Nat.zero_le _, Nat.zero_le _⟩) hG hK (fun r8  H locs h hG => ?_)
        refine lv_if_eq (tgt := 72) C.1 C.2.1 dX9_nearest_61 (by decide) (fun c9 => ?_) (fun c9 => ?_)
        · have h := h.1 c9
          obtain ⟨y10, ey10⟩ : ∃ z : Int32, z = z6 + 1 := ⟨_, rfl⟩
          have h := h y10 ey10
          refine lv_iinc (v := y10) (lv' := [(6, .int y10), (7, .int r5), (5, .int z5), (4, .int z4), (0, .ref (ad 0)), (1, .int x1), (2, .int x2)]) C.1 C.2.1 dX9_nearest_72 hl (k := 1) rfl (by rw [ey10]; rfl) (by decide) rfl (fun ls hl => ?_)
          refine lv_goto (tgt := 23) C.1 C.2.1 dX9_nearest_75 (by decide) ?_
          exact ih _ _ _ h _ _ hG ls (lv_sub hl [0, 2, 3, 4, 5, 6] rfl)
        · have h := h.2 c9
          refine lv_iload C.1 C.2.1 dX9_nearest_64 (lv_at hl 0 rfl) ?_
          refine lv_istore (lv' := [(5, .int r5), (7, .int r5), (6, .int z6), (4, .int z4), (0, .ref (ad 0)), (1, .int x1), (2, .int x2)]) C.1 C.2.1 dX9_nearest_66 hl (by decide) rfl (fun ls hl => ?_)
          refine lv_iload C.1 C.2.1 dX9_nearest_68 (lv_at hl 2 rfl) ?_
          refine lv_istore (lv' := [(4, .int z6), (5, .int r5), (7, .int r5), (6, .int z6), (0, .ref (ad 0)), (1, .int x1), (2, .int x2)]) C.1 C.2.1 dX9_nearest_70 hl (by decide) rfl (fun ls hl => ?_)
          obtain ⟨y11, ey11⟩ : ∃ z : Int32, z = z6 + 1 := ⟨_, rfl⟩
          have h := h y11 ey11
          refine lv_iinc (v := y11) (lv' := [(6, .int y11), (4, .int z6), (5, .int r5), (7, .int r5), (0, .ref (ad 0)), (1, .int x1), (2, .int x2)]) C.1 C.2.1 dX9_nearest_72 hl (k := 3) rfl (by rw [ey11]; rfl) (by decide) rfl (fun ls hl => ?_)
          refine lv_goto (tgt := 23) C.1 C.2.1 dX9_nearest_75 (by decide) ?_
          exact ih _ _ _ h _ _ hG ls (lv_sub hl [0, 2, 1, 4, 5, 6] rfl)

set_option maxHeartbeats 4000000 in
set_option maxRecDepth 100000 in
theorem soX9_nearest (l : Launch) (G : fw_G) (ad : Nat → Nat) (kt : kw_T) (iv : fw_F) (ar : fw_R) (x1 : Int32) (x2 : Int32) (Q : Int32 → Prop)  (h : wpX9_nearest kt iv ar x1 x2 Q) : fw_M l G (kw G ad kt) yX9_nearest wsX9_nearest rmX9_nearest [.ref (ad 0), .int x1, .int x2] iv ar (fw_Qi G (kw G ad kt) (fun r iv1 ar1 => Q r ∧ iv = iv1 ∧ ar = ar1)) := by
  refine fw_start (cc := cX9_nearest) (nL := 8) (rt := (some .int)) (by decide) rfl (Nat.le_of_ble_eq_true rfl) ?_
  intro p e s m below meth c A ls H locs C hK hG hl
  obtain ⟨args, ea⟩ : ∃ z : Array Value, z = ([.ref (ad 0), .int x1, .int x2] : List Value).toArray := ⟨_, rfl⟩
  rw [← ea] at C ⊢
  have C : fw_C p s m args meth c cX9_nearest 8 (some .int) wsX9_nearest RX9 := C
  have hl : lv_has ls 8 [(0, .ref (ad 0)), (1, .int x1), (2, .int x2)] := hl
  unfold wpX9_nearest at h
  refine lv_aload_n C.1 C.2.1 dX9_nearest_0 rfl (lv_at hl 0 rfl) ?_
  refine lv_iload_n C.1 C.2.1 dX9_nearest_1 rfl (lv_at hl 1 rfl) ?_
  refine lv_iload_n C.1 C.2.1 dX9_nearest_2 rfl (lv_at hl 2 rfl) ?_
  refine fw_rcalli (va_runV (As := [.int x1, .int x2]) (rest := []) ⟨C.1, C.2.1, C.2.2.2.2.2.2, C.2.2.2.2.2.1, C.2.2.2.2.1⟩ (soX9_refusesRule l G ad kt iv ar x1 x2 _  h H.size) (cwV 2 C.2.2.2.2.1 gX9_nearest_X9_refusesRule rfl rfl rfl (by decide +kernel) ⟨Nat.le_of_ble_eq_true rfl, Nat.le_of_ble_eq_true rfl⟩) (fw_preV hG hK (ci := 9) rfl kw_o9) rfl rfl hl.1 rfl (lv_room (Nat.le_of_ble_eq_true rfl)) dX9_nearest_3 ⟨Nat.zero_le _, Nat.zero_le _⟩) hG hK (fun r1  H locs h hG => ?_)
  refine lv_istore_n (lv' := [(3, .int r1), (0, .ref (ad 0)), (1, .int x1), (2, .int x2)]) C.1 C.2.1 dX9_nearest_6 rfl hl (by decide) rfl (fun ls hl => ?_)
  refine lv_iload_n C.1 C.2.1 dX9_nearest_7 rfl (lv_at hl 0 rfl) ?_
  refine lv_if_eq (tgt := 13) C.1 C.2.1 dX9_nearest_8 (by decide) (fun c2 => ?_) (fun c2 => ?_)
  · have h := h.1 c2
    refine lv_bipush (v := (-9)) C.1 C.2.1 dX9_nearest_13 (by decide) ?_
    refine lv_istore (lv' := [(4, .int (-9)), (3, .int r1), (0, .ref (ad 0)), (1, .int x1), (2, .int x2)]) C.1 C.2.1 dX9_nearest_15 hl (by decide) rfl (fun ls hl => ?_)
    refine lv_iconst (v := (-1)) C.1 C.2.1 dX9_nearest_17 (by decide) ?_
    refine lv_istore (lv' := [(5, .int (-1)), (4, .int (-9)), (3, .int r1), (0, .ref (ad 0)), (1, .int x1), (2, .int x2)]) C.1 C.2.1 dX9_nearest_18 hl (by decide) rfl (fun ls hl => ?_)
    refine lv_iconst (v := 0) C.1 C.2.1 dX9_nearest_20 (by decide) ?_
    refine lv_istore (lv' := [(6, .int 0), (5, .int (-1)), (4, .int (-9)), (3, .int r1), (0, .ref (ad 0)), (1, .int x1), (2, .int x2)]) C.1 C.2.1 dX9_nearest_21 hl (by decide) rfl (fun ls hl => ?_)
    obtain ⟨ku, h⟩ := h
    refine soX9_nearest_L23 C hK  ?_ ku _ _ _ h _ _ hG ls (lv_sub hl [0, 1, 2, 4, 5, 6] rfl)
    intro w12 w13 w14 h H locs hG ls hl
    refine lv_iload C.1 C.2.1 dX9_nearest_78 (lv_at hl 2 rfl) ?_
    exact fw_iret C hG ⟨h, rfl, rfl⟩ dX9_nearest_80
  · have h := h.2 c2
    refine lv_iload_n C.1 C.2.1 dX9_nearest_11 rfl (lv_at hl 0 rfl) ?_
    exact fw_iret C hG ⟨h, rfl, rfl⟩ dX9_nearest_12
/-! KnifeBoard.refusesCells(I)I -/
def rmX9_refusesCells : Room := { frames := 2, cells := 0, slots := 0, locals := 43 }
def wpX9_refusesCells_L2 (kt : kw_T) (x1 : Int32) (iv : fw_F) (ar : fw_R) (Q : Int32 → Prop) (K : Int32 → Prop) : Nat → Int32 → Prop
  | 0, _ => False
  | fu + 1, z2 => (x1 ≤ z2 → (K z2)) ∧ (¬ x1 ≤ z2 → (vp_in z2 80 ∧ (wpX0_knows kt iv ar ((ar 25) z2.toNatClampNeg) (fun (r3 : Int32) => (¬ r3 = 0 → (∀ y5 : Int32, y5 = z2 + 1 → (wpX9_refusesCells_L2 kt x1 iv ar Q K fu y5))) ∧ (r3 = 0 → (Q (-1)))))))
def wpX9_refusesCells_L40 (kt : kw_T) (x1 : Int32) (z2 : Int32) (iv : fw_F) (ar : fw_R) (Q : Int32 → Prop) (K : Int32 → Prop) : Nat → Int32 → Prop
  | 0, _ => False
  | fu + 1, z3 => (z2 ≤ z3 → (K z3)) ∧ (¬ z2 ≤ z3 → (vp_in z3 80 ∧ (vp_in z2 80 ∧ ((¬ ((ar 25) z3.toNatClampNeg) = ((ar 25) z2.toNatClampNeg) → (∀ y12 : Int32, y12 = z3 + 1 → (wpX9_refusesCells_L40 kt x1 z2 iv ar Q K fu y12))) ∧ (((ar 25) z3.toNatClampNeg) = ((ar 25) z2.toNatClampNeg) → (Q (-2)))))))
def wpX9_refusesCells_L33 (kt : kw_T) (x1 : Int32) (iv : fw_F) (ar : fw_R) (Q : Int32 → Prop) (K : Int32 → Prop) : Nat → Int32 → Prop
  | 0, _ => False
  | fu + 1, z2 => (x1 ≤ z2 → (K z2)) ∧ (¬ x1 ≤ z2 → (∃ ku : Nat, wpX9_refusesCells_L40 kt x1 z2 iv ar Q (fun (w13 : Int32) => ∀ y14 : Int32, y14 = z2 + 1 → (wpX9_refusesCells_L33 kt x1 iv ar Q K fu y14)) ku 0))
def wpX9_refusesCells (kt : kw_T) (iv : fw_F) (ar : fw_R) (x1 : Int32) (Q : Int32 → Prop) : Prop := ∃ ku : Nat, wpX9_refusesCells_L2 kt x1 iv ar Q (fun (w6 : Int32) => ∃ ku : Nat, wpX9_refusesCells_L33 kt x1 iv ar Q (fun (w15 : Int32) => Q 0) ku 0) ku 0
set_option maxHeartbeats 4000000 in
set_option maxRecDepth 100000 in
theorem soX9_refusesCells_L2 {p : Program} {l : Launch} {e : Env} {s : State} {m : MethodId} {args : Array Value} {below : List Frame} {meth : Method} {c : Code} {A : Nat → Prop} {G : fw_G} {ad : Nat → Nat} {kt : kw_T} {x1 : Int32} {iv : fw_F} {ar : fw_R} {Q : Int32 → Prop} {K : Int32 → Prop} (C : fw_C p s m args meth c cX9_refusesCells 4 (some .int) wsX9_refusesCells RX9) (hK : fw_K G A s)  (hX : ∀ (z2 : Int32), K z2 → ∀ (H : Heap) (locs : List Loc), fw_H G ((kw G ad kt) iv ar) A s H locs → ∀ (ls : Array Slot), lv_has ls 4 [(2, .int z2), (0, .ref (ad 0)), (1, .int x1)] → W p l e rmX9_refusesCells s m args below meth c H locs 0 0 (MQ below (fw_Qi G (kw G ad kt) (fun r iv1 ar1 => Q r ∧ iv = iv1 ∧ ar = ar1) A) args s 0 0 A) (F0 m 31 ls [])) : ∀ (fu : Nat) (z2 : Int32), wpX9_refusesCells_L2 kt x1 iv ar Q K fu z2 → ∀ (H : Heap) (locs : List Loc), fw_H G ((kw G ad kt) iv ar) A s H locs → ∀ (ls : Array Slot), lv_has ls 4 [(2, .int z2), (0, .ref (ad 0)), (1, .int x1)] → W p l e rmX9_refusesCells s m args below meth c H locs 0 0 (MQ below (fw_Qi G (kw G ad kt) (fun r iv1 ar1 => Q r ∧ iv = iv1 ∧ ar = ar1) A) args s 0 0 A) (F0 m 2 ls []) := by
  intro fu
  have in_X9 : ∀ x ∈ wsX90, x ∈ wsX9_refusesCells := by decide +kernel
  have k31 := C.2.2.2.2.1 (.fieldLink RX9 31 "KnifeBoard" "theBoard" "LKnifeBoard$Board;") (by decide +kernel)
  have k56 := C.2.2.2.2.1 (.fieldLink RX9 56 "KnifeBoard" "taken" "[I") (by decide +kernel)
  induction fu with
  | zero => intro z2 h; exact h.elim
  | succ fu ih =>
    intro z2 h H locs hG ls hl
    unfold wpX9_refusesCells_L2 at h
    refine lv_iload_n C.1 C.2.1 dX9_refusesCells_2 rfl (lv_at hl 0 rfl) ?_
    refine lv_iload_n C.1 C.2.1 dX9_refusesCells_3 rfl (lv_at hl 2 rfl) ?_
    refine lv_icmp_ge (tgt := 31) C.1 C.2.1 dX9_refusesCells_4 (by decide) (fun c1 => ?_) (fun c1 => ?_)
    · have h := h.1 c1
      exact hX _ h _ _ hG ls (lv_sub hl [0, 1, 2] rfl)
    · have h := h.2 c1
      refine lv_aload_n C.1 C.2.1 dX9_refusesCells_7 rfl (lv_at hl 1 rfl) ?_
      refine fw_get (w := (kw G ad kt)) C in_X9 hK hG 0 kw_o9 rfl 3 (by decide) k31 rfl rfl dX9_refusesCells_8 ?_
      refine lv_aload_n C.1 C.2.1 dX9_refusesCells_11 rfl (lv_at hl 1 rfl) ?_
      refine fw_get (w := (kw G ad kt)) C in_X9 hK hG 0 kw_o9 rfl 7 (by decide) k56 rfl rfl dX9_refusesCells_12 ?_
      refine lv_iload_n C.1 C.2.1 dX9_refusesCells_15 rfl (lv_at hl 0 rfl) ?_
      obtain ⟨c2, h⟩ := h
      refine fw_iald (w := (kw G ad kt)) C hK hG 25 kw_a25 c2 dX9_refusesCells_16 ?_
      refine fw_rcalli (va_runV (As := [.int ((ar 25) z2.toNatClampNeg)]) (rest := []) ⟨C.1, C.2.1, C.2.2.2.2.2.2, C.2.2.2.2.2.1, C.2.2.2.2.1⟩ (soX0_knows l G ad kt iv ar ((ar 25) z2.toNatClampNeg) _  h H.size) (cwV 1 C.2.2.2.2.1 gX9_refusesCells_X0_knows rfl rfl rfl (by decide +kernel) ⟨Nat.le_of_ble_eq_true rfl, Nat.le_of_ble_eq_true rfl⟩) (fw_preV hG hK (ci := 0) rfl kw_o0) rfl rfl hl.1 rfl (lv_room (Nat.le_of_ble_eq_true rfl)) dX9_refusesCells_17 ⟨Nat.zero_le _, Nat.zero_le _⟩) hG hK (fun r3  H locs h hG => ?_)
      refine lv_if_ne (tgt := 25) C.1 C.2.1 dX9_refusesCells_20 (by decide) (fun c4 => ?_) (fun c4 => ?_)
      · have h := h.1 c4
        obtain ⟨y5, ey5⟩ : ∃ z : Int32, z = z2 + 1 := ⟨_, rfl⟩
        have h := h y5 ey5
        refine lv_iinc (v := y5) (lv' := [(2, .int y5), (0, .ref (ad 0)), (1, .int x1)]) C.1 C.2.1 dX9_refusesCells_25 hl (k := 0) rfl (by rw [ey5]; rfl) (by decide) rfl (fun ls hl => ?_)
        refine lv_goto (tgt := 2) C.1 C.2.1 dX9_refusesCells_28 (by decide) ?_
        exact ih _ h _ _ hG ls (lv_sub hl [0, 1, 2] rfl)
      · have h := h.2 c4
        refine lv_iconst (v := (-1)) C.1 C.2.1 dX9_refusesCells_23 (by decide) ?_
        exact fw_iret C hG ⟨h, rfl, rfl⟩ dX9_refusesCells_24

set_option maxHeartbeats 4000000 in
set_option maxRecDepth 100000 in
theorem soX9_refusesCells_L40 {p : Program} {l : Launch} {e : Env} {s : State} {m : MethodId} {args : Array Value} {below : List Frame} {meth : Method} {c : Code} {A : Nat → Prop} {G : fw_G} {ad : Nat → Nat} {kt : kw_T} {x1 : Int32} {z2 : Int32} {iv : fw_F} {ar : fw_R} {Q : Int32 → Prop} {K : Int32 → Prop} (C : fw_C p s m args meth c cX9_refusesCells 4 (some .int) wsX9_refusesCells RX9) (hK : fw_K G A s)  (hX : ∀ (z3 : Int32), K z3 → ∀ (H : Heap) (locs : List Loc), fw_H G ((kw G ad kt) iv ar) A s H locs → ∀ (ls : Array Slot), lv_has ls 4 [(3, .int z3), (2, .int z2), (0, .ref (ad 0)), (1, .int x1)] → W p l e rmX9_refusesCells s m args below meth c H locs 0 0 (MQ below (fw_Qi G (kw G ad kt) (fun r iv1 ar1 => Q r ∧ iv = iv1 ∧ ar = ar1) A) args s 0 0 A) (F0 m 69 ls [])) : ∀ (fu : Nat) (z3 : Int32), wpX9_refusesCells_L40 kt x1 z2 iv ar Q K fu z3 → ∀ (H : Heap) (locs : List Loc), fw_H G ((kw G ad kt) iv ar) A s H locs → ∀ (ls : Array Slot), lv_has ls 4 [(3, .int z3), (2, .int z2), (0, .ref (ad 0)), (1, .int x1)] → W p l e rmX9_refusesCells s m args below meth c H locs 0 0 (MQ below (fw_Qi G (kw G ad kt) (fun r iv1 ar1 => Q r ∧ iv = iv1 ∧ ar = ar1) A) args s 0 0 A) (F0 m 40 ls []) := by
  intro fu
  have in_X9 : ∀ x ∈ wsX90, x ∈ wsX9_refusesCells := by decide +kernel
  have k56 := C.2.2.2.2.1 (.fieldLink RX9 56 "KnifeBoard" "taken" "[I") (by decide +kernel)
  induction fu with
  | zero => intro z3 h; exact h.elim
  | succ fu ih =>
    intro z3 h H locs hG ls hl
    unfold wpX9_refusesCells_L40 at h
    refine lv_iload_n C.1 C.2.1 dX9_refusesCells_40 rfl (lv_at hl 0 rfl) ?_
    refine lv_iload_n C.1 C.2.1 dX9_refusesCells_41 rfl (lv_at hl 1 rfl) ?_
    refine lv_icmp_ge (tgt := 69) C.1 C.2.1 dX9_refusesCells_42 (by decide) (fun c8 => ?_) (fun c8 => ?_)
    · have h := h.1 c8
      exact hX _ h _ _ hG ls (lv_sub hl [0, 1, 2, 3] rfl)
    · have h := h.2 c8
      refine lv_aload_n C.1 C.2.1 dX9_refusesCells_45 rfl (lv_at hl 2 rfl) ?_
      refine fw_get (w := (kw G ad kt)) C in_X9 hK hG 0 kw_o9 rfl 7 (by decide) k56 rfl rfl dX9_refusesCells_46 ?_
      refine lv_iload_n C.1 C.2.1 dX9_refusesCells_49 rfl (lv_at hl 0 rfl) ?_
      obtain ⟨c9, h⟩ := h
      refine fw_iald (w := (kw G ad kt)) C hK hG 25 kw_a25 c9 dX9_refusesCells_50 ?_
      refine lv_aload_n C.1 C.2.1 dX9_refusesCells_51 rfl (lv_at hl 2 rfl) ?_
      refine fw_get (w := (kw G ad kt)) C in_X9 hK hG 0 kw_o9 rfl 7 (by decide) k56 rfl rfl dX9_refusesCells_52 ?_
      refine lv_iload_n C.1 C.2.1 dX9_refusesCells_55 rfl (lv_at hl 1 rfl) ?_
      obtain ⟨c10, h⟩ := h
      refine fw_iald (w := (kw G ad kt)) C hK hG 25 kw_a25 c10 dX9_refusesCells_56 ?_
      refine lv_icmp_ne (tgt := 63) C.1 C.2.1 dX9_refusesCells_57 (by decide) (fun c11 => ?_) (fun c11 => ?_)
      · have h := h.1 c11
        obtain ⟨y12, ey12⟩ : ∃ z : Int32, z = z3 + 1 := ⟨_, rfl⟩
        have h := h y12 ey12
        refine lv_iinc (v := y12) (lv' := [(3, .int y12), (2, .int z2), (0, .ref (ad 0)), (1, .int x1)]) C.1 C.2.1 dX9_refusesCells_63 hl (k := 0) rfl (by rw [ey12]; rfl) (by decide) rfl (fun ls hl => ?_)
        refine lv_goto (tgt := 40) C.1 C.2.1 dX9_refusesCells_66 (by decide) ?_
        exact ih _ h _ _ hG ls (lv_sub hl [0, 1, 2, 3] rfl)
      · have h := h.2 c11
        refine lv_bipush (v := (-2)) C.1 C.2.1 dX9_refusesCells_60 (by decide) ?_
        exact fw_iret C hG ⟨h, rfl, rfl⟩ dX9_refusesCells_62

set_option maxHeartbeats 4000000 in
set_option maxRecDepth 100000 in
theorem soX9_refusesCells_L33 {p : Program} {l : Launch} {e : Env} {s : State} {m : MethodId} {args : Array Value} {below : List Frame} {meth : Method} {c : Code} {A : Nat → Prop} {G : fw_G} {ad : Nat → Nat} {kt : kw_T} {x1 : Int32} {iv : fw_F} {ar : fw_R} {Q : Int32 → Prop} {K : Int32 → Prop} (C : fw_C p s m args meth c cX9_refusesCells 4 (some .int) wsX9_refusesCells RX9) (hK : fw_K G A s)  (hX : ∀ (z2 : Int32), K z2 → ∀ (H : Heap) (locs : List Loc), fw_H G ((kw G ad kt) iv ar) A s H locs → ∀ (ls : Array Slot), lv_has ls 4 [(2, .int z2), (0, .ref (ad 0)), (1, .int x1)] → W p l e rmX9_refusesCells s m args below meth c H locs 0 0 (MQ below (fw_Qi G (kw G ad kt) (fun r iv1 ar1 => Q r ∧ iv = iv1 ∧ ar = ar1) A) args s 0 0 A) (F0 m 75 ls [])) : ∀ (fu : Nat) (z2 : Int32), wpX9_refusesCells_L33 kt x1 iv ar Q K fu z2 → ∀ (H : Heap) (locs : List Loc), fw_H G ((kw G ad kt) iv ar) A s H locs → ∀ (ls : Array Slot), lv_has ls 4 [(2, .int z2), (0, .ref (ad 0)), (1, .int x1)] → W p l e rmX9_refusesCells s m args below meth c H locs 0 0 (MQ below (fw_Qi G (kw G ad kt) (fun r iv1 ar1 => Q r ∧ iv = iv1 ∧ ar = ar1) A) args s 0 0 A) (F0 m 33 ls []) := by
  intro fu
  induction fu with
  | zero => intro z2 h; exact h.elim
  | succ fu ih =>
    intro z2 h H locs hG ls hl
    unfold wpX9_refusesCells_L33 at h
    refine lv_iload_n C.1 C.2.1 dX9_refusesCells_33 rfl (lv_at hl 0 rfl) ?_
    refine lv_iload_n C.1 C.2.1 dX9_refusesCells_34 rfl (lv_at hl 2 rfl) ?_
    refine lv_icmp_ge (tgt := 75) C.1 C.2.1 dX9_refusesCells_35 (by decide) (fun c7 => ?_) (fun c7 => ?_)
    · have h := h.1 c7
      exact hX _ h _ _ hG ls (lv_sub hl [0, 1, 2] rfl)
    · have h := h.2 c7
      refine lv_iconst (v := 0) C.1 C.2.1 dX9_refusesCells_38 (by decide) ?_
      refine lv_istore_n (lv' := [(3, .int 0), (2, .int z2), (0, .ref (ad 0)), (1, .int x1)]) C.1 C.2.1 dX9_refusesCells_39 rfl hl (by decide) rfl (fun ls hl => ?_)
      obtain ⟨ku, h⟩ := h
      refine soX9_refusesCells_L40 C hK  ?_ ku _ h _ _ hG ls (lv_sub hl [0, 1, 2, 3] rfl)
      intro w13 h H locs hG ls hl
      obtain ⟨y14, ey14⟩ : ∃ z : Int32, z = z2 + 1 := ⟨_, rfl⟩
      have h := h y14 ey14
      refine lv_iinc (v := y14) (lv' := [(2, .int y14), (3, .int w13), (0, .ref (ad 0)), (1, .int x1)]) C.1 C.2.1 dX9_refusesCells_69 hl (k := 1) rfl (by rw [ey14]; rfl) (by decide) rfl (fun ls hl => ?_)
      refine lv_goto (tgt := 33) C.1 C.2.1 dX9_refusesCells_72 (by decide) ?_
      exact ih _ h _ _ hG ls (lv_sub hl [0, 2, 3] rfl)

set_option maxHeartbeats 4000000 in
set_option maxRecDepth 100000 in
theorem soX9_refusesCells (l : Launch) (G : fw_G) (ad : Nat → Nat) (kt : kw_T) (iv : fw_F) (ar : fw_R) (x1 : Int32) (Q : Int32 → Prop)  (h : wpX9_refusesCells kt iv ar x1 Q) : fw_M l G (kw G ad kt) yX9_refusesCells wsX9_refusesCells rmX9_refusesCells [.ref (ad 0), .int x1] iv ar (fw_Qi G (kw G ad kt) (fun r iv1 ar1 => Q r ∧ iv = iv1 ∧ ar = ar1)) := by
  refine fw_start (cc := cX9_refusesCells) (nL := 4) (rt := (some .int)) (by decide) rfl (Nat.le_of_ble_eq_true rfl) ?_
  intro p e s m below meth c A ls H locs C hK hG hl
  obtain ⟨args, ea⟩ : ∃ z : Array Value, z = ([.ref (ad 0), .int x1] : List Value).toArray := ⟨_, rfl⟩
  rw [← ea] at C ⊢
  have C : fw_C p s m args meth c cX9_refusesCells 4 (some .int) wsX9_refusesCells RX9 := C
  have hl : lv_has ls 4 [(0, .ref (ad 0)), (1, .int x1)] := hl
  unfold wpX9_refusesCells at h
  refine lv_iconst (v := 0) C.1 C.2.1 dX9_refusesCells_0 (by decide) ?_
  refine lv_istore_n (lv' := [(2, .int 0), (0, .ref (ad 0)), (1, .int x1)]) C.1 C.2.1 dX9_refusesCells_1 rfl hl (by decide) rfl (fun ls hl => ?_)
  obtain ⟨ku, h⟩ := h
  refine soX9_refusesCells_L2 C hK  ?_ ku _ h _ _ hG ls (lv_sub hl [0, 1, 2] rfl)
  intro w6 h H locs hG ls hl
  refine lv_iconst (v := 0) C.1 C.2.1 dX9_refusesCells_31 (by decide) ?_
  refine lv_istore_n (lv' := [(2, .int 0), (0, .ref (ad 0)), (1, .int x1)]) C.1 C.2.1 dX9_refusesCells_32 rfl hl (by decide) rfl (fun ls hl => ?_)
  obtain ⟨ku, h⟩ := h
  refine soX9_refusesCells_L33 C hK  ?_ ku _ h _ _ hG ls (lv_sub hl [0, 1, 2] rfl)
  intro w15 h H locs hG ls hl
  refine lv_iconst (v := 0) C.1 C.2.1 dX9_refusesCells_75 (by decide) ?_
  exact fw_iret C hG ⟨h, rfl, rfl⟩ dX9_refusesCells_76
/-! KnifeBoard.millionths(II)I -/
def rmX9_millionths : Room := { frames := 5, cells := 0, slots := 0, locals := 125 }
def wpX9_millionths (kt : kw_T) (iv : fw_F) (ar : fw_R) (x1 : Int32) (x2 : Int32) (Q : Int32 → Prop) : Prop := wpX9_weightOfAll kt iv ar x2 (fun (r1 : Int32) => (0 < r1 → (wpX9_weightTo kt iv ar 12 x1 x2 0 (fun (r3 : Int32) => ¬ r1.toInt64 = 0 ∧ (Q (((r3.toInt64 * 1000000) / r1.toInt64).toInt32))))) ∧ (¬ 0 < r1 → (Q 0)))
set_option maxHeartbeats 4000000 in
set_option maxRecDepth 100000 in
theorem soX9_millionths (l : Launch) (G : fw_G) (ad : Nat → Nat) (kt : kw_T) (iv : fw_F) (ar : fw_R) (x1 : Int32) (x2 : Int32) (Q : Int32 → Prop)  (h : wpX9_millionths kt iv ar x1 x2 Q) : fw_M l G (kw G ad kt) yX9_millionths wsX9_millionths rmX9_millionths [.ref (ad 0), .int x1, .int x2] iv ar (fw_Qi G (kw G ad kt) (fun r iv1 ar1 => Q r ∧ iv = iv1 ∧ ar = ar1)) := by
  refine fw_start (cc := cX9_millionths) (nL := 4) (rt := (some .int)) (by decide) rfl (Nat.le_of_ble_eq_true rfl) ?_
  intro p e s m below meth c A ls H locs C hK hG hl
  obtain ⟨args, ea⟩ : ∃ z : Array Value, z = ([.ref (ad 0), .int x1, .int x2] : List Value).toArray := ⟨_, rfl⟩
  rw [← ea] at C ⊢
  have C : fw_C p s m args meth c cX9_millionths 4 (some .int) wsX9_millionths RX9 := C
  have hl : lv_has ls 4 [(0, .ref (ad 0)), (1, .int x1), (2, .int x2)] := hl
  unfold wpX9_millionths at h
  have k339 := C.2.2.2.2.1 (.constantLong RX9 339 1000000) (by decide +kernel)
  refine lv_aload_n C.1 C.2.1 dX9_millionths_0 rfl (lv_at hl 0 rfl) ?_
  refine lv_iload_n C.1 C.2.1 dX9_millionths_1 rfl (lv_at hl 2 rfl) ?_
  refine fw_rcalli (va_runV (As := [.int x2]) (rest := []) ⟨C.1, C.2.1, C.2.2.2.2.2.2, C.2.2.2.2.2.1, C.2.2.2.2.1⟩ (soX9_weightOfAll l G ad kt iv ar x2 _  h H.size) (cwV 1 C.2.2.2.2.1 gX9_millionths_X9_weightOfAll rfl rfl rfl (by decide +kernel) ⟨Nat.le_of_ble_eq_true rfl, Nat.le_of_ble_eq_true rfl⟩) (fw_preV hG hK (ci := 9) rfl kw_o9) rfl rfl hl.1 rfl (lv_room (Nat.le_of_ble_eq_true rfl)) dX9_millionths_2 ⟨Nat.zero_le _, Nat.zero_le _⟩) hG hK (fun r1  H locs h hG => ?_)
  refine lv_istore_n (lv' := [(3, .int r1), (0, .ref (ad 0)), (1, .int x1), (2, .int x2)]) C.1 C.2.1 dX9_millionths_5 rfl hl (by decide) rfl (fun ls hl => ?_)
  refine lv_iload_n C.1 C.2.1 dX9_millionths_6 rfl (lv_at hl 0 rfl) ?_
  refine lv_if_gt (tgt := 12) C.1 C.2.1 dX9_millionths_7 (by decide) (fun c2 => ?_) (fun c2 => ?_)
  · have h := h.1 c2
    refine lv_aload_n C.1 C.2.1 dX9_millionths_12 rfl (lv_at hl 1 rfl) ?_
    refine lv_bipush (v := 12) C.1 C.2.1 dX9_millionths_13 (by decide) ?_
    refine lv_iload_n C.1 C.2.1 dX9_millionths_15 rfl (lv_at hl 2 rfl) ?_
    refine lv_iload_n C.1 C.2.1 dX9_millionths_16 rfl (lv_at hl 3 rfl) ?_
    refine lv_iconst (v := 0) C.1 C.2.1 dX9_millionths_17 (by decide) ?_
    refine fw_rcalli (va_runV (As := [.int 12, .int x1, .int x2, .int 0]) (rest := []) ⟨C.1, C.2.1, C.2.2.2.2.2.2, C.2.2.2.2.2.1, C.2.2.2.2.1⟩ (soX9_weightTo l G ad kt iv ar 12 x1 x2 0 _  h H.size) (cwV 4 C.2.2.2.2.1 gX9_millionths_X9_weightTo rfl rfl rfl (by decide +kernel) ⟨Nat.le_of_ble_eq_true rfl, Nat.le_of_ble_eq_true rfl⟩) (fw_preV hG hK (ci := 9) rfl kw_o9) rfl rfl hl.1 rfl (lv_room (Nat.le_of_ble_eq_true rfl)) dX9_millionths_18 ⟨Nat.zero_le _, Nat.zero_le _⟩) hG hK (fun r3  H locs h hG => ?_)
    refine lv_i2l C.1 C.2.1 dX9_millionths_21 rfl ?_
    refine lv_ldc2 C.1 C.2.1 C.2.2.2.2.2.1 k339 dX9_millionths_22 ?_
    refine lv_lmul C.1 C.2.1 dX9_millionths_25 ?_
    refine lv_iload_n C.1 C.2.1 dX9_millionths_26 rfl (lv_at hl 0 rfl) ?_
    refine lv_i2l C.1 C.2.1 dX9_millionths_27 rfl ?_
    obtain ⟨c4, h⟩ := h
    refine lv_ldiv C.1 C.2.1 dX9_millionths_28 c4 ?_
    refine lv_l2i C.1 C.2.1 dX9_millionths_29 rfl ?_
    exact fw_iret C hG ⟨h, rfl, rfl⟩ dX9_millionths_30
  · have h := h.2 c2
    refine lv_iconst (v := 0) C.1 C.2.1 dX9_millionths_10 (by decide) ?_
    exact fw_iret C hG ⟨h, rfl, rfl⟩ dX9_millionths_11
/-! KnifeBoard.order(IIIIII)I -/
def rmX9_order : Room := { frames := 6, cells := 0, slots := 0, locals := 148 }
def wpX9_order_L146 (kt : kw_T) (x1 : Int32) (x2 : Int32) (x3 : Int32) (x4 : Int32) (x5 : Int32) (x6 : Int32) (z8 : Int32) (Q : Int32 → fw_F → fw_R → Prop) (K : Int32 → fw_F → fw_R → Prop) : Nat → Int32 → fw_F → fw_R → Prop
  | 0, _, _, _ => False
  | fu + 1, z9, iv, ar => (x5 ≤ z9 → (K z9 iv ar)) ∧ (¬ x5 ≤ z9 → (wpX5_sortedCell kt iv ar z8 (fun (r22 : Int32) => wpX1_stageOf kt iv ar (x1 + z9) (fun (r23 : Int32) => wpX9_millionths kt iv ar r22 r23 (fun (r24 : Int32) => wpX5_setCost kt iv ar z8 z9 r24 (fun (iv25 : fw_F) (ar26 : fw_R) => ∀ y27 : Int32, y27 = z9 + 1 → (wpX9_order_L146 kt x1 x2 x3 x4 x5 x6 z8 Q K fu y27 iv25 ar26)))))))
def wpX9_order_L136 (kt : kw_T) (x1 : Int32) (x2 : Int32) (x3 : Int32) (x4 : Int32) (x5 : Int32) (x6 : Int32) (Q : Int32 → fw_F → fw_R → Prop) (K : Int32 → fw_F → fw_R → Prop) : Nat → Int32 → fw_F → fw_R → Prop
  | 0, _, _, _ => False
  | fu + 1, z8, iv, ar => (x5 ≤ z8 → (K z8 iv ar)) ∧ (¬ x5 ≤ z8 → (∃ ku : Nat, wpX9_order_L146 kt x1 x2 x3 x4 x5 x6 z8 Q (fun (w28 : Int32) (iv29 : fw_F) (ar30 : fw_R) => ∀ y31 : Int32, y31 = z8 + 1 → (wpX9_order_L136 kt x1 x2 x3 x4 x5 x6 Q K fu y31 iv29 ar30)) ku 0 iv ar))
def wpX9_order (kt : kw_T) (iv : fw_F) (ar : fw_R) (x1 : Int32) (x2 : Int32) (x3 : Int32) (x4 : Int32) (x5 : Int32) (x6 : Int32) (Q : Int32 → fw_F → fw_R → Prop) : Prop := ∀ iv1 : fw_F, iv1 = va_up iv 1 0 → (wpX9_refusesSheet x2 x3 (fun (r2 : Int32) => (r2 = 0 → (wpX9_within x1 0 9999 (fun (r4 : Int32) => (¬ r4 = 0 → (wpX9_takeCells kt iv1 ar x2 x3 x4 x5.toInt64 (fun (r6 : Int32) (iv7 : fw_F) (ar8 : fw_R) => (r6 = 0 → (wpX9_within x5 1 6 (fun (r10 : Int32) => (¬ r10 = 0 → (wpX9_refusesCells kt iv7 ar8 x5 (fun (r12 : Int32) => (r12 = 0 → (wpX9_within x6 (-1) 5 (fun (r14 : Int32) => (¬ r14 = 0 → ((¬ (iv7 2) = 0 → ((x6 < x5 → (wpX5_begin kt iv7 ar8 x5 (fun (iv18 : fw_F) (ar19 : fw_R) => ∃ ku : Nat, wpX9_order_L136 kt x1 x2 x3 x4 x5 x6 Q (fun (w32 : Int32) (iv33 : fw_F) (ar34 : fw_R) => wpX5_weighRests kt iv33 ar34  (fun (iv35 : fw_F) (ar36 : fw_R) => (0 ≤ x6 → (wpX5_cellThrown kt iv35 ar36 x6 (fun (r38 : Int32) => Q r38 iv35 ar36))) ∧ (¬ 0 ≤ x6 → (wpX5_leastSum kt iv35 ar36  (fun (r39 : Int32) => Q r39 iv35 ar36))))) ku 0 iv18 ar19))) ∧ (¬ x6 < x5 → (Q (-9) iv7 ar8)))) ∧ ((iv7 2) = 0 → (Q (-3) iv7 ar8)))) ∧ (r14 = 0 → (Q (-1) iv7 ar8))))) ∧ (¬ r12 = 0 → (Q r12 iv7 ar8))))) ∧ (r10 = 0 → (Q (-2) iv7 ar8))))) ∧ (¬ r6 = 0 → (Q r6 iv7 ar8))))) ∧ (r4 = 0 → (Q (-2) iv1 ar))))) ∧ (¬ r2 = 0 → (Q r2 iv1 ar))))
set_option maxHeartbeats 4000000 in
set_option maxRecDepth 100000 in
theorem soX9_order_L146 {p : Program} {l : Launch} {e : Env} {s : State} {m : MethodId} {args : Array Value} {below : List Frame} {meth : Method} {c : Code} {A : Nat → Prop} {G : fw_G} {ad : Nat → Nat} {kt : kw_T} {x1 : Int32} {x2 : Int32} {x3 : Int32} {x4 : Int32} {x5 : Int32} {x6 : Int32} {z8 : Int32} {Q : Int32 → fw_F → fw_R → Prop} {K : Int32 → fw_F → fw_R → Prop} (C : fw_C p s m args meth c cX9_order 10 (some .int) wsX9_order RX9) (hK : fw_K G A s)  (hX : ∀ (z9 : Int32) (iv : fw_F) (ar : fw_R), K z9 iv ar → ∀ (H : Heap) (locs : List Loc), fw_H G ((kw G ad kt) iv ar) A s H locs → ∀ (ls : Array Slot), lv_has ls 10 [(9, .int z9), (8, .int z8), (0, .ref (ad 0)), (1, .int x1), (5, .int x5), (6, .int x6)] → W p l e rmX9_order s m args below meth c H locs 0 0 (MQ below (fw_Qi G (kw G ad kt) Q A) args s 0 0 A) (F0 m 194 ls [])) : ∀ (fu : Nat) (z9 : Int32) (iv : fw_F) (ar : fw_R), wpX9_order_L146 kt x1 x2 x3 x4 x5 x6 z8 Q K fu z9 iv ar → ∀ (H : Heap) (locs : List Loc), fw_H G ((kw G ad kt) iv ar) A s H locs → ∀ (ls : Array Slot), lv_has ls 10 [(9, .int z9), (8, .int z8), (0, .ref (ad 0)), (1, .int x1), (5, .int x5), (6, .int x6)] → W p l e rmX9_order s m args below meth c H locs 0 0 (MQ below (fw_Qi G (kw G ad kt) Q A) args s 0 0 A) (F0 m 146 ls []) := by
  intro fu
  have in_X9 : ∀ x ∈ wsX90, x ∈ wsX9_order := by decide +kernel
  have k24 := C.2.2.2.2.1 (.fieldLink RX9 24 "KnifeBoard" "theHand" "LKnifeBoard$Hand;") (by decide +kernel)
  have k38 := C.2.2.2.2.1 (.fieldLink RX9 38 "KnifeBoard" "theOrder" "LKnifeBoard$Order;") (by decide +kernel)
  induction fu with
  | zero => intro z9 iv ar h; exact h.elim
  | succ fu ih =>
    intro z9 iv ar h H locs hG ls hl
    unfold wpX9_order_L146 at h
    refine lv_iload C.1 C.2.1 dX9_order_146 (lv_at hl 0 rfl) ?_
    refine lv_iload C.1 C.2.1 dX9_order_148 (lv_at hl 4 rfl) ?_
    refine lv_icmp_ge (tgt := 194) C.1 C.2.1 dX9_order_150 (by decide) (fun c21 => ?_) (fun c21 => ?_)
    · have h := h.1 c21
      exact hX _ _ _ h _ _ hG ls (lv_sub hl [0, 1, 2, 3, 4, 5] rfl)
    · have h := h.2 c21
      refine lv_aload_n C.1 C.2.1 dX9_order_153 rfl (lv_at hl 2 rfl) ?_
      refine fw_get (w := (kw G ad kt)) C in_X9 hK hG 0 kw_o9 rfl 4 (by decide) k38 rfl rfl dX9_order_154 ?_
      refine lv_iload C.1 C.2.1 dX9_order_157 (lv_at hl 1 rfl) ?_
      refine lv_iload C.1 C.2.1 dX9_order_159 (lv_at hl 0 rfl) ?_
      refine lv_aload_n C.1 C.2.1 dX9_order_161 rfl (lv_at hl 2 rfl) ?_
      refine lv_aload_n C.1 C.2.1 dX9_order_162 rfl (lv_at hl 2 rfl) ?_
      refine fw_get (w := (kw G ad kt)) C in_X9 hK hG 0 kw_o9 rfl 4 (by decide) k38 rfl rfl dX9_order_163 ?_
      refine lv_iload C.1 C.2.1 dX9_order_166 (lv_at hl 1 rfl) ?_
      refine fw_rcalli (va_runV (As := [.int z8]) (rest := [.ref (ad 0), .int z9, .int z8, .ref (ad 6)]) ⟨C.1, C.2.1, C.2.2.2.2.2.2, C.2.2.2.2.2.1, C.2.2.2.2.1⟩ (soX5_sortedCell l G ad kt iv ar z8 _  h H.size) (cwV 1 C.2.2.2.2.1 gX9_order_X5_sortedCell rfl rfl rfl (by decide +kernel) ⟨Nat.le_of_ble_eq_true rfl, Nat.le_of_ble_eq_true rfl⟩) (fw_preV hG hK (ci := 5) rfl kw_o5) rfl rfl hl.1 rfl (lv_room (Nat.le_of_ble_eq_true rfl)) dX9_order_168 ⟨Nat.zero_le _, Nat.zero_le _⟩) hG hK (fun r22  H locs h hG => ?_)
      refine lv_aload_n C.1 C.2.1 dX9_order_171 rfl (lv_at hl 2 rfl) ?_
      refine fw_get (w := (kw G ad kt)) C in_X9 hK hG 0 kw_o9 rfl 2 (by decide) k24 rfl rfl dX9_order_172 ?_
      refine lv_iload_n C.1 C.2.1 dX9_order_175 rfl (lv_at hl 3 rfl) ?_
      refine lv_iload C.1 C.2.1 dX9_order_176 (lv_at hl 0 rfl) ?_
      refine lv_iadd C.1 C.2.1 dX9_order_178 ?_
      refine fw_rcalli (va_runV (As := [.int (x1 + z9)]) (rest := [.int r22, .ref (ad 0), .int z9, .int z8, .ref (ad 6)]) ⟨C.1, C.2.1, C.2.2.2.2.2.2, C.2.2.2.2.2.1, C.2.2.2.2.1⟩ (soX1_stageOf l G ad kt iv ar (x1 + z9) _  h H.size) (cwV 1 C.2.2.2.2.1 gX9_order_X1_stageOf rfl rfl rfl (by decide +kernel) ⟨Nat.le_of_ble_eq_true rfl, Nat.le_of_ble_eq_true rfl⟩) (fw_preV hG hK (ci := 1) rfl kw_o1) rfl rfl hl.1 rfl (lv_room (Nat.le_of_ble_eq_true rfl)) dX9_order_179 ⟨Nat.zero_le _, Nat.zero_le _⟩) hG hK (fun r23  H locs h hG => ?_)
      refine fw_rcalli (va_runV (As := [.int r22, .int r23]) (rest := [.int z9, .int z8, .ref (ad 6)]) ⟨C.1, C.2.1, C.2.2.2.2.2.2, C.2.2.2.2.2.1, C.2.2.2.2.1⟩ (soX9_millionths l G ad kt iv ar r22 r23 _  h H.size) (cwV 2 C.2.2.2.2.1 gX9_order_X9_millionths rfl rfl rfl (by decide +kernel) ⟨Nat.le_of_ble_eq_true rfl, Nat.le_of_ble_eq_true rfl⟩) (fw_preV hG hK (ci := 9) rfl kw_o9) rfl rfl hl.1 rfl (lv_room (Nat.le_of_ble_eq_true rfl)) dX9_order_182 ⟨Nat.zero_le _, Nat.zero_le _⟩) hG hK (fun r24  H locs h hG => ?_)
      refine fw_callv (va_runV (As := [.int z8, .int z9, .int r24]) (rest := []) ⟨C.1, C.2.1, C.2.2.2.2.2.2, C.2.2.2.2.2.1, C.2.2.2.2.1⟩ (soX5_setCost l G ad kt iv ar z8 z9 r24 _  h H.size) (cwV 3 C.2.2.2.2.1 gX9_order_X5_setCost rfl rfl rfl (by decide +kernel) ⟨Nat.le_of_ble_eq_true rfl, Nat.le_of_ble_eq_true rfl⟩) (fw_preV hG hK (ci := 5) rfl kw_o5) rfl rfl hl.1 rfl (lv_room (Nat.le_of_ble_eq_true rfl)) dX9_order_185 ⟨Nat.zero_le _, Nat.zero_le _⟩) hG hK (fun iv25 ar26 H locs h hG => ?_)
      obtain ⟨y27, ey27⟩ : ∃ z : Int32, z = z9 + 1 := ⟨_, rfl⟩
      have h := h y27 ey27
      refine lv_iinc (v := y27) (lv' := [(9, .int y27), (8, .int z8), (0, .ref (ad 0)), (1, .int x1), (5, .int x5), (6, .int x6)]) C.1 C.2.1 dX9_order_188 hl (k := 0) rfl (by rw [ey27]; rfl) (by decide) rfl (fun ls hl => ?_)
      refine lv_goto (tgt := 146) C.1 C.2.1 dX9_order_191 (by decide) ?_
      exact ih _ _ _ h _ _ hG ls (lv_sub hl [0, 1, 2, 3, 4, 5] rfl)

set_option maxHeartbeats 4000000 in
set_option maxRecDepth 100000 in
theorem soX9_order_L136 {p : Program} {l : Launch} {e : Env} {s : State} {m : MethodId} {args : Array Value} {below : List Frame} {meth : Method} {c : Code} {A : Nat → Prop} {G : fw_G} {ad : Nat → Nat} {kt : kw_T} {x1 : Int32} {x2 : Int32} {x3 : Int32} {x4 : Int32} {x5 : Int32} {x6 : Int32} {Q : Int32 → fw_F → fw_R → Prop} {K : Int32 → fw_F → fw_R → Prop} (C : fw_C p s m args meth c cX9_order 10 (some .int) wsX9_order RX9) (hK : fw_K G A s)  (hX : ∀ (z8 : Int32) (iv : fw_F) (ar : fw_R), K z8 iv ar → ∀ (H : Heap) (locs : List Loc), fw_H G ((kw G ad kt) iv ar) A s H locs → ∀ (ls : Array Slot), lv_has ls 10 [(8, .int z8), (0, .ref (ad 0)), (1, .int x1), (5, .int x5), (6, .int x6)] → W p l e rmX9_order s m args below meth c H locs 0 0 (MQ below (fw_Qi G (kw G ad kt) Q A) args s 0 0 A) (F0 m 200 ls [])) : ∀ (fu : Nat) (z8 : Int32) (iv : fw_F) (ar : fw_R), wpX9_order_L136 kt x1 x2 x3 x4 x5 x6 Q K fu z8 iv ar → ∀ (H : Heap) (locs : List Loc), fw_H G ((kw G ad kt) iv ar) A s H locs → ∀ (ls : Array Slot), lv_has ls 10 [(8, .int z8), (0, .ref (ad 0)), (1, .int x1), (5, .int x5), (6, .int x6)] → W p l e rmX9_order s m args below meth c H locs 0 0 (MQ below (fw_Qi G (kw G ad kt) Q A) args s 0 0 A) (F0 m 136 ls []) := by
  intro fu
  induction fu with
  | zero => intro z8 iv ar h; exact h.elim
  | succ fu ih =>
    intro z8 iv ar h H locs hG ls hl
    unfold wpX9_order_L136 at h
    refine lv_iload C.1 C.2.1 dX9_order_136 (lv_at hl 0 rfl) ?_
    refine lv_iload C.1 C.2.1 dX9_order_138 (lv_at hl 3 rfl) ?_
    refine lv_icmp_ge (tgt := 200) C.1 C.2.1 dX9_order_140 (by decide) (fun c20 => ?_) (fun c20 => ?_)
    · have h := h.1 c20
      exact hX _ _ _ h _ _ hG ls (lv_sub hl [0, 1, 2, 3, 4] rfl)
    · have h := h.2 c20
      refine lv_iconst (v := 0) C.1 C.2.1 dX9_order_143 (by decide) ?_
      refine lv_istore (lv' := [(9, .int 0), (8, .int z8), (0, .ref (ad 0)), (1, .int x1), (5, .int x5), (6, .int x6)]) C.1 C.2.1 dX9_order_144 hl (by decide) rfl (fun ls hl => ?_)
      obtain ⟨ku, h⟩ := h
      refine soX9_order_L146 C hK  ?_ ku _ _ _ h _ _ hG ls (lv_sub hl [0, 1, 2, 3, 4, 5] rfl)
      intro w28 iv29 ar30 h H locs hG ls hl
      obtain ⟨y31, ey31⟩ : ∃ z : Int32, z = z8 + 1 := ⟨_, rfl⟩
      have h := h y31 ey31
      refine lv_iinc (v := y31) (lv' := [(8, .int y31), (9, .int w28), (0, .ref (ad 0)), (1, .int x1), (5, .int x5), (6, .int x6)]) C.1 C.2.1 dX9_order_194 hl (k := 1) rfl (by rw [ey31]; rfl) (by decide) rfl (fun ls hl => ?_)
      refine lv_goto (tgt := 136) C.1 C.2.1 dX9_order_197 (by decide) ?_
      exact ih _ _ _ h _ _ hG ls (lv_sub hl [0, 2, 3, 4, 5] rfl)

set_option maxHeartbeats 4000000 in
set_option maxRecDepth 100000 in
theorem soX9_order (l : Launch) (G : fw_G) (ad : Nat → Nat) (kt : kw_T) (iv : fw_F) (ar : fw_R) (x1 : Int32) (x2 : Int32) (x3 : Int32) (x4 : Int32) (x5 : Int32) (x6 : Int32) (Q : Int32 → fw_F → fw_R → Prop)  (h : wpX9_order kt iv ar x1 x2 x3 x4 x5 x6 Q) : fw_M l G (kw G ad kt) yX9_order wsX9_order rmX9_order [.ref (ad 0), .int x1, .int x2, .int x3, .int x4, .int x5, .int x6] iv ar (fw_Qi G (kw G ad kt) Q) := by
  refine fw_start (cc := cX9_order) (nL := 10) (rt := (some .int)) (by decide) rfl (Nat.le_of_ble_eq_true rfl) ?_
  intro p e s m below meth c A ls H locs C hK hG hl
  obtain ⟨args, ea⟩ : ∃ z : Array Value, z = ([.ref (ad 0), .int x1, .int x2, .int x3, .int x4, .int x5, .int x6] : List Value).toArray := ⟨_, rfl⟩
  rw [← ea] at C ⊢
  have C : fw_C p s m args meth c cX9_order 10 (some .int) wsX9_order RX9 := C
  have hl : lv_has ls 10 [(0, .ref (ad 0)), (1, .int x1), (2, .int x2), (3, .int x3), (4, .int x4), (5, .int x5), (6, .int x6)] := hl
  unfold wpX9_order at h
  have in_X1 : ∀ x ∈ wsX10, x ∈ wsX9_order := by decide +kernel
  have in_X9 : ∀ x ∈ wsX90, x ∈ wsX9_order := by decide +kernel
  have k145 := C.2.2.2.2.1 (.fieldLink RX9 145 "KnifeBoard$Hand" "told" "Z") (by decide +kernel)
  have k24 := C.2.2.2.2.1 (.fieldLink RX9 24 "KnifeBoard" "theHand" "LKnifeBoard$Hand;") (by decide +kernel)
  have k38 := C.2.2.2.2.1 (.fieldLink RX9 38 "KnifeBoard" "theOrder" "LKnifeBoard$Order;") (by decide +kernel)
  have k56 := C.2.2.2.2.1 (.fieldLink RX9 56 "KnifeBoard" "taken" "[I") (by decide +kernel)
  have k71 := C.2.2.2.2.1 (.fieldLink RX9 71 "KnifeBoard" "theFault" "I") (by decide +kernel)
  refine lv_aload_n C.1 C.2.1 dX9_order_0 rfl (lv_at hl 0 rfl) ?_
  refine lv_iconst (v := 0) C.1 C.2.1 dX9_order_1 (by decide) ?_
  obtain ⟨iv1, eiv1⟩ : ∃ z : fw_F, z = va_up iv 1 0 := ⟨_, rfl⟩
  have h := h iv1 eiv1
  refine fw_put (w := (kw G ad kt)) C in_X9 tyX9 tyX9_ok nmX9 hK hG 0 kw_o9 rfl 10 (by decide) k71 rfl rfl (ty := .int) (v := .int 0) (by decide +kernel) rfl rfl (by first | decide | exact Nat.le_of_ble_eq_true rfl) (iv1 := iv1) (by rw [eiv1]; exact kw_p9_theFault) dX9_order_2 (fun H locs hG => ?_)
  refine lv_iload_n C.1 C.2.1 dX9_order_5 rfl (lv_at hl 2 rfl) ?_
  refine lv_iload_n C.1 C.2.1 dX9_order_6 rfl (lv_at hl 3 rfl) ?_
  refine fw_pcalli (va_runS (As := [.int x2, .int x3]) (rest := []) ⟨C.1, C.2.1, C.2.2.2.2.2.2, C.2.2.2.2.2.1, C.2.2.2.2.1⟩ (soX9_refusesSheet l x2 x3 _ h H.size) (va_cwS 2 C.2.2.2.2.1 gX9_order_X9_refusesSheet rfl rfl rfl (by decide +kernel) ⟨Nat.le_of_ble_eq_true rfl, Nat.le_of_ble_eq_true rfl⟩) fw_ppre rfl rfl hl.1 rfl (lv_room (Nat.le_of_ble_eq_true rfl)) dX9_order_7 ⟨Nat.zero_le _, Nat.zero_le _⟩) hG hK (fun r2  H locs h hG => ?_)
  refine lv_istore (lv' := [(7, .int r2), (0, .ref (ad 0)), (1, .int x1), (2, .int x2), (3, .int x3), (4, .int x4), (5, .int x5), (6, .int x6)]) C.1 C.2.1 dX9_order_10 hl (by decide) rfl (fun ls hl => ?_)
  refine lv_iload C.1 C.2.1 dX9_order_12 (lv_at hl 0 rfl) ?_
  refine lv_if_eq (tgt := 20) C.1 C.2.1 dX9_order_14 (by decide) (fun c3 => ?_) (fun c3 => ?_)
  · have h := h.1 c3
    refine lv_iload_n C.1 C.2.1 dX9_order_20 rfl (lv_at hl 2 rfl) ?_
    refine lv_iconst (v := 0) C.1 C.2.1 dX9_order_21 (by decide) ?_
    refine lv_sipush (v := 9999) C.1 C.2.1 dX9_order_22 (by decide) ?_
    refine fw_pcalli (va_runS (As := [.int x1, .int 0, .int 9999]) (rest := []) ⟨C.1, C.2.1, C.2.2.2.2.2.2, C.2.2.2.2.2.1, C.2.2.2.2.1⟩ (soX9_within l x1 0 9999 _ h H.size) (va_cwS 3 C.2.2.2.2.1 gX9_order_X9_within rfl rfl rfl (by decide +kernel) ⟨Nat.le_of_ble_eq_true rfl, Nat.le_of_ble_eq_true rfl⟩) fw_ppre rfl rfl hl.1 rfl (lv_room (Nat.le_of_ble_eq_true rfl)) dX9_order_25 ⟨Nat.zero_le _, Nat.zero_le _⟩) hG hK (fun r4  H locs h hG => ?_)
    refine lv_if_ne (tgt := 34) C.1 C.2.1 dX9_order_28 (by decide) (fun c5 => ?_) (fun c5 => ?_)
    · have h := h.1 c5
      refine lv_aload_n C.1 C.2.1 dX9_order_34 rfl (lv_at hl 1 rfl) ?_
      refine lv_iload_n C.1 C.2.1 dX9_order_35 rfl (lv_at hl 3 rfl) ?_
      refine lv_iload_n C.1 C.2.1 dX9_order_36 rfl (lv_at hl 4 rfl) ?_
      refine lv_iload C.1 C.2.1 dX9_order_37 (lv_at hl 5 rfl) ?_
      refine lv_iload C.1 C.2.1 dX9_order_39 (lv_at hl 6 rfl) ?_
      refine lv_i2l C.1 C.2.1 dX9_order_41 rfl ?_
      refine fw_calli (va_runV (As := [.int x2, .int x3, .int x4, .long x5.toInt64]) (rest := []) ⟨C.1, C.2.1, C.2.2.2.2.2.2, C.2.2.2.2.2.1, C.2.2.2.2.1⟩ (soX9_takeCells l G ad kt iv1 ar x2 x3 x4 x5.toInt64 _  h H.size) (cwV 4 C.2.2.2.2.1 gX9_order_X9_takeCells rfl rfl rfl (by decide +kernel) ⟨Nat.le_of_ble_eq_true rfl, Nat.le_of_ble_eq_true rfl⟩) (fw_preV hG hK (ci := 9) rfl kw_o9) rfl rfl hl.1 rfl (lv_room (Nat.le_of_ble_eq_true rfl)) dX9_order_42 ⟨Nat.zero_le _, Nat.zero_le _⟩) hG hK (fun r6 iv7 ar8 H locs h hG => ?_)
      refine lv_istore (lv' := [(7, .int r6), (0, .ref (ad 0)), (1, .int x1), (2, .int x2), (3, .int x3), (4, .int x4), (5, .int x5), (6, .int x6)]) C.1 C.2.1 dX9_order_45 hl (by decide) rfl (fun ls hl => ?_)
      refine lv_iload C.1 C.2.1 dX9_order_47 (lv_at hl 0 rfl) ?_
      refine lv_if_eq (tgt := 55) C.1 C.2.1 dX9_order_49 (by decide) (fun c9 => ?_) (fun c9 => ?_)
      · have h := h.1 c9
        refine lv_iload C.1 C.2.1 dX9_order_55 (lv_at hl 6 rfl) ?_
        refine lv_iconst (v := 1) C.1 C.2.1 dX9_order_57 (by decide) ?_
        refine lv_bipush (v := 6) C.1 C.2.1 dX9_order_58 (by decide) ?_
        refine fw_pcalli (va_runS (As := [.int x5, .int 1, .int 6]) (rest := []) ⟨C.1, C.2.1, C.2.2.2.2.2.2, C.2.2.2.2.2.1, C.2.2.2.2.1⟩ (soX9_within l x5 1 6 _ h H.size) (va_cwS 3 C.2.2.2.2.1 gX9_order_X9_within rfl rfl rfl (by decide +kernel) ⟨Nat.le_of_ble_eq_true rfl, Nat.le_of_ble_eq_true rfl⟩) fw_ppre rfl rfl hl.1 rfl (lv_room (Nat.le_of_ble_eq_true rfl)) dX9_order_60 ⟨Nat.zero_le _, Nat.zero_le _⟩) hG hK (fun r10  H locs h hG => ?_)
        refine lv_if_ne (tgt := 69) C.1 C.2.1 dX9_order_63 (by decide) (fun c11 => ?_) (fun c11 => ?_)
        · have h := h.1 c11
          refine lv_aload_n C.1 C.2.1 dX9_order_69 rfl (lv_at hl 1 rfl) ?_
          refine lv_iload C.1 C.2.1 dX9_order_70 (lv_at hl 6 rfl) ?_
          refine fw_rcalli (va_runV (As := [.int x5]) (rest := []) ⟨C.1, C.2.1, C.2.2.2.2.2.2, C.2.2.2.2.2.1, C.2.2.2.2.1⟩ (soX9_refusesCells l G ad kt iv7 ar8 x5 _  h H.size) (cwV 1 C.2.2.2.2.1 gX9_order_X9_refusesCells rfl rfl rfl (by decide +kernel) ⟨Nat.le_of_ble_eq_true rfl, Nat.le_of_ble_eq_true rfl⟩) (fw_preV hG hK (ci := 9) rfl kw_o9) rfl rfl hl.1 rfl (lv_room (Nat.le_of_ble_eq_true rfl)) dX9_order_72 ⟨Nat.zero_le _, Nat.zero_le _⟩) hG hK (fun r12  H locs h hG => ?_)
          refine lv_istore (lv' := [(7, .int r12), (0, .ref (ad 0)), (1, .int x1), (2, .int x2), (3, .int x3), (4, .int x4), (5, .int x5), (6, .int x6)]) C.1 C.2.1 dX9_order_75 hl (by decide) rfl (fun ls hl => ?_)
          refine lv_iload C.1 C.2.1 dX9_order_77 (lv_at hl 0 rfl) ?_
          refine lv_if_eq (tgt := 85) C.1 C.2.1 dX9_order_79 (by decide) (fun c13 => ?_) (fun c13 => ?_)
          · have h := h.1 c13
            refine lv_iload C.1 C.2.1 dX9_order_85 (lv_at hl 7 rfl) ?_
            refine lv_iconst (v := (-1)) C.1 C.2.1 dX9_order_87 (by decide) ?_
            refine lv_iconst (v := 5) C.1 C.2.1 dX9_order_88 (by decide) ?_
            refine fw_pcalli (va_runS (As := [.int x6, .int (-1), .int 5]) (rest := []) ⟨C.1, C.2.1, C.2.2.2.2.2.2, C.2.2.2.2.2.1, C.2.2.2.2.1⟩ (soX9_within l x6 (-1) 5 _ h H.size) (va_cwS 3 C.2.2.2.2.1 gX9_order_X9_within rfl rfl rfl (by decide +kernel) ⟨Nat.le_of_ble_eq_true rfl, Nat.le_of_ble_eq_true rfl⟩) fw_ppre rfl rfl hl.1 rfl (lv_room (Nat.le_of_ble_eq_true rfl)) dX9_order_89 ⟨Nat.zero_le _, Nat.zero_le _⟩) hG hK (fun r14  H locs h hG => ?_)
            refine lv_if_ne (tgt := 97) C.1 C.2.1 dX9_order_92 (by decide) (fun c15 => ?_) (fun c15 => ?_)
            · have h := h.1 c15
              refine lv_aload_n C.1 C.2.1 dX9_order_97 rfl (lv_at hl 1 rfl) ?_
              refine fw_get (w := (kw G ad kt)) C in_X9 hK hG 0 kw_o9 rfl 2 (by decide) k24 rfl rfl dX9_order_98 ?_
              refine fw_get (w := (kw G ad kt)) C in_X1 hK hG 2 kw_o1 rfl 1 (by decide) k145 rfl rfl dX9_order_101 ?_
              refine lv_if_ne (tgt := 110) C.1 C.2.1 dX9_order_104 (by decide) (fun c16 => ?_) (fun c16 => ?_)
              · have h := h.1 c16
                refine lv_iload C.1 C.2.1 dX9_order_110 (lv_at hl 7 rfl) ?_
                refine lv_iload C.1 C.2.1 dX9_order_112 (lv_at hl 6 rfl) ?_
                refine lv_icmp_lt (tgt := 120) C.1 C.2.1 dX9_order_114 (by decide) (fun c17 => ?_) (fun c17 => ?_)
                · have h := h.1 c17
                  refine lv_aload_n C.1 C.2.1 dX9_order_120 rfl (lv_at hl 1 rfl) ?_
                  refine fw_get (w := (kw G ad kt)) C in_X9 hK hG 0 kw_o9 rfl 4 (by decide) k38 rfl rfl dX9_order_121 ?_
                  refine lv_aload_n C.1 C.2.1 dX9_order_124 rfl (lv_at hl 1 rfl) ?_
                  refine fw_get (w := (kw G ad kt)) C in_X9 hK hG 0 kw_o9 rfl 7 (by decide) k56 rfl rfl dX9_order_125 ?_
                  refine lv_iload C.1 C.2.1 dX9_order_128 (lv_at hl 6 rfl) ?_
                  refine fw_callv (va_runV (As := [.ref (ad 25), .int x5]) (rest := []) ⟨C.1, C.2.1, C.2.2.2.2.2.2, C.2.2.2.2.2.1, C.2.2.2.2.1⟩ (soX5_begin l G ad kt iv7 ar8 x5 _  h H.size) (cwV 2 C.2.2.2.2.1 gX9_order_X5_begin rfl rfl rfl (by decide +kernel) ⟨Nat.le_of_ble_eq_true rfl, Nat.le_of_ble_eq_true rfl⟩) (fw_preV hG hK (ci := 5) rfl kw_o5) rfl rfl hl.1 rfl (lv_room (Nat.le_of_ble_eq_true rfl)) dX9_order_130 ⟨Nat.zero_le _, Nat.zero_le _⟩) hG hK (fun iv18 ar19 H locs h hG => ?_)
                  refine lv_iconst (v := 0) C.1 C.2.1 dX9_order_133 (by decide) ?_
                  refine lv_istore (lv' := [(8, .int 0), (7, .int r12), (0, .ref (ad 0)), (1, .int x1), (2, .int x2), (3, .int x3), (4, .int x4), (5, .int x5), (6, .int x6)]) C.1 C.2.1 dX9_order_134 hl (by decide) rfl (fun ls hl => ?_)
                  obtain ⟨ku, h⟩ := h
                  refine soX9_order_L136 C hK  ?_ ku _ _ _ h _ _ hG ls (lv_sub hl [0, 2, 3, 7, 8] rfl)
                  intro w32 iv33 ar34 h H locs hG ls hl
                  refine lv_aload_n C.1 C.2.1 dX9_order_200 rfl (lv_at hl 1 rfl) ?_
                  refine fw_get (w := (kw G ad kt)) C in_X9 hK hG 0 kw_o9 rfl 4 (by decide) k38 rfl rfl dX9_order_201 ?_
                  refine fw_callv (va_runV (As := []) (rest := []) ⟨C.1, C.2.1, C.2.2.2.2.2.2, C.2.2.2.2.2.1, C.2.2.2.2.1⟩ (soX5_weighRests l G ad kt iv33 ar34  _  h H.size) (cwV 0 C.2.2.2.2.1 gX9_order_X5_weighRests rfl rfl rfl (by decide +kernel) ⟨Nat.le_of_ble_eq_true rfl, Nat.le_of_ble_eq_true rfl⟩) (fw_preV hG hK (ci := 5) rfl kw_o5) rfl rfl hl.1 rfl (lv_room (Nat.le_of_ble_eq_true rfl)) dX9_order_204 ⟨Nat.zero_le _, Nat.zero_le _⟩) hG hK (fun iv35 ar36 H locs h hG => ?_)
                  refine lv_iload C.1 C.2.1 dX9_order_207 (lv_at hl 4 rfl) ?_
                  refine lv_if_ge (tgt := 222) C.1 C.2.1 dX9_order_209 (by decide) (fun c37 => ?_) (fun c37 => ?_)
                  · have h := h.1 c37
                    refine lv_aload_n C.1 C.2.1 dX9_order_222 rfl (lv_at hl 1 rfl) ?_
                    refine fw_get (w := (kw G ad kt)) C in_X9 hK hG 0 kw_o9 rfl 4 (by decide) k38 rfl rfl dX9_order_223 ?_
                    refine lv_iload C.1 C.2.1 dX9_order_226 (lv_at hl 4 rfl) ?_
                    refine fw_rcalli (va_runV (As := [.int x6]) (rest := []) ⟨C.1, C.2.1, C.2.2.2.2.2.2, C.2.2.2.2.2.1, C.2.2.2.2.1⟩ (soX5_cellThrown l G ad kt iv35 ar36 x6 _  h H.size) (cwV 1 C.2.2.2.2.1 gX9_order_X5_cellThrown rfl rfl rfl (by decide +kernel) ⟨Nat.le_of_ble_eq_true rfl, Nat.le_of_ble_eq_true rfl⟩) (fw_preV hG hK (ci := 5) rfl kw_o5) rfl rfl hl.1 rfl (lv_room (Nat.le_of_ble_eq_true rfl)) dX9_order_228 ⟨Nat.zero_le _, Nat.zero_le _⟩) hG hK (fun r38  H locs h hG => ?_)
                    exact fw_iret C hG h dX9_order_231
                  · have h := h.2 c37
                    refine lv_aload_n C.1 C.2.1 dX9_order_212 rfl (lv_at hl 1 rfl) ?_
                    refine fw_get (w := (kw G ad kt)) C in_X9 hK hG 0 kw_o9 rfl 4 (by decide) k38 rfl rfl dX9_order_213 ?_
                    refine fw_rcalli (va_runV (As := []) (rest := []) ⟨C.1, C.2.1, C.2.2.2.2.2.2, C.2.2.2.2.2.1, C.2.2.2.2.1⟩ (soX5_leastSum l G ad kt iv35 ar36  _  h H.size) (cwV 0 C.2.2.2.2.1 gX9_order_X5_leastSum rfl rfl rfl (by decide +kernel) ⟨Nat.le_of_ble_eq_true rfl, Nat.le_of_ble_eq_true rfl⟩) (fw_preV hG hK (ci := 5) rfl kw_o5) rfl rfl hl.1 rfl (lv_room (Nat.le_of_ble_eq_true rfl)) dX9_order_216 ⟨Nat.zero_le _, Nat.zero_le _⟩) hG hK (fun r39  H locs h hG => ?_)
                    refine lv_goto (tgt := 231) C.1 C.2.1 dX9_order_219 (by decide) ?_
                    exact fw_iret C hG h dX9_order_231
                · have h := h.2 c17
                  refine lv_bipush (v := (-9)) C.1 C.2.1 dX9_order_117 (by decide) ?_
                  exact fw_iret C hG h dX9_order_119
              · have h := h.2 c16
                refine lv_bipush (v := (-3)) C.1 C.2.1 dX9_order_107 (by decide) ?_
                exact fw_iret C hG h dX9_order_109
            · have h := h.2 c15
              refine lv_iconst (v := (-1)) C.1 C.2.1 dX9_order_95 (by decide) ?_
              exact fw_iret C hG h dX9_order_96
          · have h := h.2 c13
            refine lv_iload C.1 C.2.1 dX9_order_82 (lv_at hl 0 rfl) ?_
            exact fw_iret C hG h dX9_order_84
        · have h := h.2 c11
          refine lv_bipush (v := (-2)) C.1 C.2.1 dX9_order_66 (by decide) ?_
          exact fw_iret C hG h dX9_order_68
      · have h := h.2 c9
        refine lv_iload C.1 C.2.1 dX9_order_52 (lv_at hl 0 rfl) ?_
        exact fw_iret C hG h dX9_order_54
    · have h := h.2 c5
      refine lv_bipush (v := (-2)) C.1 C.2.1 dX9_order_31 (by decide) ?_
      exact fw_iret C hG h dX9_order_33
  · have h := h.2 c3
    refine lv_iload C.1 C.2.1 dX9_order_17 (lv_at hl 0 rfl) ?_
    exact fw_iret C hG h dX9_order_19
/-! KnifeBoard.turned(III)I -/
def rmX9_turned : Room := { frames := 3, cells := 0, slots := 0, locals := 70 }
def wpX9_turned (kt : kw_T) (iv : fw_F) (ar : fw_R) (x1 : Int32) (x2 : Int32) (x3 : Int32) (Q : Int32 → Prop) : Prop := wpX0_knows kt iv ar x1 (fun (r1 : Int32) => (¬ r1 = 0 → (wpX9_within x2 1 60 (fun (r3 : Int32) => (r3 = 0 → (Q (-2))) ∧ (¬ r3 = 0 → (wpX9_within x3 0 99999 (fun (r5 : Int32) => (¬ r5 = 0 → (wpX0_isSquare kt iv ar  (fun (r7 : Int32) => (¬ r7 = 0 → (wpX0_rowOf kt iv ar x1 (fun (r9 : Int32) => wpX0_columnOf kt iv ar x1 (fun (r10 : Int32) => ¬ x2 = 0 ∧ (wpX0_letterAt kt iv ar r9 r10 ((x3 / x2) - (x3 / x2) / 4 * 4) (fun (r12 : Int32) => Q r12)))))) ∧ (r7 = 0 → (Q (-3)))))) ∧ (r5 = 0 → (Q (-2))))))))) ∧ (r1 = 0 → (Q (-1))))
set_option maxHeartbeats 4000000 in
set_option maxRecDepth 100000 in
theorem soX9_turned (l : Launch) (G : fw_G) (ad : Nat → Nat) (kt : kw_T) (iv : fw_F) (ar : fw_R) (x1 : Int32) (x2 : Int32) (x3 : Int32) (Q : Int32 → Prop)  (h : wpX9_turned kt iv ar x1 x2 x3 Q) : fw_M l G (kw G ad kt) yX9_turned wsX9_turned rmX9_turned [.ref (ad 0), .int x1, .int x2, .int x3] iv ar (fw_Qi G (kw G ad kt) (fun r iv1 ar1 => Q r ∧ iv = iv1 ∧ ar = ar1)) := by
  refine fw_start (cc := cX9_turned) (nL := 4) (rt := (some .int)) (by decide) rfl (Nat.le_of_ble_eq_true rfl) ?_
  intro p e s m below meth c A ls H locs C hK hG hl
  obtain ⟨args, ea⟩ : ∃ z : Array Value, z = ([.ref (ad 0), .int x1, .int x2, .int x3] : List Value).toArray := ⟨_, rfl⟩
  rw [← ea] at C ⊢
  have C : fw_C p s m args meth c cX9_turned 4 (some .int) wsX9_turned RX9 := C
  have hl : lv_has ls 4 [(0, .ref (ad 0)), (1, .int x1), (2, .int x2), (3, .int x3)] := hl
  unfold wpX9_turned at h
  have in_X9 : ∀ x ∈ wsX90, x ∈ wsX9_turned := by decide +kernel
  have k228 := C.2.2.2.2.1 (.constant RX9 228 99999) (by decide +kernel)
  have k31 := C.2.2.2.2.1 (.fieldLink RX9 31 "KnifeBoard" "theBoard" "LKnifeBoard$Board;") (by decide +kernel)
  refine lv_aload_n C.1 C.2.1 dX9_turned_0 rfl (lv_at hl 0 rfl) ?_
  refine fw_get (w := (kw G ad kt)) C in_X9 hK hG 0 kw_o9 rfl 3 (by decide) k31 rfl rfl dX9_turned_1 ?_
  refine lv_iload_n C.1 C.2.1 dX9_turned_4 rfl (lv_at hl 1 rfl) ?_
  refine fw_rcalli (va_runV (As := [.int x1]) (rest := []) ⟨C.1, C.2.1, C.2.2.2.2.2.2, C.2.2.2.2.2.1, C.2.2.2.2.1⟩ (soX0_knows l G ad kt iv ar x1 _  h H.size) (cwV 1 C.2.2.2.2.1 gX9_turned_X0_knows rfl rfl rfl (by decide +kernel) ⟨Nat.le_of_ble_eq_true rfl, Nat.le_of_ble_eq_true rfl⟩) (fw_preV hG hK (ci := 0) rfl kw_o0) rfl rfl hl.1 rfl (lv_room (Nat.le_of_ble_eq_true rfl)) dX9_turned_5 ⟨Nat.zero_le _, Nat.zero_le _⟩) hG hK (fun r1  H locs h hG => ?_)
  refine lv_if_ne (tgt := 13) C.1 C.2.1 dX9_turned_8 (by decide) (fun c2 => ?_) (fun c2 => ?_)
  · have h := h.1 c2
    refine lv_iload_n C.1 C.2.1 dX9_turned_13 rfl (lv_at hl 2 rfl) ?_
    refine lv_iconst (v := 1) C.1 C.2.1 dX9_turned_14 (by decide) ?_
    refine lv_bipush (v := 60) C.1 C.2.1 dX9_turned_15 (by decide) ?_
    refine fw_pcalli (va_runS (As := [.int x2, .int 1, .int 60]) (rest := []) ⟨C.1, C.2.1, C.2.2.2.2.2.2, C.2.2.2.2.2.1, C.2.2.2.2.1⟩ (soX9_within l x2 1 60 _ h H.size) (va_cwS 3 C.2.2.2.2.1 gX9_turned_X9_within rfl rfl rfl (by decide +kernel) ⟨Nat.le_of_ble_eq_true rfl, Nat.le_of_ble_eq_true rfl⟩) fw_ppre rfl rfl hl.1 rfl (lv_room (Nat.le_of_ble_eq_true rfl)) dX9_turned_17 ⟨Nat.zero_le _, Nat.zero_le _⟩) hG hK (fun r3  H locs h hG => ?_)
    refine lv_if_eq (tgt := 33) C.1 C.2.1 dX9_turned_20 (by decide) (fun c4 => ?_) (fun c4 => ?_)
    · have h := h.1 c4
      refine lv_bipush (v := (-2)) C.1 C.2.1 dX9_turned_33 (by decide) ?_
      exact fw_iret C hG ⟨h, rfl, rfl⟩ dX9_turned_35
    · have h := h.2 c4
      refine lv_iload_n C.1 C.2.1 dX9_turned_23 rfl (lv_at hl 3 rfl) ?_
      refine lv_iconst (v := 0) C.1 C.2.1 dX9_turned_24 (by decide) ?_
      refine lv_ldc C.1 C.2.1 C.2.2.2.2.2.1 k228 dX9_turned_25 ?_
      refine fw_pcalli (va_runS (As := [.int x3, .int 0, .int 99999]) (rest := []) ⟨C.1, C.2.1, C.2.2.2.2.2.2, C.2.2.2.2.2.1, C.2.2.2.2.1⟩ (soX9_within l x3 0 99999 _ h H.size) (va_cwS 3 C.2.2.2.2.1 gX9_turned_X9_within rfl rfl rfl (by decide +kernel) ⟨Nat.le_of_ble_eq_true rfl, Nat.le_of_ble_eq_true rfl⟩) fw_ppre rfl rfl hl.1 rfl (lv_room (Nat.le_of_ble_eq_true rfl)) dX9_turned_27 ⟨Nat.zero_le _, Nat.zero_le _⟩) hG hK (fun r5  H locs h hG => ?_)
      refine lv_if_ne (tgt := 36) C.1 C.2.1 dX9_turned_30 (by decide) (fun c6 => ?_) (fun c6 => ?_)
      · have h := h.1 c6
        refine lv_aload_n C.1 C.2.1 dX9_turned_36 rfl (lv_at hl 0 rfl) ?_
        refine fw_get (w := (kw G ad kt)) C in_X9 hK hG 0 kw_o9 rfl 3 (by decide) k31 rfl rfl dX9_turned_37 ?_
        refine fw_rcalli (va_runV (As := []) (rest := []) ⟨C.1, C.2.1, C.2.2.2.2.2.2, C.2.2.2.2.2.1, C.2.2.2.2.1⟩ (soX0_isSquare l G ad kt iv ar  _  h H.size) (cwV 0 C.2.2.2.2.1 gX9_turned_X0_isSquare rfl rfl rfl (by decide +kernel) ⟨Nat.le_of_ble_eq_true rfl, Nat.le_of_ble_eq_true rfl⟩) (fw_preV hG hK (ci := 0) rfl kw_o0) rfl rfl hl.1 rfl (lv_room (Nat.le_of_ble_eq_true rfl)) dX9_turned_40 ⟨Nat.zero_le _, Nat.zero_le _⟩) hG hK (fun r7  H locs h hG => ?_)
        refine lv_if_ne (tgt := 49) C.1 C.2.1 dX9_turned_43 (by decide) (fun c8 => ?_) (fun c8 => ?_)
        · have h := h.1 c8
          refine lv_aload_n C.1 C.2.1 dX9_turned_49 rfl (lv_at hl 0 rfl) ?_
          refine fw_get (w := (kw G ad kt)) C in_X9 hK hG 0 kw_o9 rfl 3 (by decide) k31 rfl rfl dX9_turned_50 ?_
          refine lv_aload_n C.1 C.2.1 dX9_turned_53 rfl (lv_at hl 0 rfl) ?_
          refine fw_get (w := (kw G ad kt)) C in_X9 hK hG 0 kw_o9 rfl 3 (by decide) k31 rfl rfl dX9_turned_54 ?_
          refine lv_iload_n C.1 C.2.1 dX9_turned_57 rfl (lv_at hl 1 rfl) ?_
          refine fw_rcalli (va_runV (As := [.int x1]) (rest := [.ref (ad 4)]) ⟨C.1, C.2.1, C.2.2.2.2.2.2, C.2.2.2.2.2.1, C.2.2.2.2.1⟩ (soX0_rowOf l G ad kt iv ar x1 _  h H.size) (cwV 1 C.2.2.2.2.1 gX9_turned_X0_rowOf rfl rfl rfl (by decide +kernel) ⟨Nat.le_of_ble_eq_true rfl, Nat.le_of_ble_eq_true rfl⟩) (fw_preV hG hK (ci := 0) rfl kw_o0) rfl rfl hl.1 rfl (lv_room (Nat.le_of_ble_eq_true rfl)) dX9_turned_58 ⟨Nat.zero_le _, Nat.zero_le _⟩) hG hK (fun r9  H locs h hG => ?_)
          refine lv_aload_n C.1 C.2.1 dX9_turned_61 rfl (lv_at hl 0 rfl) ?_
          refine fw_get (w := (kw G ad kt)) C in_X9 hK hG 0 kw_o9 rfl 3 (by decide) k31 rfl rfl dX9_turned_62 ?_
          refine lv_iload_n C.1 C.2.1 dX9_turned_65 rfl (lv_at hl 1 rfl) ?_
          refine fw_rcalli (va_runV (As := [.int x1]) (rest := [.int r9, .ref (ad 4)]) ⟨C.1, C.2.1, C.2.2.2.2.2.2, C.2.2.2.2.2.1, C.2.2.2.2.1⟩ (soX0_columnOf l G ad kt iv ar x1 _  h H.size) (cwV 1 C.2.2.2.2.1 gX9_turned_X0_columnOf rfl rfl rfl (by decide +kernel) ⟨Nat.le_of_ble_eq_true rfl, Nat.le_of_ble_eq_true rfl⟩) (fw_preV hG hK (ci := 0) rfl kw_o0) rfl rfl hl.1 rfl (lv_room (Nat.le_of_ble_eq_true rfl)) dX9_turned_66 ⟨Nat.zero_le _, Nat.zero_le _⟩) hG hK (fun r10  H locs h hG => ?_)
          refine lv_iload_n C.1 C.2.1 dX9_turned_69 rfl (lv_at hl 3 rfl) ?_
          refine lv_iload_n C.1 C.2.1 dX9_turned_70 rfl (lv_at hl 2 rfl) ?_
          obtain ⟨c11, h⟩ := h
          refine lv_idiv C.1 C.2.1 dX9_turned_71 c11 ?_
          refine lv_iconst (v := 4) C.1 C.2.1 dX9_turned_72 (by decide) ?_
          refine lv_irem C.1 C.2.1 dX9_turned_73 (by decide) ?_
          refine fw_rcalli (va_runV (As := [.int r9, .int r10, .int ((x3 / x2) - (x3 / x2) / 4 * 4)]) (rest := []) ⟨C.1, C.2.1, C.2.2.2.2.2.2, C.2.2.2.2.2.1, C.2.2.2.2.1⟩ (soX0_letterAt l G ad kt iv ar r9 r10 ((x3 / x2) - (x3 / x2) / 4 * 4) _  h H.size) (cwV 3 C.2.2.2.2.1 gX9_turned_X0_letterAt rfl rfl rfl (by decide +kernel) ⟨Nat.le_of_ble_eq_true rfl, Nat.le_of_ble_eq_true rfl⟩) (fw_preV hG hK (ci := 0) rfl kw_o0) rfl rfl hl.1 rfl (lv_room (Nat.le_of_ble_eq_true rfl)) dX9_turned_74 ⟨Nat.zero_le _, Nat.zero_le _⟩) hG hK (fun r12  H locs h hG => ?_)
          exact fw_iret C hG ⟨h, rfl, rfl⟩ dX9_turned_77
        · have h := h.2 c8
          refine lv_bipush (v := (-3)) C.1 C.2.1 dX9_turned_46 (by decide) ?_
          exact fw_iret C hG ⟨h, rfl, rfl⟩ dX9_turned_48
      · have h := h.2 c6
        refine lv_bipush (v := (-2)) C.1 C.2.1 dX9_turned_33 (by decide) ?_
        exact fw_iret C hG ⟨h, rfl, rfl⟩ dX9_turned_35
  · have h := h.2 c2
    refine lv_iconst (v := (-1)) C.1 C.2.1 dX9_turned_11 (by decide) ?_
    exact fw_iret C hG ⟨h, rfl, rfl⟩ dX9_turned_12
/-! KnifeBoard.seekHarmless(II)V -/
def rmX9_seekHarmless : Room := { frames := 5, cells := 0, slots := 0, locals := 125 }
def wpX9_seekHarmless_L2 (kt : kw_T) (x1 : Int32) (x2 : Int32) (Q : fw_F → fw_R → Prop) (K : Int32 → fw_F → fw_R → Prop) : Nat → Int32 → fw_F → fw_R → Prop
  | 0, _, _, _ => False
  | fu + 1, z3, iv, ar => (4 ≤ z3 → (K z3 iv ar)) ∧ (¬ 4 ≤ z3 → (wpX9_weightTo kt iv ar 4 x1 0 z3 (fun (r2 : Int32) => wpX9_isAtMost kt iv ar x2 r2 0 (fun (r3 : Int32) => vp_in (2 * z3) 8 ∧ (∀ ar5 : fw_R, ar5 = va_up ar 26 (upd (ar 26) (2 * z3).toNatClampNeg (vp_nar .boolean r3)) → (wpX9_weightTo kt iv ar5 12 x1 0 z3 (fun (r6 : Int32) => wpX9_isAtMost kt iv ar5 x2 r6 0 (fun (r7 : Int32) => vp_in ((2 * z3) + 1) 8 ∧ (∀ ar9 : fw_R, ar9 = va_up ar5 26 (upd (ar5 26) ((2 * z3) + 1).toNatClampNeg (vp_nar .boolean r7)) → (∀ y10 : Int32, y10 = z3 + 1 → (wpX9_seekHarmless_L2 kt x1 x2 Q K fu y10 iv ar9)))))))))))
def wpX9_seekHarmless (kt : kw_T) (iv : fw_F) (ar : fw_R) (x1 : Int32) (x2 : Int32) (Q : fw_F → fw_R → Prop) : Prop := ∃ ku : Nat, wpX9_seekHarmless_L2 kt x1 x2 Q (fun (w11 : Int32) (iv12 : fw_F) (ar13 : fw_R) => Q iv12 ar13) ku 0 iv ar
set_option maxHeartbeats 4000000 in
set_option maxRecDepth 100000 in
theorem soX9_seekHarmless_L2 {p : Program} {l : Launch} {e : Env} {s : State} {m : MethodId} {args : Array Value} {below : List Frame} {meth : Method} {c : Code} {A : Nat → Prop} {G : fw_G} {ad : Nat → Nat} {kt : kw_T} {x1 : Int32} {x2 : Int32} {Q : fw_F → fw_R → Prop} {K : Int32 → fw_F → fw_R → Prop} (C : fw_C p s m args meth c cX9_seekHarmless 4 none wsX9_seekHarmless RX9) (hK : fw_K G A s)  (hX : ∀ (z3 : Int32) (iv : fw_F) (ar : fw_R), K z3 iv ar → ∀ (H : Heap) (locs : List Loc), fw_H G ((kw G ad kt) iv ar) A s H locs → ∀ (ls : Array Slot), lv_has ls 4 [(3, .int z3), (0, .ref (ad 0)), (1, .int x1), (2, .int x2)] → W p l e rmX9_seekHarmless s m args below meth c H locs 0 0 (MQ below (fw_Qv G (kw G ad kt) Q A) args s 0 0 A) (F0 m 60 ls [])) : ∀ (fu : Nat) (z3 : Int32) (iv : fw_F) (ar : fw_R), wpX9_seekHarmless_L2 kt x1 x2 Q K fu z3 iv ar → ∀ (H : Heap) (locs : List Loc), fw_H G ((kw G ad kt) iv ar) A s H locs → ∀ (ls : Array Slot), lv_has ls 4 [(3, .int z3), (0, .ref (ad 0)), (1, .int x1), (2, .int x2)] → W p l e rmX9_seekHarmless s m args below meth c H locs 0 0 (MQ below (fw_Qv G (kw G ad kt) Q A) args s 0 0 A) (F0 m 2 ls []) := by
  intro fu
  have in_X9 : ∀ x ∈ wsX90, x ∈ wsX9_seekHarmless := by decide +kernel
  have k60 := C.2.2.2.2.1 (.fieldLink RX9 60 "KnifeBoard" "harmless" "[Z") (by decide +kernel)
  induction fu with
  | zero => intro z3 iv ar h; exact h.elim
  | succ fu ih =>
    intro z3 iv ar h H locs hG ls hl
    unfold wpX9_seekHarmless_L2 at h
    refine lv_iload_n C.1 C.2.1 dX9_seekHarmless_2 rfl (lv_at hl 0 rfl) ?_
    refine lv_iconst (v := 4) C.1 C.2.1 dX9_seekHarmless_3 (by decide) ?_
    refine lv_icmp_ge (tgt := 60) C.1 C.2.1 dX9_seekHarmless_4 (by decide) (fun c1 => ?_) (fun c1 => ?_)
    · have h := h.1 c1
      exact hX _ _ _ h _ _ hG ls (lv_sub hl [0, 1, 2, 3] rfl)
    · have h := h.2 c1
      refine lv_aload_n C.1 C.2.1 dX9_seekHarmless_7 rfl (lv_at hl 1 rfl) ?_
      refine fw_get (w := (kw G ad kt)) C in_X9 hK hG 0 kw_o9 rfl 8 (by decide) k60 rfl rfl dX9_seekHarmless_8 ?_
      refine lv_iconst (v := 2) C.1 C.2.1 dX9_seekHarmless_11 (by decide) ?_
      refine lv_iload_n C.1 C.2.1 dX9_seekHarmless_12 rfl (lv_at hl 0 rfl) ?_
      refine lv_imul C.1 C.2.1 dX9_seekHarmless_13 ?_
      refine lv_aload_n C.1 C.2.1 dX9_seekHarmless_14 rfl (lv_at hl 1 rfl) ?_
      refine lv_iload_n C.1 C.2.1 dX9_seekHarmless_15 rfl (lv_at hl 3 rfl) ?_
      refine lv_aload_n C.1 C.2.1 dX9_seekHarmless_16 rfl (lv_at hl 1 rfl) ?_
      refine lv_iconst (v := 4) C.1 C.2.1 dX9_seekHarmless_17 (by decide) ?_
      refine lv_iload_n C.1 C.2.1 dX9_seekHarmless_18 rfl (lv_at hl 2 rfl) ?_
      refine lv_iconst (v := 0) C.1 C.2.1 dX9_seekHarmless_19 (by decide) ?_
      refine lv_iload_n C.1 C.2.1 dX9_seekHarmless_20 rfl (lv_at hl 0 rfl) ?_
      refine fw_rcalli (va_runV (As := [.int 4, .int x1, .int 0, .int z3]) (rest := [.int x2, .ref (ad 0), .int (2 * z3), .ref (ad 26)]) ⟨C.1, C.2.1, C.2.2.2.2.2.2, C.2.2.2.2.2.1, C.2.2.2.2.1⟩ (soX9_weightTo l G ad kt iv ar 4 x1 0 z3 _  h H.size) (cwV 4 C.2.2.2.2.1 gX9_seekHarmless_X9_weightTo rfl rfl rfl (by decide +kernel) ⟨Nat.le_of_ble_eq_true rfl, Nat.le_of_ble_eq_true rfl⟩) (fw_preV hG hK (ci := 9) rfl kw_o9) rfl rfl hl.1 rfl (lv_room (Nat.le_of_ble_eq_true rfl)) dX9_seekHarmless_21 ⟨Nat.zero_le _, Nat.zero_le _⟩) hG hK (fun r2  H locs h hG => ?_)
      refine lv_iconst (v := 0) C.1 C.2.1 dX9_seekHarmless_24 (by decide) ?_
      refine fw_rcalli (va_runV (As := [.int x2, .int r2, .int 0]) (rest := [.int (2 * z3), .ref (ad 26)]) ⟨C.1, C.2.1, C.2.2.2.2.2.2, C.2.2.2.2.2.1, C.2.2.2.2.1⟩ (soX9_isAtMost l G ad kt iv ar x2 r2 0 _  h H.size) (cwV 3 C.2.2.2.2.1 gX9_seekHarmless_X9_isAtMost rfl rfl rfl (by decide +kernel) ⟨Nat.le_of_ble_eq_true rfl, Nat.le_of_ble_eq_true rfl⟩) (fw_preV hG hK (ci := 9) rfl kw_o9) rfl rfl hl.1 rfl (lv_room (Nat.le_of_ble_eq_true rfl)) dX9_seekHarmless_25 ⟨Nat.zero_le _, Nat.zero_le _⟩) hG hK (fun r3  H locs h hG => ?_)
      obtain ⟨c4, h⟩ := h
      obtain ⟨ar5, ear5⟩ : ∃ z : fw_R, z = va_up ar 26 (upd (ar 26) (2 * z3).toNatClampNeg (vp_nar .boolean r3)) := ⟨_, rfl⟩
      have h := h ar5 ear5
      refine fw_zast (w := (kw G ad kt)) C hK hG 26 kw_a26 c4 (ar1 := ar5) (by rw [ear5]; exact kw_s26) dX9_seekHarmless_28 (fun H locs hG => ?_)
      refine lv_aload_n C.1 C.2.1 dX9_seekHarmless_29 rfl (lv_at hl 1 rfl) ?_
      refine fw_get (w := (kw G ad kt)) C in_X9 hK hG 0 kw_o9 rfl 8 (by decide) k60 rfl rfl dX9_seekHarmless_30 ?_
      refine lv_iconst (v := 2) C.1 C.2.1 dX9_seekHarmless_33 (by decide) ?_
      refine lv_iload_n C.1 C.2.1 dX9_seekHarmless_34 rfl (lv_at hl 0 rfl) ?_
      refine lv_imul C.1 C.2.1 dX9_seekHarmless_35 ?_
      refine lv_iconst (v := 1) C.1 C.2.1 dX9_seekHarmless_36 (by decide) ?_
      refine lv_iadd C.1 C.2.1 dX9_seekHarmless_37 ?_
      refine lv_aload_n C.1 C.2.1 dX9_seekHarmless_38 rfl (lv_at hl 1 rfl) ?_
      refine lv_iload_n C.1 C.2.1 dX9_seekHarmless_39 rfl (lv_at hl 3 rfl) ?_
      refine lv_aload_n C.1 C.2.1 dX9_seekHarmless_40 rfl (lv_at hl 1 rfl) ?_
      refine lv_bipush (v := 12) C.1 C.2.1 dX9_seekHarmless_41 (by decide) ?_
      refine lv_iload_n C.1 C.2.1 dX9_seekHarmless_43 rfl (lv_at hl 2 rfl) ?_
      refine lv_iconst (v := 0) C.1 C.2.1 dX9_seekHarmless_44 (by decide) ?_
      refine lv_iload_n C.1 C.2.1 dX9_seekHarmless_45 rfl (lv_at hl 0 rfl) ?_
      refine fw_rcalli (va_runV (As := [.int 12, .int x1, .int 0, .int z3]) (rest := [.int x2, .ref (ad 0), .int ((2 * z3) + 1), .ref (ad 26)]) ⟨C.1, C.2.1, C.2.2.2.2.2.2, C.2.2.2.2.2.1, C.2.2.2.2.1⟩ (soX9_weightTo l G ad kt iv ar5 12 x1 0 z3 _  h H.size) (cwV 4 C.2.2.2.2.1 gX9_seekHarmless_X9_weightTo rfl rfl rfl (by decide +kernel) ⟨Nat.le_of_ble_eq_true rfl, Nat.le_of_ble_eq_true rfl⟩) (fw_preV hG hK (ci := 9) rfl kw_o9) rfl rfl hl.1 rfl (lv_room (Nat.le_of_ble_eq_true rfl)) dX9_seekHarmless_46 ⟨Nat.zero_le _, Nat.zero_le _⟩) hG hK (fun r6  H locs h hG => ?_)
      refine lv_iconst (v := 0) C.1 C.2.1 dX9_seekHarmless_49 (by decide) ?_
      refine fw_rcalli (va_runV (As := [.int x2, .int r6, .int 0]) (rest := [.int ((2 * z3) + 1), .ref (ad 26)]) ⟨C.1, C.2.1, C.2.2.2.2.2.2, C.2.2.2.2.2.1, C.2.2.2.2.1⟩ (soX9_isAtMost l G ad kt iv ar5 x2 r6 0 _  h H.size) (cwV 3 C.2.2.2.2.1 gX9_seekHarmless_X9_isAtMost rfl rfl rfl (by decide +kernel) ⟨Nat.le_of_ble_eq_true rfl, Nat.le_of_ble_eq_true rfl⟩) (fw_preV hG hK (ci := 9) rfl kw_o9) rfl rfl hl.1 rfl (lv_room (Nat.le_of_ble_eq_true rfl)) dX9_seekHarmless_50 ⟨Nat.zero_le _, Nat.zero_le _⟩) hG hK (fun r7  H locs h hG => ?_)
      obtain ⟨c8, h⟩ := h
      obtain ⟨ar9, ear9⟩ : ∃ z : fw_R, z = va_up ar5 26 (upd (ar5 26) ((2 * z3) + 1).toNatClampNeg (vp_nar .boolean r7)) := ⟨_, rfl⟩
      have h := h ar9 ear9
      refine fw_zast (w := (kw G ad kt)) C hK hG 26 kw_a26 c8 (ar1 := ar9) (by rw [ear9]; exact kw_s26) dX9_seekHarmless_53 (fun H locs hG => ?_)
      obtain ⟨y10, ey10⟩ : ∃ z : Int32, z = z3 + 1 := ⟨_, rfl⟩
      have h := h y10 ey10
      refine lv_iinc (v := y10) (lv' := [(3, .int y10), (0, .ref (ad 0)), (1, .int x1), (2, .int x2)]) C.1 C.2.1 dX9_seekHarmless_54 hl (k := 0) rfl (by rw [ey10]; rfl) (by decide) rfl (fun ls hl => ?_)
      refine lv_goto (tgt := 2) C.1 C.2.1 dX9_seekHarmless_57 (by decide) ?_
      exact ih _ _ _ h _ _ hG ls (lv_sub hl [0, 1, 2, 3] rfl)

set_option maxHeartbeats 4000000 in
set_option maxRecDepth 100000 in
theorem soX9_seekHarmless (l : Launch) (G : fw_G) (ad : Nat → Nat) (kt : kw_T) (iv : fw_F) (ar : fw_R) (x1 : Int32) (x2 : Int32) (Q : fw_F → fw_R → Prop)  (h : wpX9_seekHarmless kt iv ar x1 x2 Q) : fw_M l G (kw G ad kt) yX9_seekHarmless wsX9_seekHarmless rmX9_seekHarmless [.ref (ad 0), .int x1, .int x2] iv ar (fw_Qv G (kw G ad kt) Q) := by
  refine fw_start (cc := cX9_seekHarmless) (nL := 4) (rt := none) (by decide) rfl (Nat.le_of_ble_eq_true rfl) ?_
  intro p e s m below meth c A ls H locs C hK hG hl
  obtain ⟨args, ea⟩ : ∃ z : Array Value, z = ([.ref (ad 0), .int x1, .int x2] : List Value).toArray := ⟨_, rfl⟩
  rw [← ea] at C ⊢
  have C : fw_C p s m args meth c cX9_seekHarmless 4 none wsX9_seekHarmless RX9 := C
  have hl : lv_has ls 4 [(0, .ref (ad 0)), (1, .int x1), (2, .int x2)] := hl
  unfold wpX9_seekHarmless at h
  refine lv_iconst (v := 0) C.1 C.2.1 dX9_seekHarmless_0 (by decide) ?_
  refine lv_istore_n (lv' := [(3, .int 0), (0, .ref (ad 0)), (1, .int x1), (2, .int x2)]) C.1 C.2.1 dX9_seekHarmless_1 rfl hl (by decide) rfl (fun ls hl => ?_)
  obtain ⟨ku, h⟩ := h
  refine soX9_seekHarmless_L2 C hK  ?_ ku _ _ _ h _ _ hG ls (lv_sub hl [0, 1, 2, 3] rfl)
  intro w11 iv12 ar13 h H locs hG ls hl
  exact fw_vret C hG h dX9_seekHarmless_60
/-! KnifeBoard.when(IIIIIIII)I -/
def rmX9_when : Room := { frames := 6, cells := 0, slots := 0, locals := 148 }
def wpX9_when_L140 (kt : kw_T) (x1 : Int32) (x2 : Int32) (x3 : Int32) (x4 : Int32) (x5 : Int32) (x6 : Int32) (x7 : Int32) (x8 : Int32) (r22 : Int32) (iv20 : fw_F) (ar21 : fw_R) (Q : Int32 → fw_F → fw_R → Prop) (K : Int32 → Prop) : Nat → Int32 → Prop
  | 0, _ => False
  | fu + 1, z11 => ((x8 + 1000) < z11 → (K z11)) ∧ (¬ (x8 + 1000) < z11 → (∀ y24 : Int32, y24 = z11 + r22 → (¬ x5 = 0 ∧ ((x6 ≤ (y24 - y24 / x5 * x5) → (¬ x4 = 0 ∧ (vp_in ((((y24 / x4) - (y24 / x4) / 4 * 4) * 2) + 0) 8 ∧ ((((ar21 26) ((((y24 / x4) - (y24 / x4) / 4 * 4) * 2) + 0).toNatClampNeg) = 0 → (∀ y30 : Int32, y30 = z11 + 1 → (wpX9_when_L140 kt x1 x2 x3 x4 x5 x6 x7 x8 r22 iv20 ar21 Q K fu y30))) ∧ (¬ ((ar21 26) ((((y24 / x4) - (y24 / x4) / 4 * 4) * 2) + 0).toNatClampNeg) = 0 → (Q z11 iv20 ar21)))))) ∧ (¬ x6 ≤ (y24 - y24 / x5 * x5) → (¬ x4 = 0 ∧ (vp_in ((((y24 / x4) - (y24 / x4) / 4 * 4) * 2) + 1) 8 ∧ ((((ar21 26) ((((y24 / x4) - (y24 / x4) / 4 * 4) * 2) + 1).toNatClampNeg) = 0 → (∀ y34 : Int32, y34 = z11 + 1 → (wpX9_when_L140 kt x1 x2 x3 x4 x5 x6 x7 x8 r22 iv20 ar21 Q K fu y34))) ∧ (¬ ((ar21 26) ((((y24 / x4) - (y24 / x4) / 4 * 4) * 2) + 1).toNatClampNeg) = 0 → (Q z11 iv20 ar21))))))))))
def wpX9_when (kt : kw_T) (iv : fw_F) (ar : fw_R) (x1 : Int32) (x2 : Int32) (x3 : Int32) (x4 : Int32) (x5 : Int32) (x6 : Int32) (x7 : Int32) (x8 : Int32) (Q : Int32 → fw_F → fw_R → Prop) : Prop := wpX9_knifeAt kt iv ar x1 (fun (r1 : Option Nat) => (r1 = none → (Q (-1) iv ar)) ∧ (∀ i2 : Nat, r1 = some i2 → i2 < kt.1 ∧ (wpX0_knows kt iv ar x3 (fun (r3 : Int32) => (¬ r3 = 0 → (wpX9_within x2 1 40 (fun (r5 : Int32) => (r5 = 0 → (Q (-2) iv ar)) ∧ (¬ r5 = 0 → (wpX9_within x4 1 60 (fun (r7 : Int32) => (r7 = 0 → (Q (-2) iv ar)) ∧ (¬ r7 = 0 → (wpX9_within x5 1 60 (fun (r9 : Int32) => (¬ r9 = 0 → (wpX9_within x6 0 x5 (fun (r11 : Int32) => (r11 = 0 → (Q (-2) iv ar)) ∧ (¬ r11 = 0 → (wpX9_within x7 0 1000 (fun (r13 : Int32) => (r13 = 0 → (Q (-2) iv ar)) ∧ (¬ r13 = 0 → (wpX9_within x8 0 9999 (fun (r15 : Int32) => (¬ r15 = 0 → (((iv 2) = 0 → (Q (-3) iv ar)) ∧ (¬ (iv 2) = 0 → (wpX0_isSquare kt iv ar  (fun (r18 : Int32) => (¬ r18 = 0 → (wpX9_seekHarmless kt iv ar x3 x7 (fun (iv20 : fw_F) (ar21 : fw_R) => wpX3_flightOf kt iv20 ar21 i2 x2 (fun (r22 : Int32) => ∃ ku : Nat, wpX9_when_L140 kt x1 x2 x3 x4 x5 x6 x7 x8 r22 iv20 ar21 Q (fun (w35 : Int32) => Q (-9) iv20 ar21) ku x8)))) ∧ (r18 = 0 → (Q (-3) iv ar))))))) ∧ (r15 = 0 → (Q (-2) iv ar))))))))))) ∧ (r9 = 0 → (Q (-2) iv ar))))))))))) ∧ (r3 = 0 → (Q (-1) iv ar))))))
set_option maxHeartbeats 4000000 in
set_option maxRecDepth 100000 in
theorem soX9_when_L140 {p : Program} {l : Launch} {e : Env} {s : State} {m : MethodId} {args : Array Value} {below : List Frame} {meth : Method} {c : Code} {A : Nat → Prop} {G : fw_G} {ad : Nat → Nat} {kt : kw_T} {x1 : Int32} {x2 : Int32} {x3 : Int32} {x4 : Int32} {x5 : Int32} {x6 : Int32} {x7 : Int32} {x8 : Int32} {r22 : Int32} {iv20 : fw_F} {ar21 : fw_R} {Q : Int32 → fw_F → fw_R → Prop} {K : Int32 → Prop} (C : fw_C p s m args meth c cX9_when 14 (some .int) wsX9_when RX9) (hK : fw_K G A s)  (hX : ∀ (z11 : Int32), K z11 → ∀ (H : Heap) (locs : List Loc), fw_H G ((kw G ad kt) iv20 ar21) A s H locs → ∀ (ls : Array Slot), lv_has ls 14 [(11, .int z11), (10, .int r22), (0, .ref (ad 0)), (4, .int x4), (5, .int x5), (6, .int x6), (8, .int x8)] → W p l e rmX9_when s m args below meth c H locs 0 0 (MQ below (fw_Qi G (kw G ad kt) Q A) args s 0 0 A) (F0 m 204 ls [])) : ∀ (fu : Nat) (z11 : Int32), wpX9_when_L140 kt x1 x2 x3 x4 x5 x6 x7 x8 r22 iv20 ar21 Q K fu z11 → ∀ (H : Heap) (locs : List Loc), fw_H G ((kw G ad kt) iv20 ar21) A s H locs → ∀ (ls : Array Slot), lv_has ls 14 [(11, .int z11), (10, .int r22), (0, .ref (ad 0)), (4, .int x4), (5, .int x5), (6, .int x6), (8, .int x8)] → W p l e rmX9_when s m args below meth c H locs 0 0 (MQ below (fw_Qi G (kw G ad kt) Q A) args s 0 0 A) (F0 m 140 ls []) := by
  intro fu
  have in_X9 : ∀ x ∈ wsX90, x ∈ wsX9_when := by decide +kernel
  have k60 := C.2.2.2.2.1 (.fieldLink RX9 60 "KnifeBoard" "harmless" "[Z") (by decide +kernel)
  induction fu with
  | zero => intro z11 h; exact h.elim
  | succ fu ih =>
    intro z11 h H locs hG ls hl
    unfold wpX9_when_L140 at h
    refine lv_iload C.1 C.2.1 dX9_when_140 (lv_at hl 0 rfl) ?_
    refine lv_iload C.1 C.2.1 dX9_when_142 (lv_at hl 6 rfl) ?_
    refine lv_sipush (v := 1000) C.1 C.2.1 dX9_when_144 (by decide) ?_
    refine lv_iadd C.1 C.2.1 dX9_when_147 ?_
    refine lv_icmp_gt (tgt := 204) C.1 C.2.1 dX9_when_148 (by decide) (fun c23 => ?_) (fun c23 => ?_)
    · have h := h.1 c23
      exact hX _ h _ _ hG ls (lv_sub hl [0, 1, 2, 3, 4, 5, 6] rfl)
    · have h := h.2 c23
      refine lv_iload C.1 C.2.1 dX9_when_151 (lv_at hl 0 rfl) ?_
      refine lv_iload C.1 C.2.1 dX9_when_153 (lv_at hl 1 rfl) ?_
      refine lv_iadd C.1 C.2.1 dX9_when_155 ?_
      refine lv_topi (fun y24 ey24 => ?_)
      have h := h y24 ey24
      refine lv_istore (lv' := [(12, .int y24), (11, .int z11), (10, .int r22), (0, .ref (ad 0)), (4, .int x4), (5, .int x5), (6, .int x6), (8, .int x8)]) C.1 C.2.1 dX9_when_156 hl (by decide) rfl (fun ls hl => ?_)
      refine lv_iload C.1 C.2.1 dX9_when_158 (lv_at hl 0 rfl) ?_
      refine lv_iload C.1 C.2.1 dX9_when_160 (lv_at hl 5 rfl) ?_
      obtain ⟨c25, h⟩ := h
      refine lv_irem C.1 C.2.1 dX9_when_162 c25 ?_
      refine lv_iload C.1 C.2.1 dX9_when_163 (lv_at hl 6 rfl) ?_
      refine lv_icmp_ge (tgt := 172) C.1 C.2.1 dX9_when_165 (by decide) (fun c26 => ?_) (fun c26 => ?_)
      · have h := h.1 c26
        refine lv_iconst (v := 0) C.1 C.2.1 dX9_when_172 (by decide) ?_
        refine lv_istore (lv' := [(13, .int 0), (12, .int y24), (11, .int z11), (10, .int r22), (0, .ref (ad 0)), (4, .int x4), (5, .int x5), (6, .int x6), (8, .int x8)]) C.1 C.2.1 dX9_when_173 hl (by decide) rfl (fun ls hl => ?_)
        refine lv_aload_n C.1 C.2.1 dX9_when_175 rfl (lv_at hl 4 rfl) ?_
        refine fw_get (w := (kw G ad kt)) C in_X9 hK hG 0 kw_o9 rfl 8 (by decide) k60 rfl rfl dX9_when_176 ?_
        refine lv_iload C.1 C.2.1 dX9_when_179 (lv_at hl 1 rfl) ?_
        refine lv_iload C.1 C.2.1 dX9_when_181 (lv_at hl 5 rfl) ?_
        obtain ⟨c27, h⟩ := h
        refine lv_idiv C.1 C.2.1 dX9_when_183 c27 ?_
        refine lv_iconst (v := 4) C.1 C.2.1 dX9_when_184 (by decide) ?_
        refine lv_irem C.1 C.2.1 dX9_when_185 (by decide) ?_
        refine lv_iconst (v := 2) C.1 C.2.1 dX9_when_186 (by decide) ?_
        refine lv_imul C.1 C.2.1 dX9_when_187 ?_
        refine lv_iload C.1 C.2.1 dX9_when_188 (lv_at hl 0 rfl) ?_
        refine lv_iadd C.1 C.2.1 dX9_when_190 ?_
        obtain ⟨c28, h⟩ := h
        refine fw_zald (w := (kw G ad kt)) C hK hG 26 kw_a26 c28 dX9_when_191 ?_
        refine lv_if_eq (tgt := 198) C.1 C.2.1 dX9_when_192 (by decide) (fun c29 => ?_) (fun c29 => ?_)
        · have h := h.1 c29
          obtain ⟨y30, ey30⟩ : ∃ z : Int32, z = z11 + 1 := ⟨_, rfl⟩
          have h := h y30 ey30
          refine lv_iinc (v := y30) (lv' := [(11, .int y30), (13, .int 0), (12, .int y24), (10, .int r22), (0, .ref (ad 0)), (4, .int x4), (5, .int x5), (6, .int x6), (8, .int x8)]) C.1 C.2.1 dX9_when_198 hl (k := 2) rfl (by rw [ey30]; rfl) (by decide) rfl (fun ls hl => ?_)
          refine lv_goto (tgt := 140) C.1 C.2.1 dX9_when_201 (by decide) ?_
          exact ih _ h _ _ hG ls (lv_sub hl [0, 3, 4, 5, 6, 7, 8] rfl)
        · have h := h.2 c29
          refine lv_iload C.1 C.2.1 dX9_when_195 (lv_at hl 2 rfl) ?_
          exact fw_iret C hG h dX9_when_197
      · have h := h.2 c26
        refine lv_iconst (v := 1) C.1 C.2.1 dX9_when_168 (by decide) ?_
        refine lv_goto (tgt := 173) C.1 C.2.1 dX9_when_169 (by decide) ?_
        refine lv_istore (lv' := [(13, .int 1), (12, .int y24), (11, .int z11), (10, .int r22), (0, .ref (ad 0)), (4, .int x4), (5, .int x5), (6, .int x6), (8, .int x8)]) C.1 C.2.1 dX9_when_173 hl (by decide) rfl (fun ls hl => ?_)
        refine lv_aload_n C.1 C.2.1 dX9_when_175 rfl (lv_at hl 4 rfl) ?_
        refine fw_get (w := (kw G ad kt)) C in_X9 hK hG 0 kw_o9 rfl 8 (by decide) k60 rfl rfl dX9_when_176 ?_
        refine lv_iload C.1 C.2.1 dX9_when_179 (lv_at hl 1 rfl) ?_
        refine lv_iload C.1 C.2.1 dX9_when_181 (lv_at hl 5 rfl) ?_
        obtain ⟨c31, h⟩ := h
        refine lv_idiv C.1 C.2.1 dX9_when_183 c31 ?_
        refine lv_iconst (v := 4) C.1 C.2.1 dX9_when_184 (by decide) ?_
        refine lv_irem C.1 C.2.1 dX9_when_185 (by decide) ?_
        refine lv_iconst (v := 2) C.1 C.2.1 dX9_when_186 (by decide) ?_
        refine lv_imul C.1 C.2.1 dX9_when_187 ?_
        refine lv_iload C.1 C.2.1 dX9_when_188 (lv_at hl 0 rfl) ?_
        refine lv_iadd C.1 C.2.1 dX9_when_190 ?_
        obtain ⟨c32, h⟩ := h
        refine fw_zald (w := (kw G ad kt)) C hK hG 26 kw_a26 c32 dX9_when_191 ?_
        refine lv_if_eq (tgt := 198) C.1 C.2.1 dX9_when_192 (by decide) (fun c33 => ?_) (fun c33 => ?_)
        · have h := h.1 c33
          obtain ⟨y34, ey34⟩ : ∃ z : Int32, z = z11 + 1 := ⟨_, rfl⟩
          have h := h y34 ey34
          refine lv_iinc (v := y34) (lv' := [(11, .int y34), (13, .int 1), (12, .int y24), (10, .int r22), (0, .ref (ad 0)), (4, .int x4), (5, .int x5), (6, .int x6), (8, .int x8)]) C.1 C.2.1 dX9_when_198 hl (k := 2) rfl (by rw [ey34]; rfl) (by decide) rfl (fun ls hl => ?_)
          refine lv_goto (tgt := 140) C.1 C.2.1 dX9_when_201 (by decide) ?_
          exact ih _ h _ _ hG ls (lv_sub hl [0, 3, 4, 5, 6, 7, 8] rfl)
        · have h := h.2 c33
          refine lv_iload C.1 C.2.1 dX9_when_195 (lv_at hl 2 rfl) ?_
          exact fw_iret C hG h dX9_when_197

set_option maxHeartbeats 4000000 in
set_option maxRecDepth 100000 in
theorem soX9_when (l : Launch) (G : fw_G) (ad : Nat → Nat) (kt : kw_T) (iv : fw_F) (ar : fw_R) (x1 : Int32) (x2 : Int32) (x3 : Int32) (x4 : Int32) (x5 : Int32) (x6 : Int32) (x7 : Int32) (x8 : Int32) (Q : Int32 → fw_F → fw_R → Prop)  (h : wpX9_when kt iv ar x1 x2 x3 x4 x5 x6 x7 x8 Q) : fw_M l G (kw G ad kt) yX9_when wsX9_when rmX9_when [.ref (ad 0), .int x1, .int x2, .int x3, .int x4, .int x5, .int x6, .int x7, .int x8] iv ar (fw_Qi G (kw G ad kt) Q) := by
  refine fw_start (cc := cX9_when) (nL := 14) (rt := (some .int)) (by decide) rfl (Nat.le_of_ble_eq_true rfl) ?_
  intro p e s m below meth c A ls H locs C hK hG hl
  obtain ⟨args, ea⟩ : ∃ z : Array Value, z = ([.ref (ad 0), .int x1, .int x2, .int x3, .int x4, .int x5, .int x6, .int x7, .int x8] : List Value).toArray := ⟨_, rfl⟩
  rw [← ea] at C ⊢
  have C : fw_C p s m args meth c cX9_when 14 (some .int) wsX9_when RX9 := C
  have hl : lv_has ls 14 [(0, .ref (ad 0)), (1, .int x1), (2, .int x2), (3, .int x3), (4, .int x4), (5, .int x5), (6, .int x6), (7, .int x7), (8, .int x8)] := hl
  unfold wpX9_when at h
  have in_X1 : ∀ x ∈ wsX10, x ∈ wsX9_when := by decide +kernel
  have in_X9 : ∀ x ∈ wsX90, x ∈ wsX9_when := by decide +kernel
  have k145 := C.2.2.2.2.1 (.fieldLink RX9 145 "KnifeBoard$Hand" "told" "Z") (by decide +kernel)
  have k24 := C.2.2.2.2.1 (.fieldLink RX9 24 "KnifeBoard" "theHand" "LKnifeBoard$Hand;") (by decide +kernel)
  have k31 := C.2.2.2.2.1 (.fieldLink RX9 31 "KnifeBoard" "theBoard" "LKnifeBoard$Board;") (by decide +kernel)
  refine lv_aload_n C.1 C.2.1 dX9_when_0 rfl (lv_at hl 0 rfl) ?_
  refine lv_iload_n C.1 C.2.1 dX9_when_1 rfl (lv_at hl 1 rfl) ?_
  refine fw_rcallq (va_runV (As := [.int x1]) (rest := []) ⟨C.1, C.2.1, C.2.2.2.2.2.2, C.2.2.2.2.2.1, C.2.2.2.2.1⟩ (soX9_knifeAt l G ad kt iv ar x1 _  h H.size) (cwV 1 C.2.2.2.2.1 gX9_when_X9_knifeAt rfl rfl rfl (by decide +kernel) ⟨Nat.le_of_ble_eq_true rfl, Nat.le_of_ble_eq_true rfl⟩) (fw_preV hG hK (ci := 9) rfl kw_o9) rfl rfl hl.1 rfl (lv_room (Nat.le_of_ble_eq_true rfl)) dX9_when_2 ⟨Nat.zero_le _, Nat.zero_le _⟩) hG hK (fun r1  H locs h hG => ?_)
  rcases r1 with _ | i2
  · have h := h.1 rfl
    refine W.eq (g2 := F0 m 5 ls (.null :: [])) rfl ?_
    refine lv_astoreN (lv' := [(9, .null), (0, .ref (ad 0)), (1, .int x1), (2, .int x2), (3, .int x3), (4, .int x4), (5, .int x5), (6, .int x6), (7, .int x7), (8, .int x8)]) C.1 C.2.1 dX9_when_5 hl (by decide) rfl (fun ls hl => ?_)
    refine lv_aloadN C.1 C.2.1 dX9_when_7 (lv_at hl 0 rfl) ?_
    refine lv_ifnullN (tgt := 23) C.1 C.2.1 dX9_when_9 (by decide) ?_
    refine lv_iconst (v := (-1)) C.1 C.2.1 dX9_when_23 (by decide) ?_
    exact fw_iret C hG h dX9_when_24
  · obtain ⟨hi2, h⟩ := h.2 i2 rfl
    refine W.eq (g2 := F0 m 5 ls (.ref (ad (28 + 2 * i2)) :: [])) rfl ?_
    refine lv_astore (lv' := [(9, .ref (ad (28 + 2 * i2))), (0, .ref (ad 0)), (1, .int x1), (2, .int x2), (3, .int x3), (4, .int x4), (5, .int x5), (6, .int x6), (7, .int x7), (8, .int x8)]) C.1 C.2.1 dX9_when_5 hl (by decide) rfl (fun ls hl => ?_)
    refine lv_aload C.1 C.2.1 dX9_when_7 (lv_at hl 0 rfl) ?_
    refine lv_ifnull C.1 C.2.1 dX9_when_9 ?_
    refine lv_aload_n C.1 C.2.1 dX9_when_12 rfl (lv_at hl 1 rfl) ?_
    refine fw_get (w := (kw G ad kt)) C in_X9 hK hG 0 kw_o9 rfl 3 (by decide) k31 rfl rfl dX9_when_13 ?_
    refine lv_iload_n C.1 C.2.1 dX9_when_16 rfl (lv_at hl 4 rfl) ?_
    refine fw_rcalli (va_runV (As := [.int x3]) (rest := []) ⟨C.1, C.2.1, C.2.2.2.2.2.2, C.2.2.2.2.2.1, C.2.2.2.2.1⟩ (soX0_knows l G ad kt iv ar x3 _  h H.size) (cwV 1 C.2.2.2.2.1 gX9_when_X0_knows rfl rfl rfl (by decide +kernel) ⟨Nat.le_of_ble_eq_true rfl, Nat.le_of_ble_eq_true rfl⟩) (fw_preV hG hK (ci := 0) rfl kw_o0) rfl rfl hl.1 rfl (lv_room (Nat.le_of_ble_eq_true rfl)) dX9_when_17 ⟨Nat.zero_le _, Nat.zero_le _⟩) hG hK (fun r3  H locs h hG => ?_)
    refine lv_if_ne (tgt := 25) C.1 C.2.1 dX9_when_20 (by decide) (fun c4 => ?_) (fun c4 => ?_)
    · have h := h.1 c4
      refine lv_iload_n C.1 C.2.1 dX9_when_25 rfl (lv_at hl 3 rfl) ?_
      refine lv_iconst (v := 1) C.1 C.2.1 dX9_when_26 (by decide) ?_
      refine lv_bipush (v := 40) C.1 C.2.1 dX9_when_27 (by decide) ?_
      refine fw_pcalli (va_runS (As := [.int x2, .int 1, .int 40]) (rest := []) ⟨C.1, C.2.1, C.2.2.2.2.2.2, C.2.2.2.2.2.1, C.2.2.2.2.1⟩ (soX9_within l x2 1 40 _ h H.size) (va_cwS 3 C.2.2.2.2.1 gX9_when_X9_within rfl rfl rfl (by decide +kernel) ⟨Nat.le_of_ble_eq_true rfl, Nat.le_of_ble_eq_true rfl⟩) fw_ppre rfl rfl hl.1 rfl (lv_room (Nat.le_of_ble_eq_true rfl)) dX9_when_29 ⟨Nat.zero_le _, Nat.zero_le _⟩) hG hK (fun r5  H locs h hG => ?_)
      refine lv_if_eq (tgt := 57) C.1 C.2.1 dX9_when_32 (by decide) (fun c6 => ?_) (fun c6 => ?_)
      · have h := h.1 c6
        refine lv_bipush (v := (-2)) C.1 C.2.1 dX9_when_57 (by decide) ?_
        exact fw_iret C hG h dX9_when_59
      · have h := h.2 c6
        refine lv_iload C.1 C.2.1 dX9_when_35 (lv_at hl 5 rfl) ?_
        refine lv_iconst (v := 1) C.1 C.2.1 dX9_when_37 (by decide) ?_
        refine lv_bipush (v := 60) C.1 C.2.1 dX9_when_38 (by decide) ?_
        refine fw_pcalli (va_runS (As := [.int x4, .int 1, .int 60]) (rest := []) ⟨C.1, C.2.1, C.2.2.2.2.2.2, C.2.2.2.2.2.1, C.2.2.2.2.1⟩ (soX9_within l x4 1 60 _ h H.size) (va_cwS 3 C.2.2.2.2.1 gX9_when_X9_within rfl rfl rfl (by decide +kernel) ⟨Nat.le_of_ble_eq_true rfl, Nat.le_of_ble_eq_true rfl⟩) fw_ppre rfl rfl hl.1 rfl (lv_room (Nat.le_of_ble_eq_true rfl)) dX9_when_40 ⟨Nat.zero_le _, Nat.zero_le _⟩) hG hK (fun r7  H locs h hG => ?_)
        refine lv_if_eq (tgt := 57) C.1 C.2.1 dX9_when_43 (by decide) (fun c8 => ?_) (fun c8 => ?_)
        · have h := h.1 c8
          refine lv_bipush (v := (-2)) C.1 C.2.1 dX9_when_57 (by decide) ?_
          exact fw_iret C hG h dX9_when_59
        · have h := h.2 c8
          refine lv_iload C.1 C.2.1 dX9_when_46 (lv_at hl 6 rfl) ?_
          refine lv_iconst (v := 1) C.1 C.2.1 dX9_when_48 (by decide) ?_
          refine lv_bipush (v := 60) C.1 C.2.1 dX9_when_49 (by decide) ?_
          refine fw_pcalli (va_runS (As := [.int x5, .int 1, .int 60]) (rest := []) ⟨C.1, C.2.1, C.2.2.2.2.2.2, C.2.2.2.2.2.1, C.2.2.2.2.1⟩ (soX9_within l x5 1 60 _ h H.size) (va_cwS 3 C.2.2.2.2.1 gX9_when_X9_within rfl rfl rfl (by decide +kernel) ⟨Nat.le_of_ble_eq_true rfl, Nat.le_of_ble_eq_true rfl⟩) fw_ppre rfl rfl hl.1 rfl (lv_room (Nat.le_of_ble_eq_true rfl)) dX9_when_51 ⟨Nat.zero_le _, Nat.zero_le _⟩) hG hK (fun r9  H locs h hG => ?_)
          refine lv_if_ne (tgt := 60) C.1 C.2.1 dX9_when_54 (by decide) (fun c10 => ?_) (fun c10 => ?_)
          · have h := h.1 c10
            refine lv_iload C.1 C.2.1 dX9_when_60 (lv_at hl 7 rfl) ?_
            refine lv_iconst (v := 0) C.1 C.2.1 dX9_when_62 (by decide) ?_
            refine lv_iload C.1 C.2.1 dX9_when_63 (lv_at hl 6 rfl) ?_
            refine fw_pcalli (va_runS (As := [.int x6, .int 0, .int x5]) (rest := []) ⟨C.1, C.2.1, C.2.2.2.2.2.2, C.2.2.2.2.2.1, C.2.2.2.2.1⟩ (soX9_within l x6 0 x5 _ h H.size) (va_cwS 3 C.2.2.2.2.1 gX9_when_X9_within rfl rfl rfl (by decide +kernel) ⟨Nat.le_of_ble_eq_true rfl, Nat.le_of_ble_eq_true rfl⟩) fw_ppre rfl rfl hl.1 rfl (lv_room (Nat.le_of_ble_eq_true rfl)) dX9_when_65 ⟨Nat.zero_le _, Nat.zero_le _⟩) hG hK (fun r11  H locs h hG => ?_)
            refine lv_if_eq (tgt := 95) C.1 C.2.1 dX9_when_68 (by decide) (fun c12 => ?_) (fun c12 => ?_)
            · have h := h.1 c12
              refine lv_bipush (v := (-2)) C.1 C.2.1 dX9_when_95 (by decide) ?_
              exact fw_iret C hG h dX9_when_97
            · have h := h.2 c12
              refine lv_iload C.1 C.2.1 dX9_when_71 (lv_at hl 8 rfl) ?_
              refine lv_iconst (v := 0) C.1 C.2.1 dX9_when_73 (by decide) ?_
              refine lv_sipush (v := 1000) C.1 C.2.1 dX9_when_74 (by decide) ?_
              refine fw_pcalli (va_runS (As := [.int x7, .int 0, .int 1000]) (rest := []) ⟨C.1, C.2.1, C.2.2.2.2.2.2, C.2.2.2.2.2.1, C.2.2.2.2.1⟩ (soX9_within l x7 0 1000 _ h H.size) (va_cwS 3 C.2.2.2.2.1 gX9_when_X9_within rfl rfl rfl (by decide +kernel) ⟨Nat.le_of_ble_eq_true rfl, Nat.le_of_ble_eq_true rfl⟩) fw_ppre rfl rfl hl.1 rfl (lv_room (Nat.le_of_ble_eq_true rfl)) dX9_when_77 ⟨Nat.zero_le _, Nat.zero_le _⟩) hG hK (fun r13  H locs h hG => ?_)
              refine lv_if_eq (tgt := 95) C.1 C.2.1 dX9_when_80 (by decide) (fun c14 => ?_) (fun c14 => ?_)
              · have h := h.1 c14
                refine lv_bipush (v := (-2)) C.1 C.2.1 dX9_when_95 (by decide) ?_
                exact fw_iret C hG h dX9_when_97
              · have h := h.2 c14
                refine lv_iload C.1 C.2.1 dX9_when_83 (lv_at hl 9 rfl) ?_
                refine lv_iconst (v := 0) C.1 C.2.1 dX9_when_85 (by decide) ?_
                refine lv_sipush (v := 9999) C.1 C.2.1 dX9_when_86 (by decide) ?_
                refine fw_pcalli (va_runS (As := [.int x8, .int 0, .int 9999]) (rest := []) ⟨C.1, C.2.1, C.2.2.2.2.2.2, C.2.2.2.2.2.1, C.2.2.2.2.1⟩ (soX9_within l x8 0 9999 _ h H.size) (va_cwS 3 C.2.2.2.2.1 gX9_when_X9_within rfl rfl rfl (by decide +kernel) ⟨Nat.le_of_ble_eq_true rfl, Nat.le_of_ble_eq_true rfl⟩) fw_ppre rfl rfl hl.1 rfl (lv_room (Nat.le_of_ble_eq_true rfl)) dX9_when_89 ⟨Nat.zero_le _, Nat.zero_le _⟩) hG hK (fun r15  H locs h hG => ?_)
                refine lv_if_ne (tgt := 98) C.1 C.2.1 dX9_when_92 (by decide) (fun c16 => ?_) (fun c16 => ?_)
                · have h := h.1 c16
                  refine lv_aload_n C.1 C.2.1 dX9_when_98 rfl (lv_at hl 1 rfl) ?_
                  refine fw_get (w := (kw G ad kt)) C in_X9 hK hG 0 kw_o9 rfl 2 (by decide) k24 rfl rfl dX9_when_99 ?_
                  refine fw_get (w := (kw G ad kt)) C in_X1 hK hG 2 kw_o1 rfl 1 (by decide) k145 rfl rfl dX9_when_102 ?_
                  refine lv_if_eq (tgt := 118) C.1 C.2.1 dX9_when_105 (by decide) (fun c17 => ?_) (fun c17 => ?_)
                  · have h := h.1 c17
                    refine lv_bipush (v := (-3)) C.1 C.2.1 dX9_when_118 (by decide) ?_
                    exact fw_iret C hG h dX9_when_120
                  · have h := h.2 c17
                    refine lv_aload_n C.1 C.2.1 dX9_when_108 rfl (lv_at hl 1 rfl) ?_
                    refine fw_get (w := (kw G ad kt)) C in_X9 hK hG 0 kw_o9 rfl 3 (by decide) k31 rfl rfl dX9_when_109 ?_
                    refine fw_rcalli (va_runV (As := []) (rest := []) ⟨C.1, C.2.1, C.2.2.2.2.2.2, C.2.2.2.2.2.1, C.2.2.2.2.1⟩ (soX0_isSquare l G ad kt iv ar  _  h H.size) (cwV 0 C.2.2.2.2.1 gX9_when_X0_isSquare rfl rfl rfl (by decide +kernel) ⟨Nat.le_of_ble_eq_true rfl, Nat.le_of_ble_eq_true rfl⟩) (fw_preV hG hK (ci := 0) rfl kw_o0) rfl rfl hl.1 rfl (lv_room (Nat.le_of_ble_eq_true rfl)) dX9_when_112 ⟨Nat.zero_le _, Nat.zero_le _⟩) hG hK (fun r18  H locs h hG => ?_)
                    refine lv_if_ne (tgt := 121) C.1 C.2.1 dX9_when_115 (by decide) (fun c19 => ?_) (fun c19 => ?_)
                    · have h := h.1 c19
                      refine lv_aload_n C.1 C.2.1 dX9_when_121 rfl (lv_at hl 1 rfl) ?_
                      refine lv_iload_n C.1 C.2.1 dX9_when_122 rfl (lv_at hl 4 rfl) ?_
                      refine lv_iload C.1 C.2.1 dX9_when_123 (lv_at hl 8 rfl) ?_
                      refine fw_callv (va_runV (As := [.int x3, .int x7]) (rest := []) ⟨C.1, C.2.1, C.2.2.2.2.2.2, C.2.2.2.2.2.1, C.2.2.2.2.1⟩ (soX9_seekHarmless l G ad kt iv ar x3 x7 _  h H.size) (cwV 2 C.2.2.2.2.1 gX9_when_X9_seekHarmless rfl rfl rfl (by decide +kernel) ⟨Nat.le_of_ble_eq_true rfl, Nat.le_of_ble_eq_true rfl⟩) (fw_preV hG hK (ci := 9) rfl kw_o9) rfl rfl hl.1 rfl (lv_room (Nat.le_of_ble_eq_true rfl)) dX9_when_125 ⟨Nat.zero_le _, Nat.zero_le _⟩) hG hK (fun iv20 ar21 H locs h hG => ?_)
                      refine lv_aload C.1 C.2.1 dX9_when_128 (lv_at hl 0 rfl) ?_
                      refine lv_iload_n C.1 C.2.1 dX9_when_130 rfl (lv_at hl 3 rfl) ?_
                      have rn : va_Run p l e rmX9_when s m args below meth c H locs 0 0 0 0 (F0 m 131 ls (.int x2 :: .ref (ad (28 + 2 * i2)) :: [])) [] (fw_Qi G (kw G ad kt) (fun r iv1 ar1 => (fun (r22 : Int32) => ∃ ku : Nat, wpX9_when_L140 kt x1 x2 x3 x4 x5 x6 x7 x8 r22 iv20 ar21 Q (fun (w35 : Int32) => Q (-9) iv20 ar21) ku x8) r ∧ iv20 = iv1 ∧ ar21 = ar1) (va_A ((kw G ad kt) iv20 ar21) H.size) (.ref (ad (28 + 2 * i2)) :: [.int x2]).toArray) (va_A ((kw G ad kt) iv20 ar21) H.size) := by
                        by_cases e0 : kt.2.1 i2 = 0
                        · exact va_runV (As := [.int x2]) (rest := []) ⟨C.1, C.2.1, C.2.2.2.2.2.2, C.2.2.2.2.2.1, C.2.2.2.2.1⟩ (soX3_flightOf l G ad kt iv20 ar21 i2 x2 _ hi2 h H.size) (cwV 1 C.2.2.2.2.1 gX9_when_X3_flightOf rfl rfl rfl (by decide +kernel) ⟨Nat.le_of_ble_eq_true rfl, Nat.le_of_ble_eq_true rfl⟩) (fw_preV hG hK (ci := 3) rfl (kw_oK3 hi2 (kw_d3 e0))) rfl rfl hl.1 rfl (lv_room (Nat.le_of_ble_eq_true rfl)) dX9_when_131 ⟨Nat.zero_le _, Nat.zero_le _⟩
                        · by_cases e1 : kt.2.1 i2 = 1
                          · exact va_runU (As := [.int x2]) (rest := []) ⟨C.1, C.2.1, C.2.2.2.2.2.2, C.2.2.2.2.2.1, C.2.2.2.2.1⟩ (soX3_flightOf l G ad kt iv20 ar21 i2 x2 _ hi2 h H.size) (va_cwU 1 C.2.2.2.2.1 gX9_when_X3_flightOf_u237X2 rfl rfl rfl rfl (by decide +kernel) ⟨Nat.le_of_ble_eq_true rfl, Nat.le_of_ble_eq_true rfl⟩) (fw_preV hG hK (ci := 2) rfl (kw_oK2 hi2 (kw_d2 e0 e1))) rfl rfl hl.1 rfl (lv_room (Nat.le_of_ble_eq_true rfl)) dX9_when_131 ⟨Nat.zero_le _, Nat.zero_le _⟩
                          · exact va_runU (As := [.int x2]) (rest := []) ⟨C.1, C.2.1, C.2.2.2.2.2.2, C.2.2.2.2.2.1, C.2.2.2.2.1⟩ (soX3_flightOf l G ad kt iv20 ar21 i2 x2 _ hi2 h H.size) (va_cwU 1 C.2.2.2.2.1 gX9_when_X3_flightOf_u237X8 rfl rfl rfl rfl (by decide +kernel) ⟨Nat.le_of_ble_eq_true rfl, Nat.le_of_ble_eq_true rfl⟩) (fw_preV hG hK (ci := 8) rfl (kw_oK8 hi2 (kw_d8 e0 e1))) rfl rfl hl.1 rfl (lv_room (Nat.le_of_ble_eq_true rfl)) dX9_when_131 ⟨Nat.zero_le _, Nat.zero_le _⟩
                      refine fw_rcalli (rn) hG hK (fun r22  H locs h hG => ?_)
                      refine lv_istore (lv' := [(10, .int r22), (9, .ref (ad (28 + 2 * i2))), (0, .ref (ad 0)), (1, .int x1), (2, .int x2), (3, .int x3), (4, .int x4), (5, .int x5), (6, .int x6), (7, .int x7), (8, .int x8)]) C.1 C.2.1 dX9_when_134 hl (by decide) rfl (fun ls hl => ?_)
                      refine lv_iload C.1 C.2.1 dX9_when_136 (lv_at hl 10 rfl) ?_
                      refine lv_istore (lv' := [(11, .int x8), (10, .int r22), (9, .ref (ad (28 + 2 * i2))), (0, .ref (ad 0)), (1, .int x1), (2, .int x2), (3, .int x3), (4, .int x4), (5, .int x5), (6, .int x6), (7, .int x7), (8, .int x8)]) C.1 C.2.1 dX9_when_138 hl (by decide) rfl (fun ls hl => ?_)
                      obtain ⟨ku, h⟩ := h
                      refine soX9_when_L140 C hK  ?_ ku _ h _ _ hG ls (lv_sub hl [0, 1, 3, 7, 8, 9, 11] rfl)
                      intro w35 h H locs hG ls hl
                      refine lv_bipush (v := (-9)) C.1 C.2.1 dX9_when_204 (by decide) ?_
                      exact fw_iret C hG h dX9_when_206
                    · have h := h.2 c19
                      refine lv_bipush (v := (-3)) C.1 C.2.1 dX9_when_118 (by decide) ?_
                      exact fw_iret C hG h dX9_when_120
                · have h := h.2 c16
                  refine lv_bipush (v := (-2)) C.1 C.2.1 dX9_when_95 (by decide) ?_
                  exact fw_iret C hG h dX9_when_97
          · have h := h.2 c10
            refine lv_bipush (v := (-2)) C.1 C.2.1 dX9_when_57 (by decide) ?_
            exact fw_iret C hG h dX9_when_59
    · have h := h.2 c4
      refine lv_iconst (v := (-1)) C.1 C.2.1 dX9_when_23 (by decide) ?_
      exact fw_iret C hG h dX9_when_24
/-! KnifeBoard.mark(II)I -/
def rmX9_mark : Room := { frames := 2, cells := 0, slots := 0, locals := 44 }
def wpX9_mark (kt : kw_T) (iv : fw_F) (ar : fw_R) (x1 : Int32) (x2 : Int32) (Q : Int32 → fw_F → fw_R → Prop) : Prop := wpX9_within x1 1 40 (fun (r1 : Int32) => (r1 = 0 → (Q (-2) iv ar)) ∧ (¬ r1 = 0 → (wpX9_within x2 0 3 (fun (r3 : Int32) => (¬ r3 = 0 → (((iv 7) < 10 → (wpX4_add kt iv ar x1 x2 (fun (iv6 : fw_F) (ar7 : fw_R) => Q ((iv6 7) - 1) iv6 ar7))) ∧ (¬ (iv 7) < 10 → (Q (-4) iv ar)))) ∧ (r3 = 0 → (Q (-2) iv ar))))))
set_option maxHeartbeats 4000000 in
set_option maxRecDepth 100000 in
theorem soX9_mark (l : Launch) (G : fw_G) (ad : Nat → Nat) (kt : kw_T) (iv : fw_F) (ar : fw_R) (x1 : Int32) (x2 : Int32) (Q : Int32 → fw_F → fw_R → Prop)  (h : wpX9_mark kt iv ar x1 x2 Q) : fw_M l G (kw G ad kt) yX9_mark wsX9_mark rmX9_mark [.ref (ad 0), .int x1, .int x2] iv ar (fw_Qi G (kw G ad kt) Q) := by
  refine fw_start (cc := cX9_mark) (nL := 3) (rt := (some .int)) (by decide) rfl (Nat.le_of_ble_eq_true rfl) ?_
  intro p e s m below meth c A ls H locs C hK hG hl
  obtain ⟨args, ea⟩ : ∃ z : Array Value, z = ([.ref (ad 0), .int x1, .int x2] : List Value).toArray := ⟨_, rfl⟩
  rw [← ea] at C ⊢
  have C : fw_C p s m args meth c cX9_mark 3 (some .int) wsX9_mark RX9 := C
  have hl : lv_has ls 3 [(0, .ref (ad 0)), (1, .int x1), (2, .int x2)] := hl
  unfold wpX9_mark at h
  have in_X4 : ∀ x ∈ wsX40, x ∈ wsX9_mark := by decide +kernel
  have in_X9 : ∀ x ∈ wsX90, x ∈ wsX9_mark := by decide +kernel
  have k240 := C.2.2.2.2.1 (.fieldLink RX9 240 "KnifeBoard$Marks" "count" "I") (by decide +kernel)
  have k45 := C.2.2.2.2.1 (.fieldLink RX9 45 "KnifeBoard" "marks" "LKnifeBoard$Marks;") (by decide +kernel)
  refine lv_iload_n C.1 C.2.1 dX9_mark_0 rfl (lv_at hl 1 rfl) ?_
  refine lv_iconst (v := 1) C.1 C.2.1 dX9_mark_1 (by decide) ?_
  refine lv_bipush (v := 40) C.1 C.2.1 dX9_mark_2 (by decide) ?_
  refine fw_pcalli (va_runS (As := [.int x1, .int 1, .int 40]) (rest := []) ⟨C.1, C.2.1, C.2.2.2.2.2.2, C.2.2.2.2.2.1, C.2.2.2.2.1⟩ (soX9_within l x1 1 40 _ h H.size) (va_cwS 3 C.2.2.2.2.1 gX9_mark_X9_within rfl rfl rfl (by decide +kernel) ⟨Nat.le_of_ble_eq_true rfl, Nat.le_of_ble_eq_true rfl⟩) fw_ppre rfl rfl hl.1 rfl (lv_room (Nat.le_of_ble_eq_true rfl)) dX9_mark_4 ⟨Nat.zero_le _, Nat.zero_le _⟩) hG hK (fun r1  H locs h hG => ?_)
  refine lv_if_eq (tgt := 19) C.1 C.2.1 dX9_mark_7 (by decide) (fun c2 => ?_) (fun c2 => ?_)
  · have h := h.1 c2
    refine lv_bipush (v := (-2)) C.1 C.2.1 dX9_mark_19 (by decide) ?_
    exact fw_iret C hG h dX9_mark_21
  · have h := h.2 c2
    refine lv_iload_n C.1 C.2.1 dX9_mark_10 rfl (lv_at hl 2 rfl) ?_
    refine lv_iconst (v := 0) C.1 C.2.1 dX9_mark_11 (by decide) ?_
    refine lv_iconst (v := 3) C.1 C.2.1 dX9_mark_12 (by decide) ?_
    refine fw_pcalli (va_runS (As := [.int x2, .int 0, .int 3]) (rest := []) ⟨C.1, C.2.1, C.2.2.2.2.2.2, C.2.2.2.2.2.1, C.2.2.2.2.1⟩ (soX9_within l x2 0 3 _ h H.size) (va_cwS 3 C.2.2.2.2.1 gX9_mark_X9_within rfl rfl rfl (by decide +kernel) ⟨Nat.le_of_ble_eq_true rfl, Nat.le_of_ble_eq_true rfl⟩) fw_ppre rfl rfl hl.1 rfl (lv_room (Nat.le_of_ble_eq_true rfl)) dX9_mark_13 ⟨Nat.zero_le _, Nat.zero_le _⟩) hG hK (fun r3  H locs h hG => ?_)
    refine lv_if_ne (tgt := 22) C.1 C.2.1 dX9_mark_16 (by decide) (fun c4 => ?_) (fun c4 => ?_)
    · have h := h.1 c4
      refine lv_aload_n C.1 C.2.1 dX9_mark_22 rfl (lv_at hl 0 rfl) ?_
      refine fw_get (w := (kw G ad kt)) C in_X9 hK hG 0 kw_o9 rfl 5 (by decide) k45 rfl rfl dX9_mark_23 ?_
      refine fw_get (w := (kw G ad kt)) C in_X4 hK hG 10 kw_o4 rfl 2 (by decide) k240 rfl rfl dX9_mark_26 ?_
      refine lv_bipush (v := 10) C.1 C.2.1 dX9_mark_29 (by decide) ?_
      refine lv_icmp_lt (tgt := 37) C.1 C.2.1 dX9_mark_31 (by decide) (fun c5 => ?_) (fun c5 => ?_)
      · have h := h.1 c5
        refine lv_aload_n C.1 C.2.1 dX9_mark_37 rfl (lv_at hl 0 rfl) ?_
        refine fw_get (w := (kw G ad kt)) C in_X9 hK hG 0 kw_o9 rfl 5 (by decide) k45 rfl rfl dX9_mark_38 ?_
        refine lv_iload_n C.1 C.2.1 dX9_mark_41 rfl (lv_at hl 1 rfl) ?_
        refine lv_iload_n C.1 C.2.1 dX9_mark_42 rfl (lv_at hl 2 rfl) ?_
        refine fw_callv (va_runV (As := [.int x1, .int x2]) (rest := []) ⟨C.1, C.2.1, C.2.2.2.2.2.2, C.2.2.2.2.2.1, C.2.2.2.2.1⟩ (soX4_add l G ad kt iv ar x1 x2 _  h H.size) (cwV 2 C.2.2.2.2.1 gX9_mark_X4_add rfl rfl rfl (by decide +kernel) ⟨Nat.le_of_ble_eq_true rfl, Nat.le_of_ble_eq_true rfl⟩) (fw_preV hG hK (ci := 4) rfl kw_o4) rfl rfl hl.1 rfl (lv_room (Nat.le_of_ble_eq_true rfl)) dX9_mark_43 ⟨Nat.zero_le _, Nat.zero_le _⟩) hG hK (fun iv6 ar7 H locs h hG => ?_)
        refine lv_aload_n C.1 C.2.1 dX9_mark_46 rfl (lv_at hl 0 rfl) ?_
        refine fw_get (w := (kw G ad kt)) C in_X9 hK hG 0 kw_o9 rfl 5 (by decide) k45 rfl rfl dX9_mark_47 ?_
        refine fw_get (w := (kw G ad kt)) C in_X4 hK hG 10 kw_o4 rfl 2 (by decide) k240 rfl rfl dX9_mark_50 ?_
        refine lv_iconst (v := 1) C.1 C.2.1 dX9_mark_53 (by decide) ?_
        refine lv_isub C.1 C.2.1 dX9_mark_54 ?_
        exact fw_iret C hG h dX9_mark_55
      · have h := h.2 c5
        refine lv_bipush (v := (-4)) C.1 C.2.1 dX9_mark_34 (by decide) ?_
        exact fw_iret C hG h dX9_mark_36
    · have h := h.2 c4
      refine lv_bipush (v := (-2)) C.1 C.2.1 dX9_mark_19 (by decide) ?_
      exact fw_iret C hG h dX9_mark_21
/-! KnifeBoard.back(I)I -/
def rmX9_back : Room := { frames := 1, cells := 0, slots := 0, locals := 22 }
def wpX9_back (kt : kw_T) (iv : fw_F) (ar : fw_R) (x1 : Int32) (Q : Int32 → fw_F → fw_R → Prop) : Prop := wpX9_within x1 0 (iv 7) (fun (r1 : Int32) => (¬ r1 = 0 → (∀ iv3 : fw_F, iv3 = va_up iv 7 ((iv 7) - x1) → (Q (iv3 7) iv3 ar))) ∧ (r1 = 0 → (Q (-2) iv ar)))
set_option maxHeartbeats 4000000 in
set_option maxRecDepth 100000 in
theorem soX9_back (l : Launch) (G : fw_G) (ad : Nat → Nat) (kt : kw_T) (iv : fw_F) (ar : fw_R) (x1 : Int32) (Q : Int32 → fw_F → fw_R → Prop)  (h : wpX9_back kt iv ar x1 Q) : fw_M l G (kw G ad kt) yX9_back wsX9_back rmX9_back [.ref (ad 0), .int x1] iv ar (fw_Qi G (kw G ad kt) Q) := by
  refine fw_start (cc := cX9_back) (nL := 2) (rt := (some .int)) (by decide) rfl (Nat.le_of_ble_eq_true rfl) ?_
  intro p e s m below meth c A ls H locs C hK hG hl
  obtain ⟨args, ea⟩ : ∃ z : Array Value, z = ([.ref (ad 0), .int x1] : List Value).toArray := ⟨_, rfl⟩
  rw [← ea] at C ⊢
  have C : fw_C p s m args meth c cX9_back 2 (some .int) wsX9_back RX9 := C
  have hl : lv_has ls 2 [(0, .ref (ad 0)), (1, .int x1)] := hl
  unfold wpX9_back at h
  have in_X4 : ∀ x ∈ wsX40, x ∈ wsX9_back := by decide +kernel
  have in_X9 : ∀ x ∈ wsX90, x ∈ wsX9_back := by decide +kernel
  have k240 := C.2.2.2.2.1 (.fieldLink RX9 240 "KnifeBoard$Marks" "count" "I") (by decide +kernel)
  have k45 := C.2.2.2.2.1 (.fieldLink RX9 45 "KnifeBoard" "marks" "LKnifeBoard$Marks;") (by decide +kernel)
  refine lv_iload_n C.1 C.2.1 dX9_back_0 rfl (lv_at hl 1 rfl) ?_
  refine lv_iconst (v := 0) C.1 C.2.1 dX9_back_1 (by decide) ?_
  refine lv_aload_n C.1 C.2.1 dX9_back_2 rfl (lv_at hl 0 rfl) ?_
  refine fw_get (w := (kw G ad kt)) C in_X9 hK hG 0 kw_o9 rfl 5 (by decide) k45 rfl rfl dX9_back_3 ?_
  refine fw_get (w := (kw G ad kt)) C in_X4 hK hG 10 kw_o4 rfl 2 (by decide) k240 rfl rfl dX9_back_6 ?_
  refine fw_pcalli (va_runS (As := [.int x1, .int 0, .int (iv 7)]) (rest := []) ⟨C.1, C.2.1, C.2.2.2.2.2.2, C.2.2.2.2.2.1, C.2.2.2.2.1⟩ (soX9_within l x1 0 (iv 7) _ h H.size) (va_cwS 3 C.2.2.2.2.1 gX9_back_X9_within rfl rfl rfl (by decide +kernel) ⟨Nat.le_of_ble_eq_true rfl, Nat.le_of_ble_eq_true rfl⟩) fw_ppre rfl rfl hl.1 rfl (lv_room (Nat.le_of_ble_eq_true rfl)) dX9_back_9 ⟨Nat.zero_le _, Nat.zero_le _⟩) hG hK (fun r1  H locs h hG => ?_)
  refine lv_if_ne (tgt := 18) C.1 C.2.1 dX9_back_12 (by decide) (fun c2 => ?_) (fun c2 => ?_)
  · have h := h.1 c2
    refine lv_aload_n C.1 C.2.1 dX9_back_18 rfl (lv_at hl 0 rfl) ?_
    refine fw_get (w := (kw G ad kt)) C in_X9 hK hG 0 kw_o9 rfl 5 (by decide) k45 rfl rfl dX9_back_19 ?_
    refine lv_dup C.1 C.2.1 dX9_back_22 rfl ?_
    refine fw_get (w := (kw G ad kt)) C in_X4 hK hG 10 kw_o4 rfl 2 (by decide) k240 rfl rfl dX9_back_23 ?_
    refine lv_iload_n C.1 C.2.1 dX9_back_26 rfl (lv_at hl 1 rfl) ?_
    refine lv_isub C.1 C.2.1 dX9_back_27 ?_
    obtain ⟨iv3, eiv3⟩ : ∃ z : fw_F, z = va_up iv 7 ((iv 7) - x1) := ⟨_, rfl⟩
    have h := h iv3 eiv3
    refine fw_put (w := (kw G ad kt)) C in_X4 tyX4 tyX4_ok nmX4 hK hG 10 kw_o4 rfl 2 (by decide) k240 rfl rfl (ty := .int) (v := .int ((iv 7) - x1)) (by decide +kernel) rfl rfl (by first | decide | exact Nat.le_of_ble_eq_true rfl) (iv1 := iv3) (by rw [eiv3]; exact kw_p4_count) dX9_back_28 (fun H locs hG => ?_)
    refine lv_aload_n C.1 C.2.1 dX9_back_31 rfl (lv_at hl 0 rfl) ?_
    refine fw_get (w := (kw G ad kt)) C in_X9 hK hG 0 kw_o9 rfl 5 (by decide) k45 rfl rfl dX9_back_32 ?_
    refine fw_get (w := (kw G ad kt)) C in_X4 hK hG 10 kw_o4 rfl 2 (by decide) k240 rfl rfl dX9_back_35 ?_
    exact fw_iret C hG h dX9_back_38
  · have h := h.2 c2
    refine lv_bipush (v := (-2)) C.1 C.2.1 dX9_back_15 (by decide) ?_
    exact fw_iret C hG h dX9_back_17
/-! KnifeBoard.guessed(II)I -/
def rmX9_guessed : Room := { frames := 5, cells := 0, slots := 0, locals := 115 }
def wpX9_guessed (kt : kw_T) (iv : fw_F) (ar : fw_R) (x1 : Int32) (x2 : Int32) (Q : Int32 → fw_F → fw_R → Prop) : Prop := wpX9_knifeAt kt iv ar x1 (fun (r1 : Option Nat) => (r1 = none → (Q (-1) iv ar)) ∧ (∀ i2 : Nat, r1 = some i2 → i2 < kt.1 ∧ (wpX9_within x2 0 1 (fun (r3 : Int32) => (¬ r3 = 0 → (wpX4_seekThrown kt iv ar i2 (fun (iv5 : fw_F) (ar6 : fw_R) => (¬ x2 = 0 → (wpX4_firstThrown kt iv5 ar6  (fun (r8 : Int32) => Q r8 iv5 ar6))) ∧ (x2 = 0 → (Q (iv5 8) iv5 ar6))))) ∧ (r3 = 0 → (Q (-2) iv ar))))))
set_option maxHeartbeats 4000000 in
set_option maxRecDepth 100000 in
theorem soX9_guessed (l : Launch) (G : fw_G) (ad : Nat → Nat) (kt : kw_T) (iv : fw_F) (ar : fw_R) (x1 : Int32) (x2 : Int32) (Q : Int32 → fw_F → fw_R → Prop)  (h : wpX9_guessed kt iv ar x1 x2 Q) : fw_M l G (kw G ad kt) yX9_guessed wsX9_guessed rmX9_guessed [.ref (ad 0), .int x1, .int x2] iv ar (fw_Qi G (kw G ad kt) Q) := by
  refine fw_start (cc := cX9_guessed) (nL := 4) (rt := (some .int)) (by decide) rfl (Nat.le_of_ble_eq_true rfl) ?_
  intro p e s m below meth c A ls H locs C hK hG hl
  obtain ⟨args, ea⟩ : ∃ z : Array Value, z = ([.ref (ad 0), .int x1, .int x2] : List Value).toArray := ⟨_, rfl⟩
  rw [← ea] at C ⊢
  have C : fw_C p s m args meth c cX9_guessed 4 (some .int) wsX9_guessed RX9 := C
  have hl : lv_has ls 4 [(0, .ref (ad 0)), (1, .int x1), (2, .int x2)] := hl
  unfold wpX9_guessed at h
  have in_X4 : ∀ x ∈ wsX40, x ∈ wsX9_guessed := by decide +kernel
  have in_X9 : ∀ x ∈ wsX90, x ∈ wsX9_guessed := by decide +kernel
  have k249 := C.2.2.2.2.1 (.fieldLink RX9 249 "KnifeBoard$Marks" "left" "I") (by decide +kernel)
  have k45 := C.2.2.2.2.1 (.fieldLink RX9 45 "KnifeBoard" "marks" "LKnifeBoard$Marks;") (by decide +kernel)
  refine lv_aload_n C.1 C.2.1 dX9_guessed_0 rfl (lv_at hl 0 rfl) ?_
  refine lv_iload_n C.1 C.2.1 dX9_guessed_1 rfl (lv_at hl 1 rfl) ?_
  refine fw_rcallq (va_runV (As := [.int x1]) (rest := []) ⟨C.1, C.2.1, C.2.2.2.2.2.2, C.2.2.2.2.2.1, C.2.2.2.2.1⟩ (soX9_knifeAt l G ad kt iv ar x1 _  h H.size) (cwV 1 C.2.2.2.2.1 gX9_guessed_X9_knifeAt rfl rfl rfl (by decide +kernel) ⟨Nat.le_of_ble_eq_true rfl, Nat.le_of_ble_eq_true rfl⟩) (fw_preV hG hK (ci := 9) rfl kw_o9) rfl rfl hl.1 rfl (lv_room (Nat.le_of_ble_eq_true rfl)) dX9_guessed_2 ⟨Nat.zero_le _, Nat.zero_le _⟩) hG hK (fun r1  H locs h hG => ?_)
  rcases r1 with _ | i2
  · have h := h.1 rfl
    refine W.eq (g2 := F0 m 5 ls (.null :: [])) rfl ?_
    refine lv_astore_nN (lv' := [(3, .null), (0, .ref (ad 0)), (1, .int x1), (2, .int x2)]) C.1 C.2.1 dX9_guessed_5 rfl hl (by decide) rfl (fun ls hl => ?_)
    refine lv_aload_nN C.1 C.2.1 dX9_guessed_6 rfl (lv_at hl 0 rfl) ?_
    refine lv_ifnonnullN C.1 C.2.1 dX9_guessed_7 ?_
    refine lv_iconst (v := (-1)) C.1 C.2.1 dX9_guessed_10 (by decide) ?_
    exact fw_iret C hG h dX9_guessed_11
  · obtain ⟨hi2, h⟩ := h.2 i2 rfl
    refine W.eq (g2 := F0 m 5 ls (.ref (ad (28 + 2 * i2)) :: [])) rfl ?_
    refine lv_astore_n (lv' := [(3, .ref (ad (28 + 2 * i2))), (0, .ref (ad 0)), (1, .int x1), (2, .int x2)]) C.1 C.2.1 dX9_guessed_5 rfl hl (by decide) rfl (fun ls hl => ?_)
    refine lv_aload_n C.1 C.2.1 dX9_guessed_6 rfl (lv_at hl 0 rfl) ?_
    refine lv_ifnonnull (tgt := 12) C.1 C.2.1 dX9_guessed_7 (by decide) ?_
    refine lv_iload_n C.1 C.2.1 dX9_guessed_12 rfl (lv_at hl 3 rfl) ?_
    refine lv_iconst (v := 0) C.1 C.2.1 dX9_guessed_13 (by decide) ?_
    refine lv_iconst (v := 1) C.1 C.2.1 dX9_guessed_14 (by decide) ?_
    refine fw_pcalli (va_runS (As := [.int x2, .int 0, .int 1]) (rest := []) ⟨C.1, C.2.1, C.2.2.2.2.2.2, C.2.2.2.2.2.1, C.2.2.2.2.1⟩ (soX9_within l x2 0 1 _ h H.size) (va_cwS 3 C.2.2.2.2.1 gX9_guessed_X9_within rfl rfl rfl (by decide +kernel) ⟨Nat.le_of_ble_eq_true rfl, Nat.le_of_ble_eq_true rfl⟩) fw_ppre rfl rfl hl.1 rfl (lv_room (Nat.le_of_ble_eq_true rfl)) dX9_guessed_15 ⟨Nat.zero_le _, Nat.zero_le _⟩) hG hK (fun r3  H locs h hG => ?_)
    refine lv_if_ne (tgt := 24) C.1 C.2.1 dX9_guessed_18 (by decide) (fun c4 => ?_) (fun c4 => ?_)
    · have h := h.1 c4
      refine lv_aload_n C.1 C.2.1 dX9_guessed_24 rfl (lv_at hl 1 rfl) ?_
      refine fw_get (w := (kw G ad kt)) C in_X9 hK hG 0 kw_o9 rfl 5 (by decide) k45 rfl rfl dX9_guessed_25 ?_
      refine lv_aload_n C.1 C.2.1 dX9_guessed_28 rfl (lv_at hl 0 rfl) ?_
      refine fw_callv (va_runV (As := [.ref (ad (28 + 2 * i2))]) (rest := []) ⟨C.1, C.2.1, C.2.2.2.2.2.2, C.2.2.2.2.2.1, C.2.2.2.2.1⟩ (soX4_seekThrown l G ad kt iv ar i2 _ hi2 h H.size) (cwV 1 C.2.2.2.2.1 gX9_guessed_X4_seekThrown rfl rfl rfl (by decide +kernel) ⟨Nat.le_of_ble_eq_true rfl, Nat.le_of_ble_eq_true rfl⟩) (fw_preV hG hK (ci := 4) rfl kw_o4) rfl rfl hl.1 rfl (lv_room (Nat.le_of_ble_eq_true rfl)) dX9_guessed_29 ⟨Nat.zero_le _, Nat.zero_le _⟩) hG hK (fun iv5 ar6 H locs h hG => ?_)
      refine lv_iload_n C.1 C.2.1 dX9_guessed_32 rfl (lv_at hl 3 rfl) ?_
      refine lv_if_ne (tgt := 46) C.1 C.2.1 dX9_guessed_33 (by decide) (fun c7 => ?_) (fun c7 => ?_)
      · have h := h.1 c7
        refine lv_aload_n C.1 C.2.1 dX9_guessed_46 rfl (lv_at hl 1 rfl) ?_
        refine fw_get (w := (kw G ad kt)) C in_X9 hK hG 0 kw_o9 rfl 5 (by decide) k45 rfl rfl dX9_guessed_47 ?_
        refine fw_rcalli (va_runV (As := []) (rest := []) ⟨C.1, C.2.1, C.2.2.2.2.2.2, C.2.2.2.2.2.1, C.2.2.2.2.1⟩ (soX4_firstThrown l G ad kt iv5 ar6  _  h H.size) (cwV 0 C.2.2.2.2.1 gX9_guessed_X4_firstThrown rfl rfl rfl (by decide +kernel) ⟨Nat.le_of_ble_eq_true rfl, Nat.le_of_ble_eq_true rfl⟩) (fw_preV hG hK (ci := 4) rfl kw_o4) rfl rfl hl.1 rfl (lv_room (Nat.le_of_ble_eq_true rfl)) dX9_guessed_50 ⟨Nat.zero_le _, Nat.zero_le _⟩) hG hK (fun r8  H locs h hG => ?_)
        exact fw_iret C hG h dX9_guessed_53
      · have h := h.2 c7
        refine lv_aload_n C.1 C.2.1 dX9_guessed_36 rfl (lv_at hl 1 rfl) ?_
        refine fw_get (w := (kw G ad kt)) C in_X9 hK hG 0 kw_o9 rfl 5 (by decide) k45 rfl rfl dX9_guessed_37 ?_
        refine fw_get (w := (kw G ad kt)) C in_X4 hK hG 10 kw_o4 rfl 6 (by decide) k249 rfl rfl dX9_guessed_40 ?_
        refine lv_goto (tgt := 53) C.1 C.2.1 dX9_guessed_43 (by decide) ?_
        exact fw_iret C hG h dX9_guessed_53
    · have h := h.2 c4
      refine lv_bipush (v := (-2)) C.1 C.2.1 dX9_guessed_21 (by decide) ?_
      exact fw_iret C hG h dX9_guessed_23
