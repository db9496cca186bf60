/-! KnifeBoard.ofKnife(II)I -/
def rmX9_ofKnife : Room := { frames := 2, cells := 0, slots := 0, locals := 43 }
def wpX9_ofKnife (kt : kw_T) (iv : fw_F) (ar : fw_R) (x1 : Int32) (x2 : Int32) (Q : Int32 → Prop) : Prop := wpX9_knifeAt kt iv ar x1 (fun (r1 : Option Nat) => (r1 = none → (Q (-1))) ∧ (∀ i2 : Nat, r1 = some i2 → i2 < kt.1 ∧ ((x2 = 0 → ((kt.2.1 i2 = 0 → wpX3_kindNumber kt iv ar i2 (fun (r4 : Int32) => Q r4)) ∧ (¬ kt.2.1 i2 = 0 → kt.2.1 i2 = 1 → wpX2_kindNumber kt iv ar i2 (fun (r4 : Int32) => Q r4)) ∧ (¬ kt.2.1 i2 = 0 → ¬ kt.2.1 i2 = 1 → wpX8_kindNumber kt iv ar i2 (fun (r4 : Int32) => Q r4)))) ∧ (x2 = 1 → (Q (kt.2.2.1 i2 1))) ∧ (x2 = 2 → (Q (kt.2.2.1 i2 2))) ∧ (x2 = 3 → (Q (kt.2.2.1 i2 3))) ∧ (x2 = 4 → (Q (kt.2.2.1 i2 4))) ∧ (¬ x2 = 0 → (¬ x2 = 1 → (¬ x2 = 2 → (¬ x2 = 3 → (¬ x2 = 4 → (Q (-2))))))))))
set_option maxHeartbeats 4000000 in
set_option maxRecDepth 100000 in
theorem soX9_ofKnife (l : Launch) (G : fw_G) (ad : Nat → Nat) (kt : kw_T) (iv : fw_F) (ar : fw_R) (x1 : Int32) (x2 : Int32) (Q : Int32 → Prop)  (h : wpX9_ofKnife kt iv ar x1 x2 Q) : fw_M l G (kw G ad kt) yX9_ofKnife wsX9_ofKnife rmX9_ofKnife [.ref (ad 0), .int x1, .int x2] iv ar (fw_Qi G (kw G ad kt) (fun r iv1 ar1 => Q r ∧ iv = iv1 ∧ ar = ar1)) := by
  refine fw_start (cc := cX9_ofKnife) (nL := 4) (rt := (some .int)) (by decide) rfl (Nat.le_of_ble_eq_true rfl) ?_
  intro p e s m below meth c A ls H locs C hK hG hl
  obtain ⟨args, ea⟩ : ∃ z : Array Value, z = ([.ref (ad 0), .int x1, .int x2] : List Value).toArray := ⟨_, rfl⟩
  rw [← ea] at C ⊢
  have C : fw_C p s m args meth c cX9_ofKnife 4 (some .int) wsX9_ofKnife RX9 := C
  have hl : lv_has ls 4 [(0, .ref (ad 0)), (1, .int x1), (2, .int x2)] := hl
  unfold wpX9_ofKnife at h
  have in_X2 : ∀ x ∈ wsX20, x ∈ wsX9_ofKnife := by decide +kernel
  have in_X3 : ∀ x ∈ wsX30, x ∈ wsX9_ofKnife := by decide +kernel
  have in_X8 : ∀ x ∈ wsX80, x ∈ wsX9_ofKnife := by decide +kernel
  have k100 := C.2.2.2.2.1 (.fieldLink RX9 100 "KnifeBoard$Knife" "turn" "I") (by decide +kernel)
  have k103 := C.2.2.2.2.1 (.fieldLink RX9 103 "KnifeBoard$Knife" "band" "I") (by decide +kernel)
  have k106 := C.2.2.2.2.1 (.fieldLink RX9 106 "KnifeBoard$Knife" "width" "I") (by decide +kernel)
  have k97 := C.2.2.2.2.1 (.fieldLink RX9 97 "KnifeBoard$Knife" "pace" "I") (by decide +kernel)
  refine lv_aload_n C.1 C.2.1 dX9_ofKnife_0 rfl (lv_at hl 0 rfl) ?_
  refine lv_iload_n C.1 C.2.1 dX9_ofKnife_1 rfl (lv_at hl 1 rfl) ?_
  refine fw_rcallq (va_runV (As := [.int x1]) (rest := []) ⟨C.1, C.2.1, C.2.2.2.2.2.2, C.2.2.2.2.2.1, C.2.2.2.2.1⟩ (soX9_knifeAt l G ad kt iv ar x1 _  h H.size) (cwV 1 C.2.2.2.2.1 gX9_ofKnife_X9_knifeAt rfl rfl rfl (by decide +kernel) ⟨Nat.le_of_ble_eq_true rfl, Nat.le_of_ble_eq_true rfl⟩) (fw_preV hG hK (ci := 9) rfl kw_o9) rfl rfl hl.1 rfl (lv_room (Nat.le_of_ble_eq_true rfl)) dX9_ofKnife_2 ⟨Nat.zero_le _, Nat.zero_le _⟩) hG hK (fun r1  H locs h hG => ?_)
  rcases r1 with _ | i2
  · have h := h.1 rfl
    refine W.eq (g2 := F0 m 5 ls (.null :: [])) rfl ?_
    refine lv_astore_nN (lv' := [(3, .null), (0, .ref (ad 0)), (1, .int x1), (2, .int x2)]) C.1 C.2.1 dX9_ofKnife_5 rfl hl (by decide) rfl (fun ls hl => ?_)
    refine lv_aload_nN C.1 C.2.1 dX9_ofKnife_6 rfl (lv_at hl 0 rfl) ?_
    refine lv_ifnonnullN C.1 C.2.1 dX9_ofKnife_7 ?_
    refine lv_iconst (v := (-1)) C.1 C.2.1 dX9_ofKnife_10 (by decide) ?_
    exact fw_iret C hG ⟨h, rfl, rfl⟩ dX9_ofKnife_11
  · obtain ⟨hi2, h⟩ := h.2 i2 rfl
    refine W.eq (g2 := F0 m 5 ls (.ref (ad (28 + 2 * i2)) :: [])) rfl ?_
    refine lv_astore_n (lv' := [(3, .ref (ad (28 + 2 * i2))), (0, .ref (ad 0)), (1, .int x1), (2, .int x2)]) C.1 C.2.1 dX9_ofKnife_5 rfl hl (by decide) rfl (fun ls hl => ?_)
    refine lv_aload_n C.1 C.2.1 dX9_ofKnife_6 rfl (lv_at hl 0 rfl) ?_
    refine lv_ifnonnull (tgt := 12) C.1 C.2.1 dX9_ofKnife_7 (by decide) ?_
    refine lv_iload_n C.1 C.2.1 dX9_ofKnife_12 rfl (lv_at hl 3 rfl) ?_
    by_cases c3 : x2 = 0
    · have h := h.1 c3
      refine W.eq (g2 := F0 m 13 ls (.int 0 :: [])) (by rw [c3]) ?_
      refine lv_tableIn (tgt := 48) C.1 C.2.1 dX9_ofKnife_13 (by decide) (by decide) rfl (by decide) ?_
      refine lv_aload_n C.1 C.2.1 dX9_ofKnife_48 rfl (lv_at hl 0 rfl) ?_
      have rn : va_Run p l e rmX9_ofKnife s m args below meth c H locs 0 0 0 0 (F0 m 49 ls (.ref (ad (28 + 2 * i2)) :: [])) [] (fw_Qi G (kw G ad kt) (fun r iv1 ar1 => (fun (r4 : Int32) => Q r4) r ∧ iv = iv1 ∧ ar = ar1) (va_A ((kw G ad kt) iv ar) H.size) (.ref (ad (28 + 2 * i2)) :: []).toArray) (va_A ((kw G ad kt) iv ar) H.size) := by
        by_cases e0 : kt.2.1 i2 = 0
        · exact va_runV (As := []) (rest := []) ⟨C.1, C.2.1, C.2.2.2.2.2.2, C.2.2.2.2.2.1, C.2.2.2.2.1⟩ (soX3_kindNumber l G ad kt iv ar i2 _ hi2 (h.1 e0) H.size) (cwV 0 C.2.2.2.2.1 gX9_ofKnife_X3_kindNumber rfl rfl rfl (by decide +kernel) ⟨Nat.le_of_ble_eq_true rfl, Nat.le_of_ble_eq_true rfl⟩) (fw_preV hG hK (ci := 3) rfl (kw_oK3 hi2 (kw_d3 e0))) rfl rfl hl.1 rfl (lv_room (Nat.le_of_ble_eq_true rfl)) dX9_ofKnife_49 ⟨Nat.zero_le _, Nat.zero_le _⟩
        · by_cases e1 : kt.2.1 i2 = 1
          · exact va_runU (As := []) (rest := []) ⟨C.1, C.2.1, C.2.2.2.2.2.2, C.2.2.2.2.2.1, C.2.2.2.2.1⟩ (soX2_kindNumber l G ad kt iv ar i2 _ hi2 e0 (h.2.1 e0 e1) H.size) (va_cwO 0 C.2.2.2.2.1 gX9_ofKnife_X2_kindNumber_u93X2 rfl rfl rfl (b0 := cX3_kindNumber) (m0 := 1) (r0 := (some .int)) (by decide +kernel) (by decide +kernel) ⟨Nat.le_of_ble_eq_true rfl, Nat.le_of_ble_eq_true rfl⟩) (fw_preV hG hK (ci := 2) rfl (kw_oK2 hi2 (kw_d2 e0 e1))) rfl rfl hl.1 rfl (lv_room (Nat.le_of_ble_eq_true rfl)) dX9_ofKnife_49 ⟨Nat.zero_le _, Nat.zero_le _⟩
          · exact va_runU (As := []) (rest := []) ⟨C.1, C.2.1, C.2.2.2.2.2.2, C.2.2.2.2.2.1, C.2.2.2.2.1⟩ (soX8_kindNumber l G ad kt iv ar i2 _ hi2 e0 e1 (h.2.2 e0 e1) H.size) (va_cwO 0 C.2.2.2.2.1 gX9_ofKnife_X8_kindNumber_u93X8 rfl rfl rfl (b0 := cX3_kindNumber) (m0 := 1) (r0 := (some .int)) (by decide +kernel) (by decide +kernel) ⟨Nat.le_of_ble_eq_true rfl, Nat.le_of_ble_eq_true rfl⟩) (fw_preV hG hK (ci := 8) rfl (kw_oK8 hi2 (kw_d8 e0 e1))) rfl rfl hl.1 rfl (lv_room (Nat.le_of_ble_eq_true rfl)) dX9_ofKnife_49 ⟨Nat.zero_le _, Nat.zero_le _⟩
      refine fw_rcalli (rn) hG hK (fun r4  H locs h hG => ?_)
      exact fw_iret C hG ⟨h, rfl, rfl⟩ dX9_ofKnife_52
    have h := h.2
    by_cases c5 : x2 = 1
    · have h := h.1 c5
      refine W.eq (g2 := F0 m 13 ls (.int 1 :: [])) (by rw [c5]) ?_
      refine lv_tableIn (tgt := 53) C.1 C.2.1 dX9_ofKnife_13 (by decide) (by decide) rfl (by decide) ?_
      refine lv_aload_n C.1 C.2.1 dX9_ofKnife_53 rfl (lv_at hl 0 rfl) ?_
      refine kw_gK C in_X3 in_X2 in_X8 hK hG hi2 1 (by decide) k97 rfl rfl dX9_ofKnife_54 ?_
      exact fw_iret C hG ⟨h, rfl, rfl⟩ dX9_ofKnife_57
    have h := h.2
    by_cases c6 : x2 = 2
    · have h := h.1 c6
      refine W.eq (g2 := F0 m 13 ls (.int 2 :: [])) (by rw [c6]) ?_
      refine lv_tableIn (tgt := 58) C.1 C.2.1 dX9_ofKnife_13 (by decide) (by decide) rfl (by decide) ?_
      refine lv_aload_n C.1 C.2.1 dX9_ofKnife_58 rfl (lv_at hl 0 rfl) ?_
      refine kw_gK C in_X3 in_X2 in_X8 hK hG hi2 2 (by decide) k100 rfl rfl dX9_ofKnife_59 ?_
      exact fw_iret C hG ⟨h, rfl, rfl⟩ dX9_ofKnife_62
    have h := h.2
    by_cases c7 : x2 = 3
    · have h := h.1 c7
      refine W.eq (g2 := F0 m 13 ls (.int 3 :: [])) (by rw [c7]) ?_
      refine lv_tableIn (tgt := 63) C.1 C.2.1 dX9_ofKnife_13 (by decide) (by decide) rfl (by decide) ?_
      refine lv_aload_n C.1 C.2.1 dX9_ofKnife_63 rfl (lv_at hl 0 rfl) ?_
      refine kw_gK C in_X3 in_X2 in_X8 hK hG hi2 3 (by decide) k103 rfl rfl dX9_ofKnife_64 ?_
      exact fw_iret C hG ⟨h, rfl, rfl⟩ dX9_ofKnife_67
    have h := h.2
    by_cases c8 : x2 = 4
    · have h := h.1 c8
      refine W.eq (g2 := F0 m 13 ls (.int 4 :: [])) (by rw [c8]) ?_
      refine lv_tableIn (tgt := 68) C.1 C.2.1 dX9_ofKnife_13 (by decide) (by decide) rfl (by decide) ?_
      refine lv_aload_n C.1 C.2.1 dX9_ofKnife_68 rfl (lv_at hl 0 rfl) ?_
      refine kw_gK C in_X3 in_X2 in_X8 hK hG hi2 4 (by decide) k106 rfl rfl dX9_ofKnife_69 ?_
      exact fw_iret C hG ⟨h, rfl, rfl⟩ dX9_ofKnife_72
    have h := h.2
    have h := h c3
    have h := h c5
    have h := h c6
    have h := h c7
    have h := h c8
    have dn : x2.toInt < 0 ∨ 4 < x2.toInt := by
      have nc3 : x2.toInt ≠ 0 := fun z => c3 (Int32.toInt_inj.mp (z.trans (by decide)))
      have nc5 : x2.toInt ≠ 1 := fun z => c5 (Int32.toInt_inj.mp (z.trans (by decide)))
      have nc6 : x2.toInt ≠ 2 := fun z => c6 (Int32.toInt_inj.mp (z.trans (by decide)))
      have nc7 : x2.toInt ≠ 3 := fun z => c7 (Int32.toInt_inj.mp (z.trans (by decide)))
      have nc8 : x2.toInt ≠ 4 := fun z => c8 (Int32.toInt_inj.mp (z.trans (by decide)))
      omega
    refine lv_tableOut (tgt := 73) C.1 C.2.1 dX9_ofKnife_13 dn (by decide) ?_
    refine lv_bipush (v := (-2)) C.1 C.2.1 dX9_ofKnife_73 (by decide) ?_
    exact fw_iret C hG ⟨h, rfl, rfl⟩ dX9_ofKnife_75
/-! KnifeBoard.isThrow(II)Z -/
def rmX9_isThrow : Room := { frames := 1, cells := 0, slots := 0, locals := 22 }
def wpX9_isThrow (x0 : Int32) (x1 : Int32) (Q : Int32 → Prop) : Prop := wpX9_within x0 0 23 (fun (r1 : Int32) => (r1 = 0 → (Q 0)) ∧ (¬ r1 = 0 → (wpX9_within x1 1 40 (fun (r3 : Int32) => (r3 = 0 → (Q 0)) ∧ (¬ r3 = 0 → (Q 1))))))
set_option maxHeartbeats 4000000 in
set_option maxRecDepth 100000 in
theorem soX9_isThrow (l : Launch) (x0 : Int32) (x1 : Int32) (Q : Int32 → Prop) (h : wpX9_isThrow x0 x1 Q) : fw_pM l yX9_isThrow wsX9_isThrow rmX9_isThrow [.int x0, .int x1] (fw_pQi Q) := by
  refine fw_pstart (cc := cX9_isThrow) (nL := 2) (rt := (some .boolean)) (by decide) rfl (Nat.le_of_ble_eq_true rfl) ?_
  intro p e s m below meth c A ls H locs C hA hS hl
  obtain ⟨args, ea⟩ : ∃ z : Array Value, z = ([.int x0, .int x1] : List Value).toArray := ⟨_, rfl⟩
  rw [← ea] at C ⊢
  have C : fw_C p s m args meth c cX9_isThrow 2 (some .boolean) wsX9_isThrow RX9 := C
  have hl : lv_has ls 2 [(0, .int x0), (1, .int x1)] := hl
  unfold wpX9_isThrow at h
  refine lv_iload_n C.1 C.2.1 dX9_isThrow_0 rfl (lv_at hl 0 rfl) ?_
  refine lv_iconst (v := 0) C.1 C.2.1 dX9_isThrow_1 (by decide) ?_
  refine lv_bipush (v := 23) C.1 C.2.1 dX9_isThrow_2 (by decide) ?_
  refine fw_ppcalli (va_runS (As := [.int x0, .int 0, .int 23]) (rest := []) ⟨C.1, C.2.1, C.2.2.2.2.2.2, C.2.2.2.2.2.1, C.2.2.2.2.1⟩ (soX9_within l x0 0 23 _ h H.size) (va_cwS 3 C.2.2.2.2.1 gX9_isThrow_X9_within rfl rfl rfl (by decide +kernel) ⟨Nat.le_of_ble_eq_true rfl, Nat.le_of_ble_eq_true rfl⟩) fw_ppre rfl rfl hl.1 rfl (lv_room (Nat.le_of_ble_eq_true rfl)) dX9_isThrow_4 ⟨Nat.zero_le _, Nat.zero_le _⟩) hS hA (fun r1  H locs h hS => ?_)
  refine lv_if_eq (tgt := 24) C.1 C.2.1 dX9_isThrow_7 (by decide) (fun c2 => ?_) (fun c2 => ?_)
  · have h := h.1 c2
    refine lv_iconst (v := 0) C.1 C.2.1 dX9_isThrow_24 (by decide) ?_
    exact fw_pzret C hS (by decide) h dX9_isThrow_25
  · have h := h.2 c2
    refine lv_iload_n C.1 C.2.1 dX9_isThrow_10 rfl (lv_at hl 1 rfl) ?_
    refine lv_iconst (v := 1) C.1 C.2.1 dX9_isThrow_11 (by decide) ?_
    refine lv_bipush (v := 40) C.1 C.2.1 dX9_isThrow_12 (by decide) ?_
    refine fw_ppcalli (va_runS (As := [.int x1, .int 1, .int 40]) (rest := []) ⟨C.1, C.2.1, C.2.2.2.2.2.2, C.2.2.2.2.2.1, C.2.2.2.2.1⟩ (soX9_within l x1 1 40 _ h H.size) (va_cwS 3 C.2.2.2.2.1 gX9_isThrow_X9_within rfl rfl rfl (by decide +kernel) ⟨Nat.le_of_ble_eq_true rfl, Nat.le_of_ble_eq_true rfl⟩) fw_ppre rfl rfl hl.1 rfl (lv_room (Nat.le_of_ble_eq_true rfl)) dX9_isThrow_14 ⟨Nat.zero_le _, Nat.zero_le _⟩) hS hA (fun r3  H locs h hS => ?_)
    refine lv_if_eq (tgt := 24) C.1 C.2.1 dX9_isThrow_17 (by decide) (fun c4 => ?_) (fun c4 => ?_)
    · have h := h.1 c4
      refine lv_iconst (v := 0) C.1 C.2.1 dX9_isThrow_24 (by decide) ?_
      exact fw_pzret C hS (by decide) h dX9_isThrow_25
    · have h := h.2 c4
      refine lv_iconst (v := 1) C.1 C.2.1 dX9_isThrow_20 (by decide) ?_
      refine lv_goto (tgt := 25) C.1 C.2.1 dX9_isThrow_21 (by decide) ?_
      exact fw_pzret C hS (by decide) h dX9_isThrow_25
/-! KnifeBoard.commonDivisor(JJ)J -/
def rmX9_commonDivisor : Room := { frames := 0, cells := 0, slots := 0, locals := 0 }
def wpX9_commonDivisor_L9 (x0 : Int64) (x2 : Int64) (Q : Int64 → Prop) (K : Int64 → Int64 → Int32 → Prop) : Nat → Int64 → Int64 → Int32 → Prop
  | 0, _, _, _ => False
  | fu + 1, z4, z6, z8 => (200 ≤ z8 → (K z4 z6 z8)) ∧ (¬ 200 ≤ z8 → (((lg_cmp z6 0) = 0 → (K z4 z6 z8)) ∧ (¬ (lg_cmp z6 0) = 0 → (¬ z6 = 0 ∧ (∀ y4 : Int64, y4 = z4 - z4 / z6 * z6 → (∀ y5 : Int32, y5 = z8 + 1 → (wpX9_commonDivisor_L9 x0 x2 Q K fu z6 y4 y5)))))))
def wpX9_commonDivisor (x0 : Int64) (x2 : Int64) (Q : Int64 → Prop) : Prop := ∃ ku : Nat, wpX9_commonDivisor_L9 x0 x2 Q (fun (w6 : Int64) (w7 : Int64) (w8 : Int32) => Q w6) ku x0 x2 0
set_option maxHeartbeats 4000000 in
set_option maxRecDepth 100000 in
theorem soX9_commonDivisor_L9 {p : Program} {l : Launch} {e : Env} {s : State} {m : MethodId} {args : Array Value} {below : List Frame} {meth : Method} {c : Code} {A : Nat → Prop} {x0 : Int64} {x2 : Int64} {Q : Int64 → Prop} {K : Int64 → Int64 → Int32 → Prop} (C : fw_C p s m args meth c cX9_commonDivisor 11 (some .long) wsX9_commonDivisor RX9) (hA : ∀ q : Nat, s.heap.size ≤ q → A q)  (hX : ∀ (z4 : Int64) (z6 : Int64) (z8 : Int32), K z4 z6 z8 → ∀ (H : Heap) (locs : List Loc), va_S A s.heap H locs → ∀ (ls : Array Slot), lv_has ls 11 [(8, .int z8), (6, .long z6), (4, .long z4)] → W p l e rmX9_commonDivisor s m args below meth c H locs 0 0 (MQ below (fw_pQl Q A) args s 0 0 A) (F0 m 45 ls [])) : ∀ (fu : Nat) (z4 : Int64) (z6 : Int64) (z8 : Int32), wpX9_commonDivisor_L9 x0 x2 Q K fu z4 z6 z8 → ∀ (H : Heap) (locs : List Loc), va_S A s.heap H locs → ∀ (ls : Array Slot), lv_has ls 11 [(8, .int z8), (6, .long z6), (4, .long z4)] → W p l e rmX9_commonDivisor s m args below meth c H locs 0 0 (MQ below (fw_pQl Q A) args s 0 0 A) (F0 m 9 ls []) := by
  intro fu
  induction fu with
  | zero => intro z4 z6 z8 h; exact h.elim
  | succ fu ih =>
    intro z4 z6 z8 h H locs hS ls hl
    unfold wpX9_commonDivisor_L9 at h
    refine lv_iload C.1 C.2.1 dX9_commonDivisor_9 (lv_at hl 0 rfl) ?_
    refine lv_sipush (v := 200) C.1 C.2.1 dX9_commonDivisor_11 (by decide) ?_
    refine lv_icmp_ge (tgt := 45) C.1 C.2.1 dX9_commonDivisor_14 (by decide) (fun c1 => ?_) (fun c1 => ?_)
    · have h := h.1 c1
      exact hX _ _ _ h _ _ hS ls (lv_sub hl [0, 1, 2] rfl)
    · have h := h.2 c1
      refine lv_lload C.1 C.2.1 dX9_commonDivisor_17 (lv_at hl 1 rfl) ?_
      refine lv_lconst (v := 0) C.1 C.2.1 dX9_commonDivisor_19 (by decide) ?_
      refine W.lcmp C.1 C.2.1 dX9_commonDivisor_20 ?_
      refine lv_if_eq (tgt := 45) C.1 C.2.1 dX9_commonDivisor_21 (by decide) (fun c2 => ?_) (fun c2 => ?_)
      · have h := h.1 c2
        exact hX _ _ _ h _ _ hS ls (lv_sub hl [0, 1, 2] rfl)
      · have h := h.2 c2
        refine lv_lload C.1 C.2.1 dX9_commonDivisor_24 (lv_at hl 2 rfl) ?_
        refine lv_lload C.1 C.2.1 dX9_commonDivisor_26 (lv_at hl 1 rfl) ?_
        obtain ⟨c3, h⟩ := h
        refine lv_lrem C.1 C.2.1 dX9_commonDivisor_28 c3 ?_
        refine lv_topl (fun y4 ey4 => ?_)
        have h := h y4 ey4
        refine lv_lstore (lv' := [(9, .long y4), (8, .int z8), (6, .long z6), (4, .long z4)]) C.1 C.2.1 dX9_commonDivisor_29 hl (by decide) rfl (fun ls hl => ?_)
        refine lv_lload C.1 C.2.1 dX9_commonDivisor_31 (lv_at hl 2 rfl) ?_
        refine lv_lstore (lv' := [(4, .long z6), (9, .long y4), (8, .int z8), (6, .long z6)]) C.1 C.2.1 dX9_commonDivisor_33 hl (by decide) rfl (fun ls hl => ?_)
        refine lv_lload C.1 C.2.1 dX9_commonDivisor_35 (lv_at hl 1 rfl) ?_
        refine lv_lstore (lv' := [(6, .long y4), (4, .long z6), (9, .long y4), (8, .int z8)]) C.1 C.2.1 dX9_commonDivisor_37 hl (by decide) rfl (fun ls hl => ?_)
        obtain ⟨y5, ey5⟩ : ∃ z : Int32, z = z8 + 1 := ⟨_, rfl⟩
        have h := h y5 ey5
        refine lv_iinc (v := y5) (lv' := [(8, .int y5), (6, .long y4), (4, .long z6), (9, .long y4)]) C.1 C.2.1 dX9_commonDivisor_39 hl (k := 3) rfl (by rw [ey5]; rfl) (by decide) rfl (fun ls hl => ?_)
        refine lv_goto (tgt := 9) C.1 C.2.1 dX9_commonDivisor_42 (by decide) ?_
        exact ih _ _ _ h _ _ hS ls (lv_sub hl [0, 1, 2] rfl)

set_option maxHeartbeats 4000000 in
set_option maxRecDepth 100000 in
theorem soX9_commonDivisor (l : Launch) (x0 : Int64) (x2 : Int64) (Q : Int64 → Prop) (h : wpX9_commonDivisor x0 x2 Q) : fw_pM l yX9_commonDivisor wsX9_commonDivisor rmX9_commonDivisor [.long x0, .long x2] (fw_pQl Q) := by
  refine fw_pstart (cc := cX9_commonDivisor) (nL := 11) (rt := (some .long)) (by decide) rfl (Nat.le_of_ble_eq_true rfl) ?_
  intro p e s m below meth c A ls H locs C hA hS hl
  obtain ⟨args, ea⟩ : ∃ z : Array Value, z = ([.long x0, .long x2] : List Value).toArray := ⟨_, rfl⟩
  rw [← ea] at C ⊢
  have C : fw_C p s m args meth c cX9_commonDivisor 11 (some .long) wsX9_commonDivisor RX9 := C
  have hl : lv_has ls 11 [(0, .long x0), (2, .long x2)] := hl
  unfold wpX9_commonDivisor at h
  refine lv_lload_n C.1 C.2.1 dX9_commonDivisor_0 rfl (lv_at hl 0 rfl) ?_
  refine lv_lstore (lv' := [(4, .long x0), (0, .long x0), (2, .long x2)]) C.1 C.2.1 dX9_commonDivisor_1 hl (by decide) rfl (fun ls hl => ?_)
  refine lv_lload_n C.1 C.2.1 dX9_commonDivisor_3 rfl (lv_at hl 2 rfl) ?_
  refine lv_lstore (lv' := [(6, .long x2), (4, .long x0), (0, .long x0), (2, .long x2)]) C.1 C.2.1 dX9_commonDivisor_4 hl (by decide) rfl (fun ls hl => ?_)
  refine lv_iconst (v := 0) C.1 C.2.1 dX9_commonDivisor_6 (by decide) ?_
  refine lv_istore (lv' := [(8, .int 0), (6, .long x2), (4, .long x0), (0, .long x0), (2, .long x2)]) C.1 C.2.1 dX9_commonDivisor_7 hl (by decide) rfl (fun ls hl => ?_)
  obtain ⟨ku, h⟩ := h
  refine soX9_commonDivisor_L9 C hA  ?_ ku _ _ _ h _ _ hS ls (lv_sub hl [0, 1, 2] rfl)
  intro w6 w7 w8 h H locs hS ls hl
  refine lv_lload C.1 C.2.1 dX9_commonDivisor_45 (lv_at hl 2 rfl) ?_
  exact fw_plret C hS h dX9_commonDivisor_47
/-! KnifeBoard.share(JJI)J -/
def rmX9_share : Room := { frames := 1, cells := 0, slots := 0, locals := 30 }
def wpX9_share (x0 : Int64) (x2 : Int64) (x4 : Int32) (Q : Int64 → Prop) : Prop := (0 < (lg_cmp x2 0) → (wpX9_commonDivisor (if 0 < x0 then x0 else -x0) x2 (fun (r2 : Int64) => (0 < (lg_cmp r2 0) → ((¬ x4 = 0 → (¬ r2 = 0 ∧ (Q (x2 / r2)))) ∧ (x4 = 0 → (¬ r2 = 0 ∧ (Q (x0 / r2)))))) ∧ (¬ 0 < (lg_cmp r2 0) → (Q (-9223372036854775808)))))) ∧ (¬ 0 < (lg_cmp x2 0) → (Q (-9223372036854775808)))
set_option maxHeartbeats 4000000 in
set_option maxRecDepth 100000 in
theorem soX9_share (l : Launch) (x0 : Int64) (x2 : Int64) (x4 : Int32) (Q : Int64 → Prop) (h : wpX9_share x0 x2 x4 Q) : fw_pM l yX9_share wsX9_share rmX9_share [.long x0, .long x2, .int x4] (fw_pQl Q) := by
  refine fw_pstart (cc := cX9_share) (nL := 7) (rt := (some .long)) (by decide) rfl (Nat.le_of_ble_eq_true rfl) ?_
  intro p e s m below meth c A ls H locs C hA hS hl
  obtain ⟨args, ea⟩ : ∃ z : Array Value, z = ([.long x0, .long x2, .int x4] : List Value).toArray := ⟨_, rfl⟩
  rw [← ea] at C ⊢
  have C : fw_C p s m args meth c cX9_share 7 (some .long) wsX9_share RX9 := C
  have hl : lv_has ls 7 [(0, .long x0), (2, .long x2), (4, .int x4)] := hl
  unfold wpX9_share at h
  have k113 := C.2.2.2.2.1 (.constantLong RX9 113 (-9223372036854775808)) (by decide +kernel)
  have m325 := C.2.2.2.2.1 (.methodLink RX9 325 Lib.MathLoose.abs_long.x) (by decide +kernel)
  have mc_absl : (Cond.code Lib.MathLoose.abs_long.x Lib.MathLoose.abs_long.code 2 (some .long)).before args s = true := C.2.2.2.2.1 _ (by decide +kernel)
  have mi_ := C.2.2.2.2.1 (.initialized "java/lang/Math") (by decide +kernel)
  have ms_absl := C.2.2.2.2.1 (.static Lib.MathLoose.abs_long.x) (by decide +kernel)
  refine lv_lload_n C.1 C.2.1 dX9_share_0 rfl (lv_at hl 1 rfl) ?_
  refine lv_lconst (v := 0) C.1 C.2.1 dX9_share_1 (by decide) ?_
  refine W.lcmp C.1 C.2.1 dX9_share_2 ?_
  refine lv_if_gt (tgt := 10) C.1 C.2.1 dX9_share_3 (by decide) (fun c1 => ?_) (fun c1 => ?_)
  · have h := h.1 c1
    refine lv_lload_n C.1 C.2.1 dX9_share_10 rfl (lv_at hl 0 rfl) ?_
    refine va_mabs_long C.1 C.2.1 (by rw [C.2.2.2.2.2.2]; exact hl.1.symm) C.2.2.2.2.2.1 m325 ms_absl mi_ mc_absl (Nat.le_of_ble_eq_true rfl) (Nat.le_of_ble_eq_true rfl) (Nat.zero_le _) (Nat.zero_le _) dX9_share_11 ?_
    refine lv_lload_n C.1 C.2.1 dX9_share_14 rfl (lv_at hl 1 rfl) ?_
    refine fw_ppcalll (va_runS (As := [.long (if 0 < x0 then x0 else -x0), .long x2]) (rest := []) ⟨C.1, C.2.1, C.2.2.2.2.2.2, C.2.2.2.2.2.1, C.2.2.2.2.1⟩ (soX9_commonDivisor l (if 0 < x0 then x0 else -x0) x2 _ h H.size) (va_cwS 2 C.2.2.2.2.1 gX9_share_X9_commonDivisor rfl rfl rfl (by decide +kernel) ⟨Nat.le_of_ble_eq_true rfl, Nat.le_of_ble_eq_true rfl⟩) fw_ppre rfl rfl hl.1 rfl (lv_room (Nat.le_of_ble_eq_true rfl)) dX9_share_15 ⟨Nat.zero_le _, Nat.zero_le _⟩) hS hA (fun r2  H locs h hS => ?_)
    refine lv_lstore (lv' := [(5, .long r2), (0, .long x0), (2, .long x2), (4, .int x4)]) C.1 C.2.1 dX9_share_18 hl (by decide) rfl (fun ls hl => ?_)
    refine lv_lload C.1 C.2.1 dX9_share_20 (lv_at hl 0 rfl) ?_
    refine lv_lconst (v := 0) C.1 C.2.1 dX9_share_22 (by decide) ?_
    refine W.lcmp C.1 C.2.1 dX9_share_23 ?_
    refine lv_if_gt (tgt := 31) C.1 C.2.1 dX9_share_24 (by decide) (fun c3 => ?_) (fun c3 => ?_)
    · have h := h.1 c3
      refine lv_iload C.1 C.2.1 dX9_share_31 (lv_at hl 3 rfl) ?_
      refine lv_if_ne (tgt := 43) C.1 C.2.1 dX9_share_33 (by decide) (fun c4 => ?_) (fun c4 => ?_)
      · have h := h.1 c4
        refine lv_lload_n C.1 C.2.1 dX9_share_43 rfl (lv_at hl 2 rfl) ?_
        refine lv_lload C.1 C.2.1 dX9_share_44 (lv_at hl 0 rfl) ?_
        obtain ⟨c5, h⟩ := h
        refine lv_ldiv C.1 C.2.1 dX9_share_46 c5 ?_
        exact fw_plret C hS h dX9_share_47
      · have h := h.2 c4
        refine lv_lload_n C.1 C.2.1 dX9_share_36 rfl (lv_at hl 1 rfl) ?_
        refine lv_lload C.1 C.2.1 dX9_share_37 (lv_at hl 0 rfl) ?_
        obtain ⟨c6, h⟩ := h
        refine lv_ldiv C.1 C.2.1 dX9_share_39 c6 ?_
        refine lv_goto (tgt := 47) C.1 C.2.1 dX9_share_40 (by decide) ?_
        exact fw_plret C hS h dX9_share_47
    · have h := h.2 c3
      refine lv_ldc2 C.1 C.2.1 C.2.2.2.2.2.1 k113 dX9_share_27 ?_
      exact fw_plret C hS h dX9_share_30
  · have h := h.2 c1
    refine lv_ldc2 C.1 C.2.1 C.2.2.2.2.2.1 k113 dX9_share_6 ?_
    exact fw_plret C hS h dX9_share_9
/-! KnifeBoard.lies(IIII)J -/
def rmX9_lies : Room := { frames := 2, cells := 0, slots := 0, locals := 56 }
def wpX9_lies (kt : kw_T) (iv : fw_F) (ar : fw_R) (x1 : Int32) (x2 : Int32) (x3 : Int32) (x4 : Int32) (Q : Int64 → Prop) : Prop := wpX9_knifeAt kt iv ar x1 (fun (r1 : Option Nat) => (r1 = none → (Q (-9223372036854775808))) ∧ (∀ i2 : Nat, r1 = some i2 → i2 < kt.1 ∧ (wpX9_isThrow x2 x3 (fun (r3 : Int32) => (r3 = 0 → (Q (-9223372036854775808))) ∧ (¬ r3 = 0 → (wpX9_within x4 0 1 (fun (r5 : Int32) => (¬ r5 = 0 → (wpX3_roundBy kt iv ar i2 x2 (kt.2.2.1 i2 2) x3 (fun (r7 : Int32) => wpX9_share r7.toInt64 ((kt.2.2.1 i2 1).toInt64) x4 (fun (r8 : Int64) => Q r8)))) ∧ (r5 = 0 → (Q (-9223372036854775808))))))))))
set_option maxHeartbeats 4000000 in
set_option maxRecDepth 100000 in
theorem soX9_lies (l : Launch) (G : fw_G) (ad : Nat → Nat) (kt : kw_T) (iv : fw_F) (ar : fw_R) (x1 : Int32) (x2 : Int32) (x3 : Int32) (x4 : Int32) (Q : Int64 → Prop)  (h : wpX9_lies kt iv ar x1 x2 x3 x4 Q) : fw_M l G (kw G ad kt) yX9_lies wsX9_lies rmX9_lies [.ref (ad 0), .int x1, .int x2, .int x3, .int x4] iv ar (fw_Ql G (kw G ad kt) (fun r iv1 ar1 => Q r ∧ iv = iv1 ∧ ar = ar1)) := by
  refine fw_start (cc := cX9_lies) (nL := 6) (rt := (some .long)) (by decide) rfl (Nat.le_of_ble_eq_true rfl) ?_
  intro p e s m below meth c A ls H locs C hK hG hl
  obtain ⟨args, ea⟩ : ∃ z : Array Value, z = ([.ref (ad 0), .int x1, .int x2, .int x3, .int x4] : List Value).toArray := ⟨_, rfl⟩
  rw [← ea] at C ⊢
  have C : fw_C p s m args meth c cX9_lies 6 (some .long) wsX9_lies RX9 := C
  have hl : lv_has ls 6 [(0, .ref (ad 0)), (1, .int x1), (2, .int x2), (3, .int x3), (4, .int x4)] := hl
  unfold wpX9_lies at h
  have in_X2 : ∀ x ∈ wsX20, x ∈ wsX9_lies := by decide +kernel
  have in_X3 : ∀ x ∈ wsX30, x ∈ wsX9_lies := by decide +kernel
  have in_X8 : ∀ x ∈ wsX80, x ∈ wsX9_lies := by decide +kernel
  have k100 := C.2.2.2.2.1 (.fieldLink RX9 100 "KnifeBoard$Knife" "turn" "I") (by decide +kernel)
  have k113 := C.2.2.2.2.1 (.constantLong RX9 113 (-9223372036854775808)) (by decide +kernel)
  have k97 := C.2.2.2.2.1 (.fieldLink RX9 97 "KnifeBoard$Knife" "pace" "I") (by decide +kernel)
  refine lv_aload_n C.1 C.2.1 dX9_lies_0 rfl (lv_at hl 0 rfl) ?_
  refine lv_iload_n C.1 C.2.1 dX9_lies_1 rfl (lv_at hl 1 rfl) ?_
  refine fw_rcallq (va_runV (As := [.int x1]) (rest := []) ⟨C.1, C.2.1, C.2.2.2.2.2.2, C.2.2.2.2.2.1, C.2.2.2.2.1⟩ (soX9_knifeAt l G ad kt iv ar x1 _  h H.size) (cwV 1 C.2.2.2.2.1 gX9_lies_X9_knifeAt rfl rfl rfl (by decide +kernel) ⟨Nat.le_of_ble_eq_true rfl, Nat.le_of_ble_eq_true rfl⟩) (fw_preV hG hK (ci := 9) rfl kw_o9) rfl rfl hl.1 rfl (lv_room (Nat.le_of_ble_eq_true rfl)) dX9_lies_2 ⟨Nat.zero_le _, Nat.zero_le _⟩) hG hK (fun r1  H locs h hG => ?_)
  rcases r1 with _ | i2
  · have h := h.1 rfl
    refine W.eq (g2 := F0 m 5 ls (.null :: [])) rfl ?_
    refine lv_astoreN (lv' := [(5, .null), (0, .ref (ad 0)), (1, .int x1), (2, .int x2), (3, .int x3), (4, .int x4)]) C.1 C.2.1 dX9_lies_5 hl (by decide) rfl (fun ls hl => ?_)
    refine lv_aloadN C.1 C.2.1 dX9_lies_7 (lv_at hl 0 rfl) ?_
    refine lv_ifnullN (tgt := 30) C.1 C.2.1 dX9_lies_9 (by decide) ?_
    refine lv_ldc2 C.1 C.2.1 C.2.2.2.2.2.1 k113 dX9_lies_30 ?_
    exact fw_lret C hG ⟨h, rfl, rfl⟩ dX9_lies_33
  · obtain ⟨hi2, h⟩ := h.2 i2 rfl
    refine W.eq (g2 := F0 m 5 ls (.ref (ad (28 + 2 * i2)) :: [])) rfl ?_
    refine lv_astore (lv' := [(5, .ref (ad (28 + 2 * i2))), (0, .ref (ad 0)), (1, .int x1), (2, .int x2), (3, .int x3), (4, .int x4)]) C.1 C.2.1 dX9_lies_5 hl (by decide) rfl (fun ls hl => ?_)
    refine lv_aload C.1 C.2.1 dX9_lies_7 (lv_at hl 0 rfl) ?_
    refine lv_ifnull C.1 C.2.1 dX9_lies_9 ?_
    refine lv_iload_n C.1 C.2.1 dX9_lies_12 rfl (lv_at hl 3 rfl) ?_
    refine lv_iload_n C.1 C.2.1 dX9_lies_13 rfl (lv_at hl 4 rfl) ?_
    refine fw_pcalli (va_runS (As := [.int x2, .int x3]) (rest := []) ⟨C.1, C.2.1, C.2.2.2.2.2.2, C.2.2.2.2.2.1, C.2.2.2.2.1⟩ (soX9_isThrow l x2 x3 _ h H.size) (va_cwS 2 C.2.2.2.2.1 gX9_lies_X9_isThrow rfl rfl rfl (by decide +kernel) ⟨Nat.le_of_ble_eq_true rfl, Nat.le_of_ble_eq_true rfl⟩) fw_ppre rfl rfl hl.1 rfl (lv_room (Nat.le_of_ble_eq_true rfl)) dX9_lies_14 ⟨Nat.zero_le _, Nat.zero_le _⟩) hG hK (fun r3  H locs h hG => ?_)
    refine lv_if_eq (tgt := 30) C.1 C.2.1 dX9_lies_17 (by decide) (fun c4 => ?_) (fun c4 => ?_)
    · have h := h.1 c4
      refine lv_ldc2 C.1 C.2.1 C.2.2.2.2.2.1 k113 dX9_lies_30 ?_
      exact fw_lret C hG ⟨h, rfl, rfl⟩ dX9_lies_33
    · have h := h.2 c4
      refine lv_iload C.1 C.2.1 dX9_lies_20 (lv_at hl 5 rfl) ?_
      refine lv_iconst (v := 0) C.1 C.2.1 dX9_lies_22 (by decide) ?_
      refine lv_iconst (v := 1) C.1 C.2.1 dX9_lies_23 (by decide) ?_
      refine fw_pcalli (va_runS (As := [.int x4, .int 0, .int 1]) (rest := []) ⟨C.1, C.2.1, C.2.2.2.2.2.2, C.2.2.2.2.2.1, C.2.2.2.2.1⟩ (soX9_within l x4 0 1 _ h H.size) (va_cwS 3 C.2.2.2.2.1 gX9_lies_X9_within rfl rfl rfl (by decide +kernel) ⟨Nat.le_of_ble_eq_true rfl, Nat.le_of_ble_eq_true rfl⟩) fw_ppre rfl rfl hl.1 rfl (lv_room (Nat.le_of_ble_eq_true rfl)) dX9_lies_24 ⟨Nat.zero_le _, Nat.zero_le _⟩) hG hK (fun r5  H locs h hG => ?_)
      refine lv_if_ne (tgt := 34) C.1 C.2.1 dX9_lies_27 (by decide) (fun c6 => ?_) (fun c6 => ?_)
      · have h := h.1 c6
        refine lv_aload C.1 C.2.1 dX9_lies_34 (lv_at hl 0 rfl) ?_
        refine lv_iload_n C.1 C.2.1 dX9_lies_36 rfl (lv_at hl 3 rfl) ?_
        refine lv_aload C.1 C.2.1 dX9_lies_37 (lv_at hl 0 rfl) ?_
        refine kw_gK C in_X3 in_X2 in_X8 hK hG hi2 2 (by decide) k100 rfl rfl dX9_lies_39 ?_
        refine lv_iload_n C.1 C.2.1 dX9_lies_42 rfl (lv_at hl 4 rfl) ?_
        have rn : va_Run p l e rmX9_lies s m args below meth c H locs 0 0 0 0 (F0 m 43 ls (.int x3 :: .int (kt.2.2.1 i2 2) :: .int x2 :: .ref (ad (28 + 2 * i2)) :: [])) [] (fw_Qi G (kw G ad kt) (fun r iv1 ar1 => (fun (r7 : Int32) => wpX9_share r7.toInt64 ((kt.2.2.1 i2 1).toInt64) x4 (fun (r8 : Int64) => Q r8)) r ∧ iv = iv1 ∧ ar = ar1) (va_A ((kw G ad kt) iv ar) H.size) (.ref (ad (28 + 2 * i2)) :: [.int x2, .int (kt.2.2.1 i2 2), .int x3]).toArray) (va_A ((kw G ad kt) iv ar) H.size) := by
          by_cases e0 : kt.2.1 i2 = 0
          · exact va_runV (As := [.int x2, .int (kt.2.2.1 i2 2), .int x3]) (rest := []) ⟨C.1, C.2.1, C.2.2.2.2.2.2, C.2.2.2.2.2.1, C.2.2.2.2.1⟩ (soX3_roundBy l G ad kt iv ar i2 x2 (kt.2.2.1 i2 2) x3 _ hi2 h H.size) (cwV 3 C.2.2.2.2.1 gX9_lies_X3_roundBy rfl rfl rfl (by decide +kernel) ⟨Nat.le_of_ble_eq_true rfl, Nat.le_of_ble_eq_true rfl⟩) (fw_preV hG hK (ci := 3) rfl (kw_oK3 hi2 (kw_d3 e0))) rfl rfl hl.1 rfl (lv_room (Nat.le_of_ble_eq_true rfl)) dX9_lies_43 ⟨Nat.zero_le _, Nat.zero_le _⟩
          · by_cases e1 : kt.2.1 i2 = 1
            · exact va_runU (As := [.int x2, .int (kt.2.2.1 i2 2), .int x3]) (rest := []) ⟨C.1, C.2.1, C.2.2.2.2.2.2, C.2.2.2.2.2.1, C.2.2.2.2.1⟩ (soX3_roundBy l G ad kt iv ar i2 x2 (kt.2.2.1 i2 2) x3 _ hi2 h H.size) (va_cwU 3 C.2.2.2.2.1 gX9_lies_X3_roundBy_u115X2 rfl rfl rfl rfl (by decide +kernel) ⟨Nat.le_of_ble_eq_true rfl, Nat.le_of_ble_eq_true rfl⟩) (fw_preV hG hK (ci := 2) rfl (kw_oK2 hi2 (kw_d2 e0 e1))) rfl rfl hl.1 rfl (lv_room (Nat.le_of_ble_eq_true rfl)) dX9_lies_43 ⟨Nat.zero_le _, Nat.zero_le _⟩
            · exact va_runU (As := [.int x2, .int (kt.2.2.1 i2 2), .int x3]) (rest := []) ⟨C.1, C.2.1, C.2.2.2.2.2.2, C.2.2.2.2.2.1, C.2.2.2.2.1⟩ (soX3_roundBy l G ad kt iv ar i2 x2 (kt.2.2.1 i2 2) x3 _ hi2 h H.size) (va_cwU 3 C.2.2.2.2.1 gX9_lies_X3_roundBy_u115X8 rfl rfl rfl rfl (by decide +kernel) ⟨Nat.le_of_ble_eq_true rfl, Nat.le_of_ble_eq_true rfl⟩) (fw_preV hG hK (ci := 8) rfl (kw_oK8 hi2 (kw_d8 e0 e1))) rfl rfl hl.1 rfl (lv_room (Nat.le_of_ble_eq_true rfl)) dX9_lies_43 ⟨Nat.zero_le _, Nat.zero_le _⟩
        refine fw_rcalli (rn) hG hK (fun r7  H locs h hG => ?_)
        refine lv_i2l C.1 C.2.1 dX9_lies_46 rfl ?_
        refine lv_aload C.1 C.2.1 dX9_lies_47 (lv_at hl 0 rfl) ?_
        refine kw_gK C in_X3 in_X2 in_X8 hK hG hi2 1 (by decide) k97 rfl rfl dX9_lies_49 ?_
        refine lv_i2l C.1 C.2.1 dX9_lies_52 rfl ?_
        refine lv_iload C.1 C.2.1 dX9_lies_53 (lv_at hl 5 rfl) ?_
        refine fw_pcalll (va_runS (As := [.long r7.toInt64, .long ((kt.2.2.1 i2 1).toInt64), .int x4]) (rest := []) ⟨C.1, C.2.1, C.2.2.2.2.2.2, C.2.2.2.2.2.1, C.2.2.2.2.1⟩ (soX9_share l r7.toInt64 ((kt.2.2.1 i2 1).toInt64) x4 _ h H.size) (va_cwS 3 C.2.2.2.2.1 gX9_lies_X9_share rfl rfl rfl (by decide +kernel) ⟨Nat.le_of_ble_eq_true rfl, Nat.le_of_ble_eq_true rfl⟩) fw_ppre rfl rfl hl.1 rfl (lv_room (Nat.le_of_ble_eq_true rfl)) dX9_lies_55 ⟨Nat.zero_le _, Nat.zero_le _⟩) hG hK (fun r8  H locs h hG => ?_)
        exact fw_lret C hG ⟨h, rfl, rfl⟩ dX9_lies_58
      · have h := h.2 c6
        refine lv_ldc2 C.1 C.2.1 C.2.2.2.2.2.1 k113 dX9_lies_30 ?_
        exact fw_lret C hG ⟨h, rfl, rfl⟩ dX9_lies_33
/-! KnifeBoard.comes(III)I -/
def rmX9_comes : Room := { frames := 3, cells := 0, slots := 0, locals := 68 }
def wpX9_comes (kt : kw_T) (iv : fw_F) (ar : fw_R) (x1 : Int32) (x2 : Int32) (x3 : Int32) (Q : Int32 → Prop) : Prop := wpX9_knifeAt kt iv ar x1 (fun (r1 : Option Nat) => (r1 = none → (Q (-1))) ∧ (∀ i2 : Nat, r1 = some i2 → i2 < kt.1 ∧ (wpX9_isThrow x2 x3 (fun (r3 : Int32) => (¬ r3 = 0 → (wpX3_cameBy kt iv ar i2 x2 (kt.2.2.1 i2 2) x3 (fun (r5 : Int32) => Q r5))) ∧ (r3 = 0 → (Q (-2)))))))
set_option maxHeartbeats 4000000 in
set_option maxRecDepth 100000 in
theorem soX9_comes (l : Launch) (G : fw_G) (ad : Nat → Nat) (kt : kw_T) (iv : fw_F) (ar : fw_R) (x1 : Int32) (x2 : Int32) (x3 : Int32) (Q : Int32 → Prop)  (h : wpX9_comes kt iv ar x1 x2 x3 Q) : fw_M l G (kw G ad kt) yX9_comes wsX9_comes rmX9_comes [.ref (ad 0), .int x1, .int x2, .int x3] iv ar (fw_Qi G (kw G ad kt) (fun r iv1 ar1 => Q r ∧ iv = iv1 ∧ ar = ar1)) := by
  refine fw_start (cc := cX9_comes) (nL := 5) (rt := (some .int)) (by decide) rfl (Nat.le_of_ble_eq_true rfl) ?_
  intro p e s m below meth c A ls H locs C hK hG hl
  obtain ⟨args, ea⟩ : ∃ z : Array Value, z = ([.ref (ad 0), .int x1, .int x2, .int x3] : List Value).toArray := ⟨_, rfl⟩
  rw [← ea] at C ⊢
  have C : fw_C p s m args meth c cX9_comes 5 (some .int) wsX9_comes RX9 := C
  have hl : lv_has ls 5 [(0, .ref (ad 0)), (1, .int x1), (2, .int x2), (3, .int x3)] := hl
  unfold wpX9_comes at h
  have in_X2 : ∀ x ∈ wsX20, x ∈ wsX9_comes := by decide +kernel
  have in_X3 : ∀ x ∈ wsX30, x ∈ wsX9_comes := by decide +kernel
  have in_X8 : ∀ x ∈ wsX80, x ∈ wsX9_comes := by decide +kernel
  have k100 := C.2.2.2.2.1 (.fieldLink RX9 100 "KnifeBoard$Knife" "turn" "I") (by decide +kernel)
  refine lv_aload_n C.1 C.2.1 dX9_comes_0 rfl (lv_at hl 0 rfl) ?_
  refine lv_iload_n C.1 C.2.1 dX9_comes_1 rfl (lv_at hl 1 rfl) ?_
  refine fw_rcallq (va_runV (As := [.int x1]) (rest := []) ⟨C.1, C.2.1, C.2.2.2.2.2.2, C.2.2.2.2.2.1, C.2.2.2.2.1⟩ (soX9_knifeAt l G ad kt iv ar x1 _  h H.size) (cwV 1 C.2.2.2.2.1 gX9_comes_X9_knifeAt rfl rfl rfl (by decide +kernel) ⟨Nat.le_of_ble_eq_true rfl, Nat.le_of_ble_eq_true rfl⟩) (fw_preV hG hK (ci := 9) rfl kw_o9) rfl rfl hl.1 rfl (lv_room (Nat.le_of_ble_eq_true rfl)) dX9_comes_2 ⟨Nat.zero_le _, Nat.zero_le _⟩) hG hK (fun r1  H locs h hG => ?_)
  rcases r1 with _ | i2
  · have h := h.1 rfl
    refine W.eq (g2 := F0 m 5 ls (.null :: [])) rfl ?_
    refine lv_astoreN (lv' := [(4, .null), (0, .ref (ad 0)), (1, .int x1), (2, .int x2), (3, .int x3)]) C.1 C.2.1 dX9_comes_5 hl (by decide) rfl (fun ls hl => ?_)
    refine lv_aloadN C.1 C.2.1 dX9_comes_7 (lv_at hl 0 rfl) ?_
    refine lv_ifnonnullN C.1 C.2.1 dX9_comes_9 ?_
    refine lv_iconst (v := (-1)) C.1 C.2.1 dX9_comes_12 (by decide) ?_
    exact fw_iret C hG ⟨h, rfl, rfl⟩ dX9_comes_13
  · obtain ⟨hi2, h⟩ := h.2 i2 rfl
    refine W.eq (g2 := F0 m 5 ls (.ref (ad (28 + 2 * i2)) :: [])) rfl ?_
    refine lv_astore (lv' := [(4, .ref (ad (28 + 2 * i2))), (0, .ref (ad 0)), (1, .int x1), (2, .int x2), (3, .int x3)]) C.1 C.2.1 dX9_comes_5 hl (by decide) rfl (fun ls hl => ?_)
    refine lv_aload C.1 C.2.1 dX9_comes_7 (lv_at hl 0 rfl) ?_
    refine lv_ifnonnull (tgt := 14) C.1 C.2.1 dX9_comes_9 (by decide) ?_
    refine lv_iload_n C.1 C.2.1 dX9_comes_14 rfl (lv_at hl 3 rfl) ?_
    refine lv_iload_n C.1 C.2.1 dX9_comes_15 rfl (lv_at hl 4 rfl) ?_
    refine fw_pcalli (va_runS (As := [.int x2, .int x3]) (rest := []) ⟨C.1, C.2.1, C.2.2.2.2.2.2, C.2.2.2.2.2.1, C.2.2.2.2.1⟩ (soX9_isThrow l x2 x3 _ h H.size) (va_cwS 2 C.2.2.2.2.1 gX9_comes_X9_isThrow rfl rfl rfl (by decide +kernel) ⟨Nat.le_of_ble_eq_true rfl, Nat.le_of_ble_eq_true rfl⟩) fw_ppre rfl rfl hl.1 rfl (lv_room (Nat.le_of_ble_eq_true rfl)) dX9_comes_16 ⟨Nat.zero_le _, Nat.zero_le _⟩) hG hK (fun r3  H locs h hG => ?_)
    refine lv_if_ne (tgt := 25) C.1 C.2.1 dX9_comes_19 (by decide) (fun c4 => ?_) (fun c4 => ?_)
    · have h := h.1 c4
      refine lv_aload C.1 C.2.1 dX9_comes_25 (lv_at hl 0 rfl) ?_
      refine lv_iload_n C.1 C.2.1 dX9_comes_27 rfl (lv_at hl 3 rfl) ?_
      refine lv_aload C.1 C.2.1 dX9_comes_28 (lv_at hl 0 rfl) ?_
      refine kw_gK C in_X3 in_X2 in_X8 hK hG hi2 2 (by decide) k100 rfl rfl dX9_comes_30 ?_
      refine lv_iload_n C.1 C.2.1 dX9_comes_33 rfl (lv_at hl 4 rfl) ?_
      have rn : va_Run p l e rmX9_comes s m args below meth c H locs 0 0 0 0 (F0 m 34 ls (.int x3 :: .int (kt.2.2.1 i2 2) :: .int x2 :: .ref (ad (28 + 2 * i2)) :: [])) [] (fw_Qi G (kw G ad kt) (fun r iv1 ar1 => (fun (r5 : Int32) => Q r5) r ∧ iv = iv1 ∧ ar = ar1) (va_A ((kw G ad kt) iv ar) H.size) (.ref (ad (28 + 2 * i2)) :: [.int x2, .int (kt.2.2.1 i2 2), .int x3]).toArray) (va_A ((kw G ad kt) iv ar) H.size) := by
        by_cases e0 : kt.2.1 i2 = 0
        · exact va_runV (As := [.int x2, .int (kt.2.2.1 i2 2), .int x3]) (rest := []) ⟨C.1, C.2.1, C.2.2.2.2.2.2, C.2.2.2.2.2.1, C.2.2.2.2.1⟩ (soX3_cameBy l G ad kt iv ar i2 x2 (kt.2.2.1 i2 2) x3 _ hi2 h H.size) (cwV 3 C.2.2.2.2.1 gX9_comes_X3_cameBy rfl rfl rfl (by decide +kernel) ⟨Nat.le_of_ble_eq_true rfl, Nat.le_of_ble_eq_true rfl⟩) (fw_preV hG hK (ci := 3) rfl (kw_oK3 hi2 (kw_d3 e0))) rfl rfl hl.1 rfl (lv_room (Nat.le_of_ble_eq_true rfl)) dX9_comes_34 ⟨Nat.zero_le _, Nat.zero_le _⟩
        · by_cases e1 : kt.2.1 i2 = 1
          · exact va_runU (As := [.int x2, .int (kt.2.2.1 i2 2), .int x3]) (rest := []) ⟨C.1, C.2.1, C.2.2.2.2.2.2, C.2.2.2.2.2.1, C.2.2.2.2.1⟩ (soX3_cameBy l G ad kt iv ar i2 x2 (kt.2.2.1 i2 2) x3 _ hi2 h H.size) (va_cwU 3 C.2.2.2.2.1 gX9_comes_X3_cameBy_u123X2 rfl rfl rfl rfl (by decide +kernel) ⟨Nat.le_of_ble_eq_true rfl, Nat.le_of_ble_eq_true rfl⟩) (fw_preV hG hK (ci := 2) rfl (kw_oK2 hi2 (kw_d2 e0 e1))) rfl rfl hl.1 rfl (lv_room (Nat.le_of_ble_eq_true rfl)) dX9_comes_34 ⟨Nat.zero_le _, Nat.zero_le _⟩
          · exact va_runU (As := [.int x2, .int (kt.2.2.1 i2 2), .int x3]) (rest := []) ⟨C.1, C.2.1, C.2.2.2.2.2.2, C.2.2.2.2.2.1, C.2.2.2.2.1⟩ (soX3_cameBy l G ad kt iv ar i2 x2 (kt.2.2.1 i2 2) x3 _ hi2 h H.size) (va_cwU 3 C.2.2.2.2.1 gX9_comes_X3_cameBy_u123X8 rfl rfl rfl rfl (by decide +kernel) ⟨Nat.le_of_ble_eq_true rfl, Nat.le_of_ble_eq_true rfl⟩) (fw_preV hG hK (ci := 8) rfl (kw_oK8 hi2 (kw_d8 e0 e1))) rfl rfl hl.1 rfl (lv_room (Nat.le_of_ble_eq_true rfl)) dX9_comes_34 ⟨Nat.zero_le _, Nat.zero_le _⟩
      refine fw_rcalli (rn) hG hK (fun r5  H locs h hG => ?_)
      exact fw_iret C hG ⟨h, rfl, rfl⟩ dX9_comes_37
    · have h := h.2 c4
      refine lv_bipush (v := (-2)) C.1 C.2.1 dX9_comes_22 (by decide) ?_
      exact fw_iret C hG ⟨h, rfl, rfl⟩ dX9_comes_24
/-! KnifeBoard.sticks(II)I -/
def rmX9_sticks : Room := { frames := 4, cells := 0, slots := 0, locals := 90 }
def wpX9_sticks_L31 (kt : kw_T) (x1 : Int32) (x2 : Int32) (i2 : Nat) (iv : fw_F) (ar : fw_R) (Q : Int32 → Prop) (K : Int32 → Int32 → Prop) : Nat → Int32 → Int32 → Prop
  | 0, _, _ => False
  | fu + 1, z4, z5 => (31 < z5 → (K z4 z5)) ∧ (¬ 31 < z5 → (wpX3_holdsFast kt iv ar i2 x2 z5 (fun (r6 : Int32) => (r6 = 0 → (∀ y8 : Int32, y8 = z5 + 1 → (wpX9_sticks_L31 kt x1 x2 i2 iv ar Q K fu z4 y8))) ∧ (¬ r6 = 0 → (∀ y9 : Int32, y9 = z4 ||| ((1 : Int32) <<< ((z5 - 1) &&& 31)) → (∀ y10 : Int32, y10 = z5 + 1 → (wpX9_sticks_L31 kt x1 x2 i2 iv ar Q K fu y9 y10)))))))
def wpX9_sticks (kt : kw_T) (iv : fw_F) (ar : fw_R) (x1 : Int32) (x2 : Int32) (Q : Int32 → Prop) : Prop := wpX9_knifeAt kt iv ar x1 (fun (r1 : Option Nat) => (r1 = none → (Q (-1))) ∧ (∀ i2 : Nat, r1 = some i2 → i2 < kt.1 ∧ (wpX9_within x2 0 23 (fun (r3 : Int32) => (¬ r3 = 0 → (∃ ku : Nat, wpX9_sticks_L31 kt x1 x2 i2 iv ar Q (fun (w11 : Int32) (w12 : Int32) => Q w11) ku 0 1)) ∧ (r3 = 0 → (Q (-2)))))))
set_option maxHeartbeats 4000000 in
set_option maxRecDepth 100000 in
theorem soX9_sticks_L31 {p : Program} {l : Launch} {e : Env} {s : State} {m : MethodId} {args : Array Value} {below : List Frame} {meth : Method} {c : Code} {A : Nat → Prop} {G : fw_G} {ad : Nat → Nat} {kt : kw_T} {x1 : Int32} {x2 : Int32} {i2 : Nat} {iv : fw_F} {ar : fw_R} {Q : Int32 → Prop} {K : Int32 → Int32 → Prop} (C : fw_C p s m args meth c cX9_sticks 6 (some .int) wsX9_sticks RX9) (hK : fw_K G A s) (hi2 : i2 < kt.1) (hX : ∀ (z4 : Int32) (z5 : Int32), K z4 z5 → ∀ (H : Heap) (locs : List Loc), fw_H G ((kw G ad kt) iv ar) A s H locs → ∀ (ls : Array Slot), lv_has ls 6 [(5, .int z5), (4, .int z4), (3, .ref (ad (28 + 2 * i2))), (2, .int x2)] → W p l e rmX9_sticks s m args below meth c H locs 0 0 (MQ below (fw_Qi G (kw G ad kt) (fun r iv1 ar1 => Q r ∧ iv = iv1 ∧ ar = ar1) A) args s 0 0 A) (F0 m 65 ls [])) : ∀ (fu : Nat) (z4 : Int32) (z5 : Int32), wpX9_sticks_L31 kt x1 x2 i2 iv ar Q K fu z4 z5 → ∀ (H : Heap) (locs : List Loc), fw_H G ((kw G ad kt) iv ar) A s H locs → ∀ (ls : Array Slot), lv_has ls 6 [(5, .int z5), (4, .int z4), (3, .ref (ad (28 + 2 * i2))), (2, .int x2)] → W p l e rmX9_sticks s m args below meth c H locs 0 0 (MQ below (fw_Qi G (kw G ad kt) (fun r iv1 ar1 => Q r ∧ iv = iv1 ∧ ar = ar1) A) args s 0 0 A) (F0 m 31 ls []) := by
  intro fu
  induction fu with
  | zero => intro z4 z5 h; exact h.elim
  | succ fu ih =>
    intro z4 z5 h H locs hG ls hl
    unfold wpX9_sticks_L31 at h
    refine lv_iload C.1 C.2.1 dX9_sticks_31 (lv_at hl 0 rfl) ?_
    refine lv_bipush (v := 31) C.1 C.2.1 dX9_sticks_33 (by decide) ?_
    refine lv_icmp_gt (tgt := 65) C.1 C.2.1 dX9_sticks_35 (by decide) (fun c5 => ?_) (fun c5 => ?_)
    · have h := h.1 c5
      exact hX _ _ h _ _ hG ls (lv_sub hl [0, 1, 2, 3] rfl)
    · have h := h.2 c5
      refine lv_aload_n C.1 C.2.1 dX9_sticks_38 rfl (lv_at hl 2 rfl) ?_
      refine lv_iload_n C.1 C.2.1 dX9_sticks_39 rfl (lv_at hl 3 rfl) ?_
      refine lv_iload C.1 C.2.1 dX9_sticks_40 (lv_at hl 0 rfl) ?_
      have rn : va_Run p l e rmX9_sticks s m args below meth c H locs 0 0 0 0 (F0 m 42 ls (.int z5 :: .int x2 :: .ref (ad (28 + 2 * i2)) :: [])) [] (fw_Qi G (kw G ad kt) (fun r iv1 ar1 => (fun (r6 : Int32) => (r6 = 0 → (∀ y8 : Int32, y8 = z5 + 1 → (wpX9_sticks_L31 kt x1 x2 i2 iv ar Q K fu z4 y8))) ∧ (¬ r6 = 0 → (∀ y9 : Int32, y9 = z4 ||| ((1 : Int32) <<< ((z5 - 1) &&& 31)) → (∀ y10 : Int32, y10 = z5 + 1 → (wpX9_sticks_L31 kt x1 x2 i2 iv ar Q K fu y9 y10))))) r ∧ iv = iv1 ∧ ar = ar1) (va_A ((kw G ad kt) iv ar) H.size) (.ref (ad (28 + 2 * i2)) :: [.int x2, .int z5]).toArray) (va_A ((kw G ad kt) iv ar) H.size) := by
        by_cases e0 : kt.2.1 i2 = 0
        · exact va_runV (As := [.int x2, .int z5]) (rest := []) ⟨C.1, C.2.1, C.2.2.2.2.2.2, C.2.2.2.2.2.1, C.2.2.2.2.1⟩ (soX3_holdsFast l G ad kt iv ar i2 x2 z5 _ hi2 h H.size) (cwV 2 C.2.2.2.2.1 gX9_sticks_X3_holdsFast rfl rfl rfl (by decide +kernel) ⟨Nat.le_of_ble_eq_true rfl, Nat.le_of_ble_eq_true rfl⟩) (fw_preV hG hK (ci := 3) rfl (kw_oK3 hi2 (kw_d3 e0))) rfl rfl hl.1 rfl (lv_room (Nat.le_of_ble_eq_true rfl)) dX9_sticks_42 ⟨Nat.zero_le _, Nat.zero_le _⟩
        · by_cases e1 : kt.2.1 i2 = 1
          · exact va_runU (As := [.int x2, .int z5]) (rest := []) ⟨C.1, C.2.1, C.2.2.2.2.2.2, C.2.2.2.2.2.1, C.2.2.2.2.1⟩ (soX3_holdsFast l G ad kt iv ar i2 x2 z5 _ hi2 h H.size) (va_cwU 2 C.2.2.2.2.1 gX9_sticks_X3_holdsFast_u126X2 rfl rfl rfl rfl (by decide +kernel) ⟨Nat.le_of_ble_eq_true rfl, Nat.le_of_ble_eq_true rfl⟩) (fw_preV hG hK (ci := 2) rfl (kw_oK2 hi2 (kw_d2 e0 e1))) rfl rfl hl.1 rfl (lv_room (Nat.le_of_ble_eq_true rfl)) dX9_sticks_42 ⟨Nat.zero_le _, Nat.zero_le _⟩
          · exact va_runU (As := [.int x2, .int z5]) (rest := []) ⟨C.1, C.2.1, C.2.2.2.2.2.2, C.2.2.2.2.2.1, C.2.2.2.2.1⟩ (soX3_holdsFast l G ad kt iv ar i2 x2 z5 _ hi2 h H.size) (va_cwU 2 C.2.2.2.2.1 gX9_sticks_X3_holdsFast_u126X8 rfl rfl rfl rfl (by decide +kernel) ⟨Nat.le_of_ble_eq_true rfl, Nat.le_of_ble_eq_true rfl⟩) (fw_preV hG hK (ci := 8) rfl (kw_oK8 hi2 (kw_d8 e0 e1))) rfl rfl hl.1 rfl (lv_room (Nat.le_of_ble_eq_true rfl)) dX9_sticks_42 ⟨Nat.zero_le _, Nat.zero_le _⟩
      refine fw_rcalli (rn) hG hK (fun r6  H locs h hG => ?_)
      refine lv_if_eq (tgt := 59) C.1 C.2.1 dX9_sticks_45 (by decide) (fun c7 => ?_) (fun c7 => ?_)
      · have h := h.1 c7
        obtain ⟨y8, ey8⟩ : ∃ z : Int32, z = z5 + 1 := ⟨_, rfl⟩
        have h := h y8 ey8
        refine lv_iinc (v := y8) (lv' := [(5, .int y8), (4, .int z4), (3, .ref (ad (28 + 2 * i2))), (2, .int x2)]) C.1 C.2.1 dX9_sticks_59 hl (k := 0) rfl (by rw [ey8]; rfl) (by decide) rfl (fun ls hl => ?_)
        refine lv_goto (tgt := 31) C.1 C.2.1 dX9_sticks_62 (by decide) ?_
        exact ih _ _ h _ _ hG ls (lv_sub hl [0, 1, 2, 3] rfl)
      · have h := h.2 c7
        refine lv_iload C.1 C.2.1 dX9_sticks_48 (lv_at hl 1 rfl) ?_
        refine lv_iconst (v := 1) C.1 C.2.1 dX9_sticks_50 (by decide) ?_
        refine lv_iload C.1 C.2.1 dX9_sticks_51 (lv_at hl 0 rfl) ?_
        refine lv_iconst (v := 1) C.1 C.2.1 dX9_sticks_53 (by decide) ?_
        refine lv_isub C.1 C.2.1 dX9_sticks_54 ?_
        refine lv_ishl C.1 C.2.1 dX9_sticks_55 ?_
        refine lv_ior C.1 C.2.1 dX9_sticks_56 ?_
        refine lv_topi (fun y9 ey9 => ?_)
        have h := h y9 ey9
        refine lv_istore (lv' := [(4, .int y9), (5, .int z5), (3, .ref (ad (28 + 2 * i2))), (2, .int x2)]) C.1 C.2.1 dX9_sticks_57 hl (by decide) rfl (fun ls hl => ?_)
        obtain ⟨y10, ey10⟩ : ∃ z : Int32, z = z5 + 1 := ⟨_, rfl⟩
        have h := h y10 ey10
        refine lv_iinc (v := y10) (lv' := [(5, .int y10), (4, .int y9), (3, .ref (ad (28 + 2 * i2))), (2, .int x2)]) C.1 C.2.1 dX9_sticks_59 hl (k := 1) rfl (by rw [ey10]; rfl) (by decide) rfl (fun ls hl => ?_)
        refine lv_goto (tgt := 31) C.1 C.2.1 dX9_sticks_62 (by decide) ?_
        exact ih _ _ h _ _ hG ls (lv_sub hl [0, 1, 2, 3] rfl)

set_option maxHeartbeats 4000000 in
set_option maxRecDepth 100000 in
theorem soX9_sticks (l : Launch) (G : fw_G) (ad : Nat → Nat) (kt : kw_T) (iv : fw_F) (ar : fw_R) (x1 : Int32) (x2 : Int32) (Q : Int32 → Prop)  (h : wpX9_sticks kt iv ar x1 x2 Q) : fw_M l G (kw G ad kt) yX9_sticks wsX9_sticks rmX9_sticks [.ref (ad 0), .int x1, .int x2] iv ar (fw_Qi G (kw G ad kt) (fun r iv1 ar1 => Q r ∧ iv = iv1 ∧ ar = ar1)) := by
  refine fw_start (cc := cX9_sticks) (nL := 6) (rt := (some .int)) (by decide) rfl (Nat.le_of_ble_eq_true rfl) ?_
  intro p e s m below meth c A ls H locs C hK hG hl
  obtain ⟨args, ea⟩ : ∃ z : Array Value, z = ([.ref (ad 0), .int x1, .int x2] : List Value).toArray := ⟨_, rfl⟩
  rw [← ea] at C ⊢
  have C : fw_C p s m args meth c cX9_sticks 6 (some .int) wsX9_sticks RX9 := C
  have hl : lv_has ls 6 [(0, .ref (ad 0)), (1, .int x1), (2, .int x2)] := hl
  unfold wpX9_sticks at h
  refine lv_aload_n C.1 C.2.1 dX9_sticks_0 rfl (lv_at hl 0 rfl) ?_
  refine lv_iload_n C.1 C.2.1 dX9_sticks_1 rfl (lv_at hl 1 rfl) ?_
  refine fw_rcallq (va_runV (As := [.int x1]) (rest := []) ⟨C.1, C.2.1, C.2.2.2.2.2.2, C.2.2.2.2.2.1, C.2.2.2.2.1⟩ (soX9_knifeAt l G ad kt iv ar x1 _  h H.size) (cwV 1 C.2.2.2.2.1 gX9_sticks_X9_knifeAt rfl rfl rfl (by decide +kernel) ⟨Nat.le_of_ble_eq_true rfl, Nat.le_of_ble_eq_true rfl⟩) (fw_preV hG hK (ci := 9) rfl kw_o9) rfl rfl hl.1 rfl (lv_room (Nat.le_of_ble_eq_true rfl)) dX9_sticks_2 ⟨Nat.zero_le _, Nat.zero_le _⟩) hG hK (fun r1  H locs h hG => ?_)
  rcases r1 with _ | i2
  · have h := h.1 rfl
    refine W.eq (g2 := F0 m 5 ls (.null :: [])) rfl ?_
    refine lv_astore_nN (lv' := [(3, .null), (0, .ref (ad 0)), (1, .int x1), (2, .int x2)]) C.1 C.2.1 dX9_sticks_5 rfl hl (by decide) rfl (fun ls hl => ?_)
    refine lv_aload_nN C.1 C.2.1 dX9_sticks_6 rfl (lv_at hl 0 rfl) ?_
    refine lv_ifnonnullN C.1 C.2.1 dX9_sticks_7 ?_
    refine lv_iconst (v := (-1)) C.1 C.2.1 dX9_sticks_10 (by decide) ?_
    exact fw_iret C hG ⟨h, rfl, rfl⟩ dX9_sticks_11
  · obtain ⟨hi2, h⟩ := h.2 i2 rfl
    refine W.eq (g2 := F0 m 5 ls (.ref (ad (28 + 2 * i2)) :: [])) rfl ?_
    refine lv_astore_n (lv' := [(3, .ref (ad (28 + 2 * i2))), (0, .ref (ad 0)), (1, .int x1), (2, .int x2)]) C.1 C.2.1 dX9_sticks_5 rfl hl (by decide) rfl (fun ls hl => ?_)
    refine lv_aload_n C.1 C.2.1 dX9_sticks_6 rfl (lv_at hl 0 rfl) ?_
    refine lv_ifnonnull (tgt := 12) C.1 C.2.1 dX9_sticks_7 (by decide) ?_
    refine lv_iload_n C.1 C.2.1 dX9_sticks_12 rfl (lv_at hl 3 rfl) ?_
    refine lv_iconst (v := 0) C.1 C.2.1 dX9_sticks_13 (by decide) ?_
    refine lv_bipush (v := 23) C.1 C.2.1 dX9_sticks_14 (by decide) ?_
    refine fw_pcalli (va_runS (As := [.int x2, .int 0, .int 23]) (rest := []) ⟨C.1, C.2.1, C.2.2.2.2.2.2, C.2.2.2.2.2.1, C.2.2.2.2.1⟩ (soX9_within l x2 0 23 _ h H.size) (va_cwS 3 C.2.2.2.2.1 gX9_sticks_X9_within rfl rfl rfl (by decide +kernel) ⟨Nat.le_of_ble_eq_true rfl, Nat.le_of_ble_eq_true rfl⟩) fw_ppre rfl rfl hl.1 rfl (lv_room (Nat.le_of_ble_eq_true rfl)) dX9_sticks_16 ⟨Nat.zero_le _, Nat.zero_le _⟩) hG hK (fun r3  H locs h hG => ?_)
    refine lv_if_ne (tgt := 25) C.1 C.2.1 dX9_sticks_19 (by decide) (fun c4 => ?_) (fun c4 => ?_)
    · have h := h.1 c4
      refine lv_iconst (v := 0) C.1 C.2.1 dX9_sticks_25 (by decide) ?_
      refine lv_istore (lv' := [(4, .int 0), (3, .ref (ad (28 + 2 * i2))), (0, .ref (ad 0)), (1, .int x1), (2, .int x2)]) C.1 C.2.1 dX9_sticks_26 hl (by decide) rfl (fun ls hl => ?_)
      refine lv_iconst (v := 1) C.1 C.2.1 dX9_sticks_28 (by decide) ?_
      refine lv_istore (lv' := [(5, .int 1), (4, .int 0), (3, .ref (ad (28 + 2 * i2))), (0, .ref (ad 0)), (1, .int x1), (2, .int x2)]) C.1 C.2.1 dX9_sticks_29 hl (by decide) rfl (fun ls hl => ?_)
      obtain ⟨ku, h⟩ := h
      refine soX9_sticks_L31 C hK hi2 ?_ ku _ _ h _ _ hG ls (lv_sub hl [0, 1, 2, 5] rfl)
      intro w11 w12 h H locs hG ls hl
      refine lv_iload C.1 C.2.1 dX9_sticks_65 (lv_at hl 1 rfl) ?_
      exact fw_iret C hG ⟨h, rfl, rfl⟩ dX9_sticks_67
    · have h := h.2 c4
      refine lv_bipush (v := (-2)) C.1 C.2.1 dX9_sticks_22 (by decide) ?_
      exact fw_iret C hG ⟨h, rfl, rfl⟩ dX9_sticks_24
/-! KnifeBoard.isSheet(I)Z -/
def rmX9_isSheet : Room := { frames := 1, cells := 0, slots := 0, locals := 22 }
def wpX9_isSheet (x0 : Int32) (Q : Int32 → Prop) : Prop := wpX9_within x0 0 3 (fun (r1 : Int32) => (r1 = 0 ∨ r1 = 1) ∧ Q r1)
set_option maxHeartbeats 4000000 in
set_option maxRecDepth 100000 in
theorem soX9_isSheet (l : Launch) (x0 : Int32) (Q : Int32 → Prop) (h : wpX9_isSheet x0 Q) : fw_pM l yX9_isSheet wsX9_isSheet rmX9_isSheet [.int x0] (fw_pQi Q) := by
  refine fw_pstart (cc := cX9_isSheet) (nL := 1) (rt := (some .boolean)) (by decide) rfl (Nat.le_of_ble_eq_true rfl) ?_
  intro p e s m below meth c A ls H locs C hA hS hl
  obtain ⟨args, ea⟩ : ∃ z : Array Value, z = ([.int x0] : List Value).toArray := ⟨_, rfl⟩
  rw [← ea] at C ⊢
  have C : fw_C p s m args meth c cX9_isSheet 1 (some .boolean) wsX9_isSheet RX9 := C
  have hl : lv_has ls 1 [(0, .int x0)] := hl
  unfold wpX9_isSheet at h
  refine lv_iload_n C.1 C.2.1 dX9_isSheet_0 rfl (lv_at hl 0 rfl) ?_
  refine lv_iconst (v := 0) C.1 C.2.1 dX9_isSheet_1 (by decide) ?_
  refine lv_iconst (v := 3) C.1 C.2.1 dX9_isSheet_2 (by decide) ?_
  refine fw_ppcalli (va_runS (As := [.int x0, .int 0, .int 3]) (rest := []) ⟨C.1, C.2.1, C.2.2.2.2.2.2, C.2.2.2.2.2.1, C.2.2.2.2.1⟩ (soX9_within l x0 0 3 _ h H.size) (va_cwS 3 C.2.2.2.2.1 gX9_isSheet_X9_within rfl rfl rfl (by decide +kernel) ⟨Nat.le_of_ble_eq_true rfl, Nat.le_of_ble_eq_true rfl⟩) fw_ppre rfl rfl hl.1 rfl (lv_room (Nat.le_of_ble_eq_true rfl)) dX9_isSheet_3 ⟨Nat.zero_le _, Nat.zero_le _⟩) hS hA (fun r1  H locs h hS => ?_)
  obtain ⟨cb, h⟩ := h
  exact fw_pzret C hS (fw_nb cb) h dX9_isSheet_6
/-! KnifeBoard.refusesSheet(II)I -/
def rmX9_refusesSheet : Room := { frames := 2, cells := 0, slots := 0, locals := 42 }
def wpX9_refusesSheet (x0 : Int32) (x1 : Int32) (Q : Int32 → Prop) : Prop := wpX9_isSheet x0 (fun (r1 : Int32) => (¬ r1 = 0 → (wpX9_within x1 0 2 (fun (r3 : Int32) => (r3 = 0 → (Q (-2))) ∧ (¬ r3 = 0 → (Q 0))))) ∧ (r1 = 0 → (Q (-1))))
set_option maxHeartbeats 4000000 in
set_option maxRecDepth 100000 in
theorem soX9_refusesSheet (l : Launch) (x0 : Int32) (x1 : Int32) (Q : Int32 → Prop) (h : wpX9_refusesSheet x0 x1 Q) : fw_pM l yX9_refusesSheet wsX9_refusesSheet rmX9_refusesSheet [.int x0, .int x1] (fw_pQi Q) := by
  refine fw_pstart (cc := cX9_refusesSheet) (nL := 2) (rt := (some .int)) (by decide) rfl (Nat.le_of_ble_eq_true rfl) ?_
  intro p e s m below meth c A ls H locs C hA hS hl
  obtain ⟨args, ea⟩ : ∃ z : Array Value, z = ([.int x0, .int x1] : List Value).toArray := ⟨_, rfl⟩
  rw [← ea] at C ⊢
  have C : fw_C p s m args meth c cX9_refusesSheet 2 (some .int) wsX9_refusesSheet RX9 := C
  have hl : lv_has ls 2 [(0, .int x0), (1, .int x1)] := hl
  unfold wpX9_refusesSheet at h
  refine lv_iload_n C.1 C.2.1 dX9_refusesSheet_0 rfl (lv_at hl 0 rfl) ?_
  refine fw_ppcalli (va_runS (As := [.int x0]) (rest := []) ⟨C.1, C.2.1, C.2.2.2.2.2.2, C.2.2.2.2.2.1, C.2.2.2.2.1⟩ (soX9_isSheet l x0 _ h H.size) (va_cwS 1 C.2.2.2.2.1 gX9_refusesSheet_X9_isSheet rfl rfl rfl (by decide +kernel) ⟨Nat.le_of_ble_eq_true rfl, Nat.le_of_ble_eq_true rfl⟩) fw_ppre rfl rfl hl.1 rfl (lv_room (Nat.le_of_ble_eq_true rfl)) dX9_refusesSheet_1 ⟨Nat.zero_le _, Nat.zero_le _⟩) hS hA (fun r1  H locs h hS => ?_)
  refine lv_if_ne (tgt := 9) C.1 C.2.1 dX9_refusesSheet_4 (by decide) (fun c2 => ?_) (fun c2 => ?_)
  · have h := h.1 c2
    refine lv_iload_n C.1 C.2.1 dX9_refusesSheet_9 rfl (lv_at hl 1 rfl) ?_
    refine lv_iconst (v := 0) C.1 C.2.1 dX9_refusesSheet_10 (by decide) ?_
    refine lv_iconst (v := 2) C.1 C.2.1 dX9_refusesSheet_11 (by decide) ?_
    refine fw_ppcalli (va_runS (As := [.int x1, .int 0, .int 2]) (rest := []) ⟨C.1, C.2.1, C.2.2.2.2.2.2, C.2.2.2.2.2.1, C.2.2.2.2.1⟩ (soX9_within l x1 0 2 _ h H.size) (va_cwS 3 C.2.2.2.2.1 gX9_refusesSheet_X9_within rfl rfl rfl (by decide +kernel) ⟨Nat.le_of_ble_eq_true rfl, Nat.le_of_ble_eq_true rfl⟩) fw_ppre rfl rfl hl.1 rfl (lv_room (Nat.le_of_ble_eq_true rfl)) dX9_refusesSheet_12 ⟨Nat.zero_le _, Nat.zero_le _⟩) hS hA (fun r3  H locs h hS => ?_)
    refine lv_if_eq (tgt := 22) C.1 C.2.1 dX9_refusesSheet_15 (by decide) (fun c4 => ?_) (fun c4 => ?_)
    · have h := h.1 c4
      refine lv_bipush (v := (-2)) C.1 C.2.1 dX9_refusesSheet_22 (by decide) ?_
      exact fw_piret C hS h dX9_refusesSheet_24
    · have h := h.2 c4
      refine lv_iconst (v := 0) C.1 C.2.1 dX9_refusesSheet_18 (by decide) ?_
      refine lv_goto (tgt := 24) C.1 C.2.1 dX9_refusesSheet_19 (by decide) ?_
      exact fw_piret C hS h dX9_refusesSheet_24
  · have h := h.2 c2
    refine lv_iconst (v := (-1)) C.1 C.2.1 dX9_refusesSheet_7 (by decide) ?_
    exact fw_piret C hS h dX9_refusesSheet_8
/-! KnifeBoard.faulted(I)I -/
def rmX9_faulted : Room := { frames := 0, cells := 0, slots := 0, locals := 0 }
def wpX9_faulted (kt : kw_T) (iv : fw_F) (ar : fw_R) (x1 : Int32) (Q : Int32 → fw_F → fw_R → Prop) : Prop := ∀ iv1 : fw_F, iv1 = va_up iv 1 x1 → (Q ((-10) - x1) iv1 ar)
set_option maxHeartbeats 4000000 in
set_option maxRecDepth 100000 in
theorem soX9_faulted (l : Launch) (G : fw_G) (ad : Nat → Nat) (kt : kw_T) (iv : fw_F) (ar : fw_R) (x1 : Int32) (Q : Int32 → fw_F → fw_R → Prop)  (h : wpX9_faulted kt iv ar x1 Q) : fw_M l G (kw G ad kt) yX9_faulted wsX9_faulted rmX9_faulted [.ref (ad 0), .int x1] iv ar (fw_Qi G (kw G ad kt) Q) := by
  refine fw_start (cc := cX9_faulted) (nL := 2) (rt := (some .int)) (by decide) rfl (Nat.le_of_ble_eq_true rfl) ?_
  intro p e s m below meth c A ls H locs C hK hG hl
  obtain ⟨args, ea⟩ : ∃ z : Array Value, z = ([.ref (ad 0), .int x1] : List Value).toArray := ⟨_, rfl⟩
  rw [← ea] at C ⊢
  have C : fw_C p s m args meth c cX9_faulted 2 (some .int) wsX9_faulted RX9 := C
  have hl : lv_has ls 2 [(0, .ref (ad 0)), (1, .int x1)] := hl
  unfold wpX9_faulted at h
  have in_X9 : ∀ x ∈ wsX90, x ∈ wsX9_faulted := by decide +kernel
  have k71 := C.2.2.2.2.1 (.fieldLink RX9 71 "KnifeBoard" "theFault" "I") (by decide +kernel)
  refine lv_aload_n C.1 C.2.1 dX9_faulted_0 rfl (lv_at hl 0 rfl) ?_
  refine lv_iload_n C.1 C.2.1 dX9_faulted_1 rfl (lv_at hl 1 rfl) ?_
  obtain ⟨iv1, eiv1⟩ : ∃ z : fw_F, z = va_up iv 1 x1 := ⟨_, rfl⟩
  have h := h iv1 eiv1
  refine fw_put (w := (kw G ad kt)) C in_X9 tyX9 tyX9_ok nmX9 hK hG 0 kw_o9 rfl 10 (by decide) k71 rfl rfl (ty := .int) (v := .int x1) (by decide +kernel) rfl rfl (by first | decide | exact Nat.le_of_ble_eq_true rfl) (iv1 := iv1) (by rw [eiv1]; exact kw_p9_theFault) dX9_faulted_2 (fun H locs hG => ?_)
  refine lv_bipush (v := (-10)) C.1 C.2.1 dX9_faulted_5 (by decide) ?_
  refine lv_iload_n C.1 C.2.1 dX9_faulted_7 rfl (lv_at hl 1 rfl) ?_
  refine lv_isub C.1 C.2.1 dX9_faulted_8 ?_
  exact fw_iret C hG h dX9_faulted_9
/-! KnifeBoard.takeCells(IIIJ)I -/
def rmX9_takeCells : Room := { frames := 3, cells := 0, slots := 0, locals := 69 }
def wpX9_takeCells (kt : kw_T) (iv : fw_F) (ar : fw_R) (x1 : Int32) (x2 : Int32) (x3 : Int32) (x4 : Int64) (Q : Int32 → fw_F → fw_R → Prop) : Prop := wpX9_isSheet x1 (fun (r1 : Int32) => (¬ r1 = 0 → (vp_in x1 4 ∧ (∀ j4 : Nat, j4 = x1.toNatClampNeg → j4 < 4 → (wpX6_faultOfTaking kt iv ar j4 x2 x3 x4 (fun (r5 : Int32) => (r5 = 0 → (¬ x3 < 0 ∧ ¬ (0 : Int32) < 0 ∧ ¬ x4.toInt32 < 0 ∧ x3.toNatClampNeg + x4.toInt32.toNatClampNeg ≤ 80 ∧ (0 : Int32).toNatClampNeg + x4.toInt32.toNatClampNeg ≤ 80 ∧ (∀ ar12 : fw_R, ar12 = va_up ar 25 (va_cpy (ar (21 + j4)) (ar 25) x3.toNatClampNeg (0 : Int32).toNatClampNeg x4.toInt32.toNatClampNeg) → (Q 0 iv ar12)))) ∧ (¬ r5 = 0 → (wpX9_faulted kt iv ar r5 (fun (r13 : Int32) (iv14 : fw_F) (ar15 : fw_R) => Q r13 iv14 ar15)))))))) ∧ (r1 = 0 → (Q (-1) iv ar)))
set_option maxHeartbeats 4000000 in
set_option maxRecDepth 100000 in
theorem soX9_takeCells (l : Launch) (G : fw_G) (ad : Nat → Nat) (kt : kw_T) (iv : fw_F) (ar : fw_R) (x1 : Int32) (x2 : Int32) (x3 : Int32) (x4 : Int64) (Q : Int32 → fw_F → fw_R → Prop)  (h : wpX9_takeCells kt iv ar x1 x2 x3 x4 Q) : fw_M l G (kw G ad kt) yX9_takeCells wsX9_takeCells rmX9_takeCells [.ref (ad 0), .int x1, .int x2, .int x3, .long x4] iv ar (fw_Qi G (kw G ad kt) Q) := by
  refine fw_start (cc := cX9_takeCells) (nL := 8) (rt := (some .int)) (by decide) rfl (Nat.le_of_ble_eq_true rfl) ?_
  intro p e s m below meth c A ls H locs C hK hG hl
  obtain ⟨args, ea⟩ : ∃ z : Array Value, z = ([.ref (ad 0), .int x1, .int x2, .int x3, .long x4] : List Value).toArray := ⟨_, rfl⟩
  rw [← ea] at C ⊢
  have C : fw_C p s m args meth c cX9_takeCells 8 (some .int) wsX9_takeCells RX9 := C
  have hl : lv_has ls 8 [(0, .ref (ad 0)), (1, .int x1), (2, .int x2), (3, .int x3), (4, .long x4)] := hl
  unfold wpX9_takeCells at h
  have ac1 := C.2.2.2.2.1 (.native arraycopyName) (by decide +kernel)
  have ac2 := C.2.2.2.2.1 (.static arraycopyName) (by decide +kernel)
  have ac3 := C.2.2.2.2.1 (.initialized "java/lang/System") (by decide +kernel)
  have in_X6 : ∀ x ∈ wsX60, x ∈ wsX9_takeCells := by decide +kernel
  have in_X9 : ∀ x ∈ wsX90, x ∈ wsX9_takeCells := by decide +kernel
  have k297 := C.2.2.2.2.1 (.fieldLink RX9 297 "KnifeBoard$Sheet" "cells" "[I") (by decide +kernel)
  have k52 := C.2.2.2.2.1 (.fieldLink RX9 52 "KnifeBoard" "sheets" "[LKnifeBoard$Sheet;") (by decide +kernel)
  have k56 := C.2.2.2.2.1 (.fieldLink RX9 56 "KnifeBoard" "taken" "[I") (by decide +kernel)
  have m300 := C.2.2.2.2.1 (.methodLink RX9 300 arraycopyName) (by decide +kernel)
  refine lv_iload_n C.1 C.2.1 dX9_takeCells_0 rfl (lv_at hl 1 rfl) ?_
  refine fw_pcalli (va_runS (As := [.int x1]) (rest := []) ⟨C.1, C.2.1, C.2.2.2.2.2.2, C.2.2.2.2.2.1, C.2.2.2.2.1⟩ (soX9_isSheet l x1 _ h H.size) (va_cwS 1 C.2.2.2.2.1 gX9_takeCells_X9_isSheet rfl rfl rfl (by decide +kernel) ⟨Nat.le_of_ble_eq_true rfl, Nat.le_of_ble_eq_true rfl⟩) fw_ppre rfl rfl hl.1 rfl (lv_room (Nat.le_of_ble_eq_true rfl)) dX9_takeCells_1 ⟨Nat.zero_le _, Nat.zero_le _⟩) hG hK (fun r1  H locs h hG => ?_)
  refine lv_if_ne (tgt := 9) C.1 C.2.1 dX9_takeCells_4 (by decide) (fun c2 => ?_) (fun c2 => ?_)
  · have h := h.1 c2
    refine lv_aload_n C.1 C.2.1 dX9_takeCells_9 rfl (lv_at hl 0 rfl) ?_
    refine fw_get (w := (kw G ad kt)) C in_X9 hK hG 0 kw_o9 rfl 6 (by decide) k52 rfl rfl dX9_takeCells_10 ?_
    refine lv_iload_n C.1 C.2.1 dX9_takeCells_13 rfl (lv_at hl 1 rfl) ?_
    obtain ⟨c3, h⟩ := h
    refine va_aldq C.1 C.2.1 hK.1 hG.1 16 3 (kw_r16 : ((kw G ad kt) iv ar)[16]? = _) rfl c3 dX9_takeCells_14 ?_
    obtain ⟨j4, ej4⟩ : ∃ z : Nat, z = x1.toNatClampNeg := ⟨_, rfl⟩
    have hj4 : j4 < 4 := by rw [ej4]; exact Nat.not_le.mp fun z => c3 (Or.inr z)
    have h := h j4 ej4 hj4
    refine W.eq (g2 := F0 m 15 ls (.ref (ad (17 + j4)) :: [])) (by rw [ej4]; rfl) ?_
    refine lv_astore (lv' := [(6, .ref (ad (17 + j4))), (0, .ref (ad 0)), (1, .int x1), (2, .int x2), (3, .int x3), (4, .long x4)]) C.1 C.2.1 dX9_takeCells_15 hl (by decide) rfl (fun ls hl => ?_)
    refine lv_aload C.1 C.2.1 dX9_takeCells_17 (lv_at hl 0 rfl) ?_
    refine lv_iload_n C.1 C.2.1 dX9_takeCells_19 rfl (lv_at hl 3 rfl) ?_
    refine lv_iload_n C.1 C.2.1 dX9_takeCells_20 rfl (lv_at hl 4 rfl) ?_
    refine lv_lload C.1 C.2.1 dX9_takeCells_21 (lv_at hl 5 rfl) ?_
    refine fw_rcalli (va_runV (As := [.int x2, .int x3, .long x4]) (rest := []) ⟨C.1, C.2.1, C.2.2.2.2.2.2, C.2.2.2.2.2.1, C.2.2.2.2.1⟩ (soX6_faultOfTaking l G ad kt iv ar j4 x2 x3 x4 _ hj4 h H.size) (cwV 3 C.2.2.2.2.1 gX9_takeCells_X6_faultOfTaking rfl rfl rfl (by decide +kernel) ⟨Nat.le_of_ble_eq_true rfl, Nat.le_of_ble_eq_true rfl⟩) (fw_preV hG hK (ci := 6) rfl (kw_o6 hj4)) rfl rfl hl.1 rfl (lv_room (Nat.le_of_ble_eq_true rfl)) dX9_takeCells_23 ⟨Nat.zero_le _, Nat.zero_le _⟩) hG hK (fun r5  H locs h hG => ?_)
    refine lv_istore (lv' := [(7, .int r5), (6, .ref (ad (17 + j4))), (0, .ref (ad 0)), (1, .int x1), (2, .int x2), (3, .int x3), (4, .long x4)]) C.1 C.2.1 dX9_takeCells_26 hl (by decide) rfl (fun ls hl => ?_)
    refine lv_iload C.1 C.2.1 dX9_takeCells_28 (lv_at hl 0 rfl) ?_
    refine lv_if_eq (tgt := 40) C.1 C.2.1 dX9_takeCells_30 (by decide) (fun c6 => ?_) (fun c6 => ?_)
    · have h := h.1 c6
      refine lv_aload C.1 C.2.1 dX9_takeCells_40 (lv_at hl 1 rfl) ?_
      refine fw_get (w := (kw G ad kt)) C in_X6 hK hG (17 + j4) (kw_o6 hj4) rfl 0 (by decide) k297 rfl rfl dX9_takeCells_42 ?_
      refine lv_iload_n C.1 C.2.1 dX9_takeCells_45 rfl (lv_at hl 5 rfl) ?_
      refine lv_aload_n C.1 C.2.1 dX9_takeCells_46 rfl (lv_at hl 2 rfl) ?_
      refine fw_get (w := (kw G ad kt)) C in_X9 hK hG 0 kw_o9 rfl 7 (by decide) k56 rfl rfl dX9_takeCells_47 ?_
      refine lv_iconst (v := 0) C.1 C.2.1 dX9_takeCells_50 (by decide) ?_
      refine lv_lload C.1 C.2.1 dX9_takeCells_51 (lv_at hl 6 rfl) ?_
      refine lv_l2i C.1 C.2.1 dX9_takeCells_53 rfl ?_
      obtain ⟨c7, c8, c9, c10, c11, h⟩ := h
      obtain ⟨ar12, ear12⟩ : ∃ z : fw_R, z = va_up ar 25 (va_cpy (ar (21 + j4)) (ar 25) x3.toNatClampNeg (0 : Int32).toNatClampNeg x4.toInt32.toNatClampNeg) := ⟨_, rfl⟩
      have h := h ar12 ear12
      refine va_copyi C.1 C.2.1 (by rw [C.2.2.2.2.2.2]; exact hl.1.symm) C.2.2.2.2.2.1 m300 ac1 ac2 ac3 hK.1 hG.1 hG.2.1 hG.2.2 (21 + j4) 25 0 0 ((kw_aS hj4) : ((kw G ad kt) iv ar)[(21 + j4)]? = _) (kw_a25 : ((kw G ad kt) iv ar)[25]? = _) rfl rfl rfl c7 c8 c9 c10 c11 (fun _ _ => rfl) (Nat.le_of_ble_eq_true rfl) (Nat.le_of_ble_eq_true rfl) dX9_takeCells_54 (fun H locs h1 h2 h3 => ?_)
      have hG : fw_H G ((kw G ad kt) iv ar12) A s H locs := ⟨by rw [ear12, ← kw_s25]; exact h1, by rw [ear12, ← kw_s25]; exact h2, h3⟩
      refine lv_iconst (v := 0) C.1 C.2.1 dX9_takeCells_57 (by decide) ?_
      exact fw_iret C hG h dX9_takeCells_58
    · have h := h.2 c6
      refine lv_aload_n C.1 C.2.1 dX9_takeCells_33 rfl (lv_at hl 2 rfl) ?_
      refine lv_iload C.1 C.2.1 dX9_takeCells_34 (lv_at hl 0 rfl) ?_
      refine fw_calli (va_runV (As := [.int r5]) (rest := []) ⟨C.1, C.2.1, C.2.2.2.2.2.2, C.2.2.2.2.2.1, C.2.2.2.2.1⟩ (soX9_faulted l G ad kt iv ar r5 _  h H.size) (cwV 1 C.2.2.2.2.1 gX9_takeCells_X9_faulted rfl rfl rfl (by decide +kernel) ⟨Nat.le_of_ble_eq_true rfl, Nat.le_of_ble_eq_true rfl⟩) (fw_preV hG hK (ci := 9) rfl kw_o9) rfl rfl hl.1 rfl (lv_room (Nat.le_of_ble_eq_true rfl)) dX9_takeCells_36 ⟨Nat.zero_le _, Nat.zero_le _⟩) hG hK (fun r13 iv14 ar15 H locs h hG => ?_)
      exact fw_iret C hG h dX9_takeCells_39
  · have h := h.2 c2
    refine lv_iconst (v := (-1)) C.1 C.2.1 dX9_takeCells_7 (by decide) ?_
    exact fw_iret C hG h dX9_takeCells_8
/-! KnifeBoard.takeText(IIII)I -/
def rmX9_takeText : Room := { frames := 4, cells := 0, slots := 0, locals := 96 }
def wpX9_takeText (kt : kw_T) (iv : fw_F) (ar : fw_R) (x1 : Int32) (x2 : Int32) (x3 : Int32) (x4 : Int32) (Q : Int32 → fw_F → fw_R → Prop) : Prop := ∀ iv1 : fw_F, iv1 = va_up iv 1 0 → (wpX9_refusesSheet x1 x2 (fun (r2 : Int32) => (r2 = 0 → (wpX9_takeCells kt iv1 ar x1 x2 x3 x4.toInt64 (fun (r4 : Int32) (iv5 : fw_F) (ar6 : fw_R) => Q r4 iv5 ar6))) ∧ (¬ r2 = 0 → (Q r2 iv1 ar))))
set_option maxHeartbeats 4000000 in
set_option maxRecDepth 100000 in
theorem soX9_takeText (l : Launch) (G : fw_G) (ad : Nat → Nat) (kt : kw_T) (iv : fw_F) (ar : fw_R) (x1 : Int32) (x2 : Int32) (x3 : Int32) (x4 : Int32) (Q : Int32 → fw_F → fw_R → Prop)  (h : wpX9_takeText kt iv ar x1 x2 x3 x4 Q) : fw_M l G (kw G ad kt) yX9_takeText wsX9_takeText rmX9_takeText [.ref (ad 0), .int x1, .int x2, .int x3, .int x4] iv ar (fw_Qi G (kw G ad kt) Q) := by
  refine fw_start (cc := cX9_takeText) (nL := 6) (rt := (some .int)) (by decide) rfl (Nat.le_of_ble_eq_true rfl) ?_
  intro p e s m below meth c A ls H locs C hK hG hl
  obtain ⟨args, ea⟩ : ∃ z : Array Value, z = ([.ref (ad 0), .int x1, .int x2, .int x3, .int x4] : List Value).toArray := ⟨_, rfl⟩
  rw [← ea] at C ⊢
  have C : fw_C p s m args meth c cX9_takeText 6 (some .int) wsX9_takeText RX9 := C
  have hl : lv_has ls 6 [(0, .ref (ad 0)), (1, .int x1), (2, .int x2), (3, .int x3), (4, .int x4)] := hl
  unfold wpX9_takeText at h
  have in_X9 : ∀ x ∈ wsX90, x ∈ wsX9_takeText := by decide +kernel
  have k71 := C.2.2.2.2.1 (.fieldLink RX9 71 "KnifeBoard" "theFault" "I") (by decide +kernel)
  refine lv_aload_n C.1 C.2.1 dX9_takeText_0 rfl (lv_at hl 0 rfl) ?_
  refine lv_iconst (v := 0) C.1 C.2.1 dX9_takeText_1 (by decide) ?_
  obtain ⟨iv1, eiv1⟩ : ∃ z : fw_F, z = va_up iv 1 0 := ⟨_, rfl⟩
  have h := h iv1 eiv1
  refine fw_put (w := (kw G ad kt)) C in_X9 tyX9 tyX9_ok nmX9 hK hG 0 kw_o9 rfl 10 (by decide) k71 rfl rfl (ty := .int) (v := .int 0) (by decide +kernel) rfl rfl (by first | decide | exact Nat.le_of_ble_eq_true rfl) (iv1 := iv1) (by rw [eiv1]; exact kw_p9_theFault) dX9_takeText_2 (fun H locs hG => ?_)
  refine lv_iload_n C.1 C.2.1 dX9_takeText_5 rfl (lv_at hl 1 rfl) ?_
  refine lv_iload_n C.1 C.2.1 dX9_takeText_6 rfl (lv_at hl 2 rfl) ?_
  refine fw_pcalli (va_runS (As := [.int x1, .int x2]) (rest := []) ⟨C.1, C.2.1, C.2.2.2.2.2.2, C.2.2.2.2.2.1, C.2.2.2.2.1⟩ (soX9_refusesSheet l x1 x2 _ h H.size) (va_cwS 2 C.2.2.2.2.1 gX9_takeText_X9_refusesSheet rfl rfl rfl (by decide +kernel) ⟨Nat.le_of_ble_eq_true rfl, Nat.le_of_ble_eq_true rfl⟩) fw_ppre rfl rfl hl.1 rfl (lv_room (Nat.le_of_ble_eq_true rfl)) dX9_takeText_7 ⟨Nat.zero_le _, Nat.zero_le _⟩) hG hK (fun r2  H locs h hG => ?_)
  refine lv_istore (lv' := [(5, .int r2), (0, .ref (ad 0)), (1, .int x1), (2, .int x2), (3, .int x3), (4, .int x4)]) C.1 C.2.1 dX9_takeText_10 hl (by decide) rfl (fun ls hl => ?_)
  refine lv_iload C.1 C.2.1 dX9_takeText_12 (lv_at hl 0 rfl) ?_
  refine lv_if_eq (tgt := 22) C.1 C.2.1 dX9_takeText_14 (by decide) (fun c3 => ?_) (fun c3 => ?_)
  · have h := h.1 c3
    refine lv_aload_n C.1 C.2.1 dX9_takeText_22 rfl (lv_at hl 1 rfl) ?_
    refine lv_iload_n C.1 C.2.1 dX9_takeText_23 rfl (lv_at hl 2 rfl) ?_
    refine lv_iload_n C.1 C.2.1 dX9_takeText_24 rfl (lv_at hl 3 rfl) ?_
    refine lv_iload_n C.1 C.2.1 dX9_takeText_25 rfl (lv_at hl 4 rfl) ?_
    refine lv_iload C.1 C.2.1 dX9_takeText_26 (lv_at hl 5 rfl) ?_
    refine lv_i2l C.1 C.2.1 dX9_takeText_28 rfl ?_
    refine fw_calli (va_runV (As := [.int x1, .int x2, .int x3, .long x4.toInt64]) (rest := []) ⟨C.1, C.2.1, C.2.2.2.2.2.2, C.2.2.2.2.2.1, C.2.2.2.2.1⟩ (soX9_takeCells l G ad kt iv1 ar x1 x2 x3 x4.toInt64 _  h H.size) (cwV 4 C.2.2.2.2.1 gX9_takeText_X9_takeCells rfl rfl rfl (by decide +kernel) ⟨Nat.le_of_ble_eq_true rfl, Nat.le_of_ble_eq_true rfl⟩) (fw_preV hG hK (ci := 9) rfl kw_o9) rfl rfl hl.1 rfl (lv_room (Nat.le_of_ble_eq_true rfl)) dX9_takeText_29 ⟨Nat.zero_le _, Nat.zero_le _⟩) hG hK (fun r4 iv5 ar6 H locs h hG => ?_)
    exact fw_iret C hG h dX9_takeText_32
  · have h := h.2 c3
    refine lv_iload C.1 C.2.1 dX9_takeText_17 (lv_at hl 0 rfl) ?_
    refine lv_goto (tgt := 32) C.1 C.2.1 dX9_takeText_19 (by decide) ?_
    exact fw_iret C hG h dX9_takeText_32
/-! KnifeBoard.hand(IIII)I -/
def rmX9_hand : Room := { frames := 5, cells := 0, slots := 0, locals := 121 }
def wpX9_hand (kt : kw_T) (iv : fw_F) (ar : fw_R) (x1 : Int32) (x2 : Int32) (x3 : Int32) (x4 : Int32) (Q : Int32 → fw_F → fw_R → Prop) : Prop := wpX9_takeText kt iv ar x1 x2 x3 x4 (fun (r1 : Int32) (iv2 : fw_F) (ar3 : fw_R) => (r1 = 0 → (wpX1_firstFault kt iv2 ar3 x4 (fun (r5 : Int32) => (r5 = (-9) → (wpX1_read kt iv2 ar3 x4 (fun (iv7 : fw_F) (ar8 : fw_R) => Q 1 iv7 ar8))) ∧ (¬ r5 = (-9) → (Q ((-100) - r5) iv2 ar3))))) ∧ (¬ r1 = 0 → (Q r1 iv2 ar3)))
set_option maxHeartbeats 4000000 in
set_option maxRecDepth 100000 in
theorem soX9_hand (l : Launch) (G : fw_G) (ad : Nat → Nat) (kt : kw_T) (iv : fw_F) (ar : fw_R) (x1 : Int32) (x2 : Int32) (x3 : Int32) (x4 : Int32) (Q : Int32 → fw_F → fw_R → Prop)  (h : wpX9_hand kt iv ar x1 x2 x3 x4 Q) : fw_M l G (kw G ad kt) yX9_hand wsX9_hand rmX9_hand [.ref (ad 0), .int x1, .int x2, .int x3, .int x4] iv ar (fw_Qi G (kw G ad kt) Q) := by
  refine fw_start (cc := cX9_hand) (nL := 7) (rt := (some .int)) (by decide) rfl (Nat.le_of_ble_eq_true rfl) ?_
  intro p e s m below meth c A ls H locs C hK hG hl
  obtain ⟨args, ea⟩ : ∃ z : Array Value, z = ([.ref (ad 0), .int x1, .int x2, .int x3, .int x4] : List Value).toArray := ⟨_, rfl⟩
  rw [← ea] at C ⊢
  have C : fw_C p s m args meth c cX9_hand 7 (some .int) wsX9_hand RX9 := C
  have hl : lv_has ls 7 [(0, .ref (ad 0)), (1, .int x1), (2, .int x2), (3, .int x3), (4, .int x4)] := hl
  unfold wpX9_hand at h
  have in_X9 : ∀ x ∈ wsX90, x ∈ wsX9_hand := by decide +kernel
  have k24 := C.2.2.2.2.1 (.fieldLink RX9 24 "KnifeBoard" "theHand" "LKnifeBoard$Hand;") (by decide +kernel)
  have k56 := C.2.2.2.2.1 (.fieldLink RX9 56 "KnifeBoard" "taken" "[I") (by decide +kernel)
  refine lv_aload_n C.1 C.2.1 dX9_hand_0 rfl (lv_at hl 0 rfl) ?_
  refine lv_iload_n C.1 C.2.1 dX9_hand_1 rfl (lv_at hl 1 rfl) ?_
  refine lv_iload_n C.1 C.2.1 dX9_hand_2 rfl (lv_at hl 2 rfl) ?_
  refine lv_iload_n C.1 C.2.1 dX9_hand_3 rfl (lv_at hl 3 rfl) ?_
  refine lv_iload C.1 C.2.1 dX9_hand_4 (lv_at hl 4 rfl) ?_
  refine fw_calli (va_runV (As := [.int x1, .int x2, .int x3, .int x4]) (rest := []) ⟨C.1, C.2.1, C.2.2.2.2.2.2, C.2.2.2.2.2.1, C.2.2.2.2.1⟩ (soX9_takeText l G ad kt iv ar x1 x2 x3 x4 _  h H.size) (cwV 4 C.2.2.2.2.1 gX9_hand_X9_takeText rfl rfl rfl (by decide +kernel) ⟨Nat.le_of_ble_eq_true rfl, Nat.le_of_ble_eq_true rfl⟩) (fw_preV hG hK (ci := 9) rfl kw_o9) rfl rfl hl.1 rfl (lv_room (Nat.le_of_ble_eq_true rfl)) dX9_hand_6 ⟨Nat.zero_le _, Nat.zero_le _⟩) hG hK (fun r1 iv2 ar3 H locs h hG => ?_)
  refine lv_istore (lv' := [(5, .int r1), (0, .ref (ad 0)), (1, .int x1), (2, .int x2), (3, .int x3), (4, .int x4)]) C.1 C.2.1 dX9_hand_9 hl (by decide) rfl (fun ls hl => ?_)
  refine lv_iload C.1 C.2.1 dX9_hand_11 (lv_at hl 0 rfl) ?_
  refine lv_if_eq (tgt := 19) C.1 C.2.1 dX9_hand_13 (by decide) (fun c4 => ?_) (fun c4 => ?_)
  · have h := h.1 c4
    refine lv_aload_n C.1 C.2.1 dX9_hand_19 rfl (lv_at hl 1 rfl) ?_
    refine fw_get (w := (kw G ad kt)) C in_X9 hK hG 0 kw_o9 rfl 7 (by decide) k56 rfl rfl dX9_hand_20 ?_
    refine lv_iload C.1 C.2.1 dX9_hand_23 (lv_at hl 5 rfl) ?_
    refine fw_rcalli (va_runS (As := [.ref (ad 25), .int x4]) (rest := []) ⟨C.1, C.2.1, C.2.2.2.2.2.2, C.2.2.2.2.2.1, C.2.2.2.2.1⟩ (soX1_firstFault l G ad kt iv2 ar3 x4 _  h H.size) (va_cwS 2 C.2.2.2.2.1 gX9_hand_X1_firstFault rfl rfl rfl (by decide +kernel) ⟨Nat.le_of_ble_eq_true rfl, Nat.le_of_ble_eq_true rfl⟩) (fw_preS hG hK) rfl rfl hl.1 rfl (lv_room (Nat.le_of_ble_eq_true rfl)) dX9_hand_25 ⟨Nat.zero_le _, Nat.zero_le _⟩) hG hK (fun r5  H locs h hG => ?_)
    refine lv_istore (lv' := [(6, .int r5), (5, .int r1), (0, .ref (ad 0)), (1, .int x1), (2, .int x2), (3, .int x3), (4, .int x4)]) C.1 C.2.1 dX9_hand_28 hl (by decide) rfl (fun ls hl => ?_)
    refine lv_iload C.1 C.2.1 dX9_hand_30 (lv_at hl 0 rfl) ?_
    refine lv_bipush (v := (-9)) C.1 C.2.1 dX9_hand_32 (by decide) ?_
    refine lv_icmp_eq (tgt := 43) C.1 C.2.1 dX9_hand_34 (by decide) (fun c6 => ?_) (fun c6 => ?_)
    · have h := h.1 c6
      refine lv_aload_n C.1 C.2.1 dX9_hand_43 rfl (lv_at hl 2 rfl) ?_
      refine fw_get (w := (kw G ad kt)) C in_X9 hK hG 0 kw_o9 rfl 2 (by decide) k24 rfl rfl dX9_hand_44 ?_
      refine lv_aload_n C.1 C.2.1 dX9_hand_47 rfl (lv_at hl 2 rfl) ?_
      refine fw_get (w := (kw G ad kt)) C in_X9 hK hG 0 kw_o9 rfl 7 (by decide) k56 rfl rfl dX9_hand_48 ?_
      refine lv_iload C.1 C.2.1 dX9_hand_51 (lv_at hl 6 rfl) ?_
      refine fw_callv (va_runV (As := [.ref (ad 25), .int x4]) (rest := []) ⟨C.1, C.2.1, C.2.2.2.2.2.2, C.2.2.2.2.2.1, C.2.2.2.2.1⟩ (soX1_read l G ad kt iv2 ar3 x4 _  h H.size) (cwV 2 C.2.2.2.2.1 gX9_hand_X1_read rfl rfl rfl (by decide +kernel) ⟨Nat.le_of_ble_eq_true rfl, Nat.le_of_ble_eq_true rfl⟩) (fw_preV hG hK (ci := 1) rfl kw_o1) rfl rfl hl.1 rfl (lv_room (Nat.le_of_ble_eq_true rfl)) dX9_hand_53 ⟨Nat.zero_le _, Nat.zero_le _⟩) hG hK (fun iv7 ar8 H locs h hG => ?_)
      refine lv_iconst (v := 1) C.1 C.2.1 dX9_hand_56 (by decide) ?_
      exact fw_iret C hG h dX9_hand_57
    · have h := h.2 c6
      refine lv_bipush (v := (-100)) C.1 C.2.1 dX9_hand_37 (by decide) ?_
      refine lv_iload C.1 C.2.1 dX9_hand_39 (lv_at hl 0 rfl) ?_
      refine lv_isub C.1 C.2.1 dX9_hand_41 ?_
      exact fw_iret C hG h dX9_hand_42
  · have h := h.2 c4
    refine lv_iload C.1 C.2.1 dX9_hand_16 (lv_at hl 0 rfl) ?_
    exact fw_iret C hG h dX9_hand_18
/-! KnifeBoard.isStage(I)Z -/
def rmX9_isStage : Room := { frames := 1, cells := 0, slots := 0, locals := 22 }
def wpX9_isStage (x0 : Int32) (Q : Int32 → Prop) : Prop := wpX9_within x0 0 9 (fun (r1 : Int32) => (r1 = 0 ∨ r1 = 1) ∧ Q r1)
set_option maxHeartbeats 4000000 in
set_option maxRecDepth 100000 in
theorem soX9_isStage (l : Launch) (x0 : Int32) (Q : Int32 → Prop) (h : wpX9_isStage x0 Q) : fw_pM l yX9_isStage wsX9_isStage rmX9_isStage [.int x0] (fw_pQi Q) := by
  refine fw_pstart (cc := cX9_isStage) (nL := 1) (rt := (some .boolean)) (by decide) rfl (Nat.le_of_ble_eq_true rfl) ?_
  intro p e s m below meth c A ls H locs C hA hS hl
  obtain ⟨args, ea⟩ : ∃ z : Array Value, z = ([.int x0] : List Value).toArray := ⟨_, rfl⟩
  rw [← ea] at C ⊢
  have C : fw_C p s m args meth c cX9_isStage 1 (some .boolean) wsX9_isStage RX9 := C
  have hl : lv_has ls 1 [(0, .int x0)] := hl
  unfold wpX9_isStage at h
  refine lv_iload_n C.1 C.2.1 dX9_isStage_0 rfl (lv_at hl 0 rfl) ?_
  refine lv_iconst (v := 0) C.1 C.2.1 dX9_isStage_1 (by decide) ?_
  refine lv_bipush (v := 9) C.1 C.2.1 dX9_isStage_2 (by decide) ?_
  refine fw_ppcalli (va_runS (As := [.int x0, .int 0, .int 9]) (rest := []) ⟨C.1, C.2.1, C.2.2.2.2.2.2, C.2.2.2.2.2.1, C.2.2.2.2.1⟩ (soX9_within l x0 0 9 _ h H.size) (va_cwS 3 C.2.2.2.2.1 gX9_isStage_X9_within rfl rfl rfl (by decide +kernel) ⟨Nat.le_of_ble_eq_true rfl, Nat.le_of_ble_eq_true rfl⟩) fw_ppre rfl rfl hl.1 rfl (lv_room (Nat.le_of_ble_eq_true rfl)) dX9_isStage_4 ⟨Nat.zero_le _, Nat.zero_le _⟩) hS hA (fun r1  H locs h hS => ?_)
  obtain ⟨cb, h⟩ := h
  exact fw_pzret C hS (fw_nb cb) h dX9_isStage_7
/-! KnifeBoard.weight(III)I -/
def rmX9_weight : Room := { frames := 2, cells := 0, slots := 0, locals := 45 }
def wpX9_weight (kt : kw_T) (iv : fw_F) (ar : fw_R) (x1 : Int32) (x2 : Int32) (x3 : Int32) (Q : Int32 → Prop) : Prop := wpX9_within x1 0 2 (fun (r1 : Int32) => (¬ r1 = 0 → (wpX9_within x2 (-2) 2 (fun (r3 : Int32) => (r3 = 0 → (Q (-2))) ∧ (¬ r3 = 0 → (wpX9_isStage x3 (fun (r5 : Int32) => (¬ r5 = 0 → ((¬ (iv 2) = 0 → (wpX1_weighs kt iv ar x1 x2 x3 (fun (r8 : Int32) => Q r8))) ∧ ((iv 2) = 0 → (Q (-3))))) ∧ (r5 = 0 → (Q (-2))))))))) ∧ (r1 = 0 → (Q (-1))))
set_option maxHeartbeats 4000000 in
set_option maxRecDepth 100000 in
theorem soX9_weight (l : Launch) (G : fw_G) (ad : Nat → Nat) (kt : kw_T) (iv : fw_F) (ar : fw_R) (x1 : Int32) (x2 : Int32) (x3 : Int32) (Q : Int32 → Prop)  (h : wpX9_weight kt iv ar x1 x2 x3 Q) : fw_M l G (kw G ad kt) yX9_weight wsX9_weight rmX9_weight [.ref (ad 0), .int x1, .int x2, .int x3] iv ar (fw_Qi G (kw G ad kt) (fun r iv1 ar1 => Q r ∧ iv = iv1 ∧ ar = ar1)) := by
  refine fw_start (cc := cX9_weight) (nL := 4) (rt := (some .int)) (by decide) rfl (Nat.le_of_ble_eq_true rfl) ?_
  intro p e s m below meth c A ls H locs C hK hG hl
  obtain ⟨args, ea⟩ : ∃ z : Array Value, z = ([.ref (ad 0), .int x1, .int x2, .int x3] : List Value).toArray := ⟨_, rfl⟩
  rw [← ea] at C ⊢
  have C : fw_C p s m args meth c cX9_weight 4 (some .int) wsX9_weight RX9 := C
  have hl : lv_has ls 4 [(0, .ref (ad 0)), (1, .int x1), (2, .int x2), (3, .int x3)] := hl
  unfold wpX9_weight at h
  have in_X1 : ∀ x ∈ wsX10, x ∈ wsX9_weight := by decide +kernel
  have in_X9 : ∀ x ∈ wsX90, x ∈ wsX9_weight := by decide +kernel
  have k145 := C.2.2.2.2.1 (.fieldLink RX9 145 "KnifeBoard$Hand" "told" "Z") (by decide +kernel)
  have k24 := C.2.2.2.2.1 (.fieldLink RX9 24 "KnifeBoard" "theHand" "LKnifeBoard$Hand;") (by decide +kernel)
  refine lv_iload_n C.1 C.2.1 dX9_weight_0 rfl (lv_at hl 1 rfl) ?_
  refine lv_iconst (v := 0) C.1 C.2.1 dX9_weight_1 (by decide) ?_
  refine lv_iconst (v := 2) C.1 C.2.1 dX9_weight_2 (by decide) ?_
  refine fw_pcalli (va_runS (As := [.int x1, .int 0, .int 2]) (rest := []) ⟨C.1, C.2.1, C.2.2.2.2.2.2, C.2.2.2.2.2.1, C.2.2.2.2.1⟩ (soX9_within l x1 0 2 _ h H.size) (va_cwS 3 C.2.2.2.2.1 gX9_weight_X9_within rfl rfl rfl (by decide +kernel) ⟨Nat.le_of_ble_eq_true rfl, Nat.le_of_ble_eq_true rfl⟩) fw_ppre rfl rfl hl.1 rfl (lv_room (Nat.le_of_ble_eq_true rfl)) dX9_weight_3 ⟨Nat.zero_le _, Nat.zero_le _⟩) hG hK (fun r1  H locs h hG => ?_)
  refine lv_if_ne (tgt := 11) C.1 C.2.1 dX9_weight_6 (by decide) (fun c2 => ?_) (fun c2 => ?_)
  · have h := h.1 c2
    refine lv_iload_n C.1 C.2.1 dX9_weight_11 rfl (lv_at hl 2 rfl) ?_
    refine lv_bipush (v := (-2)) C.1 C.2.1 dX9_weight_12 (by decide) ?_
    refine lv_iconst (v := 2) C.1 C.2.1 dX9_weight_14 (by decide) ?_
    refine fw_pcalli (va_runS (As := [.int x2, .int (-2), .int 2]) (rest := []) ⟨C.1, C.2.1, C.2.2.2.2.2.2, C.2.2.2.2.2.1, C.2.2.2.2.1⟩ (soX9_within l x2 (-2) 2 _ h H.size) (va_cwS 3 C.2.2.2.2.1 gX9_weight_X9_within rfl rfl rfl (by decide +kernel) ⟨Nat.le_of_ble_eq_true rfl, Nat.le_of_ble_eq_true rfl⟩) fw_ppre rfl rfl hl.1 rfl (lv_room (Nat.le_of_ble_eq_true rfl)) dX9_weight_15 ⟨Nat.zero_le _, Nat.zero_le _⟩) hG hK (fun r3  H locs h hG => ?_)
    refine lv_if_eq (tgt := 28) C.1 C.2.1 dX9_weight_18 (by decide) (fun c4 => ?_) (fun c4 => ?_)
    · have h := h.1 c4
      refine lv_bipush (v := (-2)) C.1 C.2.1 dX9_weight_28 (by decide) ?_
      exact fw_iret C hG ⟨h, rfl, rfl⟩ dX9_weight_30
    · have h := h.2 c4
      refine lv_iload_n C.1 C.2.1 dX9_weight_21 rfl (lv_at hl 3 rfl) ?_
      refine fw_pcalli (va_runS (As := [.int x3]) (rest := []) ⟨C.1, C.2.1, C.2.2.2.2.2.2, C.2.2.2.2.2.1, C.2.2.2.2.1⟩ (soX9_isStage l x3 _ h H.size) (va_cwS 1 C.2.2.2.2.1 gX9_weight_X9_isStage rfl rfl rfl (by decide +kernel) ⟨Nat.le_of_ble_eq_true rfl, Nat.le_of_ble_eq_true rfl⟩) fw_ppre rfl rfl hl.1 rfl (lv_room (Nat.le_of_ble_eq_true rfl)) dX9_weight_22 ⟨Nat.zero_le _, Nat.zero_le _⟩) hG hK (fun r5  H locs h hG => ?_)
      refine lv_if_ne (tgt := 31) C.1 C.2.1 dX9_weight_25 (by decide) (fun c6 => ?_) (fun c6 => ?_)
      · have h := h.1 c6
        refine lv_aload_n C.1 C.2.1 dX9_weight_31 rfl (lv_at hl 0 rfl) ?_
        refine fw_get (w := (kw G ad kt)) C in_X9 hK hG 0 kw_o9 rfl 2 (by decide) k24 rfl rfl dX9_weight_32 ?_
        refine fw_get (w := (kw G ad kt)) C in_X1 hK hG 2 kw_o1 rfl 1 (by decide) k145 rfl rfl dX9_weight_35 ?_
        refine lv_if_ne (tgt := 44) C.1 C.2.1 dX9_weight_38 (by decide) (fun c7 => ?_) (fun c7 => ?_)
        · have h := h.1 c7
          refine lv_aload_n C.1 C.2.1 dX9_weight_44 rfl (lv_at hl 0 rfl) ?_
          refine fw_get (w := (kw G ad kt)) C in_X9 hK hG 0 kw_o9 rfl 2 (by decide) k24 rfl rfl dX9_weight_45 ?_
          refine lv_iload_n C.1 C.2.1 dX9_weight_48 rfl (lv_at hl 1 rfl) ?_
          refine lv_iload_n C.1 C.2.1 dX9_weight_49 rfl (lv_at hl 2 rfl) ?_
          refine lv_iload_n C.1 C.2.1 dX9_weight_50 rfl (lv_at hl 3 rfl) ?_
          refine fw_rcalli (va_runV (As := [.int x1, .int x2, .int x3]) (rest := []) ⟨C.1, C.2.1, C.2.2.2.2.2.2, C.2.2.2.2.2.1, C.2.2.2.2.1⟩ (soX1_weighs l G ad kt iv ar x1 x2 x3 _  h H.size) (cwV 3 C.2.2.2.2.1 gX9_weight_X1_weighs rfl rfl rfl (by decide +kernel) ⟨Nat.le_of_ble_eq_true rfl, Nat.le_of_ble_eq_true rfl⟩) (fw_preV hG hK (ci := 1) rfl kw_o1) rfl rfl hl.1 rfl (lv_room (Nat.le_of_ble_eq_true rfl)) dX9_weight_51 ⟨Nat.zero_le _, Nat.zero_le _⟩) hG hK (fun r8  H locs h hG => ?_)
          exact fw_iret C hG ⟨h, rfl, rfl⟩ dX9_weight_54
        · have h := h.2 c7
          refine lv_bipush (v := (-3)) C.1 C.2.1 dX9_weight_41 (by decide) ?_
          exact fw_iret C hG ⟨h, rfl, rfl⟩ dX9_weight_43
      · have h := h.2 c6
        refine lv_bipush (v := (-2)) C.1 C.2.1 dX9_weight_28 (by decide) ?_
        exact fw_iret C hG ⟨h, rfl, rfl⟩ dX9_weight_30
  · have h := h.2 c2
    refine lv_iconst (v := (-1)) C.1 C.2.1 dX9_weight_9 (by decide) ?_
    exact fw_iret C hG ⟨h, rfl, rfl⟩ dX9_weight_10
/-! KnifeBoard.stage(I)I -/
def rmX9_stage : Room := { frames := 2, cells := 0, slots := 0, locals := 42 }
def wpX9_stage (kt : kw_T) (iv : fw_F) (ar : fw_R) (x1 : Int32) (Q : Int32 → Prop) : Prop := wpX9_within x1 0 9999 (fun (r1 : Int32) => (¬ r1 = 0 → ((¬ (iv 2) = 0 → (wpX1_stageOf kt iv ar x1 (fun (r4 : Int32) => Q r4))) ∧ ((iv 2) = 0 → (Q (-3))))) ∧ (r1 = 0 → (Q (-2))))
set_option maxHeartbeats 4000000 in
set_option maxRecDepth 100000 in
theorem soX9_stage (l : Launch) (G : fw_G) (ad : Nat → Nat) (kt : kw_T) (iv : fw_F) (ar : fw_R) (x1 : Int32) (Q : Int32 → Prop)  (h : wpX9_stage kt iv ar x1 Q) : fw_M l G (kw G ad kt) yX9_stage wsX9_stage rmX9_stage [.ref (ad 0), .int x1] iv ar (fw_Qi G (kw G ad kt) (fun r iv1 ar1 => Q r ∧ iv = iv1 ∧ ar = ar1)) := by
  refine fw_start (cc := cX9_stage) (nL := 2) (rt := (some .int)) (by decide) rfl (Nat.le_of_ble_eq_true rfl) ?_
  intro p e s m below meth c A ls H locs C hK hG hl
  obtain ⟨args, ea⟩ : ∃ z : Array Value, z = ([.ref (ad 0), .int x1] : List Value).toArray := ⟨_, rfl⟩
  rw [← ea] at C ⊢
  have C : fw_C p s m args meth c cX9_stage 2 (some .int) wsX9_stage RX9 := C
  have hl : lv_has ls 2 [(0, .ref (ad 0)), (1, .int x1)] := hl
  unfold wpX9_stage at h
  have in_X1 : ∀ x ∈ wsX10, x ∈ wsX9_stage := by decide +kernel
  have in_X9 : ∀ x ∈ wsX90, x ∈ wsX9_stage := by decide +kernel
  have k145 := C.2.2.2.2.1 (.fieldLink RX9 145 "KnifeBoard$Hand" "told" "Z") (by decide +kernel)
  have k24 := C.2.2.2.2.1 (.fieldLink RX9 24 "KnifeBoard" "theHand" "LKnifeBoard$Hand;") (by decide +kernel)
  refine lv_iload_n C.1 C.2.1 dX9_stage_0 rfl (lv_at hl 1 rfl) ?_
  refine lv_iconst (v := 0) C.1 C.2.1 dX9_stage_1 (by decide) ?_
  refine lv_sipush (v := 9999) C.1 C.2.1 dX9_stage_2 (by decide) ?_
  refine fw_pcalli (va_runS (As := [.int x1, .int 0, .int 9999]) (rest := []) ⟨C.1, C.2.1, C.2.2.2.2.2.2, C.2.2.2.2.2.1, C.2.2.2.2.1⟩ (soX9_within l x1 0 9999 _ h H.size) (va_cwS 3 C.2.2.2.2.1 gX9_stage_X9_within rfl rfl rfl (by decide +kernel) ⟨Nat.le_of_ble_eq_true rfl, Nat.le_of_ble_eq_true rfl⟩) fw_ppre rfl rfl hl.1 rfl (lv_room (Nat.le_of_ble_eq_true rfl)) dX9_stage_5 ⟨Nat.zero_le _, Nat.zero_le _⟩) hG hK (fun r1  H locs h hG => ?_)
  refine lv_if_ne (tgt := 14) C.1 C.2.1 dX9_stage_8 (by decide) (fun c2 => ?_) (fun c2 => ?_)
  · have h := h.1 c2
    refine lv_aload_n C.1 C.2.1 dX9_stage_14 rfl (lv_at hl 0 rfl) ?_
    refine fw_get (w := (kw G ad kt)) C in_X9 hK hG 0 kw_o9 rfl 2 (by decide) k24 rfl rfl dX9_stage_15 ?_
    refine fw_get (w := (kw G ad kt)) C in_X1 hK hG 2 kw_o1 rfl 1 (by decide) k145 rfl rfl dX9_stage_18 ?_
    refine lv_if_ne (tgt := 27) C.1 C.2.1 dX9_stage_21 (by decide) (fun c3 => ?_) (fun c3 => ?_)
    · have h := h.1 c3
      refine lv_aload_n C.1 C.2.1 dX9_stage_27 rfl (lv_at hl 0 rfl) ?_
      refine fw_get (w := (kw G ad kt)) C in_X9 hK hG 0 kw_o9 rfl 2 (by decide) k24 rfl rfl dX9_stage_28 ?_
      refine lv_iload_n C.1 C.2.1 dX9_stage_31 rfl (lv_at hl 1 rfl) ?_
      refine fw_rcalli (va_runV (As := [.int x1]) (rest := []) ⟨C.1, C.2.1, C.2.2.2.2.2.2, C.2.2.2.2.2.1, C.2.2.2.2.1⟩ (soX1_stageOf l G ad kt iv ar x1 _  h H.size) (cwV 1 C.2.2.2.2.1 gX9_stage_X1_stageOf rfl rfl rfl (by decide +kernel) ⟨Nat.le_of_ble_eq_true rfl, Nat.le_of_ble_eq_true rfl⟩) (fw_preV hG hK (ci := 1) rfl kw_o1) rfl rfl hl.1 rfl (lv_room (Nat.le_of_ble_eq_true rfl)) dX9_stage_32 ⟨Nat.zero_le _, Nat.zero_le _⟩) hG hK (fun r4  H locs h hG => ?_)
      exact fw_iret C hG ⟨h, rfl, rfl⟩ dX9_stage_35
    · have h := h.2 c3
      refine lv_bipush (v := (-3)) C.1 C.2.1 dX9_stage_24 (by decide) ?_
      exact fw_iret C hG ⟨h, rfl, rfl⟩ dX9_stage_26
  · have h := h.2 c2
    refine lv_bipush (v := (-2)) C.1 C.2.1 dX9_stage_11 (by decide) ?_
    exact fw_iret C hG ⟨h, rfl, rfl⟩ dX9_stage_13
/-! KnifeBoard.stickWeight(LKnifeBoard$Knife;III)I -/
def rmX9_stickWeight : Room := { frames := 4, cells := 0, slots := 0, locals := 90 }
def wpX9_stickWeight_L7 (kt : kw_T) (i1 : Nat) (x2 : Int32) (x3 : Int32) (x4 : Int32) (iv : fw_F) (ar : fw_R) (Q : Int32 → Prop) (K : Int32 → Int32 → Prop) : Nat → Int32 → Int32 → Prop
  | 0, _, _ => False
  | fu + 1, z5, z6 => (2 < z6 → (K z5 z6)) ∧ (¬ 2 < z6 → (wpX3_holdsFast kt iv ar i1 (((x2 + z6) + 24) - ((x2 + z6) + 24) / 24 * 24) x3 (fun (r2 : Int32) => (r2 = 0 → (∀ y4 : Int32, y4 = z6 + 1 → (wpX9_stickWeight_L7 kt i1 x2 x3 x4 iv ar Q K fu z5 y4))) ∧ (¬ r2 = 0 → (wpX1_weighs kt iv ar 0 z6 x4 (fun (r5 : Int32) => ∀ y6 : Int32, y6 = z5 + r5 → (∀ y7 : Int32, y7 = z6 + 1 → (wpX9_stickWeight_L7 kt i1 x2 x3 x4 iv ar Q K fu y6 y7))))))))
def wpX9_stickWeight (kt : kw_T) (iv : fw_F) (ar : fw_R) (i1 : Nat) (x2 : Int32) (x3 : Int32) (x4 : Int32) (Q : Int32 → Prop) : Prop := ∃ ku : Nat, wpX9_stickWeight_L7 kt i1 x2 x3 x4 iv ar Q (fun (w8 : Int32) (w9 : Int32) => Q w8) ku 0 (-2)
set_option maxHeartbeats 4000000 in
set_option maxRecDepth 100000 in
theorem soX9_stickWeight_L7 {p : Program} {l : Launch} {e : Env} {s : State} {m : MethodId} {args : Array Value} {below : List Frame} {meth : Method} {c : Code} {A : Nat → Prop} {G : fw_G} {ad : Nat → Nat} {kt : kw_T} {i1 : Nat} {x2 : Int32} {x3 : Int32} {x4 : Int32} {iv : fw_F} {ar : fw_R} {Q : Int32 → Prop} {K : Int32 → Int32 → Prop} (C : fw_C p s m args meth c cX9_stickWeight 7 (some .int) wsX9_stickWeight RX9) (hK : fw_K G A s) (hi1 : i1 < kt.1) (hX : ∀ (z5 : Int32) (z6 : Int32), K z5 z6 → ∀ (H : Heap) (locs : List Loc), fw_H G ((kw G ad kt) iv ar) A s H locs → ∀ (ls : Array Slot), lv_has ls 7 [(6, .int z6), (5, .int z5), (0, .ref (ad 0)), (1, .ref (ad (28 + 2 * i1))), (2, .int x2), (3, .int x3), (4, .int x4)] → W p l e rmX9_stickWeight s m args below meth c H locs 0 0 (MQ below (fw_Qi G (kw G ad kt) (fun r iv1 ar1 => Q r ∧ iv = iv1 ∧ ar = ar1) A) args s 0 0 A) (F0 m 54 ls [])) : ∀ (fu : Nat) (z5 : Int32) (z6 : Int32), wpX9_stickWeight_L7 kt i1 x2 x3 x4 iv ar Q K fu z5 z6 → ∀ (H : Heap) (locs : List Loc), fw_H G ((kw G ad kt) iv ar) A s H locs → ∀ (ls : Array Slot), lv_has ls 7 [(6, .int z6), (5, .int z5), (0, .ref (ad 0)), (1, .ref (ad (28 + 2 * i1))), (2, .int x2), (3, .int x3), (4, .int x4)] → W p l e rmX9_stickWeight s m args below meth c H locs 0 0 (MQ below (fw_Qi G (kw G ad kt) (fun r iv1 ar1 => Q r ∧ iv = iv1 ∧ ar = ar1) A) args s 0 0 A) (F0 m 7 ls []) := by
  intro fu
  have in_X9 : ∀ x ∈ wsX90, x ∈ wsX9_stickWeight := by decide +kernel
  have k24 := C.2.2.2.2.1 (.fieldLink RX9 24 "KnifeBoard" "theHand" "LKnifeBoard$Hand;") (by decide +kernel)
  induction fu with
  | zero => intro z5 z6 h; exact h.elim
  | succ fu ih =>
    intro z5 z6 h H locs hG ls hl
    unfold wpX9_stickWeight_L7 at h
    refine lv_iload C.1 C.2.1 dX9_stickWeight_7 (lv_at hl 0 rfl) ?_
    refine lv_iconst (v := 2) C.1 C.2.1 dX9_stickWeight_9 (by decide) ?_
    refine lv_icmp_gt (tgt := 54) C.1 C.2.1 dX9_stickWeight_10 (by decide) (fun c1 => ?_) (fun c1 => ?_)
    · have h := h.1 c1
      exact hX _ _ h _ _ hG ls (lv_sub hl [0, 1, 2, 3, 4, 5, 6] rfl)
    · have h := h.2 c1
      refine lv_aload_n C.1 C.2.1 dX9_stickWeight_13 rfl (lv_at hl 3 rfl) ?_
      refine lv_iload_n C.1 C.2.1 dX9_stickWeight_14 rfl (lv_at hl 4 rfl) ?_
      refine lv_iload C.1 C.2.1 dX9_stickWeight_15 (lv_at hl 0 rfl) ?_
      refine lv_iadd C.1 C.2.1 dX9_stickWeight_17 ?_
      refine lv_bipush (v := 24) C.1 C.2.1 dX9_stickWeight_18 (by decide) ?_
      refine lv_iadd C.1 C.2.1 dX9_stickWeight_20 ?_
      refine lv_bipush (v := 24) C.1 C.2.1 dX9_stickWeight_21 (by decide) ?_
      refine lv_irem C.1 C.2.1 dX9_stickWeight_23 (by decide) ?_
      refine lv_iload_n C.1 C.2.1 dX9_stickWeight_24 rfl (lv_at hl 5 rfl) ?_
      have rn : va_Run p l e rmX9_stickWeight s m args below meth c H locs 0 0 0 0 (F0 m 25 ls (.int x3 :: .int (((x2 + z6) + 24) - ((x2 + z6) + 24) / 24 * 24) :: .ref (ad (28 + 2 * i1)) :: [])) [] (fw_Qi G (kw G ad kt) (fun r iv1 ar1 => (fun (r2 : Int32) => (r2 = 0 → (∀ y4 : Int32, y4 = z6 + 1 → (wpX9_stickWeight_L7 kt i1 x2 x3 x4 iv ar Q K fu z5 y4))) ∧ (¬ r2 = 0 → (wpX1_weighs kt iv ar 0 z6 x4 (fun (r5 : Int32) => ∀ y6 : Int32, y6 = z5 + r5 → (∀ y7 : Int32, y7 = z6 + 1 → (wpX9_stickWeight_L7 kt i1 x2 x3 x4 iv ar Q K fu y6 y7)))))) r ∧ iv = iv1 ∧ ar = ar1) (va_A ((kw G ad kt) iv ar) H.size) (.ref (ad (28 + 2 * i1)) :: [.int (((x2 + z6) + 24) - ((x2 + z6) + 24) / 24 * 24), .int x3]).toArray) (va_A ((kw G ad kt) iv ar) H.size) := by
        by_cases e0 : kt.2.1 i1 = 0
        · exact va_runV (As := [.int (((x2 + z6) + 24) - ((x2 + z6) + 24) / 24 * 24), .int x3]) (rest := []) ⟨C.1, C.2.1, C.2.2.2.2.2.2, C.2.2.2.2.2.1, C.2.2.2.2.1⟩ (soX3_holdsFast l G ad kt iv ar i1 (((x2 + z6) + 24) - ((x2 + z6) + 24) / 24 * 24) x3 _ hi1 h H.size) (cwV 2 C.2.2.2.2.1 gX9_stickWeight_X3_holdsFast rfl rfl rfl (by decide +kernel) ⟨Nat.le_of_ble_eq_true rfl, Nat.le_of_ble_eq_true rfl⟩) (fw_preV hG hK (ci := 3) rfl (kw_oK3 hi1 (kw_d3 e0))) rfl rfl hl.1 rfl (lv_room (Nat.le_of_ble_eq_true rfl)) dX9_stickWeight_25 ⟨Nat.zero_le _, Nat.zero_le _⟩
        · by_cases e1 : kt.2.1 i1 = 1
          · exact va_runU (As := [.int (((x2 + z6) + 24) - ((x2 + z6) + 24) / 24 * 24), .int x3]) (rest := []) ⟨C.1, C.2.1, C.2.2.2.2.2.2, C.2.2.2.2.2.1, C.2.2.2.2.1⟩ (soX3_holdsFast l G ad kt iv ar i1 (((x2 + z6) + 24) - ((x2 + z6) + 24) / 24 * 24) x3 _ hi1 h H.size) (va_cwU 2 C.2.2.2.2.1 gX9_stickWeight_X3_holdsFast_u126X2 rfl rfl rfl rfl (by decide +kernel) ⟨Nat.le_of_ble_eq_true rfl, Nat.le_of_ble_eq_true rfl⟩) (fw_preV hG hK (ci := 2) rfl (kw_oK2 hi1 (kw_d2 e0 e1))) rfl rfl hl.1 rfl (lv_room (Nat.le_of_ble_eq_true rfl)) dX9_stickWeight_25 ⟨Nat.zero_le _, Nat.zero_le _⟩
          · exact va_runU (As := [.int (((x2 + z6) + 24) - ((x2 + z6) + 24) / 24 * 24), .int x3]) (rest := []) ⟨C.1, C.2.1, C.2.2.2.2.2.2, C.2.2.2.2.2.1, C.2.2.2.2.1⟩ (soX3_holdsFast l G ad kt iv ar i1 (((x2 + z6) + 24) - ((x2 + z6) + 24) / 24 * 24) x3 _ hi1 h H.size) (va_cwU 2 C.2.2.2.2.1 gX9_stickWeight_X3_holdsFast_u126X8 rfl rfl rfl rfl (by decide +kernel) ⟨Nat.le_of_ble_eq_true rfl, Nat.le_of_ble_eq_true rfl⟩) (fw_preV hG hK (ci := 8) rfl (kw_oK8 hi1 (kw_d8 e0 e1))) rfl rfl hl.1 rfl (lv_room (Nat.le_of_ble_eq_true rfl)) dX9_stickWeight_25 ⟨Nat.zero_le _, Nat.zero_le _⟩
      refine fw_rcalli (rn) hG hK (fun r2  H locs h hG => ?_)
      refine lv_if_eq (tgt := 48) C.1 C.2.1 dX9_stickWeight_28 (by decide) (fun c3 => ?_) (fun c3 => ?_)
      · have h := h.1 c3
        obtain ⟨y4, ey4⟩ : ∃ z : Int32, z = z6 + 1 := ⟨_, rfl⟩
        have h := h y4 ey4
        refine lv_iinc (v := y4) (lv' := [(6, .int y4), (5, .int z5), (0, .ref (ad 0)), (1, .ref (ad (28 + 2 * i1))), (2, .int x2), (3, .int x3), (4, .int x4)]) C.1 C.2.1 dX9_stickWeight_48 hl (k := 0) rfl (by rw [ey4]; rfl) (by decide) rfl (fun ls hl => ?_)
        refine lv_goto (tgt := 7) C.1 C.2.1 dX9_stickWeight_51 (by decide) ?_
        exact ih _ _ h _ _ hG ls (lv_sub hl [0, 1, 2, 3, 4, 5, 6] rfl)
      · have h := h.2 c3
        refine lv_iload C.1 C.2.1 dX9_stickWeight_31 (lv_at hl 1 rfl) ?_
        refine lv_aload_n C.1 C.2.1 dX9_stickWeight_33 rfl (lv_at hl 2 rfl) ?_
        refine fw_get (w := (kw G ad kt)) C in_X9 hK hG 0 kw_o9 rfl 2 (by decide) k24 rfl rfl dX9_stickWeight_34 ?_
        refine lv_iconst (v := 0) C.1 C.2.1 dX9_stickWeight_37 (by decide) ?_
        refine lv_iload C.1 C.2.1 dX9_stickWeight_38 (lv_at hl 0 rfl) ?_
        refine lv_iload C.1 C.2.1 dX9_stickWeight_40 (lv_at hl 6 rfl) ?_
        refine fw_rcalli (va_runV (As := [.int 0, .int z6, .int x4]) (rest := [.int z5]) ⟨C.1, C.2.1, C.2.2.2.2.2.2, C.2.2.2.2.2.1, C.2.2.2.2.1⟩ (soX1_weighs l G ad kt iv ar 0 z6 x4 _  h H.size) (cwV 3 C.2.2.2.2.1 gX9_stickWeight_X1_weighs rfl rfl rfl (by decide +kernel) ⟨Nat.le_of_ble_eq_true rfl, Nat.le_of_ble_eq_true rfl⟩) (fw_preV hG hK (ci := 1) rfl kw_o1) rfl rfl hl.1 rfl (lv_room (Nat.le_of_ble_eq_true rfl)) dX9_stickWeight_42 ⟨Nat.zero_le _, Nat.zero_le _⟩) hG hK (fun r5  H locs h hG => ?_)
        refine lv_iadd C.1 C.2.1 dX9_stickWeight_45 ?_
        refine lv_topi (fun y6 ey6 => ?_)
        have h := h y6 ey6
        refine lv_istore (lv' := [(5, .int y6), (6, .int z6), (0, .ref (ad 0)), (1, .ref (ad (28 + 2 * i1))), (2, .int x2), (3, .int x3), (4, .int x4)]) C.1 C.2.1 dX9_stickWeight_46 hl (by decide) rfl (fun ls hl => ?_)
        obtain ⟨y7, ey7⟩ : ∃ z : Int32, z = z6 + 1 := ⟨_, rfl⟩
        have h := h y7 ey7
        refine lv_iinc (v := y7) (lv' := [(6, .int y7), (5, .int y6), (0, .ref (ad 0)), (1, .ref (ad (28 + 2 * i1))), (2, .int x2), (3, .int x3), (4, .int x4)]) C.1 C.2.1 dX9_stickWeight_48 hl (k := 1) rfl (by rw [ey7]; rfl) (by decide) rfl (fun ls hl => ?_)
        refine lv_goto (tgt := 7) C.1 C.2.1 dX9_stickWeight_51 (by decide) ?_
        exact ih _ _ h _ _ hG ls (lv_sub hl [0, 1, 2, 3, 4, 5, 6] rfl)

set_option maxHeartbeats 4000000 in
set_option maxRecDepth 100000 in
theorem soX9_stickWeight (l : Launch) (G : fw_G) (ad : Nat → Nat) (kt : kw_T) (iv : fw_F) (ar : fw_R) (i1 : Nat) (x2 : Int32) (x3 : Int32) (x4 : Int32) (Q : Int32 → Prop) (hi1 : i1 < kt.1) (h : wpX9_stickWeight kt iv ar i1 x2 x3 x4 Q) : fw_M l G (kw G ad kt) yX9_stickWeight wsX9_stickWeight rmX9_stickWeight [.ref (ad 0), .ref (ad (28 + 2 * i1)), .int x2, .int x3, .int x4] iv ar (fw_Qi G (kw G ad kt) (fun r iv1 ar1 => Q r ∧ iv = iv1 ∧ ar = ar1)) := by
  refine fw_start (cc := cX9_stickWeight) (nL := 7) (rt := (some .int)) (by decide) rfl (Nat.le_of_ble_eq_true rfl) ?_
  intro p e s m below meth c A ls H locs C hK hG hl
  obtain ⟨args, ea⟩ : ∃ z : Array Value, z = ([.ref (ad 0), .ref (ad (28 + 2 * i1)), .int x2, .int x3, .int x4] : List Value).toArray := ⟨_, rfl⟩
  rw [← ea] at C ⊢
  have C : fw_C p s m args meth c cX9_stickWeight 7 (some .int) wsX9_stickWeight RX9 := C
  have hl : lv_has ls 7 [(0, .ref (ad 0)), (1, .ref (ad (28 + 2 * i1))), (2, .int x2), (3, .int x3), (4, .int x4)] := hl
  unfold wpX9_stickWeight at h
  refine lv_iconst (v := 0) C.1 C.2.1 dX9_stickWeight_0 (by decide) ?_
  refine lv_istore (lv' := [(5, .int 0), (0, .ref (ad 0)), (1, .ref (ad (28 + 2 * i1))), (2, .int x2), (3, .int x3), (4, .int x4)]) C.1 C.2.1 dX9_stickWeight_1 hl (by decide) rfl (fun ls hl => ?_)
  refine lv_bipush (v := (-2)) C.1 C.2.1 dX9_stickWeight_3 (by decide) ?_
  refine lv_istore (lv' := [(6, .int (-2)), (5, .int 0), (0, .ref (ad 0)), (1, .ref (ad (28 + 2 * i1))), (2, .int x2), (3, .int x3), (4, .int x4)]) C.1 C.2.1 dX9_stickWeight_5 hl (by decide) rfl (fun ls hl => ?_)
  obtain ⟨ku, h⟩ := h
  refine soX9_stickWeight_L7 C hK hi1 ?_ ku _ _ h _ _ hG ls (lv_sub hl [0, 1, 2, 3, 4, 5, 6] rfl)
  intro w8 w9 h H locs hG ls hl
  refine lv_iload C.1 C.2.1 dX9_stickWeight_54 (lv_at hl 1 rfl) ?_
  exact fw_iret C hG ⟨h, rfl, rfl⟩ dX9_stickWeight_56
/-! KnifeBoard.likely(IIIII)J -/
def rmX9_likely : Room := { frames := 5, cells := 0, slots := 0, locals := 116 }
def wpX9_likely (kt : kw_T) (iv : fw_F) (ar : fw_R) (x1 : Int32) (x2 : Int32) (x3 : Int32) (x4 : Int32) (x5 : Int32) (Q : Int64 → Prop) : Prop := wpX9_knifeAt kt iv ar x1 (fun (r1 : Option Nat) => (r1 = none → (Q (-9223372036854775808))) ∧ (∀ i2 : Nat, r1 = some i2 → i2 < kt.1 ∧ (wpX9_isThrow x2 x3 (fun (r3 : Int32) => (r3 = 0 → (Q (-9223372036854775808))) ∧ (¬ r3 = 0 → (wpX9_isStage x4 (fun (r5 : Int32) => (¬ r5 = 0 → (wpX9_within x5 0 1 (fun (r7 : Int32) => (r7 = 0 → (Q (-9223372036854775808))) ∧ (¬ r7 = 0 → ((¬ (iv 2) = 0 → (wpX9_stickWeight kt iv ar i2 x2 x3 x4 (fun (r10 : Int32) => wpX1_sumOf kt iv ar 0 x4 (fun (r11 : Int32) => wpX9_share r10.toInt64 r11.toInt64 x5 (fun (r12 : Int64) => Q r12))))) ∧ ((iv 2) = 0 → (Q (-9223372036854775808)))))))) ∧ (r5 = 0 → (Q (-9223372036854775808))))))))))
set_option maxHeartbeats 4000000 in
set_option maxRecDepth 100000 in
theorem soX9_likely (l : Launch) (G : fw_G) (ad : Nat → Nat) (kt : kw_T) (iv : fw_F) (ar : fw_R) (x1 : Int32) (x2 : Int32) (x3 : Int32) (x4 : Int32) (x5 : Int32) (Q : Int64 → Prop)  (h : wpX9_likely kt iv ar x1 x2 x3 x4 x5 Q) : fw_M l G (kw G ad kt) yX9_likely wsX9_likely rmX9_likely [.ref (ad 0), .int x1, .int x2, .int x3, .int x4, .int x5] iv ar (fw_Ql G (kw G ad kt) (fun r iv1 ar1 => Q r ∧ iv = iv1 ∧ ar = ar1)) := by
  refine fw_start (cc := cX9_likely) (nL := 7) (rt := (some .long)) (by decide) rfl (Nat.le_of_ble_eq_true rfl) ?_
  intro p e s m below meth c A ls H locs C hK hG hl
  obtain ⟨args, ea⟩ : ∃ z : Array Value, z = ([.ref (ad 0), .int x1, .int x2, .int x3, .int x4, .int x5] : List Value).toArray := ⟨_, rfl⟩
  rw [← ea] at C ⊢
  have C : fw_C p s m args meth c cX9_likely 7 (some .long) wsX9_likely RX9 := C
  have hl : lv_has ls 7 [(0, .ref (ad 0)), (1, .int x1), (2, .int x2), (3, .int x3), (4, .int x4), (5, .int x5)] := hl
  unfold wpX9_likely at h
  have in_X1 : ∀ x ∈ wsX10, x ∈ wsX9_likely := by decide +kernel
  have in_X9 : ∀ x ∈ wsX90, x ∈ wsX9_likely := by decide +kernel
  have k113 := C.2.2.2.2.1 (.constantLong RX9 113 (-9223372036854775808)) (by decide +kernel)
  have k145 := C.2.2.2.2.1 (.fieldLink RX9 145 "KnifeBoard$Hand" "told" "Z") (by decide +kernel)
  have k24 := C.2.2.2.2.1 (.fieldLink RX9 24 "KnifeBoard" "theHand" "LKnifeBoard$Hand;") (by decide +kernel)
  refine lv_aload_n C.1 C.2.1 dX9_likely_0 rfl (lv_at hl 0 rfl) ?_
  refine lv_iload_n C.1 C.2.1 dX9_likely_1 rfl (lv_at hl 1 rfl) ?_
  refine fw_rcallq (va_runV (As := [.int x1]) (rest := []) ⟨C.1, C.2.1, C.2.2.2.2.2.2, C.2.2.2.2.2.1, C.2.2.2.2.1⟩ (soX9_knifeAt l G ad kt iv ar x1 _  h H.size) (cwV 1 C.2.2.2.2.1 gX9_likely_X9_knifeAt rfl rfl rfl (by decide +kernel) ⟨Nat.le_of_ble_eq_true rfl, Nat.le_of_ble_eq_true rfl⟩) (fw_preV hG hK (ci := 9) rfl kw_o9) rfl rfl hl.1 rfl (lv_room (Nat.le_of_ble_eq_true rfl)) dX9_likely_2 ⟨Nat.zero_le _, Nat.zero_le _⟩) hG hK (fun r1  H locs h hG => ?_)
  rcases r1 with _ | i2
  · have h := h.1 rfl
    refine W.eq (g2 := F0 m 5 ls (.null :: [])) rfl ?_
    refine lv_astoreN (lv' := [(6, .null), (0, .ref (ad 0)), (1, .int x1), (2, .int x2), (3, .int x3), (4, .int x4), (5, .int x5)]) C.1 C.2.1 dX9_likely_5 hl (by decide) rfl (fun ls hl => ?_)
    refine lv_aloadN C.1 C.2.1 dX9_likely_7 (lv_at hl 0 rfl) ?_
    refine lv_ifnullN (tgt := 28) C.1 C.2.1 dX9_likely_9 (by decide) ?_
    refine lv_ldc2 C.1 C.2.1 C.2.2.2.2.2.1 k113 dX9_likely_28 ?_
    exact fw_lret C hG ⟨h, rfl, rfl⟩ dX9_likely_31
  · obtain ⟨hi2, h⟩ := h.2 i2 rfl
    refine W.eq (g2 := F0 m 5 ls (.ref (ad (28 + 2 * i2)) :: [])) rfl ?_
    refine lv_astore (lv' := [(6, .ref (ad (28 + 2 * i2))), (0, .ref (ad 0)), (1, .int x1), (2, .int x2), (3, .int x3), (4, .int x4), (5, .int x5)]) C.1 C.2.1 dX9_likely_5 hl (by decide) rfl (fun ls hl => ?_)
    refine lv_aload C.1 C.2.1 dX9_likely_7 (lv_at hl 0 rfl) ?_
    refine lv_ifnull C.1 C.2.1 dX9_likely_9 ?_
    refine lv_iload_n C.1 C.2.1 dX9_likely_12 rfl (lv_at hl 3 rfl) ?_
    refine lv_iload_n C.1 C.2.1 dX9_likely_13 rfl (lv_at hl 4 rfl) ?_
    refine fw_pcalli (va_runS (As := [.int x2, .int x3]) (rest := []) ⟨C.1, C.2.1, C.2.2.2.2.2.2, C.2.2.2.2.2.1, C.2.2.2.2.1⟩ (soX9_isThrow l x2 x3 _ h H.size) (va_cwS 2 C.2.2.2.2.1 gX9_likely_X9_isThrow rfl rfl rfl (by decide +kernel) ⟨Nat.le_of_ble_eq_true rfl, Nat.le_of_ble_eq_true rfl⟩) fw_ppre rfl rfl hl.1 rfl (lv_room (Nat.le_of_ble_eq_true rfl)) dX9_likely_14 ⟨Nat.zero_le _, Nat.zero_le _⟩) hG hK (fun r3  H locs h hG => ?_)
    refine lv_if_eq (tgt := 28) C.1 C.2.1 dX9_likely_17 (by decide) (fun c4 => ?_) (fun c4 => ?_)
    · have h := h.1 c4
      refine lv_ldc2 C.1 C.2.1 C.2.2.2.2.2.1 k113 dX9_likely_28 ?_
      exact fw_lret C hG ⟨h, rfl, rfl⟩ dX9_likely_31
    · have h := h.2 c4
      refine lv_iload C.1 C.2.1 dX9_likely_20 (lv_at hl 5 rfl) ?_
      refine fw_pcalli (va_runS (As := [.int x4]) (rest := []) ⟨C.1, C.2.1, C.2.2.2.2.2.2, C.2.2.2.2.2.1, C.2.2.2.2.1⟩ (soX9_isStage l x4 _ h H.size) (va_cwS 1 C.2.2.2.2.1 gX9_likely_X9_isStage rfl rfl rfl (by decide +kernel) ⟨Nat.le_of_ble_eq_true rfl, Nat.le_of_ble_eq_true rfl⟩) fw_ppre rfl rfl hl.1 rfl (lv_room (Nat.le_of_ble_eq_true rfl)) dX9_likely_22 ⟨Nat.zero_le _, Nat.zero_le _⟩) hG hK (fun r5  H locs h hG => ?_)
      refine lv_if_ne (tgt := 32) C.1 C.2.1 dX9_likely_25 (by decide) (fun c6 => ?_) (fun c6 => ?_)
      · have h := h.1 c6
        refine lv_iload C.1 C.2.1 dX9_likely_32 (lv_at hl 6 rfl) ?_
        refine lv_iconst (v := 0) C.1 C.2.1 dX9_likely_34 (by decide) ?_
        refine lv_iconst (v := 1) C.1 C.2.1 dX9_likely_35 (by decide) ?_
        refine fw_pcalli (va_runS (As := [.int x5, .int 0, .int 1]) (rest := []) ⟨C.1, C.2.1, C.2.2.2.2.2.2, C.2.2.2.2.2.1, C.2.2.2.2.1⟩ (soX9_within l x5 0 1 _ h H.size) (va_cwS 3 C.2.2.2.2.1 gX9_likely_X9_within rfl rfl rfl (by decide +kernel) ⟨Nat.le_of_ble_eq_true rfl, Nat.le_of_ble_eq_true rfl⟩) fw_ppre rfl rfl hl.1 rfl (lv_room (Nat.le_of_ble_eq_true rfl)) dX9_likely_36 ⟨Nat.zero_le _, Nat.zero_le _⟩) hG hK (fun r7  H locs h hG => ?_)
        refine lv_if_eq (tgt := 52) C.1 C.2.1 dX9_likely_39 (by decide) (fun c8 => ?_) (fun c8 => ?_)
        · have h := h.1 c8
          refine lv_ldc2 C.1 C.2.1 C.2.2.2.2.2.1 k113 dX9_likely_52 ?_
          exact fw_lret C hG ⟨h, rfl, rfl⟩ dX9_likely_55
        · have h := h.2 c8
          refine lv_aload_n C.1 C.2.1 dX9_likely_42 rfl (lv_at hl 1 rfl) ?_
          refine fw_get (w := (kw G ad kt)) C in_X9 hK hG 0 kw_o9 rfl 2 (by decide) k24 rfl rfl dX9_likely_43 ?_
          refine fw_get (w := (kw G ad kt)) C in_X1 hK hG 2 kw_o1 rfl 1 (by decide) k145 rfl rfl dX9_likely_46 ?_
          refine lv_if_ne (tgt := 56) C.1 C.2.1 dX9_likely_49 (by decide) (fun c9 => ?_) (fun c9 => ?_)
          · have h := h.1 c9
            refine lv_aload_n C.1 C.2.1 dX9_likely_56 rfl (lv_at hl 1 rfl) ?_
            refine lv_aload C.1 C.2.1 dX9_likely_57 (lv_at hl 0 rfl) ?_
            refine lv_iload_n C.1 C.2.1 dX9_likely_59 rfl (lv_at hl 3 rfl) ?_
            refine lv_iload_n C.1 C.2.1 dX9_likely_60 rfl (lv_at hl 4 rfl) ?_
            refine lv_iload C.1 C.2.1 dX9_likely_61 (lv_at hl 5 rfl) ?_
            refine fw_rcalli (va_runV (As := [.ref (ad (28 + 2 * i2)), .int x2, .int x3, .int x4]) (rest := []) ⟨C.1, C.2.1, C.2.2.2.2.2.2, C.2.2.2.2.2.1, C.2.2.2.2.1⟩ (soX9_stickWeight l G ad kt iv ar i2 x2 x3 x4 _ hi2 h H.size) (cwV 4 C.2.2.2.2.1 gX9_likely_X9_stickWeight rfl rfl rfl (by decide +kernel) ⟨Nat.le_of_ble_eq_true rfl, Nat.le_of_ble_eq_true rfl⟩) (fw_preV hG hK (ci := 9) rfl kw_o9) rfl rfl hl.1 rfl (lv_room (Nat.le_of_ble_eq_true rfl)) dX9_likely_63 ⟨Nat.zero_le _, Nat.zero_le _⟩) hG hK (fun r10  H locs h hG => ?_)
            refine lv_i2l C.1 C.2.1 dX9_likely_66 rfl ?_
            refine lv_aload_n C.1 C.2.1 dX9_likely_67 rfl (lv_at hl 1 rfl) ?_
            refine fw_get (w := (kw G ad kt)) C in_X9 hK hG 0 kw_o9 rfl 2 (by decide) k24 rfl rfl dX9_likely_68 ?_
            refine lv_iconst (v := 0) C.1 C.2.1 dX9_likely_71 (by decide) ?_
            refine lv_iload C.1 C.2.1 dX9_likely_72 (lv_at hl 5 rfl) ?_
            refine fw_rcalli (va_runV (As := [.int 0, .int x4]) (rest := [.long r10.toInt64]) ⟨C.1, C.2.1, C.2.2.2.2.2.2, C.2.2.2.2.2.1, C.2.2.2.2.1⟩ (soX1_sumOf l G ad kt iv ar 0 x4 _  h H.size) (cwV 2 C.2.2.2.2.1 gX9_likely_X1_sumOf rfl rfl rfl (by decide +kernel) ⟨Nat.le_of_ble_eq_true rfl, Nat.le_of_ble_eq_true rfl⟩) (fw_preV hG hK (ci := 1) rfl kw_o1) rfl rfl hl.1 rfl (lv_room (Nat.le_of_ble_eq_true rfl)) dX9_likely_74 ⟨Nat.zero_le _, Nat.zero_le _⟩) hG hK (fun r11  H locs h hG => ?_)
            refine lv_i2l C.1 C.2.1 dX9_likely_77 rfl ?_
            refine lv_iload C.1 C.2.1 dX9_likely_78 (lv_at hl 6 rfl) ?_
            refine fw_pcalll (va_runS (As := [.long r10.toInt64, .long r11.toInt64, .int x5]) (rest := []) ⟨C.1, C.2.1, C.2.2.2.2.2.2, C.2.2.2.2.2.1, C.2.2.2.2.1⟩ (soX9_share l r10.toInt64 r11.toInt64 x5 _ h H.size) (va_cwS 3 C.2.2.2.2.1 gX9_likely_X9_share rfl rfl rfl (by decide +kernel) ⟨Nat.le_of_ble_eq_true rfl, Nat.le_of_ble_eq_true rfl⟩) fw_ppre rfl rfl hl.1 rfl (lv_room (Nat.le_of_ble_eq_true rfl)) dX9_likely_80 ⟨Nat.zero_le _, Nat.zero_le _⟩) hG hK (fun r12  H locs h hG => ?_)
            exact fw_lret C hG ⟨h, rfl, rfl⟩ dX9_likely_83
          · have h := h.2 c9
            refine lv_ldc2 C.1 C.2.1 C.2.2.2.2.2.1 k113 dX9_likely_52 ?_
            exact fw_lret C hG ⟨h, rfl, rfl⟩ dX9_likely_55
      · have h := h.2 c6
        refine lv_ldc2 C.1 C.2.1 C.2.2.2.2.2.1 k113 dX9_likely_28 ?_
        exact fw_lret C hG ⟨h, rfl, rfl⟩ dX9_likely_31
/-! KnifeBoard.best(III)I -/
def rmX9_best : Room := { frames := 5, cells := 0, slots := 0, locals := 116 }
def wpX9_best_L68 (kt : kw_T) (x1 : Int32) (x2 : Int32) (x3 : Int32) (z8 : Int32) (i2 : Nat) (iv : fw_F) (ar : fw_R) (Q : Int32 → Prop) (K : Int32 → Int32 → Int32 → Int32 → Prop) : Nat → Int32 → Int32 → Int32 → Int32 → Prop
  | 0, _, _, _, _ => False
  | fu + 1, z5, z6, z7, z9 => (23 < z9 → (K z5 z6 z7 z9)) ∧ (¬ 23 < z9 → (wpX9_stickWeight kt iv ar i2 z9 z8 x2 (fun (r10 : Int32) => (r10 ≤ z5 → (∀ y12 : Int32, y12 = z9 + 1 → (wpX9_best_L68 kt x1 x2 x3 z8 i2 iv ar Q K fu z5 z6 z7 y12))) ∧ (¬ r10 ≤ z5 → (∀ y13 : Int32, y13 = z9 + 1 → (wpX9_best_L68 kt x1 x2 x3 z8 i2 iv ar Q K fu r10 z8 z9 y13))))))
def wpX9_best_L58 (kt : kw_T) (x1 : Int32) (x2 : Int32) (x3 : Int32) (i2 : Nat) (iv : fw_F) (ar : fw_R) (Q : Int32 → Prop) (K : Int32 → Int32 → Int32 → Int32 → Prop) : Nat → Int32 → Int32 → Int32 → Int32 → Prop
  | 0, _, _, _, _ => False
  | fu + 1, z5, z6, z7, z8 => (40 < z8 → (K z5 z6 z7 z8)) ∧ (¬ 40 < z8 → (∃ ku : Nat, wpX9_best_L68 kt x1 x2 x3 z8 i2 iv ar Q (fun (w14 : Int32) (w15 : Int32) (w16 : Int32) (w17 : Int32) => ∀ y18 : Int32, y18 = z8 + 1 → (wpX9_best_L58 kt x1 x2 x3 i2 iv ar Q K fu w14 w15 w16 y18)) ku z5 z6 z7 0))
def wpX9_best (kt : kw_T) (iv : fw_F) (ar : fw_R) (x1 : Int32) (x2 : Int32) (x3 : Int32) (Q : Int32 → Prop) : Prop := wpX9_knifeAt kt iv ar x1 (fun (r1 : Option Nat) => (r1 = none → (Q (-1))) ∧ (∀ i2 : Nat, r1 = some i2 → i2 < kt.1 ∧ (wpX9_isStage x2 (fun (r3 : Int32) => (r3 = 0 → (Q (-2))) ∧ (¬ r3 = 0 → (wpX9_within x3 0 1 (fun (r5 : Int32) => (¬ r5 = 0 → ((¬ (iv 2) = 0 → (∃ ku : Nat, wpX9_best_L58 kt x1 x2 x3 i2 iv ar Q (fun (w19 : Int32) (w20 : Int32) (w21 : Int32) (w22 : Int32) => (¬ x3 = 0 → (Q w21)) ∧ (x3 = 0 → (Q w20))) ku (-1) 0 0 1)) ∧ ((iv 2) = 0 → (Q (-3))))) ∧ (r5 = 0 → (Q (-2))))))))))
set_option maxHeartbeats 4000000 in
set_option maxRecDepth 100000 in
theorem soX9_best_L68 {p : Program} {l : Launch} {e : Env} {s : State} {m : MethodId} {args : Array Value} {below : List Frame} {meth : Method} {c : Code} {A : Nat → Prop} {G : fw_G} {ad : Nat → Nat} {kt : kw_T} {x1 : Int32} {x2 : Int32} {x3 : Int32} {z8 : Int32} {i2 : Nat} {iv : fw_F} {ar : fw_R} {Q : Int32 → Prop} {K : Int32 → Int32 → Int32 → Int32 → Prop} (C : fw_C p s m args meth c cX9_best 11 (some .int) wsX9_best RX9) (hK : fw_K G A s) (hi2 : i2 < kt.1) (hX : ∀ (z5 : Int32) (z6 : Int32) (z7 : Int32) (z9 : Int32), K z5 z6 z7 z9 → ∀ (H : Heap) (locs : List Loc), fw_H G ((kw G ad kt) iv ar) A s H locs → ∀ (ls : Array Slot), lv_has ls 11 [(9, .int z9), (8, .int z8), (7, .int z7), (6, .int z6), (5, .int z5), (4, .ref (ad (28 + 2 * i2))), (0, .ref (ad 0)), (2, .int x2), (3, .int x3)] → W p l e rmX9_best s m args below meth c H locs 0 0 (MQ below (fw_Qi G (kw G ad kt) (fun r iv1 ar1 => Q r ∧ iv = iv1 ∧ ar = ar1) A) args s 0 0 A) (F0 m 113 ls [])) : ∀ (fu : Nat) (z5 : Int32) (z6 : Int32) (z7 : Int32) (z9 : Int32), wpX9_best_L68 kt x1 x2 x3 z8 i2 iv ar Q K fu z5 z6 z7 z9 → ∀ (H : Heap) (locs : List Loc), fw_H G ((kw G ad kt) iv ar) A s H locs → ∀ (ls : Array Slot), lv_has ls 11 [(9, .int z9), (8, .int z8), (7, .int z7), (6, .int z6), (5, .int z5), (4, .ref (ad (28 + 2 * i2))), (0, .ref (ad 0)), (2, .int x2), (3, .int x3)] → W p l e rmX9_best s m args below meth c H locs 0 0 (MQ below (fw_Qi G (kw G ad kt) (fun r iv1 ar1 => Q r ∧ iv = iv1 ∧ ar = ar1) A) args s 0 0 A) (F0 m 68 ls []) := by
  intro fu
  induction fu with
  | zero => intro z5 z6 z7 z9 h; exact h.elim
  | succ fu ih =>
    intro z5 z6 z7 z9 h H locs hG ls hl
    unfold wpX9_best_L68 at h
    refine lv_iload C.1 C.2.1 dX9_best_68 (lv_at hl 0 rfl) ?_
    refine lv_bipush (v := 23) C.1 C.2.1 dX9_best_70 (by decide) ?_
    refine lv_icmp_gt (tgt := 113) C.1 C.2.1 dX9_best_72 (by decide) (fun c9 => ?_) (fun c9 => ?_)
    · have h := h.1 c9
      exact hX _ _ _ _ h _ _ hG ls (lv_sub hl [0, 1, 2, 3, 4, 5, 6, 7, 8] rfl)
    · have h := h.2 c9
      refine lv_aload_n C.1 C.2.1 dX9_best_75 rfl (lv_at hl 6 rfl) ?_
      refine lv_aload C.1 C.2.1 dX9_best_76 (lv_at hl 5 rfl) ?_
      refine lv_iload C.1 C.2.1 dX9_best_78 (lv_at hl 0 rfl) ?_
      refine lv_iload C.1 C.2.1 dX9_best_80 (lv_at hl 1 rfl) ?_
      refine lv_iload_n C.1 C.2.1 dX9_best_82 rfl (lv_at hl 7 rfl) ?_
      refine fw_rcalli (va_runV (As := [.ref (ad (28 + 2 * i2)), .int z9, .int z8, .int x2]) (rest := []) ⟨C.1, C.2.1, C.2.2.2.2.2.2, C.2.2.2.2.2.1, C.2.2.2.2.1⟩ (soX9_stickWeight l G ad kt iv ar i2 z9 z8 x2 _ hi2 h H.size) (cwV 4 C.2.2.2.2.1 gX9_best_X9_stickWeight rfl rfl rfl (by decide +kernel) ⟨Nat.le_of_ble_eq_true rfl, Nat.le_of_ble_eq_true rfl⟩) (fw_preV hG hK (ci := 9) rfl kw_o9) rfl rfl hl.1 rfl (lv_room (Nat.le_of_ble_eq_true rfl)) dX9_best_83 ⟨Nat.zero_le _, Nat.zero_le _⟩) hG hK (fun r10  H locs h hG => ?_)
      refine lv_istore (lv' := [(10, .int r10), (9, .int z9), (8, .int z8), (7, .int z7), (6, .int z6), (5, .int z5), (4, .ref (ad (28 + 2 * i2))), (0, .ref (ad 0)), (2, .int x2), (3, .int x3)]) C.1 C.2.1 dX9_best_86 hl (by decide) rfl (fun ls hl => ?_)
      refine lv_iload C.1 C.2.1 dX9_best_88 (lv_at hl 0 rfl) ?_
      refine lv_iload C.1 C.2.1 dX9_best_90 (lv_at hl 5 rfl) ?_
      refine lv_icmp_le (tgt := 107) C.1 C.2.1 dX9_best_92 (by decide) (fun c11 => ?_) (fun c11 => ?_)
      · have h := h.1 c11
        obtain ⟨y12, ey12⟩ : ∃ z : Int32, z = z9 + 1 := ⟨_, rfl⟩
        have h := h y12 ey12
        refine lv_iinc (v := y12) (lv' := [(9, .int y12), (10, .int r10), (8, .int z8), (7, .int z7), (6, .int z6), (5, .int z5), (4, .ref (ad (28 + 2 * i2))), (0, .ref (ad 0)), (2, .int x2), (3, .int x3)]) C.1 C.2.1 dX9_best_107 hl (k := 1) rfl (by rw [ey12]; rfl) (by decide) rfl (fun ls hl => ?_)
        refine lv_goto (tgt := 68) C.1 C.2.1 dX9_best_110 (by decide) ?_
        exact ih _ _ _ _ h _ _ hG ls (lv_sub hl [0, 2, 3, 4, 5, 6, 7, 8, 9] rfl)
      · have h := h.2 c11
        refine lv_iload C.1 C.2.1 dX9_best_95 (lv_at hl 0 rfl) ?_
        refine lv_istore (lv' := [(5, .int r10), (10, .int r10), (9, .int z9), (8, .int z8), (7, .int z7), (6, .int z6), (4, .ref (ad (28 + 2 * i2))), (0, .ref (ad 0)), (2, .int x2), (3, .int x3)]) C.1 C.2.1 dX9_best_97 hl (by decide) rfl (fun ls hl => ?_)
        refine lv_iload C.1 C.2.1 dX9_best_99 (lv_at hl 3 rfl) ?_
        refine lv_istore (lv' := [(6, .int z8), (5, .int r10), (10, .int r10), (9, .int z9), (8, .int z8), (7, .int z7), (4, .ref (ad (28 + 2 * i2))), (0, .ref (ad 0)), (2, .int x2), (3, .int x3)]) C.1 C.2.1 dX9_best_101 hl (by decide) rfl (fun ls hl => ?_)
        refine lv_iload C.1 C.2.1 dX9_best_103 (lv_at hl 3 rfl) ?_
        refine lv_istore (lv' := [(7, .int z9), (6, .int z8), (5, .int r10), (10, .int r10), (9, .int z9), (8, .int z8), (4, .ref (ad (28 + 2 * i2))), (0, .ref (ad 0)), (2, .int x2), (3, .int x3)]) C.1 C.2.1 dX9_best_105 hl (by decide) rfl (fun ls hl => ?_)
        obtain ⟨y13, ey13⟩ : ∃ z : Int32, z = z9 + 1 := ⟨_, rfl⟩
        have h := h y13 ey13
        refine lv_iinc (v := y13) (lv' := [(9, .int y13), (7, .int z9), (6, .int z8), (5, .int r10), (10, .int r10), (8, .int z8), (4, .ref (ad (28 + 2 * i2))), (0, .ref (ad 0)), (2, .int x2), (3, .int x3)]) C.1 C.2.1 dX9_best_107 hl (k := 4) rfl (by rw [ey13]; rfl) (by decide) rfl (fun ls hl => ?_)
        refine lv_goto (tgt := 68) C.1 C.2.1 dX9_best_110 (by decide) ?_
        exact ih _ _ _ _ h _ _ hG ls (lv_sub hl [0, 5, 1, 2, 3, 6, 7, 8, 9] rfl)

set_option maxHeartbeats 4000000 in
set_option maxRecDepth 100000 in
theorem soX9_best_L58 {p : Program} {l : Launch} {e : Env} {s : State} {m : MethodId} {args : Array Value} {below : List Frame} {meth : Method} {c : Code} {A : Nat → Prop} {G : fw_G} {ad : Nat → Nat} {kt : kw_T} {x1 : Int32} {x2 : Int32} {x3 : Int32} {i2 : Nat} {iv : fw_F} {ar : fw_R} {Q : Int32 → Prop} {K : Int32 → Int32 → Int32 → Int32 → Prop} (C : fw_C p s m args meth c cX9_best 11 (some .int) wsX9_best RX9) (hK : fw_K G A s) (hi2 : i2 < kt.1) (hX : ∀ (z5 : Int32) (z6 : Int32) (z7 : Int32) (z8 : Int32), K z5 z6 z7 z8 → ∀ (H : Heap) (locs : List Loc), fw_H G ((kw G ad kt) iv ar) A s H locs → ∀ (ls : Array Slot), lv_has ls 11 [(8, .int z8), (7, .int z7), (6, .int z6), (5, .int z5), (4, .ref (ad (28 + 2 * i2))), (0, .ref (ad 0)), (2, .int x2), (3, .int x3)] → W p l e rmX9_best s m args below meth c H locs 0 0 (MQ below (fw_Qi G (kw G ad kt) (fun r iv1 ar1 => Q r ∧ iv = iv1 ∧ ar = ar1) A) args s 0 0 A) (F0 m 119 ls [])) : ∀ (fu : Nat) (z5 : Int32) (z6 : Int32) (z7 : Int32) (z8 : Int32), wpX9_best_L58 kt x1 x2 x3 i2 iv ar Q K fu z5 z6 z7 z8 → ∀ (H : Heap) (locs : List Loc), fw_H G ((kw G ad kt) iv ar) A s H locs → ∀ (ls : Array Slot), lv_has ls 11 [(8, .int z8), (7, .int z7), (6, .int z6), (5, .int z5), (4, .ref (ad (28 + 2 * i2))), (0, .ref (ad 0)), (2, .int x2), (3, .int x3)] → W p l e rmX9_best s m args below meth c H locs 0 0 (MQ below (fw_Qi G (kw G ad kt) (fun r iv1 ar1 => Q r ∧ iv = iv1 ∧ ar = ar1) A) args s 0 0 A) (F0 m 58 ls []) := by
  intro fu
  induction fu with
  | zero => intro z5 z6 z7 z8 h; exact h.elim
  | succ fu ih =>
    intro z5 z6 z7 z8 h H locs hG ls hl
    unfold wpX9_best_L58 at h
    refine lv_iload C.1 C.2.1 dX9_best_58 (lv_at hl 0 rfl) ?_
    refine lv_bipush (v := 40) C.1 C.2.1 dX9_best_60 (by decide) ?_
    refine lv_icmp_gt (tgt := 119) C.1 C.2.1 dX9_best_62 (by decide) (fun c8 => ?_) (fun c8 => ?_)
    · have h := h.1 c8
      exact hX _ _ _ _ h _ _ hG ls (lv_sub hl [0, 1, 2, 3, 4, 5, 6, 7] rfl)
    · have h := h.2 c8
      refine lv_iconst (v := 0) C.1 C.2.1 dX9_best_65 (by decide) ?_
      refine lv_istore (lv' := [(9, .int 0), (8, .int z8), (7, .int z7), (6, .int z6), (5, .int z5), (4, .ref (ad (28 + 2 * i2))), (0, .ref (ad 0)), (2, .int x2), (3, .int x3)]) C.1 C.2.1 dX9_best_66 hl (by decide) rfl (fun ls hl => ?_)
      obtain ⟨ku, h⟩ := h
      refine soX9_best_L68 C hK hi2 ?_ ku _ _ _ _ h _ _ hG ls (lv_sub hl [0, 1, 2, 3, 4, 5, 6, 7, 8] rfl)
      intro w14 w15 w16 w17 h H locs hG ls hl
      obtain ⟨y18, ey18⟩ : ∃ z : Int32, z = z8 + 1 := ⟨_, rfl⟩
      have h := h y18 ey18
      refine lv_iinc (v := y18) (lv' := [(8, .int y18), (9, .int w17), (7, .int w16), (6, .int w15), (5, .int w14), (4, .ref (ad (28 + 2 * i2))), (0, .ref (ad 0)), (2, .int x2), (3, .int x3)]) C.1 C.2.1 dX9_best_113 hl (k := 1) rfl (by rw [ey18]; rfl) (by decide) rfl (fun ls hl => ?_)
      refine lv_goto (tgt := 58) C.1 C.2.1 dX9_best_116 (by decide) ?_
      exact ih _ _ _ _ h _ _ hG ls (lv_sub hl [0, 2, 3, 4, 5, 6, 7, 8] rfl)

set_option maxHeartbeats 4000000 in
set_option maxRecDepth 100000 in
theorem soX9_best (l : Launch) (G : fw_G) (ad : Nat → Nat) (kt : kw_T) (iv : fw_F) (ar : fw_R) (x1 : Int32) (x2 : Int32) (x3 : Int32) (Q : Int32 → Prop)  (h : wpX9_best kt iv ar x1 x2 x3 Q) : fw_M l G (kw G ad kt) yX9_best wsX9_best rmX9_best [.ref (ad 0), .int x1, .int x2, .int x3] iv ar (fw_Qi G (kw G ad kt) (fun r iv1 ar1 => Q r ∧ iv = iv1 ∧ ar = ar1)) := by
  refine fw_start (cc := cX9_best) (nL := 11) (rt := (some .int)) (by decide) rfl (Nat.le_of_ble_eq_true rfl) ?_
  intro p e s m below meth c A ls H locs C hK hG hl
  obtain ⟨args, ea⟩ : ∃ z : Array Value, z = ([.ref (ad 0), .int x1, .int x2, .int x3] : List Value).toArray := ⟨_, rfl⟩
  rw [← ea] at C ⊢
  have C : fw_C p s m args meth c cX9_best 11 (some .int) wsX9_best RX9 := C
  have hl : lv_has ls 11 [(0, .ref (ad 0)), (1, .int x1), (2, .int x2), (3, .int x3)] := hl
  unfold wpX9_best at h
  have in_X1 : ∀ x ∈ wsX10, x ∈ wsX9_best := by decide +kernel
  have in_X9 : ∀ x ∈ wsX90, x ∈ wsX9_best := by decide +kernel
  have k145 := C.2.2.2.2.1 (.fieldLink RX9 145 "KnifeBoard$Hand" "told" "Z") (by decide +kernel)
  have k24 := C.2.2.2.2.1 (.fieldLink RX9 24 "KnifeBoard" "theHand" "LKnifeBoard$Hand;") (by decide +kernel)
  refine lv_aload_n C.1 C.2.1 dX9_best_0 rfl (lv_at hl 0 rfl) ?_
  refine lv_iload_n C.1 C.2.1 dX9_best_1 rfl (lv_at hl 1 rfl) ?_
  refine fw_rcallq (va_runV (As := [.int x1]) (rest := []) ⟨C.1, C.2.1, C.2.2.2.2.2.2, C.2.2.2.2.2.1, C.2.2.2.2.1⟩ (soX9_knifeAt l G ad kt iv ar x1 _  h H.size) (cwV 1 C.2.2.2.2.1 gX9_best_X9_knifeAt rfl rfl rfl (by decide +kernel) ⟨Nat.le_of_ble_eq_true rfl, Nat.le_of_ble_eq_true rfl⟩) (fw_preV hG hK (ci := 9) rfl kw_o9) rfl rfl hl.1 rfl (lv_room (Nat.le_of_ble_eq_true rfl)) dX9_best_2 ⟨Nat.zero_le _, Nat.zero_le _⟩) hG hK (fun r1  H locs h hG => ?_)
  rcases r1 with _ | i2
  · have h := h.1 rfl
    refine W.eq (g2 := F0 m 5 ls (.null :: [])) rfl ?_
    refine lv_astoreN (lv' := [(4, .null), (0, .ref (ad 0)), (1, .int x1), (2, .int x2), (3, .int x3)]) C.1 C.2.1 dX9_best_5 hl (by decide) rfl (fun ls hl => ?_)
    refine lv_aloadN C.1 C.2.1 dX9_best_7 (lv_at hl 0 rfl) ?_
    refine lv_ifnonnullN C.1 C.2.1 dX9_best_9 ?_
    refine lv_iconst (v := (-1)) C.1 C.2.1 dX9_best_12 (by decide) ?_
    exact fw_iret C hG ⟨h, rfl, rfl⟩ dX9_best_13
  · obtain ⟨hi2, h⟩ := h.2 i2 rfl
    refine W.eq (g2 := F0 m 5 ls (.ref (ad (28 + 2 * i2)) :: [])) rfl ?_
    refine lv_astore (lv' := [(4, .ref (ad (28 + 2 * i2))), (0, .ref (ad 0)), (1, .int x1), (2, .int x2), (3, .int x3)]) C.1 C.2.1 dX9_best_5 hl (by decide) rfl (fun ls hl => ?_)
    refine lv_aload C.1 C.2.1 dX9_best_7 (lv_at hl 0 rfl) ?_
    refine lv_ifnonnull (tgt := 14) C.1 C.2.1 dX9_best_9 (by decide) ?_
    refine lv_iload_n C.1 C.2.1 dX9_best_14 rfl (lv_at hl 3 rfl) ?_
    refine fw_pcalli (va_runS (As := [.int x2]) (rest := []) ⟨C.1, C.2.1, C.2.2.2.2.2.2, C.2.2.2.2.2.1, C.2.2.2.2.1⟩ (soX9_isStage l x2 _ h H.size) (va_cwS 1 C.2.2.2.2.1 gX9_best_X9_isStage rfl rfl rfl (by decide +kernel) ⟨Nat.le_of_ble_eq_true rfl, Nat.le_of_ble_eq_true rfl⟩) fw_ppre rfl rfl hl.1 rfl (lv_room (Nat.le_of_ble_eq_true rfl)) dX9_best_15 ⟨Nat.zero_le _, Nat.zero_le _⟩) hG hK (fun r3  H locs h hG => ?_)
    refine lv_if_eq (tgt := 30) C.1 C.2.1 dX9_best_18 (by decide) (fun c4 => ?_) (fun c4 => ?_)
    · have h := h.1 c4
      refine lv_bipush (v := (-2)) C.1 C.2.1 dX9_best_30 (by decide) ?_
      exact fw_iret C hG ⟨h, rfl, rfl⟩ dX9_best_32
    · have h := h.2 c4
      refine lv_iload_n C.1 C.2.1 dX9_best_21 rfl (lv_at hl 4 rfl) ?_
      refine lv_iconst (v := 0) C.1 C.2.1 dX9_best_22 (by decide) ?_
      refine lv_iconst (v := 1) C.1 C.2.1 dX9_best_23 (by decide) ?_
      refine fw_pcalli (va_runS (As := [.int x3, .int 0, .int 1]) (rest := []) ⟨C.1, C.2.1, C.2.2.2.2.2.2, C.2.2.2.2.2.1, C.2.2.2.2.1⟩ (soX9_within l x3 0 1 _ h H.size) (va_cwS 3 C.2.2.2.2.1 gX9_best_X9_within rfl rfl rfl (by decide +kernel) ⟨Nat.le_of_ble_eq_true rfl, Nat.le_of_ble_eq_true rfl⟩) fw_ppre rfl rfl hl.1 rfl (lv_room (Nat.le_of_ble_eq_true rfl)) dX9_best_24 ⟨Nat.zero_le _, Nat.zero_le _⟩) hG hK (fun r5  H locs h hG => ?_)
      refine lv_if_ne (tgt := 33) C.1 C.2.1 dX9_best_27 (by decide) (fun c6 => ?_) (fun c6 => ?_)
      · have h := h.1 c6
        refine lv_aload_n C.1 C.2.1 dX9_best_33 rfl (lv_at hl 1 rfl) ?_
        refine fw_get (w := (kw G ad kt)) C in_X9 hK hG 0 kw_o9 rfl 2 (by decide) k24 rfl rfl dX9_best_34 ?_
        refine fw_get (w := (kw G ad kt)) C in_X1 hK hG 2 kw_o1 rfl 1 (by decide) k145 rfl rfl dX9_best_37 ?_
        refine lv_if_ne (tgt := 46) C.1 C.2.1 dX9_best_40 (by decide) (fun c7 => ?_) (fun c7 => ?_)
        · have h := h.1 c7
          refine lv_iconst (v := (-1)) C.1 C.2.1 dX9_best_46 (by decide) ?_
          refine lv_istore (lv' := [(5, .int (-1)), (4, .ref (ad (28 + 2 * i2))), (0, .ref (ad 0)), (1, .int x1), (2, .int x2), (3, .int x3)]) C.1 C.2.1 dX9_best_47 hl (by decide) rfl (fun ls hl => ?_)
          refine lv_iconst (v := 0) C.1 C.2.1 dX9_best_49 (by decide) ?_
          refine lv_istore (lv' := [(6, .int 0), (5, .int (-1)), (4, .ref (ad (28 + 2 * i2))), (0, .ref (ad 0)), (1, .int x1), (2, .int x2), (3, .int x3)]) C.1 C.2.1 dX9_best_50 hl (by decide) rfl (fun ls hl => ?_)
          refine lv_iconst (v := 0) C.1 C.2.1 dX9_best_52 (by decide) ?_
          refine lv_istore (lv' := [(7, .int 0), (6, .int 0), (5, .int (-1)), (4, .ref (ad (28 + 2 * i2))), (0, .ref (ad 0)), (1, .int x1), (2, .int x2), (3, .int x3)]) C.1 C.2.1 dX9_best_53 hl (by decide) rfl (fun ls hl => ?_)
          refine lv_iconst (v := 1) C.1 C.2.1 dX9_best_55 (by decide) ?_
          refine lv_istore (lv' := [(8, .int 1), (7, .int 0), (6, .int 0), (5, .int (-1)), (4, .ref (ad (28 + 2 * i2))), (0, .ref (ad 0)), (1, .int x1), (2, .int x2), (3, .int x3)]) C.1 C.2.1 dX9_best_56 hl (by decide) rfl (fun ls hl => ?_)
          obtain ⟨ku, h⟩ := h
          refine soX9_best_L58 C hK hi2 ?_ ku _ _ _ _ h _ _ hG ls (lv_sub hl [0, 1, 2, 3, 4, 5, 7, 8] rfl)
          intro w19 w20 w21 w22 h H locs hG ls hl
          refine lv_iload_n C.1 C.2.1 dX9_best_119 rfl (lv_at hl 7 rfl) ?_
          refine lv_if_ne (tgt := 128) C.1 C.2.1 dX9_best_120 (by decide) (fun c23 => ?_) (fun c23 => ?_)
          · have h := h.1 c23
            refine lv_iload C.1 C.2.1 dX9_best_128 (lv_at hl 1 rfl) ?_
            exact fw_iret C hG ⟨h, rfl, rfl⟩ dX9_best_130
          · have h := h.2 c23
            refine lv_iload C.1 C.2.1 dX9_best_123 (lv_at hl 2 rfl) ?_
            refine lv_goto (tgt := 130) C.1 C.2.1 dX9_best_125 (by decide) ?_
            exact fw_iret C hG ⟨h, rfl, rfl⟩ dX9_best_130
        · have h := h.2 c7
          refine lv_bipush (v := (-3)) C.1 C.2.1 dX9_best_43 (by decide) ?_
          exact fw_iret C hG ⟨h, rfl, rfl⟩ dX9_best_45
      · have h := h.2 c6
        refine lv_bipush (v := (-2)) C.1 C.2.1 dX9_best_30 (by decide) ?_
        exact fw_iret C hG ⟨h, rfl, rfl⟩ dX9_best_32
/-! KnifeBoard.board(IIII)I -/
def rmX9_board : Room := { frames := 5, cells := 0, slots := 0, locals := 121 }
def wpX9_board (kt : kw_T) (iv : fw_F) (ar : fw_R) (x1 : Int32) (x2 : Int32) (x3 : Int32) (x4 : Int32) (Q : Int32 → fw_F → fw_R → Prop) : Prop := wpX9_takeText kt iv ar x1 x2 x3 x4 (fun (r1 : Int32) (iv2 : fw_F) (ar3 : fw_R) => (r1 = 0 → (wpX0_firstFault kt iv2 ar3 x4 (fun (r5 : Int32) => (r5 = (-9) → (wpX0_read kt iv2 ar3 x4 (fun (iv7 : fw_F) (ar8 : fw_R) => wpX0_count kt iv7 ar8  (fun (r9 : Int32) => Q r9 iv7 ar8)))) ∧ (¬ r5 = (-9) → (Q ((-100) - r5) iv2 ar3))))) ∧ (¬ r1 = 0 → (Q r1 iv2 ar3)))
set_option maxHeartbeats 4000000 in
set_option maxRecDepth 100000 in
theorem soX9_board (l : Launch) (G : fw_G) (ad : Nat → Nat) (kt : kw_T) (iv : fw_F) (ar : fw_R) (x1 : Int32) (x2 : Int32) (x3 : Int32) (x4 : Int32) (Q : Int32 → fw_F → fw_R → Prop)  (h : wpX9_board kt iv ar x1 x2 x3 x4 Q) : fw_M l G (kw G ad kt) yX9_board wsX9_board rmX9_board [.ref (ad 0), .int x1, .int x2, .int x3, .int x4] iv ar (fw_Qi G (kw G ad kt) Q) := by
  refine fw_start (cc := cX9_board) (nL := 7) (rt := (some .int)) (by decide) rfl (Nat.le_of_ble_eq_true rfl) ?_
  intro p e s m below meth c A ls H locs C hK hG hl
  obtain ⟨args, ea⟩ : ∃ z : Array Value, z = ([.ref (ad 0), .int x1, .int x2, .int x3, .int x4] : List Value).toArray := ⟨_, rfl⟩
  rw [← ea] at C ⊢
  have C : fw_C p s m args meth c cX9_board 7 (some .int) wsX9_board RX9 := C
  have hl : lv_has ls 7 [(0, .ref (ad 0)), (1, .int x1), (2, .int x2), (3, .int x3), (4, .int x4)] := hl
  unfold wpX9_board at h
  have in_X9 : ∀ x ∈ wsX90, x ∈ wsX9_board := by decide +kernel
  have k31 := C.2.2.2.2.1 (.fieldLink RX9 31 "KnifeBoard" "theBoard" "LKnifeBoard$Board;") (by decide +kernel)
  have k56 := C.2.2.2.2.1 (.fieldLink RX9 56 "KnifeBoard" "taken" "[I") (by decide +kernel)
  refine lv_aload_n C.1 C.2.1 dX9_board_0 rfl (lv_at hl 0 rfl) ?_
  refine lv_iload_n C.1 C.2.1 dX9_board_1 rfl (lv_at hl 1 rfl) ?_
  refine lv_iload_n C.1 C.2.1 dX9_board_2 rfl (lv_at hl 2 rfl) ?_
  refine lv_iload_n C.1 C.2.1 dX9_board_3 rfl (lv_at hl 3 rfl) ?_
  refine lv_iload C.1 C.2.1 dX9_board_4 (lv_at hl 4 rfl) ?_
  refine fw_calli (va_runV (As := [.int x1, .int x2, .int x3, .int x4]) (rest := []) ⟨C.1, C.2.1, C.2.2.2.2.2.2, C.2.2.2.2.2.1, C.2.2.2.2.1⟩ (soX9_takeText l G ad kt iv ar x1 x2 x3 x4 _  h H.size) (cwV 4 C.2.2.2.2.1 gX9_board_X9_takeText rfl rfl rfl (by decide +kernel) ⟨Nat.le_of_ble_eq_true rfl, Nat.le_of_ble_eq_true rfl⟩) (fw_preV hG hK (ci := 9) rfl kw_o9) rfl rfl hl.1 rfl (lv_room (Nat.le_of_ble_eq_true rfl)) dX9_board_6 ⟨Nat.zero_le _, Nat.zero_le _⟩) hG hK (fun r1 iv2 ar3 H locs h hG => ?_)
  refine lv_istore (lv' := [(5, .int r1), (0, .ref (ad 0)), (1, .int x1), (2, .int x2), (3, .int x3), (4, .int x4)]) C.1 C.2.1 dX9_board_9 hl (by decide) rfl (fun ls hl => ?_)
  refine lv_iload C.1 C.2.1 dX9_board_11 (lv_at hl 0 rfl) ?_
  refine lv_if_eq (tgt := 19) C.1 C.2.1 dX9_board_13 (by decide) (fun c4 => ?_) (fun c4 => ?_)
  · have h := h.1 c4
    refine lv_aload_n C.1 C.2.1 dX9_board_19 rfl (lv_at hl 1 rfl) ?_
    refine fw_get (w := (kw G ad kt)) C in_X9 hK hG 0 kw_o9 rfl 7 (by decide) k56 rfl rfl dX9_board_20 ?_
    refine lv_iload C.1 C.2.1 dX9_board_23 (lv_at hl 5 rfl) ?_
    refine fw_rcalli (va_runS (As := [.ref (ad 25), .int x4]) (rest := []) ⟨C.1, C.2.1, C.2.2.2.2.2.2, C.2.2.2.2.2.1, C.2.2.2.2.1⟩ (soX0_firstFault l G ad kt iv2 ar3 x4 _  h H.size) (va_cwS 2 C.2.2.2.2.1 gX9_board_X0_firstFault rfl rfl rfl (by decide +kernel) ⟨Nat.le_of_ble_eq_true rfl, Nat.le_of_ble_eq_true rfl⟩) (fw_preS hG hK) rfl rfl hl.1 rfl (lv_room (Nat.le_of_ble_eq_true rfl)) dX9_board_25 ⟨Nat.zero_le _, Nat.zero_le _⟩) hG hK (fun r5  H locs h hG => ?_)
    refine lv_istore (lv' := [(6, .int r5), (5, .int r1), (0, .ref (ad 0)), (1, .int x1), (2, .int x2), (3, .int x3), (4, .int x4)]) C.1 C.2.1 dX9_board_28 hl (by decide) rfl (fun ls hl => ?_)
    refine lv_iload C.1 C.2.1 dX9_board_30 (lv_at hl 0 rfl) ?_
    refine lv_bipush (v := (-9)) C.1 C.2.1 dX9_board_32 (by decide) ?_
    refine lv_icmp_eq (tgt := 43) C.1 C.2.1 dX9_board_34 (by decide) (fun c6 => ?_) (fun c6 => ?_)
    · have h := h.1 c6
      refine lv_aload_n C.1 C.2.1 dX9_board_43 rfl (lv_at hl 2 rfl) ?_
      refine fw_get (w := (kw G ad kt)) C in_X9 hK hG 0 kw_o9 rfl 3 (by decide) k31 rfl rfl dX9_board_44 ?_
      refine lv_aload_n C.1 C.2.1 dX9_board_47 rfl (lv_at hl 2 rfl) ?_
      refine fw_get (w := (kw G ad kt)) C in_X9 hK hG 0 kw_o9 rfl 7 (by decide) k56 rfl rfl dX9_board_48 ?_
      refine lv_iload C.1 C.2.1 dX9_board_51 (lv_at hl 6 rfl) ?_
      refine fw_callv (va_runV (As := [.ref (ad 25), .int x4]) (rest := []) ⟨C.1, C.2.1, C.2.2.2.2.2.2, C.2.2.2.2.2.1, C.2.2.2.2.1⟩ (soX0_read l G ad kt iv2 ar3 x4 _  h H.size) (cwV 2 C.2.2.2.2.1 gX9_board_X0_read rfl rfl rfl (by decide +kernel) ⟨Nat.le_of_ble_eq_true rfl, Nat.le_of_ble_eq_true rfl⟩) (fw_preV hG hK (ci := 0) rfl kw_o0) rfl rfl hl.1 rfl (lv_room (Nat.le_of_ble_eq_true rfl)) dX9_board_53 ⟨Nat.zero_le _, Nat.zero_le _⟩) hG hK (fun iv7 ar8 H locs h hG => ?_)
      refine lv_aload_n C.1 C.2.1 dX9_board_56 rfl (lv_at hl 2 rfl) ?_
      refine fw_get (w := (kw G ad kt)) C in_X9 hK hG 0 kw_o9 rfl 3 (by decide) k31 rfl rfl dX9_board_57 ?_
      refine fw_rcalli (va_runV (As := []) (rest := []) ⟨C.1, C.2.1, C.2.2.2.2.2.2, C.2.2.2.2.2.1, C.2.2.2.2.1⟩ (soX0_count l G ad kt iv7 ar8  _  h H.size) (cwV 0 C.2.2.2.2.1 gX9_board_X0_count rfl rfl rfl (by decide +kernel) ⟨Nat.le_of_ble_eq_true rfl, Nat.le_of_ble_eq_true rfl⟩) (fw_preV hG hK (ci := 0) rfl kw_o0) rfl rfl hl.1 rfl (lv_room (Nat.le_of_ble_eq_true rfl)) dX9_board_60 ⟨Nat.zero_le _, Nat.zero_le _⟩) hG hK (fun r9  H locs h hG => ?_)
      exact fw_iret C hG h dX9_board_63
    · have h := h.2 c6
      refine lv_bipush (v := (-100)) C.1 C.2.1 dX9_board_37 (by decide) ?_
      refine lv_iload C.1 C.2.1 dX9_board_39 (lv_at hl 0 rfl) ?_
      refine lv_isub C.1 C.2.1 dX9_board_41 ?_
      exact fw_iret C hG h dX9_board_42
  · have h := h.2 c4
    refine lv_iload C.1 C.2.1 dX9_board_16 (lv_at hl 0 rfl) ?_
    exact fw_iret C hG h dX9_board_18
/-! KnifeBoard.ofCell(I)I -/
def rmX9_ofCell : Room := { frames := 3, cells := 0, slots := 0, locals := 70 }
def wpX9_ofCell (kt : kw_T) (iv : fw_F) (ar : fw_R) (x1 : Int32) (Q : Int32 → Prop) : Prop := wpX0_knows kt iv ar x1 (fun (r1 : Int32) => (¬ r1 = 0 → (wpX0_rowOf kt iv ar x1 (fun (r3 : Int32) => wpX0_columnOf kt iv ar x1 (fun (r4 : Int32) => wpX0_letterAt kt iv ar r3 r4 0 (fun (r5 : Int32) => Q r5))))) ∧ (r1 = 0 → (Q (-1))))
set_option maxHeartbeats 4000000 in
set_option maxRecDepth 100000 in
theorem soX9_ofCell (l : Launch) (G : fw_G) (ad : Nat → Nat) (kt : kw_T) (iv : fw_F) (ar : fw_R) (x1 : Int32) (Q : Int32 → Prop)  (h : wpX9_ofCell kt iv ar x1 Q) : fw_M l G (kw G ad kt) yX9_ofCell wsX9_ofCell rmX9_ofCell [.ref (ad 0), .int x1] iv ar (fw_Qi G (kw G ad kt) (fun r iv1 ar1 => Q r ∧ iv = iv1 ∧ ar = ar1)) := by
  refine fw_start (cc := cX9_ofCell) (nL := 2) (rt := (some .int)) (by decide) rfl (Nat.le_of_ble_eq_true rfl) ?_
  intro p e s m below meth c A ls H locs C hK hG hl
  obtain ⟨args, ea⟩ : ∃ z : Array Value, z = ([.ref (ad 0), .int x1] : List Value).toArray := ⟨_, rfl⟩
  rw [← ea] at C ⊢
  have C : fw_C p s m args meth c cX9_ofCell 2 (some .int) wsX9_ofCell RX9 := C
  have hl : lv_has ls 2 [(0, .ref (ad 0)), (1, .int x1)] := hl
  unfold wpX9_ofCell at h
  have in_X9 : ∀ x ∈ wsX90, x ∈ wsX9_ofCell := by decide +kernel
  have k31 := C.2.2.2.2.1 (.fieldLink RX9 31 "KnifeBoard" "theBoard" "LKnifeBoard$Board;") (by decide +kernel)
  refine lv_aload_n C.1 C.2.1 dX9_ofCell_0 rfl (lv_at hl 0 rfl) ?_
  refine fw_get (w := (kw G ad kt)) C in_X9 hK hG 0 kw_o9 rfl 3 (by decide) k31 rfl rfl dX9_ofCell_1 ?_
  refine lv_iload_n C.1 C.2.1 dX9_ofCell_4 rfl (lv_at hl 1 rfl) ?_
  refine fw_rcalli (va_runV (As := [.int x1]) (rest := []) ⟨C.1, C.2.1, C.2.2.2.2.2.2, C.2.2.2.2.2.1, C.2.2.2.2.1⟩ (soX0_knows l G ad kt iv ar x1 _  h H.size) (cwV 1 C.2.2.2.2.1 gX9_ofCell_X0_knows rfl rfl rfl (by decide +kernel) ⟨Nat.le_of_ble_eq_true rfl, Nat.le_of_ble_eq_true rfl⟩) (fw_preV hG hK (ci := 0) rfl kw_o0) rfl rfl hl.1 rfl (lv_room (Nat.le_of_ble_eq_true rfl)) dX9_ofCell_5 ⟨Nat.zero_le _, Nat.zero_le _⟩) hG hK (fun r1  H locs h hG => ?_)
  refine lv_if_ne (tgt := 13) C.1 C.2.1 dX9_ofCell_8 (by decide) (fun c2 => ?_) (fun c2 => ?_)
  · have h := h.1 c2
    refine lv_aload_n C.1 C.2.1 dX9_ofCell_13 rfl (lv_at hl 0 rfl) ?_
    refine fw_get (w := (kw G ad kt)) C in_X9 hK hG 0 kw_o9 rfl 3 (by decide) k31 rfl rfl dX9_ofCell_14 ?_
    refine lv_aload_n C.1 C.2.1 dX9_ofCell_17 rfl (lv_at hl 0 rfl) ?_
    refine fw_get (w := (kw G ad kt)) C in_X9 hK hG 0 kw_o9 rfl 3 (by decide) k31 rfl rfl dX9_ofCell_18 ?_
    refine lv_iload_n C.1 C.2.1 dX9_ofCell_21 rfl (lv_at hl 1 rfl) ?_
    refine fw_rcalli (va_runV (As := [.int x1]) (rest := [.ref (ad 4)]) ⟨C.1, C.2.1, C.2.2.2.2.2.2, C.2.2.2.2.2.1, C.2.2.2.2.1⟩ (soX0_rowOf l G ad kt iv ar x1 _  h H.size) (cwV 1 C.2.2.2.2.1 gX9_ofCell_X0_rowOf rfl rfl rfl (by decide +kernel) ⟨Nat.le_of_ble_eq_true rfl, Nat.le_of_ble_eq_true rfl⟩) (fw_preV hG hK (ci := 0) rfl kw_o0) rfl rfl hl.1 rfl (lv_room (Nat.le_of_ble_eq_true rfl)) dX9_ofCell_22 ⟨Nat.zero_le _, Nat.zero_le _⟩) hG hK (fun r3  H locs h hG => ?_)
    refine lv_aload_n C.1 C.2.1 dX9_ofCell_25 rfl (lv_at hl 0 rfl) ?_
    refine fw_get (w := (kw G ad kt)) C in_X9 hK hG 0 kw_o9 rfl 3 (by decide) k31 rfl rfl dX9_ofCell_26 ?_
    refine lv_iload_n C.1 C.2.1 dX9_ofCell_29 rfl (lv_at hl 1 rfl) ?_
    refine fw_rcalli (va_runV (As := [.int x1]) (rest := [.int r3, .ref (ad 4)]) ⟨C.1, C.2.1, C.2.2.2.2.2.2, C.2.2.2.2.2.1, C.2.2.2.2.1⟩ (soX0_columnOf l G ad kt iv ar x1 _  h H.size) (cwV 1 C.2.2.2.2.1 gX9_ofCell_X0_columnOf rfl rfl rfl (by decide +kernel) ⟨Nat.le_of_ble_eq_true rfl, Nat.le_of_ble_eq_true rfl⟩) (fw_preV hG hK (ci := 0) rfl kw_o0) rfl rfl hl.1 rfl (lv_room (Nat.le_of_ble_eq_true rfl)) dX9_ofCell_30 ⟨Nat.zero_le _, Nat.zero_le _⟩) hG hK (fun r4  H locs h hG => ?_)
    refine lv_iconst (v := 0) C.1 C.2.1 dX9_ofCell_33 (by decide) ?_
    refine fw_rcalli (va_runV (As := [.int r3, .int r4, .int 0]) (rest := []) ⟨C.1, C.2.1, C.2.2.2.2.2.2, C.2.2.2.2.2.1, C.2.2.2.2.1⟩ (soX0_letterAt l G ad kt iv ar r3 r4 0 _  h H.size) (cwV 3 C.2.2.2.2.1 gX9_ofCell_X0_letterAt rfl rfl rfl (by decide +kernel) ⟨Nat.le_of_ble_eq_true rfl, Nat.le_of_ble_eq_true rfl⟩) (fw_preV hG hK (ci := 0) rfl kw_o0) rfl rfl hl.1 rfl (lv_room (Nat.le_of_ble_eq_true rfl)) dX9_ofCell_34 ⟨Nat.zero_le _, Nat.zero_le _⟩) hG hK (fun r5  H locs h hG => ?_)
    exact fw_iret C hG ⟨h, rfl, rfl⟩ dX9_ofCell_37
  · have h := h.2 c2
    refine lv_iconst (v := (-1)) C.1 C.2.1 dX9_ofCell_11 (by decide) ?_
    exact fw_iret C hG ⟨h, rfl, rfl⟩ dX9_ofCell_12
/-! KnifeBoard.weightTo(IIII)I -/
def rmX9_weightTo : Room := { frames := 4, cells := 0, slots := 0, locals := 95 }
def wpX9_weightTo_L40 (kt : kw_T) (x1 : Int32) (x2 : Int32) (x3 : Int32) (x4 : Int32) (z8 : Int32) (z7 : Int32) (r2 : Int32) (r1 : Int32) (iv : fw_F) (ar : fw_R) (Q : Int32 → Prop) (K : Int32 → Int32 → Prop) : Nat → Int32 → Int32 → Prop
  | 0, _, _ => False
  | fu + 1, z9, z10 => (2 < z10 → (K z9 z10)) ∧ (¬ 2 < z10 → (wpX0_isOf kt iv ar x1 (r1 - z8) (r2 + z10) x4 (fun (r5 : Int32) => (r5 = 0 → (∀ y7 : Int32, y7 = z10 + 1 → (wpX9_weightTo_L40 kt x1 x2 x3 x4 z8 z7 r2 r1 iv ar Q K fu z9 y7))) ∧ (¬ r5 = 0 → (wpX1_weighs kt iv ar 2 z10 x3 (fun (r8 : Int32) => ∀ y9 : Int32, y9 = z9 + r8 → (∀ y10 : Int32, y10 = z10 + 1 → (wpX9_weightTo_L40 kt x1 x2 x3 x4 z8 z7 r2 r1 iv ar Q K fu y9 y10))))))))
def wpX9_weightTo_L27 (kt : kw_T) (x1 : Int32) (x2 : Int32) (x3 : Int32) (x4 : Int32) (r2 : Int32) (r1 : Int32) (iv : fw_F) (ar : fw_R) (Q : Int32 → Prop) (K : Int32 → Int32 → Prop) : Nat → Int32 → Int32 → Prop
  | 0, _, _ => False
  | fu + 1, z7, z8 => (2 < z8 → (K z7 z8)) ∧ (¬ 2 < z8 → (∃ ku : Nat, wpX9_weightTo_L40 kt x1 x2 x3 x4 z8 z7 r2 r1 iv ar Q (fun (w11 : Int32) (w12 : Int32) => wpX1_weighs kt iv ar 1 z8 x3 (fun (r13 : Int32) => ∀ y14 : Int32, y14 = z7 + (w11 * r13) → (∀ y15 : Int32, y15 = z8 + 1 → (wpX9_weightTo_L27 kt x1 x2 x3 x4 r2 r1 iv ar Q K fu y14 y15)))) ku 0 (-2)))
def wpX9_weightTo (kt : kw_T) (iv : fw_F) (ar : fw_R) (x1 : Int32) (x2 : Int32) (x3 : Int32) (x4 : Int32) (Q : Int32 → Prop) : Prop := wpX0_rowOf kt iv ar x2 (fun (r1 : Int32) => wpX0_columnOf kt iv ar x2 (fun (r2 : Int32) => ∃ ku : Nat, wpX9_weightTo_L27 kt x1 x2 x3 x4 r2 r1 iv ar Q (fun (w16 : Int32) (w17 : Int32) => Q w16) ku 0 (-2)))
set_option maxHeartbeats 4000000 in
set_option maxRecDepth 100000 in
theorem soX9_weightTo_L40 {p : Program} {l : Launch} {e : Env} {s : State} {m : MethodId} {args : Array Value} {below : List Frame} {meth : Method} {c : Code} {A : Nat → Prop} {G : fw_G} {ad : Nat → Nat} {kt : kw_T} {x1 : Int32} {x2 : Int32} {x3 : Int32} {x4 : Int32} {z8 : Int32} {z7 : Int32} {r2 : Int32} {r1 : Int32} {iv : fw_F} {ar : fw_R} {Q : Int32 → Prop} {K : Int32 → Int32 → Prop} (C : fw_C p s m args meth c cX9_weightTo 11 (some .int) wsX9_weightTo RX9) (hK : fw_K G A s)  (hX : ∀ (z9 : Int32) (z10 : Int32), K z9 z10 → ∀ (H : Heap) (locs : List Loc), fw_H G ((kw G ad kt) iv ar) A s H locs → ∀ (ls : Array Slot), lv_has ls 11 [(10, .int z10), (9, .int z9), (8, .int z8), (7, .int z7), (6, .int r2), (5, .int r1), (0, .ref (ad 0)), (1, .int x1), (3, .int x3), (4, .int x4)] → W p l e rmX9_weightTo s m args below meth c H locs 0 0 (MQ below (fw_Qi G (kw G ad kt) (fun r iv1 ar1 => Q r ∧ iv = iv1 ∧ ar = ar1) A) args s 0 0 A) (F0 m 91 ls [])) : ∀ (fu : Nat) (z9 : Int32) (z10 : Int32), wpX9_weightTo_L40 kt x1 x2 x3 x4 z8 z7 r2 r1 iv ar Q K fu z9 z10 → ∀ (H : Heap) (locs : List Loc), fw_H G ((kw G ad kt) iv ar) A s H locs → ∀ (ls : Array Slot), lv_has ls 11 [(10, .int z10), (9, .int z9), (8, .int z8), (7, .int z7), (6, .int r2), (5, .int r1), (0, .ref (ad 0)), (1, .int x1), (3, .int x3), (4, .int x4)] → W p l e rmX9_weightTo s m args below meth c H locs 0 0 (MQ below (fw_Qi G (kw G ad kt) (fun r iv1 ar1 => Q r ∧ iv = iv1 ∧ ar = ar1) A) args s 0 0 A) (F0 m 40 ls []) := by
  intro fu
  have in_X9 : ∀ x ∈ wsX90, x ∈ wsX9_weightTo := by decide +kernel
  have k24 := C.2.2.2.2.1 (.fieldLink RX9 24 "KnifeBoard" "theHand" "LKnifeBoard$Hand;") (by decide +kernel)
  have k31 := C.2.2.2.2.1 (.fieldLink RX9 31 "KnifeBoard" "theBoard" "LKnifeBoard$Board;") (by decide +kernel)
  induction fu with
  | zero => intro z9 z10 h; exact h.elim
  | succ fu ih =>
    intro z9 z10 h H locs hG ls hl
    unfold wpX9_weightTo_L40 at h
    refine lv_iload C.1 C.2.1 dX9_weightTo_40 (lv_at hl 0 rfl) ?_
    refine lv_iconst (v := 2) C.1 C.2.1 dX9_weightTo_42 (by decide) ?_
    refine lv_icmp_gt (tgt := 91) C.1 C.2.1 dX9_weightTo_43 (by decide) (fun c4 => ?_) (fun c4 => ?_)
    · have h := h.1 c4
      exact hX _ _ h _ _ hG ls (lv_sub hl [0, 1, 2, 3, 4, 5, 6, 7, 8, 9] rfl)
    · have h := h.2 c4
      refine lv_aload_n C.1 C.2.1 dX9_weightTo_46 rfl (lv_at hl 6 rfl) ?_
      refine fw_get (w := (kw G ad kt)) C in_X9 hK hG 0 kw_o9 rfl 3 (by decide) k31 rfl rfl dX9_weightTo_47 ?_
      refine lv_iload_n C.1 C.2.1 dX9_weightTo_50 rfl (lv_at hl 7 rfl) ?_
      refine lv_iload C.1 C.2.1 dX9_weightTo_51 (lv_at hl 5 rfl) ?_
      refine lv_iload C.1 C.2.1 dX9_weightTo_53 (lv_at hl 2 rfl) ?_
      refine lv_isub C.1 C.2.1 dX9_weightTo_55 ?_
      refine lv_iload C.1 C.2.1 dX9_weightTo_56 (lv_at hl 4 rfl) ?_
      refine lv_iload C.1 C.2.1 dX9_weightTo_58 (lv_at hl 0 rfl) ?_
      refine lv_iadd C.1 C.2.1 dX9_weightTo_60 ?_
      refine lv_iload C.1 C.2.1 dX9_weightTo_61 (lv_at hl 9 rfl) ?_
      refine fw_rcalli (va_runV (As := [.int x1, .int (r1 - z8), .int (r2 + z10), .int x4]) (rest := []) ⟨C.1, C.2.1, C.2.2.2.2.2.2, C.2.2.2.2.2.1, C.2.2.2.2.1⟩ (soX0_isOf l G ad kt iv ar x1 (r1 - z8) (r2 + z10) x4 _  h H.size) (cwV 4 C.2.2.2.2.1 gX9_weightTo_X0_isOf rfl rfl rfl (by decide +kernel) ⟨Nat.le_of_ble_eq_true rfl, Nat.le_of_ble_eq_true rfl⟩) (fw_preV hG hK (ci := 0) rfl kw_o0) rfl rfl hl.1 rfl (lv_room (Nat.le_of_ble_eq_true rfl)) dX9_weightTo_63 ⟨Nat.zero_le _, Nat.zero_le _⟩) hG hK (fun r5  H locs h hG => ?_)
      refine lv_if_eq (tgt := 85) C.1 C.2.1 dX9_weightTo_66 (by decide) (fun c6 => ?_) (fun c6 => ?_)
      · have h := h.1 c6
        obtain ⟨y7, ey7⟩ : ∃ z : Int32, z = z10 + 1 := ⟨_, rfl⟩
        have h := h y7 ey7
        refine lv_iinc (v := y7) (lv' := [(10, .int y7), (9, .int z9), (8, .int z8), (7, .int z7), (6, .int r2), (5, .int r1), (0, .ref (ad 0)), (1, .int x1), (3, .int x3), (4, .int x4)]) C.1 C.2.1 dX9_weightTo_85 hl (k := 0) rfl (by rw [ey7]; rfl) (by decide) rfl (fun ls hl => ?_)
        refine lv_goto (tgt := 40) C.1 C.2.1 dX9_weightTo_88 (by decide) ?_
        exact ih _ _ h _ _ hG ls (lv_sub hl [0, 1, 2, 3, 4, 5, 6, 7, 8, 9] rfl)
      · have h := h.2 c6
        refine lv_iload C.1 C.2.1 dX9_weightTo_69 (lv_at hl 1 rfl) ?_
        refine lv_aload_n C.1 C.2.1 dX9_weightTo_71 rfl (lv_at hl 6 rfl) ?_
        refine fw_get (w := (kw G ad kt)) C in_X9 hK hG 0 kw_o9 rfl 2 (by decide) k24 rfl rfl dX9_weightTo_72 ?_
        refine lv_iconst (v := 2) C.1 C.2.1 dX9_weightTo_75 (by decide) ?_
        refine lv_iload C.1 C.2.1 dX9_weightTo_76 (lv_at hl 0 rfl) ?_
        refine lv_iload_n C.1 C.2.1 dX9_weightTo_78 rfl (lv_at hl 8 rfl) ?_
        refine fw_rcalli (va_runV (As := [.int 2, .int z10, .int x3]) (rest := [.int z9]) ⟨C.1, C.2.1, C.2.2.2.2.2.2, C.2.2.2.2.2.1, C.2.2.2.2.1⟩ (soX1_weighs l G ad kt iv ar 2 z10 x3 _  h H.size) (cwV 3 C.2.2.2.2.1 gX9_weightTo_X1_weighs rfl rfl rfl (by decide +kernel) ⟨Nat.le_of_ble_eq_true rfl, Nat.le_of_ble_eq_true rfl⟩) (fw_preV hG hK (ci := 1) rfl kw_o1) rfl rfl hl.1 rfl (lv_room (Nat.le_of_ble_eq_true rfl)) dX9_weightTo_79 ⟨Nat.zero_le _, Nat.zero_le _⟩) hG hK (fun r8  H locs h hG => ?_)
        refine lv_iadd C.1 C.2.1 dX9_weightTo_82 ?_
        refine lv_topi (fun y9 ey9 => ?_)
        have h := h y9 ey9
        refine lv_istore (lv' := [(9, .int y9), (10, .int z10), (8, .int z8), (7, .int z7), (6, .int r2), (5, .int r1), (0, .ref (ad 0)), (1, .int x1), (3, .int x3), (4, .int x4)]) C.1 C.2.1 dX9_weightTo_83 hl (by decide) rfl (fun ls hl => ?_)
        obtain ⟨y10, ey10⟩ : ∃ z : Int32, z = z10 + 1 := ⟨_, rfl⟩
        have h := h y10 ey10
        refine lv_iinc (v := y10) (lv' := [(10, .int y10), (9, .int y9), (8, .int z8), (7, .int z7), (6, .int r2), (5, .int r1), (0, .ref (ad 0)), (1, .int x1), (3, .int x3), (4, .int x4)]) C.1 C.2.1 dX9_weightTo_85 hl (k := 1) rfl (by rw [ey10]; rfl) (by decide) rfl (fun ls hl => ?_)
        refine lv_goto (tgt := 40) C.1 C.2.1 dX9_weightTo_88 (by decide) ?_
        exact ih _ _ h _ _ hG ls (lv_sub hl [0, 1, 2, 3, 4, 5, 6, 7, 8, 9] rfl)

set_option maxHeartbeats 4000000 in
set_option maxRecDepth 100000 in
theorem soX9_weightTo_L27 {p : Program} {l : Launch} {e : Env} {s : State} {m : MethodId} {args : Array Value} {below : List Frame} {meth : Method} {c : Code} {A : Nat → Prop} {G : fw_G} {ad : Nat → Nat} {kt : kw_T} {x1 : Int32} {x2 : Int32} {x3 : Int32} {x4 : Int32} {r2 : Int32} {r1 : Int32} {iv : fw_F} {ar : fw_R} {Q : Int32 → Prop} {K : Int32 → Int32 → Prop} (C : fw_C p s m args meth c cX9_weightTo 11 (some .int) wsX9_weightTo RX9) (hK : fw_K G A s)  (hX : ∀ (z7 : Int32) (z8 : Int32), K z7 z8 → ∀ (H : Heap) (locs : List Loc), fw_H G ((kw G ad kt) iv ar) A s H locs → ∀ (ls : Array Slot), lv_has ls 11 [(8, .int z8), (7, .int z7), (6, .int r2), (5, .int r1), (0, .ref (ad 0)), (1, .int x1), (3, .int x3), (4, .int x4)] → W p l e rmX9_weightTo s m args below meth c H locs 0 0 (MQ below (fw_Qi G (kw G ad kt) (fun r iv1 ar1 => Q r ∧ iv = iv1 ∧ ar = ar1) A) args s 0 0 A) (F0 m 116 ls [])) : ∀ (fu : Nat) (z7 : Int32) (z8 : Int32), wpX9_weightTo_L27 kt x1 x2 x3 x4 r2 r1 iv ar Q K fu z7 z8 → ∀ (H : Heap) (locs : List Loc), fw_H G ((kw G ad kt) iv ar) A s H locs → ∀ (ls : Array Slot), lv_has ls 11 [(8, .int z8), (7, .int z7), (6, .int r2), (5, .int r1), (0, .ref (ad 0)), (1, .int x1), (3, .int x3), (4, .int x4)] → W p l e rmX9_weightTo s m args below meth c H locs 0 0 (MQ below (fw_Qi G (kw G ad kt) (fun r iv1 ar1 => Q r ∧ iv = iv1 ∧ ar = ar1) A) args s 0 0 A) (F0 m 27 ls []) := by
  intro fu
  have in_X9 : ∀ x ∈ wsX90, x ∈ wsX9_weightTo := by decide +kernel
  have k24 := C.2.2.2.2.1 (.fieldLink RX9 24 "KnifeBoard" "theHand" "LKnifeBoard$Hand;") (by decide +kernel)
  induction fu with
  | zero => intro z7 z8 h; exact h.elim
  | succ fu ih =>
    intro z7 z8 h H locs hG ls hl
    unfold wpX9_weightTo_L27 at h
    refine lv_iload C.1 C.2.1 dX9_weightTo_27 (lv_at hl 0 rfl) ?_
    refine lv_iconst (v := 2) C.1 C.2.1 dX9_weightTo_29 (by decide) ?_
    refine lv_icmp_gt (tgt := 116) C.1 C.2.1 dX9_weightTo_30 (by decide) (fun c3 => ?_) (fun c3 => ?_)
    · have h := h.1 c3
      exact hX _ _ h _ _ hG ls (lv_sub hl [0, 1, 2, 3, 4, 5, 6, 7] rfl)
    · have h := h.2 c3
      refine lv_iconst (v := 0) C.1 C.2.1 dX9_weightTo_33 (by decide) ?_
      refine lv_istore (lv' := [(9, .int 0), (8, .int z8), (7, .int z7), (6, .int r2), (5, .int r1), (0, .ref (ad 0)), (1, .int x1), (3, .int x3), (4, .int x4)]) C.1 C.2.1 dX9_weightTo_34 hl (by decide) rfl (fun ls hl => ?_)
      refine lv_bipush (v := (-2)) C.1 C.2.1 dX9_weightTo_36 (by decide) ?_
      refine lv_istore (lv' := [(10, .int (-2)), (9, .int 0), (8, .int z8), (7, .int z7), (6, .int r2), (5, .int r1), (0, .ref (ad 0)), (1, .int x1), (3, .int x3), (4, .int x4)]) C.1 C.2.1 dX9_weightTo_38 hl (by decide) rfl (fun ls hl => ?_)
      obtain ⟨ku, h⟩ := h
      refine soX9_weightTo_L40 C hK  ?_ ku _ _ h _ _ hG ls (lv_sub hl [0, 1, 2, 3, 4, 5, 6, 7, 8, 9] rfl)
      intro w11 w12 h H locs hG ls hl
      refine lv_iload C.1 C.2.1 dX9_weightTo_91 (lv_at hl 3 rfl) ?_
      refine lv_iload C.1 C.2.1 dX9_weightTo_93 (lv_at hl 1 rfl) ?_
      refine lv_aload_n C.1 C.2.1 dX9_weightTo_95 rfl (lv_at hl 6 rfl) ?_
      refine fw_get (w := (kw G ad kt)) C in_X9 hK hG 0 kw_o9 rfl 2 (by decide) k24 rfl rfl dX9_weightTo_96 ?_
      refine lv_iconst (v := 1) C.1 C.2.1 dX9_weightTo_99 (by decide) ?_
      refine lv_iload C.1 C.2.1 dX9_weightTo_100 (lv_at hl 2 rfl) ?_
      refine lv_iload_n C.1 C.2.1 dX9_weightTo_102 rfl (lv_at hl 8 rfl) ?_
      refine fw_rcalli (va_runV (As := [.int 1, .int z8, .int x3]) (rest := [.int w11, .int z7]) ⟨C.1, C.2.1, C.2.2.2.2.2.2, C.2.2.2.2.2.1, C.2.2.2.2.1⟩ (soX1_weighs l G ad kt iv ar 1 z8 x3 _  h H.size) (cwV 3 C.2.2.2.2.1 gX9_weightTo_X1_weighs rfl rfl rfl (by decide +kernel) ⟨Nat.le_of_ble_eq_true rfl, Nat.le_of_ble_eq_true rfl⟩) (fw_preV hG hK (ci := 1) rfl kw_o1) rfl rfl hl.1 rfl (lv_room (Nat.le_of_ble_eq_true rfl)) dX9_weightTo_103 ⟨Nat.zero_le _, Nat.zero_le _⟩) hG hK (fun r13  H locs h hG => ?_)
      refine lv_imul C.1 C.2.1 dX9_weightTo_106 ?_
      refine lv_iadd C.1 C.2.1 dX9_weightTo_107 ?_
      refine lv_topi (fun y14 ey14 => ?_)
      have h := h y14 ey14
      refine lv_istore (lv' := [(7, .int y14), (10, .int w12), (9, .int w11), (8, .int z8), (6, .int r2), (5, .int r1), (0, .ref (ad 0)), (1, .int x1), (3, .int x3), (4, .int x4)]) C.1 C.2.1 dX9_weightTo_108 hl (by decide) rfl (fun ls hl => ?_)
      obtain ⟨y15, ey15⟩ : ∃ z : Int32, z = z8 + 1 := ⟨_, rfl⟩
      have h := h y15 ey15
      refine lv_iinc (v := y15) (lv' := [(8, .int y15), (7, .int y14), (10, .int w12), (9, .int w11), (6, .int r2), (5, .int r1), (0, .ref (ad 0)), (1, .int x1), (3, .int x3), (4, .int x4)]) C.1 C.2.1 dX9_weightTo_110 hl (k := 3) rfl (by rw [ey15]; rfl) (by decide) rfl (fun ls hl => ?_)
      refine lv_goto (tgt := 27) C.1 C.2.1 dX9_weightTo_113 (by decide) ?_
      exact ih _ _ h _ _ hG ls (lv_sub hl [0, 1, 4, 5, 6, 7, 8, 9] rfl)

set_option maxHeartbeats 4000000 in
set_option maxRecDepth 100000 in
theorem soX9_weightTo (l : Launch) (G : fw_G) (ad : Nat → Nat) (kt : kw_T) (iv : fw_F) (ar : fw_R) (x1 : Int32) (x2 : Int32) (x3 : Int32) (x4 : Int32) (Q : Int32 → Prop)  (h : wpX9_weightTo kt iv ar x1 x2 x3 x4 Q) : fw_M l G (kw G ad kt) yX9_weightTo wsX9_weightTo rmX9_weightTo [.ref (ad 0), .int x1, .int x2, .int x3, .int x4] iv ar (fw_Qi G (kw G ad kt) (fun r iv1 ar1 => Q r ∧ iv = iv1 ∧ ar = ar1)) := by
  refine fw_start (cc := cX9_weightTo) (nL := 11) (rt := (some .int)) (by decide) rfl (Nat.le_of_ble_eq_true rfl) ?_
  intro p e s m below meth c A ls H locs C hK hG hl
  obtain ⟨args, ea⟩ : ∃ z : Array Value, z = ([.ref (ad 0), .int x1, .int x2, .int x3, .int x4] : List Value).toArray := ⟨_, rfl⟩
  rw [← ea] at C ⊢
  have C : fw_C p s m args meth c cX9_weightTo 11 (some .int) wsX9_weightTo RX9 := C
  have hl : lv_has ls 11 [(0, .ref (ad 0)), (1, .int x1), (2, .int x2), (3, .int x3), (4, .int x4)] := hl
  unfold wpX9_weightTo at h
  have in_X9 : ∀ x ∈ wsX90, x ∈ wsX9_weightTo := by decide +kernel
  have k31 := C.2.2.2.2.1 (.fieldLink RX9 31 "KnifeBoard" "theBoard" "LKnifeBoard$Board;") (by decide +kernel)
  refine lv_aload_n C.1 C.2.1 dX9_weightTo_0 rfl (lv_at hl 0 rfl) ?_
  refine fw_get (w := (kw G ad kt)) C in_X9 hK hG 0 kw_o9 rfl 3 (by decide) k31 rfl rfl dX9_weightTo_1 ?_
  refine lv_iload_n C.1 C.2.1 dX9_weightTo_4 rfl (lv_at hl 2 rfl) ?_
  refine fw_rcalli (va_runV (As := [.int x2]) (rest := []) ⟨C.1, C.2.1, C.2.2.2.2.2.2, C.2.2.2.2.2.1, C.2.2.2.2.1⟩ (soX0_rowOf l G ad kt iv ar x2 _  h H.size) (cwV 1 C.2.2.2.2.1 gX9_weightTo_X0_rowOf rfl rfl rfl (by decide +kernel) ⟨Nat.le_of_ble_eq_true rfl, Nat.le_of_ble_eq_true rfl⟩) (fw_preV hG hK (ci := 0) rfl kw_o0) rfl rfl hl.1 rfl (lv_room (Nat.le_of_ble_eq_true rfl)) dX9_weightTo_5 ⟨Nat.zero_le _, Nat.zero_le _⟩) hG hK (fun r1  H locs h hG => ?_)
  refine lv_istore (lv' := [(5, .int r1), (0, .ref (ad 0)), (1, .int x1), (2, .int x2), (3, .int x3), (4, .int x4)]) C.1 C.2.1 dX9_weightTo_8 hl (by decide) rfl (fun ls hl => ?_)
  refine lv_aload_n C.1 C.2.1 dX9_weightTo_10 rfl (lv_at hl 1 rfl) ?_
  refine fw_get (w := (kw G ad kt)) C in_X9 hK hG 0 kw_o9 rfl 3 (by decide) k31 rfl rfl dX9_weightTo_11 ?_
  refine lv_iload_n C.1 C.2.1 dX9_weightTo_14 rfl (lv_at hl 3 rfl) ?_
  refine fw_rcalli (va_runV (As := [.int x2]) (rest := []) ⟨C.1, C.2.1, C.2.2.2.2.2.2, C.2.2.2.2.2.1, C.2.2.2.2.1⟩ (soX0_columnOf l G ad kt iv ar x2 _  h H.size) (cwV 1 C.2.2.2.2.1 gX9_weightTo_X0_columnOf rfl rfl rfl (by decide +kernel) ⟨Nat.le_of_ble_eq_true rfl, Nat.le_of_ble_eq_true rfl⟩) (fw_preV hG hK (ci := 0) rfl kw_o0) rfl rfl hl.1 rfl (lv_room (Nat.le_of_ble_eq_true rfl)) dX9_weightTo_15 ⟨Nat.zero_le _, Nat.zero_le _⟩) hG hK (fun r2  H locs h hG => ?_)
  refine lv_istore (lv' := [(6, .int r2), (5, .int r1), (0, .ref (ad 0)), (1, .int x1), (2, .int x2), (3, .int x3), (4, .int x4)]) C.1 C.2.1 dX9_weightTo_18 hl (by decide) rfl (fun ls hl => ?_)
  refine lv_iconst (v := 0) C.1 C.2.1 dX9_weightTo_20 (by decide) ?_
  refine lv_istore (lv' := [(7, .int 0), (6, .int r2), (5, .int r1), (0, .ref (ad 0)), (1, .int x1), (2, .int x2), (3, .int x3), (4, .int x4)]) C.1 C.2.1 dX9_weightTo_21 hl (by decide) rfl (fun ls hl => ?_)
  refine lv_bipush (v := (-2)) C.1 C.2.1 dX9_weightTo_23 (by decide) ?_
  refine lv_istore (lv' := [(8, .int (-2)), (7, .int 0), (6, .int r2), (5, .int r1), (0, .ref (ad 0)), (1, .int x1), (2, .int x2), (3, .int x3), (4, .int x4)]) C.1 C.2.1 dX9_weightTo_25 hl (by decide) rfl (fun ls hl => ?_)
  obtain ⟨ku, h⟩ := h
  refine soX9_weightTo_L27 C hK  ?_ ku _ _ h _ _ hG ls (lv_sub hl [0, 1, 2, 3, 4, 5, 7, 8] rfl)
  intro w16 w17 h H locs hG ls hl
  refine lv_iload C.1 C.2.1 dX9_weightTo_116 (lv_at hl 1 rfl) ?_
  exact fw_iret C hG ⟨h, rfl, rfl⟩ dX9_weightTo_118
/-! KnifeBoard.weightOfAll(I)I -/
def rmX9_weightOfAll : Room := { frames := 3, cells := 0, slots := 0, locals := 69 }
def wpX9_weightOfAll (kt : kw_T) (iv : fw_F) (ar : fw_R) (x1 : Int32) (Q : Int32 → Prop) : Prop := wpX1_sumOf kt iv ar 1 x1 (fun (r1 : Int32) => wpX1_sumOf kt iv ar 2 x1 (fun (r2 : Int32) => Q (r1 * r2)))
set_option maxHeartbeats 4000000 in
set_option maxRecDepth 100000 in
theorem soX9_weightOfAll (l : Launch) (G : fw_G) (ad : Nat → Nat) (kt : kw_T) (iv : fw_F) (ar : fw_R) (x1 : Int32) (Q : Int32 → Prop)  (h : wpX9_weightOfAll kt iv ar x1 Q) : fw_M l G (kw G ad kt) yX9_weightOfAll wsX9_weightOfAll rmX9_weightOfAll [.ref (ad 0), .int x1] iv ar (fw_Qi G (kw G ad kt) (fun r iv1 ar1 => Q r ∧ iv = iv1 ∧ ar = ar1)) := by
  refine fw_start (cc := cX9_weightOfAll) (nL := 2) (rt := (some .int)) (by decide) rfl (Nat.le_of_ble_eq_true rfl) ?_
  intro p e s m below meth c A ls H locs C hK hG hl
  obtain ⟨args, ea⟩ : ∃ z : Array Value, z = ([.ref (ad 0), .int x1] : List Value).toArray := ⟨_, rfl⟩
  rw [← ea] at C ⊢
  have C : fw_C p s m args meth c cX9_weightOfAll 2 (some .int) wsX9_weightOfAll RX9 := C
  have hl : lv_has ls 2 [(0, .ref (ad 0)), (1, .int x1)] := hl
  unfold wpX9_weightOfAll at h
  have in_X9 : ∀ x ∈ wsX90, x ∈ wsX9_weightOfAll := by decide +kernel
  have k24 := C.2.2.2.2.1 (.fieldLink RX9 24 "KnifeBoard" "theHand" "LKnifeBoard$Hand;") (by decide +kernel)
  refine lv_aload_n C.1 C.2.1 dX9_weightOfAll_0 rfl (lv_at hl 0 rfl) ?_
  refine fw_get (w := (kw G ad kt)) C in_X9 hK hG 0 kw_o9 rfl 2 (by decide) k24 rfl rfl dX9_weightOfAll_1 ?_
  refine lv_iconst (v := 1) C.1 C.2.1 dX9_weightOfAll_4 (by decide) ?_
  refine lv_iload_n C.1 C.2.1 dX9_weightOfAll_5 rfl (lv_at hl 1 rfl) ?_
  refine fw_rcalli (va_runV (As := [.int 1, .int x1]) (rest := []) ⟨C.1, C.2.1, C.2.2.2.2.2.2, C.2.2.2.2.2.1, C.2.2.2.2.1⟩ (soX1_sumOf l G ad kt iv ar 1 x1 _  h H.size) (cwV 2 C.2.2.2.2.1 gX9_weightOfAll_X1_sumOf rfl rfl rfl (by decide +kernel) ⟨Nat.le_of_ble_eq_true rfl, Nat.le_of_ble_eq_true rfl⟩) (fw_preV hG hK (ci := 1) rfl kw_o1) rfl rfl hl.1 rfl (lv_room (Nat.le_of_ble_eq_true rfl)) dX9_weightOfAll_6 ⟨Nat.zero_le _, Nat.zero_le _⟩) hG hK (fun r1  H locs h hG => ?_)
  refine lv_aload_n C.1 C.2.1 dX9_weightOfAll_9 rfl (lv_at hl 0 rfl) ?_
  refine fw_get (w := (kw G ad kt)) C in_X9 hK hG 0 kw_o9 rfl 2 (by decide) k24 rfl rfl dX9_weightOfAll_10 ?_
  refine lv_iconst (v := 2) C.1 C.2.1 dX9_weightOfAll_13 (by decide) ?_
  refine lv_iload_n C.1 C.2.1 dX9_weightOfAll_14 rfl (lv_at hl 1 rfl) ?_
  refine fw_rcalli (va_runV (As := [.int 2, .int x1]) (rest := [.int r1]) ⟨C.1, C.2.1, C.2.2.2.2.2.2, C.2.2.2.2.2.1, C.2.2.2.2.1⟩ (soX1_sumOf l G ad kt iv ar 2 x1 _  h H.size) (cwV 2 C.2.2.2.2.1 gX9_weightOfAll_X1_sumOf rfl rfl rfl (by decide +kernel) ⟨Nat.le_of_ble_eq_true rfl, Nat.le_of_ble_eq_true rfl⟩) (fw_preV hG hK (ci := 1) rfl kw_o1) rfl rfl hl.1 rfl (lv_room (Nat.le_of_ble_eq_true rfl)) dX9_weightOfAll_15 ⟨Nat.zero_le _, Nat.zero_le _⟩) hG hK (fun r2  H locs h hG => ?_)
  refine lv_imul C.1 C.2.1 dX9_weightOfAll_18 ?_
  exact fw_iret C hG ⟨h, rfl, rfl⟩ dX9_weightOfAll_19
