/-! KnifeBoard.tells(II)I -/
def rmX9_tells : Room := { frames := 5, cells := 0, slots := 0, locals := 115 }
def wpX9_tells_L56 (kt : kw_T) (x1 : Int32) (x2 : Int32) (i2 : Nat) (Q : Int32 → fw_F → fw_R → Prop) (K : Int32 → Int32 → Int32 → fw_F → fw_R → Prop) : Nat → Int32 → Int32 → Int32 → fw_F → fw_R → Prop
  | 0, _, _, _, _, _ => False
  | fu + 1, z4, z5, z6, iv, ar => (40 < z6 → (K z4 z5 z6 iv ar)) ∧ (¬ 40 < z6 → (wpX4_leftAtWorst kt iv ar i2 z6 (fun (r9 : Int32) (iv10 : fw_F) (ar11 : fw_R) => (z5 ≤ r9 → (∀ y13 : Int32, y13 = z6 + 1 → (wpX9_tells_L56 kt x1 x2 i2 Q K fu z4 z5 y13 iv10 ar11))) ∧ (¬ z5 ≤ r9 → (∀ y14 : Int32, y14 = z6 + 1 → (wpX9_tells_L56 kt x1 x2 i2 Q K fu z6 r9 y14 iv10 ar11))))))
def wpX9_tells (kt : kw_T) (iv : fw_F) (ar : fw_R) (x1 : Int32) (x2 : Int32) (Q : Int32 → fw_F → fw_R → Prop) : Prop := wpX9_knifeAt kt iv ar x1 (fun (r1 : Option Nat) => (r1 = none → (Q (-1) iv ar)) ∧ (∀ i2 : Nat, r1 = some i2 → i2 < kt.1 ∧ (wpX9_within x2 0 1 (fun (r3 : Int32) => (¬ r3 = 0 → (wpX4_seekThrown kt iv ar i2 (fun (iv5 : fw_F) (ar6 : fw_R) => (¬ (iv5 8) = 0 → (∃ ku : Nat, wpX9_tells_L56 kt x1 x2 i2 Q (fun (w15 : Int32) (w16 : Int32) (w17 : Int32) (iv18 : fw_F) (ar19 : fw_R) => (¬ x2 = 0 → (Q w16 iv18 ar19)) ∧ (x2 = 0 → (Q w15 iv18 ar19))) ku 0 577 1 iv5 ar6)) ∧ ((iv5 8) = 0 → (Q (-9) iv5 ar6))))) ∧ (r3 = 0 → (Q (-2) iv ar))))))
set_option maxHeartbeats 4000000 in
set_option maxRecDepth 100000 in
theorem soX9_tells_L56 {p : Program} {l : Launch} {e : Env} {s : State} {m : MethodId} {args : Array Value} {below : List Frame} {meth : Method} {c : Code} {A : Nat → Prop} {G : fw_G} {ad : Nat → Nat} {kt : kw_T} {x1 : Int32} {x2 : Int32} {i2 : Nat} {Q : Int32 → fw_F → fw_R → Prop} {K : Int32 → Int32 → Int32 → fw_F → fw_R → Prop} (C : fw_C p s m args meth c cX9_tells 8 (some .int) wsX9_tells RX9) (hK : fw_K G A s) (hi2 : i2 < kt.1) (hX : ∀ (z4 : Int32) (z5 : Int32) (z6 : Int32) (iv : fw_F) (ar : fw_R), K z4 z5 z6 iv ar → ∀ (H : Heap) (locs : List Loc), fw_H G ((kw G ad kt) iv ar) A s H locs → ∀ (ls : Array Slot), lv_has ls 8 [(6, .int z6), (5, .int z5), (4, .int z4), (3, .ref (ad (28 + 2 * i2))), (0, .ref (ad 0)), (2, .int x2)] → W p l e rmX9_tells s m args below meth c H locs 0 0 (MQ below (fw_Qi G (kw G ad kt) Q A) args s 0 0 A) (F0 m 96 ls [])) : ∀ (fu : Nat) (z4 : Int32) (z5 : Int32) (z6 : Int32) (iv : fw_F) (ar : fw_R), wpX9_tells_L56 kt x1 x2 i2 Q K fu z4 z5 z6 iv ar → ∀ (H : Heap) (locs : List Loc), fw_H G ((kw G ad kt) iv ar) A s H locs → ∀ (ls : Array Slot), lv_has ls 8 [(6, .int z6), (5, .int z5), (4, .int z4), (3, .ref (ad (28 + 2 * i2))), (0, .ref (ad 0)), (2, .int x2)] → W p l e rmX9_tells s m args below meth c H locs 0 0 (MQ below (fw_Qi G (kw G ad kt) Q A) args s 0 0 A) (F0 m 56 ls []) := by
  intro fu
  have in_X9 : ∀ x ∈ wsX90, x ∈ wsX9_tells := by decide +kernel
  have k45 := C.2.2.2.2.1 (.fieldLink RX9 45 "KnifeBoard" "marks" "LKnifeBoard$Marks;") (by decide +kernel)
  induction fu with
  | zero => intro z4 z5 z6 iv ar h; exact h.elim
  | succ fu ih =>
    intro z4 z5 z6 iv ar h H locs hG ls hl
    unfold wpX9_tells_L56 at h
    refine lv_iload C.1 C.2.1 dX9_tells_56 (lv_at hl 0 rfl) ?_
    refine lv_bipush (v := 40) C.1 C.2.1 dX9_tells_58 (by decide) ?_
    refine lv_icmp_gt (tgt := 96) C.1 C.2.1 dX9_tells_60 (by decide) (fun c8 => ?_) (fun c8 => ?_)
    · have h := h.1 c8
      exact hX _ _ _ _ _ h _ _ hG ls (lv_sub hl [0, 1, 2, 3, 4, 5] rfl)
    · have h := h.2 c8
      refine lv_aload_n C.1 C.2.1 dX9_tells_63 rfl (lv_at hl 4 rfl) ?_
      refine fw_get (w := (kw G ad kt)) C in_X9 hK hG 0 kw_o9 rfl 5 (by decide) k45 rfl rfl dX9_tells_64 ?_
      refine lv_aload_n C.1 C.2.1 dX9_tells_67 rfl (lv_at hl 3 rfl) ?_
      refine lv_iload C.1 C.2.1 dX9_tells_68 (lv_at hl 0 rfl) ?_
      refine fw_calli (va_runV (As := [.ref (ad (28 + 2 * i2)), .int z6]) (rest := []) ⟨C.1, C.2.1, C.2.2.2.2.2.2, C.2.2.2.2.2.1, C.2.2.2.2.1⟩ (soX4_leftAtWorst l G ad kt iv ar i2 z6 _ hi2 h H.size) (cwV 2 C.2.2.2.2.1 gX9_tells_X4_leftAtWorst rfl rfl rfl (by decide +kernel) ⟨Nat.le_of_ble_eq_true rfl, Nat.le_of_ble_eq_true rfl⟩) (fw_preV hG hK (ci := 4) rfl kw_o4) rfl rfl hl.1 rfl (lv_room (Nat.le_of_ble_eq_true rfl)) dX9_tells_70 ⟨Nat.zero_le _, Nat.zero_le _⟩) hG hK (fun r9 iv10 ar11 H locs h hG => ?_)
      refine lv_istore (lv' := [(7, .int r9), (6, .int z6), (5, .int z5), (4, .int z4), (3, .ref (ad (28 + 2 * i2))), (0, .ref (ad 0)), (2, .int x2)]) C.1 C.2.1 dX9_tells_73 hl (by decide) rfl (fun ls hl => ?_)
      refine lv_iload C.1 C.2.1 dX9_tells_75 (lv_at hl 0 rfl) ?_
      refine lv_iload C.1 C.2.1 dX9_tells_77 (lv_at hl 2 rfl) ?_
      refine lv_icmp_ge (tgt := 90) C.1 C.2.1 dX9_tells_79 (by decide) (fun c12 => ?_) (fun c12 => ?_)
      · have h := h.1 c12
        obtain ⟨y13, ey13⟩ : ∃ z : Int32, z = z6 + 1 := ⟨_, rfl⟩
        have h := h y13 ey13
        refine lv_iinc (v := y13) (lv' := [(6, .int y13), (7, .int r9), (5, .int z5), (4, .int z4), (3, .ref (ad (28 + 2 * i2))), (0, .ref (ad 0)), (2, .int x2)]) C.1 C.2.1 dX9_tells_90 hl (k := 1) rfl (by rw [ey13]; rfl) (by decide) rfl (fun ls hl => ?_)
        refine lv_goto (tgt := 56) C.1 C.2.1 dX9_tells_93 (by decide) ?_
        exact ih _ _ _ _ _ h _ _ hG ls (lv_sub hl [0, 2, 3, 4, 5, 6] rfl)
      · have h := h.2 c12
        refine lv_iload C.1 C.2.1 dX9_tells_82 (lv_at hl 0 rfl) ?_
        refine lv_istore (lv' := [(5, .int r9), (7, .int r9), (6, .int z6), (4, .int z4), (3, .ref (ad (28 + 2 * i2))), (0, .ref (ad 0)), (2, .int x2)]) C.1 C.2.1 dX9_tells_84 hl (by decide) rfl (fun ls hl => ?_)
        refine lv_iload C.1 C.2.1 dX9_tells_86 (lv_at hl 2 rfl) ?_
        refine lv_istore (lv' := [(4, .int z6), (5, .int r9), (7, .int r9), (6, .int z6), (3, .ref (ad (28 + 2 * i2))), (0, .ref (ad 0)), (2, .int x2)]) C.1 C.2.1 dX9_tells_88 hl (by decide) rfl (fun ls hl => ?_)
        obtain ⟨y14, ey14⟩ : ∃ z : Int32, z = z6 + 1 := ⟨_, rfl⟩
        have h := h y14 ey14
        refine lv_iinc (v := y14) (lv' := [(6, .int y14), (4, .int z6), (5, .int r9), (7, .int r9), (3, .ref (ad (28 + 2 * i2))), (0, .ref (ad 0)), (2, .int x2)]) C.1 C.2.1 dX9_tells_90 hl (k := 3) rfl (by rw [ey14]; rfl) (by decide) rfl (fun ls hl => ?_)
        refine lv_goto (tgt := 56) C.1 C.2.1 dX9_tells_93 (by decide) ?_
        exact ih _ _ _ _ _ h _ _ hG ls (lv_sub hl [0, 2, 1, 4, 5, 6] rfl)

set_option maxHeartbeats 4000000 in
set_option maxRecDepth 100000 in
theorem soX9_tells (l : Launch) (G : fw_G) (ad : Nat → Nat) (kt : kw_T) (iv : fw_F) (ar : fw_R) (x1 : Int32) (x2 : Int32) (Q : Int32 → fw_F → fw_R → Prop)  (h : wpX9_tells kt iv ar x1 x2 Q) : fw_M l G (kw G ad kt) yX9_tells wsX9_tells rmX9_tells [.ref (ad 0), .int x1, .int x2] iv ar (fw_Qi G (kw G ad kt) Q) := by
  refine fw_start (cc := cX9_tells) (nL := 8) (rt := (some .int)) (by decide) rfl (Nat.le_of_ble_eq_true rfl) ?_
  intro p e s m below meth c A ls H locs C hK hG hl
  obtain ⟨args, ea⟩ : ∃ z : Array Value, z = ([.ref (ad 0), .int x1, .int x2] : List Value).toArray := ⟨_, rfl⟩
  rw [← ea] at C ⊢
  have C : fw_C p s m args meth c cX9_tells 8 (some .int) wsX9_tells RX9 := C
  have hl : lv_has ls 8 [(0, .ref (ad 0)), (1, .int x1), (2, .int x2)] := hl
  unfold wpX9_tells at h
  have in_X4 : ∀ x ∈ wsX40, x ∈ wsX9_tells := by decide +kernel
  have in_X9 : ∀ x ∈ wsX90, x ∈ wsX9_tells := by decide +kernel
  have k249 := C.2.2.2.2.1 (.fieldLink RX9 249 "KnifeBoard$Marks" "left" "I") (by decide +kernel)
  have k45 := C.2.2.2.2.1 (.fieldLink RX9 45 "KnifeBoard" "marks" "LKnifeBoard$Marks;") (by decide +kernel)
  refine lv_aload_n C.1 C.2.1 dX9_tells_0 rfl (lv_at hl 0 rfl) ?_
  refine lv_iload_n C.1 C.2.1 dX9_tells_1 rfl (lv_at hl 1 rfl) ?_
  refine fw_rcallq (va_runV (As := [.int x1]) (rest := []) ⟨C.1, C.2.1, C.2.2.2.2.2.2, C.2.2.2.2.2.1, C.2.2.2.2.1⟩ (soX9_knifeAt l G ad kt iv ar x1 _  h H.size) (cwV 1 C.2.2.2.2.1 gX9_tells_X9_knifeAt rfl rfl rfl (by decide +kernel) ⟨Nat.le_of_ble_eq_true rfl, Nat.le_of_ble_eq_true rfl⟩) (fw_preV hG hK (ci := 9) rfl kw_o9) rfl rfl hl.1 rfl (lv_room (Nat.le_of_ble_eq_true rfl)) dX9_tells_2 ⟨Nat.zero_le _, Nat.zero_le _⟩) hG hK (fun r1  H locs h hG => ?_)
  rcases r1 with _ | i2
  · have h := h.1 rfl
    refine W.eq (g2 := F0 m 5 ls (.null :: [])) rfl ?_
    refine lv_astore_nN (lv' := [(3, .null), (0, .ref (ad 0)), (1, .int x1), (2, .int x2)]) C.1 C.2.1 dX9_tells_5 rfl hl (by decide) rfl (fun ls hl => ?_)
    refine lv_aload_nN C.1 C.2.1 dX9_tells_6 rfl (lv_at hl 0 rfl) ?_
    refine lv_ifnonnullN C.1 C.2.1 dX9_tells_7 ?_
    refine lv_iconst (v := (-1)) C.1 C.2.1 dX9_tells_10 (by decide) ?_
    exact fw_iret C hG h dX9_tells_11
  · obtain ⟨hi2, h⟩ := h.2 i2 rfl
    refine W.eq (g2 := F0 m 5 ls (.ref (ad (28 + 2 * i2)) :: [])) rfl ?_
    refine lv_astore_n (lv' := [(3, .ref (ad (28 + 2 * i2))), (0, .ref (ad 0)), (1, .int x1), (2, .int x2)]) C.1 C.2.1 dX9_tells_5 rfl hl (by decide) rfl (fun ls hl => ?_)
    refine lv_aload_n C.1 C.2.1 dX9_tells_6 rfl (lv_at hl 0 rfl) ?_
    refine lv_ifnonnull (tgt := 12) C.1 C.2.1 dX9_tells_7 (by decide) ?_
    refine lv_iload_n C.1 C.2.1 dX9_tells_12 rfl (lv_at hl 3 rfl) ?_
    refine lv_iconst (v := 0) C.1 C.2.1 dX9_tells_13 (by decide) ?_
    refine lv_iconst (v := 1) C.1 C.2.1 dX9_tells_14 (by decide) ?_
    refine fw_pcalli (va_runS (As := [.int x2, .int 0, .int 1]) (rest := []) ⟨C.1, C.2.1, C.2.2.2.2.2.2, C.2.2.2.2.2.1, C.2.2.2.2.1⟩ (soX9_within l x2 0 1 _ h H.size) (va_cwS 3 C.2.2.2.2.1 gX9_tells_X9_within rfl rfl rfl (by decide +kernel) ⟨Nat.le_of_ble_eq_true rfl, Nat.le_of_ble_eq_true rfl⟩) fw_ppre rfl rfl hl.1 rfl (lv_room (Nat.le_of_ble_eq_true rfl)) dX9_tells_15 ⟨Nat.zero_le _, Nat.zero_le _⟩) hG hK (fun r3  H locs h hG => ?_)
    refine lv_if_ne (tgt := 24) C.1 C.2.1 dX9_tells_18 (by decide) (fun c4 => ?_) (fun c4 => ?_)
    · have h := h.1 c4
      refine lv_aload_n C.1 C.2.1 dX9_tells_24 rfl (lv_at hl 1 rfl) ?_
      refine fw_get (w := (kw G ad kt)) C in_X9 hK hG 0 kw_o9 rfl 5 (by decide) k45 rfl rfl dX9_tells_25 ?_
      refine lv_aload_n C.1 C.2.1 dX9_tells_28 rfl (lv_at hl 0 rfl) ?_
      refine fw_callv (va_runV (As := [.ref (ad (28 + 2 * i2))]) (rest := []) ⟨C.1, C.2.1, C.2.2.2.2.2.2, C.2.2.2.2.2.1, C.2.2.2.2.1⟩ (soX4_seekThrown l G ad kt iv ar i2 _ hi2 h H.size) (cwV 1 C.2.2.2.2.1 gX9_tells_X4_seekThrown rfl rfl rfl (by decide +kernel) ⟨Nat.le_of_ble_eq_true rfl, Nat.le_of_ble_eq_true rfl⟩) (fw_preV hG hK (ci := 4) rfl kw_o4) rfl rfl hl.1 rfl (lv_room (Nat.le_of_ble_eq_true rfl)) dX9_tells_29 ⟨Nat.zero_le _, Nat.zero_le _⟩) hG hK (fun iv5 ar6 H locs h hG => ?_)
      refine lv_aload_n C.1 C.2.1 dX9_tells_32 rfl (lv_at hl 1 rfl) ?_
      refine fw_get (w := (kw G ad kt)) C in_X9 hK hG 0 kw_o9 rfl 5 (by decide) k45 rfl rfl dX9_tells_33 ?_
      refine fw_get (w := (kw G ad kt)) C in_X4 hK hG 10 kw_o4 rfl 6 (by decide) k249 rfl rfl dX9_tells_36 ?_
      refine lv_if_ne (tgt := 45) C.1 C.2.1 dX9_tells_39 (by decide) (fun c7 => ?_) (fun c7 => ?_)
      · have h := h.1 c7
        refine lv_iconst (v := 0) C.1 C.2.1 dX9_tells_45 (by decide) ?_
        refine lv_istore (lv' := [(4, .int 0), (3, .ref (ad (28 + 2 * i2))), (0, .ref (ad 0)), (1, .int x1), (2, .int x2)]) C.1 C.2.1 dX9_tells_46 hl (by decide) rfl (fun ls hl => ?_)
        refine lv_sipush (v := 577) C.1 C.2.1 dX9_tells_48 (by decide) ?_
        refine lv_istore (lv' := [(5, .int 577), (4, .int 0), (3, .ref (ad (28 + 2 * i2))), (0, .ref (ad 0)), (1, .int x1), (2, .int x2)]) C.1 C.2.1 dX9_tells_51 hl (by decide) rfl (fun ls hl => ?_)
        refine lv_iconst (v := 1) C.1 C.2.1 dX9_tells_53 (by decide) ?_
        refine lv_istore (lv' := [(6, .int 1), (5, .int 577), (4, .int 0), (3, .ref (ad (28 + 2 * i2))), (0, .ref (ad 0)), (1, .int x1), (2, .int x2)]) C.1 C.2.1 dX9_tells_54 hl (by decide) rfl (fun ls hl => ?_)
        obtain ⟨ku, h⟩ := h
        refine soX9_tells_L56 C hK hi2 ?_ ku _ _ _ _ _ h _ _ hG ls (lv_sub hl [0, 1, 2, 3, 4, 6] rfl)
        intro w15 w16 w17 iv18 ar19 h H locs hG ls hl
        refine lv_iload_n C.1 C.2.1 dX9_tells_96 rfl (lv_at hl 5 rfl) ?_
        refine lv_if_ne (tgt := 105) C.1 C.2.1 dX9_tells_97 (by decide) (fun c20 => ?_) (fun c20 => ?_)
        · have h := h.1 c20
          refine lv_iload C.1 C.2.1 dX9_tells_105 (lv_at hl 1 rfl) ?_
          exact fw_iret C hG h dX9_tells_107
        · have h := h.2 c20
          refine lv_iload C.1 C.2.1 dX9_tells_100 (lv_at hl 2 rfl) ?_
          refine lv_goto (tgt := 107) C.1 C.2.1 dX9_tells_102 (by decide) ?_
          exact fw_iret C hG h dX9_tells_107
      · have h := h.2 c7
        refine lv_bipush (v := (-9)) C.1 C.2.1 dX9_tells_42 (by decide) ?_
        exact fw_iret C hG h dX9_tells_44
    · have h := h.2 c4
      refine lv_bipush (v := (-2)) C.1 C.2.1 dX9_tells_21 (by decide) ?_
      exact fw_iret C hG h dX9_tells_23
/-! KnifeBoard.takeChalk(IIII)Z -/
def rmX9_takeChalk : Room := { frames := 4, cells := 0, slots := 0, locals := 96 }
def wpX9_takeChalk_L45 (kt : kw_T) (x1 : Int32) (x2 : Int32) (x3 : Int32) (x4 : Int32) (iv4 : fw_F) (ar5 : fw_R) (Q : Int32 → fw_F → fw_R → Prop) (K : Int32 → Prop) : Nat → Int32 → Prop
  | 0, _ => False
  | fu + 1, z5 => ((2 * x4) ≤ z5 → (K z5)) ∧ (¬ (2 * x4) ≤ z5 → (vp_in z5 80 ∧ (wpX9_within ((ar5 25) z5.toNatClampNeg) (-99) 99 (fun (r11 : Int32) => (¬ r11 = 0 → (∀ y13 : Int32, y13 = z5 + 1 → (wpX9_takeChalk_L45 kt x1 x2 x3 x4 iv4 ar5 Q K fu y13))) ∧ (r11 = 0 → (Q 0 iv4 ar5))))))
def wpX9_takeChalk (kt : kw_T) (iv : fw_F) (ar : fw_R) (x1 : Int32) (x2 : Int32) (x3 : Int32) (x4 : Int32) (Q : Int32 → fw_F → fw_R → Prop) : Prop := wpX9_refusesSheet x1 x2 (fun (r1 : Int32) => (r1 = 0 → (wpX9_takeCells kt iv ar x1 x2 x3 (2 * x4.toInt64) (fun (r3 : Int32) (iv4 : fw_F) (ar5 : fw_R) => (r3 = 0 → (wpX9_within x4 1 40 (fun (r7 : Int32) => (¬ r7 = 0 → (∃ ku : Nat, wpX9_takeChalk_L45 kt x1 x2 x3 x4 iv4 ar5 Q (fun (w14 : Int32) => Q 1 iv4 ar5) ku 0)) ∧ (r7 = 0 → (Q 0 iv4 ar5))))) ∧ (¬ r3 = 0 → (Q 0 iv4 ar5))))) ∧ (¬ r1 = 0 → (Q 0 iv ar)))
set_option maxHeartbeats 4000000 in
set_option maxRecDepth 100000 in
theorem soX9_takeChalk_L45 {p : Program} {l : Launch} {e : Env} {s : State} {m : MethodId} {args : Array Value} {below : List Frame} {meth : Method} {c : Code} {A : Nat → Prop} {G : fw_G} {ad : Nat → Nat} {kt : kw_T} {x1 : Int32} {x2 : Int32} {x3 : Int32} {x4 : Int32} {iv4 : fw_F} {ar5 : fw_R} {Q : Int32 → fw_F → fw_R → Prop} {K : Int32 → Prop} (C : fw_C p s m args meth c cX9_takeChalk 6 (some .boolean) wsX9_takeChalk RX9) (hK : fw_K G A s)  (hX : ∀ (z5 : Int32), K z5 → ∀ (H : Heap) (locs : List Loc), fw_H G ((kw G ad kt) iv4 ar5) A s H locs → ∀ (ls : Array Slot), lv_has ls 6 [(5, .int z5), (0, .ref (ad 0)), (4, .int x4)] → W p l e rmX9_takeChalk s m args below meth c H locs 0 0 (MQ below (fw_Qi G (kw G ad kt) Q A) args s 0 0 A) (F0 m 79 ls [])) : ∀ (fu : Nat) (z5 : Int32), wpX9_takeChalk_L45 kt x1 x2 x3 x4 iv4 ar5 Q K fu z5 → ∀ (H : Heap) (locs : List Loc), fw_H G ((kw G ad kt) iv4 ar5) A s H locs → ∀ (ls : Array Slot), lv_has ls 6 [(5, .int z5), (0, .ref (ad 0)), (4, .int x4)] → W p l e rmX9_takeChalk s m args below meth c H locs 0 0 (MQ below (fw_Qi G (kw G ad kt) Q A) args s 0 0 A) (F0 m 45 ls []) := by
  intro fu
  have in_X9 : ∀ x ∈ wsX90, x ∈ wsX9_takeChalk := by decide +kernel
  have k56 := C.2.2.2.2.1 (.fieldLink RX9 56 "KnifeBoard" "taken" "[I") (by decide +kernel)
  induction fu with
  | zero => intro z5 h; exact h.elim
  | succ fu ih =>
    intro z5 h H locs hG ls hl
    unfold wpX9_takeChalk_L45 at h
    refine lv_iload C.1 C.2.1 dX9_takeChalk_45 (lv_at hl 0 rfl) ?_
    refine lv_iconst (v := 2) C.1 C.2.1 dX9_takeChalk_47 (by decide) ?_
    refine lv_iload C.1 C.2.1 dX9_takeChalk_48 (lv_at hl 2 rfl) ?_
    refine lv_imul C.1 C.2.1 dX9_takeChalk_50 ?_
    refine lv_icmp_ge (tgt := 79) C.1 C.2.1 dX9_takeChalk_51 (by decide) (fun c9 => ?_) (fun c9 => ?_)
    · have h := h.1 c9
      exact hX _ h _ _ hG ls (lv_sub hl [0, 1, 2] rfl)
    · have h := h.2 c9
      refine lv_aload_n C.1 C.2.1 dX9_takeChalk_54 rfl (lv_at hl 1 rfl) ?_
      refine fw_get (w := (kw G ad kt)) C in_X9 hK hG 0 kw_o9 rfl 7 (by decide) k56 rfl rfl dX9_takeChalk_55 ?_
      refine lv_iload C.1 C.2.1 dX9_takeChalk_58 (lv_at hl 0 rfl) ?_
      obtain ⟨c10, h⟩ := h
      refine fw_iald (w := (kw G ad kt)) C hK hG 25 kw_a25 c10 dX9_takeChalk_60 ?_
      refine lv_bipush (v := (-99)) C.1 C.2.1 dX9_takeChalk_61 (by decide) ?_
      refine lv_bipush (v := 99) C.1 C.2.1 dX9_takeChalk_63 (by decide) ?_
      refine fw_pcalli (va_runS (As := [.int ((ar5 25) z5.toNatClampNeg), .int (-99), .int 99]) (rest := []) ⟨C.1, C.2.1, C.2.2.2.2.2.2, C.2.2.2.2.2.1, C.2.2.2.2.1⟩ (soX9_within l ((ar5 25) z5.toNatClampNeg) (-99) 99 _ h H.size) (va_cwS 3 C.2.2.2.2.1 gX9_takeChalk_X9_within rfl rfl rfl (by decide +kernel) ⟨Nat.le_of_ble_eq_true rfl, Nat.le_of_ble_eq_true rfl⟩) fw_ppre rfl rfl hl.1 rfl (lv_room (Nat.le_of_ble_eq_true rfl)) dX9_takeChalk_65 ⟨Nat.zero_le _, Nat.zero_le _⟩) hG hK (fun r11  H locs h hG => ?_)
      refine lv_if_ne (tgt := 73) C.1 C.2.1 dX9_takeChalk_68 (by decide) (fun c12 => ?_) (fun c12 => ?_)
      · have h := h.1 c12
        obtain ⟨y13, ey13⟩ : ∃ z : Int32, z = z5 + 1 := ⟨_, rfl⟩
        have h := h y13 ey13
        refine lv_iinc (v := y13) (lv' := [(5, .int y13), (0, .ref (ad 0)), (4, .int x4)]) C.1 C.2.1 dX9_takeChalk_73 hl (k := 0) rfl (by rw [ey13]; rfl) (by decide) rfl (fun ls hl => ?_)
        refine lv_goto (tgt := 45) C.1 C.2.1 dX9_takeChalk_76 (by decide) ?_
        exact ih _ h _ _ hG ls (lv_sub hl [0, 1, 2] rfl)
      · have h := h.2 c12
        refine lv_iconst (v := 0) C.1 C.2.1 dX9_takeChalk_71 (by decide) ?_
        exact fw_zret C hG (by decide) h dX9_takeChalk_72

set_option maxHeartbeats 4000000 in
set_option maxRecDepth 100000 in
theorem soX9_takeChalk (l : Launch) (G : fw_G) (ad : Nat → Nat) (kt : kw_T) (iv : fw_F) (ar : fw_R) (x1 : Int32) (x2 : Int32) (x3 : Int32) (x4 : Int32) (Q : Int32 → fw_F → fw_R → Prop)  (h : wpX9_takeChalk kt iv ar x1 x2 x3 x4 Q) : fw_M l G (kw G ad kt) yX9_takeChalk wsX9_takeChalk rmX9_takeChalk [.ref (ad 0), .int x1, .int x2, .int x3, .int x4] iv ar (fw_Qi G (kw G ad kt) Q) := by
  refine fw_start (cc := cX9_takeChalk) (nL := 6) (rt := (some .boolean)) (by decide) rfl (Nat.le_of_ble_eq_true rfl) ?_
  intro p e s m below meth c A ls H locs C hK hG hl
  obtain ⟨args, ea⟩ : ∃ z : Array Value, z = ([.ref (ad 0), .int x1, .int x2, .int x3, .int x4] : List Value).toArray := ⟨_, rfl⟩
  rw [← ea] at C ⊢
  have C : fw_C p s m args meth c cX9_takeChalk 6 (some .boolean) wsX9_takeChalk RX9 := C
  have hl : lv_has ls 6 [(0, .ref (ad 0)), (1, .int x1), (2, .int x2), (3, .int x3), (4, .int x4)] := hl
  unfold wpX9_takeChalk at h
  have k332 := C.2.2.2.2.1 (.constantLong RX9 332 2) (by decide +kernel)
  refine lv_iload_n C.1 C.2.1 dX9_takeChalk_0 rfl (lv_at hl 1 rfl) ?_
  refine lv_iload_n C.1 C.2.1 dX9_takeChalk_1 rfl (lv_at hl 2 rfl) ?_
  refine fw_pcalli (va_runS (As := [.int x1, .int x2]) (rest := []) ⟨C.1, C.2.1, C.2.2.2.2.2.2, C.2.2.2.2.2.1, C.2.2.2.2.1⟩ (soX9_refusesSheet l x1 x2 _ h H.size) (va_cwS 2 C.2.2.2.2.1 gX9_takeChalk_X9_refusesSheet rfl rfl rfl (by decide +kernel) ⟨Nat.le_of_ble_eq_true rfl, Nat.le_of_ble_eq_true rfl⟩) fw_ppre rfl rfl hl.1 rfl (lv_room (Nat.le_of_ble_eq_true rfl)) dX9_takeChalk_2 ⟨Nat.zero_le _, Nat.zero_le _⟩) hG hK (fun r1  H locs h hG => ?_)
  refine lv_if_eq (tgt := 10) C.1 C.2.1 dX9_takeChalk_5 (by decide) (fun c2 => ?_) (fun c2 => ?_)
  · have h := h.1 c2
    refine lv_aload_n C.1 C.2.1 dX9_takeChalk_10 rfl (lv_at hl 0 rfl) ?_
    refine lv_iload_n C.1 C.2.1 dX9_takeChalk_11 rfl (lv_at hl 1 rfl) ?_
    refine lv_iload_n C.1 C.2.1 dX9_takeChalk_12 rfl (lv_at hl 2 rfl) ?_
    refine lv_iload_n C.1 C.2.1 dX9_takeChalk_13 rfl (lv_at hl 3 rfl) ?_
    refine lv_ldc2 C.1 C.2.1 C.2.2.2.2.2.1 k332 dX9_takeChalk_14 ?_
    refine lv_iload C.1 C.2.1 dX9_takeChalk_17 (lv_at hl 4 rfl) ?_
    refine lv_i2l C.1 C.2.1 dX9_takeChalk_19 rfl ?_
    refine lv_lmul C.1 C.2.1 dX9_takeChalk_20 ?_
    refine fw_calli (va_runV (As := [.int x1, .int x2, .int x3, .long (2 * x4.toInt64)]) (rest := []) ⟨C.1, C.2.1, C.2.2.2.2.2.2, C.2.2.2.2.2.1, C.2.2.2.2.1⟩ (soX9_takeCells l G ad kt iv ar x1 x2 x3 (2 * x4.toInt64) _  h H.size) (cwV 4 C.2.2.2.2.1 gX9_takeChalk_X9_takeCells rfl rfl rfl (by decide +kernel) ⟨Nat.le_of_ble_eq_true rfl, Nat.le_of_ble_eq_true rfl⟩) (fw_preV hG hK (ci := 9) rfl kw_o9) rfl rfl hl.1 rfl (lv_room (Nat.le_of_ble_eq_true rfl)) dX9_takeChalk_21 ⟨Nat.zero_le _, Nat.zero_le _⟩) hG hK (fun r3 iv4 ar5 H locs h hG => ?_)
    refine lv_if_eq (tgt := 29) C.1 C.2.1 dX9_takeChalk_24 (by decide) (fun c6 => ?_) (fun c6 => ?_)
    · have h := h.1 c6
      refine lv_iload C.1 C.2.1 dX9_takeChalk_29 (lv_at hl 4 rfl) ?_
      refine lv_iconst (v := 1) C.1 C.2.1 dX9_takeChalk_31 (by decide) ?_
      refine lv_bipush (v := 40) C.1 C.2.1 dX9_takeChalk_32 (by decide) ?_
      refine fw_pcalli (va_runS (As := [.int x4, .int 1, .int 40]) (rest := []) ⟨C.1, C.2.1, C.2.2.2.2.2.2, C.2.2.2.2.2.1, C.2.2.2.2.1⟩ (soX9_within l x4 1 40 _ h H.size) (va_cwS 3 C.2.2.2.2.1 gX9_takeChalk_X9_within rfl rfl rfl (by decide +kernel) ⟨Nat.le_of_ble_eq_true rfl, Nat.le_of_ble_eq_true rfl⟩) fw_ppre rfl rfl hl.1 rfl (lv_room (Nat.le_of_ble_eq_true rfl)) dX9_takeChalk_34 ⟨Nat.zero_le _, Nat.zero_le _⟩) hG hK (fun r7  H locs h hG => ?_)
      refine lv_if_ne (tgt := 42) C.1 C.2.1 dX9_takeChalk_37 (by decide) (fun c8 => ?_) (fun c8 => ?_)
      · have h := h.1 c8
        refine lv_iconst (v := 0) C.1 C.2.1 dX9_takeChalk_42 (by decide) ?_
        refine lv_istore (lv' := [(5, .int 0), (0, .ref (ad 0)), (1, .int x1), (2, .int x2), (3, .int x3), (4, .int x4)]) C.1 C.2.1 dX9_takeChalk_43 hl (by decide) rfl (fun ls hl => ?_)
        obtain ⟨ku, h⟩ := h
        refine soX9_takeChalk_L45 C hK  ?_ ku _ h _ _ hG ls (lv_sub hl [0, 1, 5] rfl)
        intro w14 h H locs hG ls hl
        refine lv_iconst (v := 1) C.1 C.2.1 dX9_takeChalk_79 (by decide) ?_
        exact fw_zret C hG (by decide) h dX9_takeChalk_80
      · have h := h.2 c8
        refine lv_iconst (v := 0) C.1 C.2.1 dX9_takeChalk_40 (by decide) ?_
        exact fw_zret C hG (by decide) h dX9_takeChalk_41
    · have h := h.2 c6
      refine lv_iconst (v := 0) C.1 C.2.1 dX9_takeChalk_27 (by decide) ?_
      exact fw_zret C hG (by decide) h dX9_takeChalk_28
  · have h := h.2 c2
    refine lv_iconst (v := 0) C.1 C.2.1 dX9_takeChalk_8 (by decide) ?_
    exact fw_zret C hG (by decide) h dX9_takeChalk_9
/-! KnifeBoard.chalk(IIIIII)J -/
def rmX9_chalk : Room := { frames := 5, cells := 0, slots := 0, locals := 121 }
def wpX9_chalk_L51 (kt : kw_T) (x1 : Int32) (x2 : Int32) (x3 : Int32) (x4 : Int32) (x5 : Int32) (x6 : Int32) (iv3 : fw_F) (ar4 : fw_R) (Q : Int64 → fw_F → fw_R → Prop) (K : Int32 → Int32 → Prop) : Nat → Int32 → Int32 → Prop
  | 0, _, _ => False
  | fu + 1, z7, z8 => (x4 ≤ z8 → (K z7 z8)) ∧ (¬ x4 ≤ z8 → (vp_in ((2 * z8) + (x5 - x5 / 2 * 2)) 80 ∧ (∀ y12 : Int32, y12 = (ar4 25) ((2 * z8) + (x5 - x5 / 2 * 2)).toNatClampNeg → ((2 ≤ x5 → (∀ y14 : Int32, y14 = z7 + (if 0 ≤ y12 then y12 else 0 - y12) → (∀ y15 : Int32, y15 = z8 + 1 → (wpX9_chalk_L51 kt x1 x2 x3 x4 x5 x6 iv3 ar4 Q K fu y14 y15)))) ∧ (¬ 2 ≤ x5 → (∀ y16 : Int32, y16 = z7 + y12 → (∀ y17 : Int32, y17 = z8 + 1 → (wpX9_chalk_L51 kt x1 x2 x3 x4 x5 x6 iv3 ar4 Q K fu y16 y17))))))))
def wpX9_chalk (kt : kw_T) (iv : fw_F) (ar : fw_R) (x1 : Int32) (x2 : Int32) (x3 : Int32) (x4 : Int32) (x5 : Int32) (x6 : Int32) (Q : Int64 → fw_F → fw_R → Prop) : Prop := ∀ iv1 : fw_F, iv1 = va_up iv 1 0 → (wpX9_takeChalk kt iv1 ar x1 x2 x3 x4 (fun (r2 : Int32) (iv3 : fw_F) (ar4 : fw_R) => (¬ r2 = 0 → (wpX9_within x5 0 3 (fun (r6 : Int32) => (r6 = 0 → (Q (-9223372036854775808) iv3 ar4)) ∧ (¬ r6 = 0 → (wpX9_within x6 0 1 (fun (r8 : Int32) => (¬ r8 = 0 → (∃ ku : Nat, wpX9_chalk_L51 kt x1 x2 x3 x4 x5 x6 iv3 ar4 Q (fun (w18 : Int32) (w19 : Int32) => (2 ≤ x5 → (wpX9_share w18.toInt64 1 x6 (fun (r21 : Int64) => Q r21 iv3 ar4))) ∧ (¬ 2 ≤ x5 → (wpX9_share w18.toInt64 x4.toInt64 x6 (fun (r22 : Int64) => Q r22 iv3 ar4)))) ku 0 0)) ∧ (r8 = 0 → (Q (-9223372036854775808) iv3 ar4)))))))) ∧ (r2 = 0 → (Q (-9223372036854775808) iv3 ar4))))
set_option maxHeartbeats 4000000 in
set_option maxRecDepth 100000 in
theorem soX9_chalk_L51 {p : Program} {l : Launch} {e : Env} {s : State} {m : MethodId} {args : Array Value} {below : List Frame} {meth : Method} {c : Code} {A : Nat → Prop} {G : fw_G} {ad : Nat → Nat} {kt : kw_T} {x1 : Int32} {x2 : Int32} {x3 : Int32} {x4 : Int32} {x5 : Int32} {x6 : Int32} {iv3 : fw_F} {ar4 : fw_R} {Q : Int64 → fw_F → fw_R → Prop} {K : Int32 → Int32 → Prop} (C : fw_C p s m args meth c cX9_chalk 10 (some .long) wsX9_chalk RX9) (hK : fw_K G A s)  (hX : ∀ (z7 : Int32) (z8 : Int32), K z7 z8 → ∀ (H : Heap) (locs : List Loc), fw_H G ((kw G ad kt) iv3 ar4) A s H locs → ∀ (ls : Array Slot), lv_has ls 10 [(8, .int z8), (7, .int z7), (0, .ref (ad 0)), (4, .int x4), (5, .int x5), (6, .int x6)] → W p l e rmX9_chalk s m args below meth c H locs 0 0 (MQ below (fw_Ql G (kw G ad kt) Q A) args s 0 0 A) (F0 m 101 ls [])) : ∀ (fu : Nat) (z7 : Int32) (z8 : Int32), wpX9_chalk_L51 kt x1 x2 x3 x4 x5 x6 iv3 ar4 Q K fu z7 z8 → ∀ (H : Heap) (locs : List Loc), fw_H G ((kw G ad kt) iv3 ar4) A s H locs → ∀ (ls : Array Slot), lv_has ls 10 [(8, .int z8), (7, .int z7), (0, .ref (ad 0)), (4, .int x4), (5, .int x5), (6, .int x6)] → W p l e rmX9_chalk s m args below meth c H locs 0 0 (MQ below (fw_Ql G (kw G ad kt) Q A) args s 0 0 A) (F0 m 51 ls []) := by
  intro fu
  have in_X9 : ∀ x ∈ wsX90, x ∈ wsX9_chalk := by decide +kernel
  have k56 := C.2.2.2.2.1 (.fieldLink RX9 56 "KnifeBoard" "taken" "[I") (by decide +kernel)
  have m263 := C.2.2.2.2.1 (.methodLink RX9 263 Lib.Math.abs.name) (by decide +kernel)
  have mc_abs : (Cond.code Lib.Math.abs.name Lib.Math.abs.code 1 (some .int)).before args s = true := C.2.2.2.2.1 _ (by decide +kernel)
  have mi_ := C.2.2.2.2.1 (.initialized "java/lang/Math") (by decide +kernel)
  have ms_abs := C.2.2.2.2.1 (.static Lib.Math.abs.name) (by decide +kernel)
  induction fu with
  | zero => intro z7 z8 h; exact h.elim
  | succ fu ih =>
    intro z7 z8 h H locs hG ls hl
    unfold wpX9_chalk_L51 at h
    refine lv_iload C.1 C.2.1 dX9_chalk_51 (lv_at hl 0 rfl) ?_
    refine lv_iload C.1 C.2.1 dX9_chalk_53 (lv_at hl 3 rfl) ?_
    refine lv_icmp_ge (tgt := 101) C.1 C.2.1 dX9_chalk_55 (by decide) (fun c10 => ?_) (fun c10 => ?_)
    · have h := h.1 c10
      exact hX _ _ h _ _ hG ls (lv_sub hl [0, 1, 2, 3, 4, 5] rfl)
    · have h := h.2 c10
      refine lv_aload_n C.1 C.2.1 dX9_chalk_58 rfl (lv_at hl 2 rfl) ?_
      refine fw_get (w := (kw G ad kt)) C in_X9 hK hG 0 kw_o9 rfl 7 (by decide) k56 rfl rfl dX9_chalk_59 ?_
      refine lv_iconst (v := 2) C.1 C.2.1 dX9_chalk_62 (by decide) ?_
      refine lv_iload C.1 C.2.1 dX9_chalk_63 (lv_at hl 0 rfl) ?_
      refine lv_imul C.1 C.2.1 dX9_chalk_65 ?_
      refine lv_iload C.1 C.2.1 dX9_chalk_66 (lv_at hl 4 rfl) ?_
      refine lv_iconst (v := 2) C.1 C.2.1 dX9_chalk_68 (by decide) ?_
      refine lv_irem C.1 C.2.1 dX9_chalk_69 (by decide) ?_
      refine lv_iadd C.1 C.2.1 dX9_chalk_70 ?_
      obtain ⟨c11, h⟩ := h
      refine fw_iald (w := (kw G ad kt)) C hK hG 25 kw_a25 c11 dX9_chalk_71 ?_
      refine lv_topi (fun y12 ey12 => ?_)
      have h := h y12 ey12
      refine lv_istore (lv' := [(9, .int y12), (8, .int z8), (7, .int z7), (0, .ref (ad 0)), (4, .int x4), (5, .int x5), (6, .int x6)]) C.1 C.2.1 dX9_chalk_72 hl (by decide) rfl (fun ls hl => ?_)
      refine lv_iload C.1 C.2.1 dX9_chalk_74 (lv_at hl 2 rfl) ?_
      refine lv_iload C.1 C.2.1 dX9_chalk_76 (lv_at hl 5 rfl) ?_
      refine lv_iconst (v := 2) C.1 C.2.1 dX9_chalk_78 (by decide) ?_
      refine lv_icmp_ge (tgt := 87) C.1 C.2.1 dX9_chalk_79 (by decide) (fun c13 => ?_) (fun c13 => ?_)
      · have h := h.1 c13
        refine lv_iload C.1 C.2.1 dX9_chalk_87 (lv_at hl 0 rfl) ?_
        refine va_mabs C.1 C.2.1 (by rw [C.2.2.2.2.2.2]; exact hl.1.symm) C.2.2.2.2.2.1 m263 ms_abs mi_ mc_abs (Nat.le_of_ble_eq_true rfl) (Nat.le_of_ble_eq_true rfl) (Nat.zero_le _) (Nat.zero_le _) dX9_chalk_89 ?_
        refine lv_iadd C.1 C.2.1 dX9_chalk_92 ?_
        refine lv_topi (fun y14 ey14 => ?_)
        have h := h y14 ey14
        refine lv_istore (lv' := [(7, .int y14), (9, .int y12), (8, .int z8), (0, .ref (ad 0)), (4, .int x4), (5, .int x5), (6, .int x6)]) C.1 C.2.1 dX9_chalk_93 hl (by decide) rfl (fun ls hl => ?_)
        obtain ⟨y15, ey15⟩ : ∃ z : Int32, z = z8 + 1 := ⟨_, rfl⟩
        have h := h y15 ey15
        refine lv_iinc (v := y15) (lv' := [(8, .int y15), (7, .int y14), (9, .int y12), (0, .ref (ad 0)), (4, .int x4), (5, .int x5), (6, .int x6)]) C.1 C.2.1 dX9_chalk_95 hl (k := 2) rfl (by rw [ey15]; rfl) (by decide) rfl (fun ls hl => ?_)
        refine lv_goto (tgt := 51) C.1 C.2.1 dX9_chalk_98 (by decide) ?_
        exact ih _ _ h _ _ hG ls (lv_sub hl [0, 1, 3, 4, 5, 6] rfl)
      · have h := h.2 c13
        refine lv_iload C.1 C.2.1 dX9_chalk_82 (lv_at hl 0 rfl) ?_
        refine lv_goto (tgt := 92) C.1 C.2.1 dX9_chalk_84 (by decide) ?_
        refine lv_iadd C.1 C.2.1 dX9_chalk_92 ?_
        refine lv_topi (fun y16 ey16 => ?_)
        have h := h y16 ey16
        refine lv_istore (lv' := [(7, .int y16), (9, .int y12), (8, .int z8), (0, .ref (ad 0)), (4, .int x4), (5, .int x5), (6, .int x6)]) C.1 C.2.1 dX9_chalk_93 hl (by decide) rfl (fun ls hl => ?_)
        obtain ⟨y17, ey17⟩ : ∃ z : Int32, z = z8 + 1 := ⟨_, rfl⟩
        have h := h y17 ey17
        refine lv_iinc (v := y17) (lv' := [(8, .int y17), (7, .int y16), (9, .int y12), (0, .ref (ad 0)), (4, .int x4), (5, .int x5), (6, .int x6)]) C.1 C.2.1 dX9_chalk_95 hl (k := 2) rfl (by rw [ey17]; rfl) (by decide) rfl (fun ls hl => ?_)
        refine lv_goto (tgt := 51) C.1 C.2.1 dX9_chalk_98 (by decide) ?_
        exact ih _ _ h _ _ hG ls (lv_sub hl [0, 1, 3, 4, 5, 6] rfl)

set_option maxHeartbeats 4000000 in
set_option maxRecDepth 100000 in
theorem soX9_chalk (l : Launch) (G : fw_G) (ad : Nat → Nat) (kt : kw_T) (iv : fw_F) (ar : fw_R) (x1 : Int32) (x2 : Int32) (x3 : Int32) (x4 : Int32) (x5 : Int32) (x6 : Int32) (Q : Int64 → fw_F → fw_R → Prop)  (h : wpX9_chalk kt iv ar x1 x2 x3 x4 x5 x6 Q) : fw_M l G (kw G ad kt) yX9_chalk wsX9_chalk rmX9_chalk [.ref (ad 0), .int x1, .int x2, .int x3, .int x4, .int x5, .int x6] iv ar (fw_Ql G (kw G ad kt) Q) := by
  refine fw_start (cc := cX9_chalk) (nL := 10) (rt := (some .long)) (by decide) rfl (Nat.le_of_ble_eq_true rfl) ?_
  intro p e s m below meth c A ls H locs C hK hG hl
  obtain ⟨args, ea⟩ : ∃ z : Array Value, z = ([.ref (ad 0), .int x1, .int x2, .int x3, .int x4, .int x5, .int x6] : List Value).toArray := ⟨_, rfl⟩
  rw [← ea] at C ⊢
  have C : fw_C p s m args meth c cX9_chalk 10 (some .long) wsX9_chalk RX9 := C
  have hl : lv_has ls 10 [(0, .ref (ad 0)), (1, .int x1), (2, .int x2), (3, .int x3), (4, .int x4), (5, .int x5), (6, .int x6)] := hl
  unfold wpX9_chalk at h
  have in_X9 : ∀ x ∈ wsX90, x ∈ wsX9_chalk := by decide +kernel
  have k113 := C.2.2.2.2.1 (.constantLong RX9 113 (-9223372036854775808)) (by decide +kernel)
  have k71 := C.2.2.2.2.1 (.fieldLink RX9 71 "KnifeBoard" "theFault" "I") (by decide +kernel)
  refine lv_aload_n C.1 C.2.1 dX9_chalk_0 rfl (lv_at hl 0 rfl) ?_
  refine lv_iconst (v := 0) C.1 C.2.1 dX9_chalk_1 (by decide) ?_
  obtain ⟨iv1, eiv1⟩ : ∃ z : fw_F, z = va_up iv 1 0 := ⟨_, rfl⟩
  have h := h iv1 eiv1
  refine fw_put (w := (kw G ad kt)) C in_X9 tyX9 tyX9_ok nmX9 hK hG 0 kw_o9 rfl 10 (by decide) k71 rfl rfl (ty := .int) (v := .int 0) (by decide +kernel) rfl rfl (by first | decide | exact Nat.le_of_ble_eq_true rfl) (iv1 := iv1) (by rw [eiv1]; exact kw_p9_theFault) dX9_chalk_2 (fun H locs hG => ?_)
  refine lv_aload_n C.1 C.2.1 dX9_chalk_5 rfl (lv_at hl 0 rfl) ?_
  refine lv_iload_n C.1 C.2.1 dX9_chalk_6 rfl (lv_at hl 1 rfl) ?_
  refine lv_iload_n C.1 C.2.1 dX9_chalk_7 rfl (lv_at hl 2 rfl) ?_
  refine lv_iload_n C.1 C.2.1 dX9_chalk_8 rfl (lv_at hl 3 rfl) ?_
  refine lv_iload C.1 C.2.1 dX9_chalk_9 (lv_at hl 4 rfl) ?_
  refine fw_calli (va_runV (As := [.int x1, .int x2, .int x3, .int x4]) (rest := []) ⟨C.1, C.2.1, C.2.2.2.2.2.2, C.2.2.2.2.2.1, C.2.2.2.2.1⟩ (soX9_takeChalk l G ad kt iv1 ar x1 x2 x3 x4 _  h H.size) (cwV 4 C.2.2.2.2.1 gX9_chalk_X9_takeChalk rfl rfl rfl (by decide +kernel) ⟨Nat.le_of_ble_eq_true rfl, Nat.le_of_ble_eq_true rfl⟩) (fw_preV hG hK (ci := 9) rfl kw_o9) rfl rfl hl.1 rfl (lv_room (Nat.le_of_ble_eq_true rfl)) dX9_chalk_11 ⟨Nat.zero_le _, Nat.zero_le _⟩) hG hK (fun r2 iv3 ar4 H locs h hG => ?_)
  refine lv_if_ne (tgt := 21) C.1 C.2.1 dX9_chalk_14 (by decide) (fun c5 => ?_) (fun c5 => ?_)
  · have h := h.1 c5
    refine lv_iload C.1 C.2.1 dX9_chalk_21 (lv_at hl 5 rfl) ?_
    refine lv_iconst (v := 0) C.1 C.2.1 dX9_chalk_23 (by decide) ?_
    refine lv_iconst (v := 3) C.1 C.2.1 dX9_chalk_24 (by decide) ?_
    refine fw_pcalli (va_runS (As := [.int x5, .int 0, .int 3]) (rest := []) ⟨C.1, C.2.1, C.2.2.2.2.2.2, C.2.2.2.2.2.1, C.2.2.2.2.1⟩ (soX9_within l x5 0 3 _ h H.size) (va_cwS 3 C.2.2.2.2.1 gX9_chalk_X9_within rfl rfl rfl (by decide +kernel) ⟨Nat.le_of_ble_eq_true rfl, Nat.le_of_ble_eq_true rfl⟩) fw_ppre rfl rfl hl.1 rfl (lv_room (Nat.le_of_ble_eq_true rfl)) dX9_chalk_25 ⟨Nat.zero_le _, Nat.zero_le _⟩) hG hK (fun r6  H locs h hG => ?_)
    refine lv_if_eq (tgt := 41) C.1 C.2.1 dX9_chalk_28 (by decide) (fun c7 => ?_) (fun c7 => ?_)
    · have h := h.1 c7
      refine lv_ldc2 C.1 C.2.1 C.2.2.2.2.2.1 k113 dX9_chalk_41 ?_
      exact fw_lret C hG h dX9_chalk_44
    · have h := h.2 c7
      refine lv_iload C.1 C.2.1 dX9_chalk_31 (lv_at hl 6 rfl) ?_
      refine lv_iconst (v := 0) C.1 C.2.1 dX9_chalk_33 (by decide) ?_
      refine lv_iconst (v := 1) C.1 C.2.1 dX9_chalk_34 (by decide) ?_
      refine fw_pcalli (va_runS (As := [.int x6, .int 0, .int 1]) (rest := []) ⟨C.1, C.2.1, C.2.2.2.2.2.2, C.2.2.2.2.2.1, C.2.2.2.2.1⟩ (soX9_within l x6 0 1 _ h H.size) (va_cwS 3 C.2.2.2.2.1 gX9_chalk_X9_within rfl rfl rfl (by decide +kernel) ⟨Nat.le_of_ble_eq_true rfl, Nat.le_of_ble_eq_true rfl⟩) fw_ppre rfl rfl hl.1 rfl (lv_room (Nat.le_of_ble_eq_true rfl)) dX9_chalk_35 ⟨Nat.zero_le _, Nat.zero_le _⟩) hG hK (fun r8  H locs h hG => ?_)
      refine lv_if_ne (tgt := 45) C.1 C.2.1 dX9_chalk_38 (by decide) (fun c9 => ?_) (fun c9 => ?_)
      · have h := h.1 c9
        refine lv_iconst (v := 0) C.1 C.2.1 dX9_chalk_45 (by decide) ?_
        refine lv_istore (lv' := [(7, .int 0), (0, .ref (ad 0)), (1, .int x1), (2, .int x2), (3, .int x3), (4, .int x4), (5, .int x5), (6, .int x6)]) C.1 C.2.1 dX9_chalk_46 hl (by decide) rfl (fun ls hl => ?_)
        refine lv_iconst (v := 0) C.1 C.2.1 dX9_chalk_48 (by decide) ?_
        refine lv_istore (lv' := [(8, .int 0), (7, .int 0), (0, .ref (ad 0)), (1, .int x1), (2, .int x2), (3, .int x3), (4, .int x4), (5, .int x5), (6, .int x6)]) C.1 C.2.1 dX9_chalk_49 hl (by decide) rfl (fun ls hl => ?_)
        obtain ⟨ku, h⟩ := h
        refine soX9_chalk_L51 C hK  ?_ ku _ _ h _ _ hG ls (lv_sub hl [0, 1, 2, 6, 7, 8] rfl)
        intro w18 w19 h H locs hG ls hl
        refine lv_iload C.1 C.2.1 dX9_chalk_101 (lv_at hl 1 rfl) ?_
        refine lv_i2l C.1 C.2.1 dX9_chalk_103 rfl ?_
        refine lv_iload C.1 C.2.1 dX9_chalk_104 (lv_at hl 4 rfl) ?_
        refine lv_iconst (v := 2) C.1 C.2.1 dX9_chalk_106 (by decide) ?_
        refine lv_icmp_ge (tgt := 116) C.1 C.2.1 dX9_chalk_107 (by decide) (fun c20 => ?_) (fun c20 => ?_)
        · have h := h.1 c20
          refine lv_lconst (v := 1) C.1 C.2.1 dX9_chalk_116 (by decide) ?_
          refine lv_iload C.1 C.2.1 dX9_chalk_117 (lv_at hl 5 rfl) ?_
          refine fw_pcalll (va_runS (As := [.long w18.toInt64, .long 1, .int x6]) (rest := []) ⟨C.1, C.2.1, C.2.2.2.2.2.2, C.2.2.2.2.2.1, C.2.2.2.2.1⟩ (soX9_share l w18.toInt64 1 x6 _ h H.size) (va_cwS 3 C.2.2.2.2.1 gX9_chalk_X9_share rfl rfl rfl (by decide +kernel) ⟨Nat.le_of_ble_eq_true rfl, Nat.le_of_ble_eq_true rfl⟩) fw_ppre rfl rfl hl.1 rfl (lv_room (Nat.le_of_ble_eq_true rfl)) dX9_chalk_119 ⟨Nat.zero_le _, Nat.zero_le _⟩) hG hK (fun r21  H locs h hG => ?_)
          exact fw_lret C hG h dX9_chalk_122
        · have h := h.2 c20
          refine lv_iload C.1 C.2.1 dX9_chalk_110 (lv_at hl 3 rfl) ?_
          refine lv_i2l C.1 C.2.1 dX9_chalk_112 rfl ?_
          refine lv_goto (tgt := 117) C.1 C.2.1 dX9_chalk_113 (by decide) ?_
          refine lv_iload C.1 C.2.1 dX9_chalk_117 (lv_at hl 5 rfl) ?_
          refine fw_pcalll (va_runS (As := [.long w18.toInt64, .long x4.toInt64, .int x6]) (rest := []) ⟨C.1, C.2.1, C.2.2.2.2.2.2, C.2.2.2.2.2.1, C.2.2.2.2.1⟩ (soX9_share l w18.toInt64 x4.toInt64 x6 _ h H.size) (va_cwS 3 C.2.2.2.2.1 gX9_chalk_X9_share rfl rfl rfl (by decide +kernel) ⟨Nat.le_of_ble_eq_true rfl, Nat.le_of_ble_eq_true rfl⟩) fw_ppre rfl rfl hl.1 rfl (lv_room (Nat.le_of_ble_eq_true rfl)) dX9_chalk_119 ⟨Nat.zero_le _, Nat.zero_le _⟩) hG hK (fun r22  H locs h hG => ?_)
          exact fw_lret C hG h dX9_chalk_122
      · have h := h.2 c9
        refine lv_ldc2 C.1 C.2.1 C.2.2.2.2.2.1 k113 dX9_chalk_41 ?_
        exact fw_lret C hG h dX9_chalk_44
  · have h := h.2 c5
    refine lv_ldc2 C.1 C.2.1 C.2.2.2.2.2.1 k113 dX9_chalk_17 ?_
    exact fw_lret C hG h dX9_chalk_20
/-! KnifeBoard.byChalk(IIIIII)J -/
def rmX9_byChalk : Room := { frames := 5, cells := 0, slots := 0, locals := 121 }
def wpX9_byChalk_L53 (kt : kw_T) (x1 : Int32) (x2 : Int32) (x3 : Int32) (x4 : Int32) (x5 : Int32) (x6 : Int32) (iv5 : fw_F) (ar6 : fw_R) (Q : Int64 → fw_F → fw_R → Prop) (K : Int32 → Int32 → Prop) : Nat → Int32 → Int32 → Prop
  | 0, _, _ => False
  | fu + 1, z7, z8 => (x5 ≤ z8 → (K z7 z8)) ∧ (¬ x5 ≤ z8 → (wpX0_rowOf kt iv5 ar6 x1 (fun (r11 : Int32) => vp_in (2 * z8) 80 ∧ (∀ y13 : Int32, y13 = r11 - ((ar6 25) (2 * z8).toNatClampNeg) → (wpX0_columnOf kt iv5 ar6 x1 (fun (r14 : Int32) => vp_in ((2 * z8) + 1) 80 ∧ (∀ y16 : Int32, y16 = r14 + ((ar6 25) ((2 * z8) + 1).toNatClampNeg) → (wpX0_isOf kt iv5 ar6 12 y13 y16 0 (fun (r17 : Int32) => (r17 = 0 → (∀ y19 : Int32, y19 = z8 + 1 → (wpX9_byChalk_L53 kt x1 x2 x3 x4 x5 x6 iv5 ar6 Q K fu z7 y19))) ∧ (¬ r17 = 0 → (∀ y20 : Int32, y20 = z7 + 1 → (∀ y21 : Int32, y21 = z8 + 1 → (wpX9_byChalk_L53 kt x1 x2 x3 x4 x5 x6 iv5 ar6 Q K fu y20 y21)))))))))))))
def wpX9_byChalk (kt : kw_T) (iv : fw_F) (ar : fw_R) (x1 : Int32) (x2 : Int32) (x3 : Int32) (x4 : Int32) (x5 : Int32) (x6 : Int32) (Q : Int64 → fw_F → fw_R → Prop) : Prop := ∀ iv1 : fw_F, iv1 = va_up iv 1 0 → (wpX0_knows kt iv1 ar x1 (fun (r2 : Int32) => (¬ r2 = 0 → (wpX9_takeChalk kt iv1 ar x2 x3 x4 x5 (fun (r4 : Int32) (iv5 : fw_F) (ar6 : fw_R) => (r4 = 0 → (Q (-9223372036854775808) iv5 ar6)) ∧ (¬ r4 = 0 → (wpX9_within x6 0 1 (fun (r8 : Int32) => (¬ r8 = 0 → (∃ ku : Nat, wpX9_byChalk_L53 kt x1 x2 x3 x4 x5 x6 iv5 ar6 Q (fun (w22 : Int32) (w23 : Int32) => wpX9_share w22.toInt64 x5.toInt64 x6 (fun (r24 : Int64) => Q r24 iv5 ar6)) ku 0 0)) ∧ (r8 = 0 → (Q (-9223372036854775808) iv5 ar6)))))))) ∧ (r2 = 0 → (Q (-9223372036854775808) iv1 ar))))
set_option maxHeartbeats 4000000 in
set_option maxRecDepth 100000 in
theorem soX9_byChalk_L53 {p : Program} {l : Launch} {e : Env} {s : State} {m : MethodId} {args : Array Value} {below : List Frame} {meth : Method} {c : Code} {A : Nat → Prop} {G : fw_G} {ad : Nat → Nat} {kt : kw_T} {x1 : Int32} {x2 : Int32} {x3 : Int32} {x4 : Int32} {x5 : Int32} {x6 : Int32} {iv5 : fw_F} {ar6 : fw_R} {Q : Int64 → fw_F → fw_R → Prop} {K : Int32 → Int32 → Prop} (C : fw_C p s m args meth c cX9_byChalk 11 (some .long) wsX9_byChalk RX9) (hK : fw_K G A s)  (hX : ∀ (z7 : Int32) (z8 : Int32), K z7 z8 → ∀ (H : Heap) (locs : List Loc), fw_H G ((kw G ad kt) iv5 ar6) A s H locs → ∀ (ls : Array Slot), lv_has ls 11 [(8, .int z8), (7, .int z7), (0, .ref (ad 0)), (1, .int x1), (5, .int x5), (6, .int x6)] → W p l e rmX9_byChalk s m args below meth c H locs 0 0 (MQ below (fw_Ql G (kw G ad kt) Q A) args s 0 0 A) (F0 m 128 ls [])) : ∀ (fu : Nat) (z7 : Int32) (z8 : Int32), wpX9_byChalk_L53 kt x1 x2 x3 x4 x5 x6 iv5 ar6 Q K fu z7 z8 → ∀ (H : Heap) (locs : List Loc), fw_H G ((kw G ad kt) iv5 ar6) A s H locs → ∀ (ls : Array Slot), lv_has ls 11 [(8, .int z8), (7, .int z7), (0, .ref (ad 0)), (1, .int x1), (5, .int x5), (6, .int x6)] → W p l e rmX9_byChalk s m args below meth c H locs 0 0 (MQ below (fw_Ql G (kw G ad kt) Q A) args s 0 0 A) (F0 m 53 ls []) := by
  intro fu
  have in_X9 : ∀ x ∈ wsX90, x ∈ wsX9_byChalk := by decide +kernel
  have k31 := C.2.2.2.2.1 (.fieldLink RX9 31 "KnifeBoard" "theBoard" "LKnifeBoard$Board;") (by decide +kernel)
  have k56 := C.2.2.2.2.1 (.fieldLink RX9 56 "KnifeBoard" "taken" "[I") (by decide +kernel)
  induction fu with
  | zero => intro z7 z8 h; exact h.elim
  | succ fu ih =>
    intro z7 z8 h H locs hG ls hl
    unfold wpX9_byChalk_L53 at h
    refine lv_iload C.1 C.2.1 dX9_byChalk_53 (lv_at hl 0 rfl) ?_
    refine lv_iload C.1 C.2.1 dX9_byChalk_55 (lv_at hl 4 rfl) ?_
    refine lv_icmp_ge (tgt := 128) C.1 C.2.1 dX9_byChalk_57 (by decide) (fun c10 => ?_) (fun c10 => ?_)
    · have h := h.1 c10
      exact hX _ _ h _ _ hG ls (lv_sub hl [0, 1, 2, 3, 4, 5] rfl)
    · have h := h.2 c10
      refine lv_aload_n C.1 C.2.1 dX9_byChalk_60 rfl (lv_at hl 2 rfl) ?_
      refine fw_get (w := (kw G ad kt)) C in_X9 hK hG 0 kw_o9 rfl 3 (by decide) k31 rfl rfl dX9_byChalk_61 ?_
      refine lv_iload_n C.1 C.2.1 dX9_byChalk_64 rfl (lv_at hl 3 rfl) ?_
      refine fw_rcalli (va_runV (As := [.int x1]) (rest := []) ⟨C.1, C.2.1, C.2.2.2.2.2.2, C.2.2.2.2.2.1, C.2.2.2.2.1⟩ (soX0_rowOf l G ad kt iv5 ar6 x1 _  h H.size) (cwV 1 C.2.2.2.2.1 gX9_byChalk_X0_rowOf rfl rfl rfl (by decide +kernel) ⟨Nat.le_of_ble_eq_true rfl, Nat.le_of_ble_eq_true rfl⟩) (fw_preV hG hK (ci := 0) rfl kw_o0) rfl rfl hl.1 rfl (lv_room (Nat.le_of_ble_eq_true rfl)) dX9_byChalk_65 ⟨Nat.zero_le _, Nat.zero_le _⟩) hG hK (fun r11  H locs h hG => ?_)
      refine lv_aload_n C.1 C.2.1 dX9_byChalk_68 rfl (lv_at hl 2 rfl) ?_
      refine fw_get (w := (kw G ad kt)) C in_X9 hK hG 0 kw_o9 rfl 7 (by decide) k56 rfl rfl dX9_byChalk_69 ?_
      refine lv_iconst (v := 2) C.1 C.2.1 dX9_byChalk_72 (by decide) ?_
      refine lv_iload C.1 C.2.1 dX9_byChalk_73 (lv_at hl 0 rfl) ?_
      refine lv_imul C.1 C.2.1 dX9_byChalk_75 ?_
      obtain ⟨c12, h⟩ := h
      refine fw_iald (w := (kw G ad kt)) C hK hG 25 kw_a25 c12 dX9_byChalk_76 ?_
      refine lv_isub C.1 C.2.1 dX9_byChalk_77 ?_
      refine lv_topi (fun y13 ey13 => ?_)
      have h := h y13 ey13
      refine lv_istore (lv' := [(9, .int y13), (8, .int z8), (7, .int z7), (0, .ref (ad 0)), (1, .int x1), (5, .int x5), (6, .int x6)]) C.1 C.2.1 dX9_byChalk_78 hl (by decide) rfl (fun ls hl => ?_)
      refine lv_aload_n C.1 C.2.1 dX9_byChalk_80 rfl (lv_at hl 3 rfl) ?_
      refine fw_get (w := (kw G ad kt)) C in_X9 hK hG 0 kw_o9 rfl 3 (by decide) k31 rfl rfl dX9_byChalk_81 ?_
      refine lv_iload_n C.1 C.2.1 dX9_byChalk_84 rfl (lv_at hl 4 rfl) ?_
      refine fw_rcalli (va_runV (As := [.int x1]) (rest := []) ⟨C.1, C.2.1, C.2.2.2.2.2.2, C.2.2.2.2.2.1, C.2.2.2.2.1⟩ (soX0_columnOf l G ad kt iv5 ar6 x1 _  h H.size) (cwV 1 C.2.2.2.2.1 gX9_byChalk_X0_columnOf rfl rfl rfl (by decide +kernel) ⟨Nat.le_of_ble_eq_true rfl, Nat.le_of_ble_eq_true rfl⟩) (fw_preV hG hK (ci := 0) rfl kw_o0) rfl rfl hl.1 rfl (lv_room (Nat.le_of_ble_eq_true rfl)) dX9_byChalk_85 ⟨Nat.zero_le _, Nat.zero_le _⟩) hG hK (fun r14  H locs h hG => ?_)
      refine lv_aload_n C.1 C.2.1 dX9_byChalk_88 rfl (lv_at hl 3 rfl) ?_
      refine fw_get (w := (kw G ad kt)) C in_X9 hK hG 0 kw_o9 rfl 7 (by decide) k56 rfl rfl dX9_byChalk_89 ?_
      refine lv_iconst (v := 2) C.1 C.2.1 dX9_byChalk_92 (by decide) ?_
      refine lv_iload C.1 C.2.1 dX9_byChalk_93 (lv_at hl 1 rfl) ?_
      refine lv_imul C.1 C.2.1 dX9_byChalk_95 ?_
      refine lv_iconst (v := 1) C.1 C.2.1 dX9_byChalk_96 (by decide) ?_
      refine lv_iadd C.1 C.2.1 dX9_byChalk_97 ?_
      obtain ⟨c15, h⟩ := h
      refine fw_iald (w := (kw G ad kt)) C hK hG 25 kw_a25 c15 dX9_byChalk_98 ?_
      refine lv_iadd C.1 C.2.1 dX9_byChalk_99 ?_
      refine lv_topi (fun y16 ey16 => ?_)
      have h := h y16 ey16
      refine lv_istore (lv' := [(10, .int y16), (9, .int y13), (8, .int z8), (7, .int z7), (0, .ref (ad 0)), (1, .int x1), (5, .int x5), (6, .int x6)]) C.1 C.2.1 dX9_byChalk_100 hl (by decide) rfl (fun ls hl => ?_)
      refine lv_aload_n C.1 C.2.1 dX9_byChalk_102 rfl (lv_at hl 4 rfl) ?_
      refine fw_get (w := (kw G ad kt)) C in_X9 hK hG 0 kw_o9 rfl 3 (by decide) k31 rfl rfl dX9_byChalk_103 ?_
      refine lv_bipush (v := 12) C.1 C.2.1 dX9_byChalk_106 (by decide) ?_
      refine lv_iload C.1 C.2.1 dX9_byChalk_108 (lv_at hl 1 rfl) ?_
      refine lv_iload C.1 C.2.1 dX9_byChalk_110 (lv_at hl 0 rfl) ?_
      refine lv_iconst (v := 0) C.1 C.2.1 dX9_byChalk_112 (by decide) ?_
      refine fw_rcalli (va_runV (As := [.int 12, .int y13, .int y16, .int 0]) (rest := []) ⟨C.1, C.2.1, C.2.2.2.2.2.2, C.2.2.2.2.2.1, C.2.2.2.2.1⟩ (soX0_isOf l G ad kt iv5 ar6 12 y13 y16 0 _  h H.size) (cwV 4 C.2.2.2.2.1 gX9_byChalk_X0_isOf rfl rfl rfl (by decide +kernel) ⟨Nat.le_of_ble_eq_true rfl, Nat.le_of_ble_eq_true rfl⟩) (fw_preV hG hK (ci := 0) rfl kw_o0) rfl rfl hl.1 rfl (lv_room (Nat.le_of_ble_eq_true rfl)) dX9_byChalk_113 ⟨Nat.zero_le _, Nat.zero_le _⟩) hG hK (fun r17  H locs h hG => ?_)
      refine lv_if_eq (tgt := 122) C.1 C.2.1 dX9_byChalk_116 (by decide) (fun c18 => ?_) (fun c18 => ?_)
      · have h := h.1 c18
        obtain ⟨y19, ey19⟩ : ∃ z : Int32, z = z8 + 1 := ⟨_, rfl⟩
        have h := h y19 ey19
        refine lv_iinc (v := y19) (lv' := [(8, .int y19), (10, .int y16), (9, .int y13), (7, .int z7), (0, .ref (ad 0)), (1, .int x1), (5, .int x5), (6, .int x6)]) C.1 C.2.1 dX9_byChalk_122 hl (k := 2) rfl (by rw [ey19]; rfl) (by decide) rfl (fun ls hl => ?_)
        refine lv_goto (tgt := 53) C.1 C.2.1 dX9_byChalk_125 (by decide) ?_
        exact ih _ _ h _ _ hG ls (lv_sub hl [0, 3, 4, 5, 6, 7] rfl)
      · have h := h.2 c18
        obtain ⟨y20, ey20⟩ : ∃ z : Int32, z = z7 + 1 := ⟨_, rfl⟩
        have h := h y20 ey20
        refine lv_iinc (v := y20) (lv' := [(7, .int y20), (10, .int y16), (9, .int y13), (8, .int z8), (0, .ref (ad 0)), (1, .int x1), (5, .int x5), (6, .int x6)]) C.1 C.2.1 dX9_byChalk_119 hl (k := 3) rfl (by rw [ey20]; rfl) (by decide) rfl (fun ls hl => ?_)
        obtain ⟨y21, ey21⟩ : ∃ z : Int32, z = z8 + 1 := ⟨_, rfl⟩
        have h := h y21 ey21
        refine lv_iinc (v := y21) (lv' := [(8, .int y21), (7, .int y20), (10, .int y16), (9, .int y13), (0, .ref (ad 0)), (1, .int x1), (5, .int x5), (6, .int x6)]) C.1 C.2.1 dX9_byChalk_122 hl (k := 3) rfl (by rw [ey21]; rfl) (by decide) rfl (fun ls hl => ?_)
        refine lv_goto (tgt := 53) C.1 C.2.1 dX9_byChalk_125 (by decide) ?_
        exact ih _ _ h _ _ hG ls (lv_sub hl [0, 1, 4, 5, 6, 7] rfl)

set_option maxHeartbeats 4000000 in
set_option maxRecDepth 100000 in
theorem soX9_byChalk (l : Launch) (G : fw_G) (ad : Nat → Nat) (kt : kw_T) (iv : fw_F) (ar : fw_R) (x1 : Int32) (x2 : Int32) (x3 : Int32) (x4 : Int32) (x5 : Int32) (x6 : Int32) (Q : Int64 → fw_F → fw_R → Prop)  (h : wpX9_byChalk kt iv ar x1 x2 x3 x4 x5 x6 Q) : fw_M l G (kw G ad kt) yX9_byChalk wsX9_byChalk rmX9_byChalk [.ref (ad 0), .int x1, .int x2, .int x3, .int x4, .int x5, .int x6] iv ar (fw_Ql G (kw G ad kt) Q) := by
  refine fw_start (cc := cX9_byChalk) (nL := 11) (rt := (some .long)) (by decide) rfl (Nat.le_of_ble_eq_true rfl) ?_
  intro p e s m below meth c A ls H locs C hK hG hl
  obtain ⟨args, ea⟩ : ∃ z : Array Value, z = ([.ref (ad 0), .int x1, .int x2, .int x3, .int x4, .int x5, .int x6] : List Value).toArray := ⟨_, rfl⟩
  rw [← ea] at C ⊢
  have C : fw_C p s m args meth c cX9_byChalk 11 (some .long) wsX9_byChalk RX9 := C
  have hl : lv_has ls 11 [(0, .ref (ad 0)), (1, .int x1), (2, .int x2), (3, .int x3), (4, .int x4), (5, .int x5), (6, .int x6)] := hl
  unfold wpX9_byChalk at h
  have in_X9 : ∀ x ∈ wsX90, x ∈ wsX9_byChalk := by decide +kernel
  have k113 := C.2.2.2.2.1 (.constantLong RX9 113 (-9223372036854775808)) (by decide +kernel)
  have k31 := C.2.2.2.2.1 (.fieldLink RX9 31 "KnifeBoard" "theBoard" "LKnifeBoard$Board;") (by decide +kernel)
  have k71 := C.2.2.2.2.1 (.fieldLink RX9 71 "KnifeBoard" "theFault" "I") (by decide +kernel)
  refine lv_aload_n C.1 C.2.1 dX9_byChalk_0 rfl (lv_at hl 0 rfl) ?_
  refine lv_iconst (v := 0) C.1 C.2.1 dX9_byChalk_1 (by decide) ?_
  obtain ⟨iv1, eiv1⟩ : ∃ z : fw_F, z = va_up iv 1 0 := ⟨_, rfl⟩
  have h := h iv1 eiv1
  refine fw_put (w := (kw G ad kt)) C in_X9 tyX9 tyX9_ok nmX9 hK hG 0 kw_o9 rfl 10 (by decide) k71 rfl rfl (ty := .int) (v := .int 0) (by decide +kernel) rfl rfl (by first | decide | exact Nat.le_of_ble_eq_true rfl) (iv1 := iv1) (by rw [eiv1]; exact kw_p9_theFault) dX9_byChalk_2 (fun H locs hG => ?_)
  refine lv_aload_n C.1 C.2.1 dX9_byChalk_5 rfl (lv_at hl 0 rfl) ?_
  refine fw_get (w := (kw G ad kt)) C in_X9 hK hG 0 kw_o9 rfl 3 (by decide) k31 rfl rfl dX9_byChalk_6 ?_
  refine lv_iload_n C.1 C.2.1 dX9_byChalk_9 rfl (lv_at hl 1 rfl) ?_
  refine fw_rcalli (va_runV (As := [.int x1]) (rest := []) ⟨C.1, C.2.1, C.2.2.2.2.2.2, C.2.2.2.2.2.1, C.2.2.2.2.1⟩ (soX0_knows l G ad kt iv1 ar x1 _  h H.size) (cwV 1 C.2.2.2.2.1 gX9_byChalk_X0_knows rfl rfl rfl (by decide +kernel) ⟨Nat.le_of_ble_eq_true rfl, Nat.le_of_ble_eq_true rfl⟩) (fw_preV hG hK (ci := 0) rfl kw_o0) rfl rfl hl.1 rfl (lv_room (Nat.le_of_ble_eq_true rfl)) dX9_byChalk_10 ⟨Nat.zero_le _, Nat.zero_le _⟩) hG hK (fun r2  H locs h hG => ?_)
  refine lv_if_ne (tgt := 20) C.1 C.2.1 dX9_byChalk_13 (by decide) (fun c3 => ?_) (fun c3 => ?_)
  · have h := h.1 c3
    refine lv_aload_n C.1 C.2.1 dX9_byChalk_20 rfl (lv_at hl 0 rfl) ?_
    refine lv_iload_n C.1 C.2.1 dX9_byChalk_21 rfl (lv_at hl 2 rfl) ?_
    refine lv_iload_n C.1 C.2.1 dX9_byChalk_22 rfl (lv_at hl 3 rfl) ?_
    refine lv_iload C.1 C.2.1 dX9_byChalk_23 (lv_at hl 4 rfl) ?_
    refine lv_iload C.1 C.2.1 dX9_byChalk_25 (lv_at hl 5 rfl) ?_
    refine fw_calli (va_runV (As := [.int x2, .int x3, .int x4, .int x5]) (rest := []) ⟨C.1, C.2.1, C.2.2.2.2.2.2, C.2.2.2.2.2.1, C.2.2.2.2.1⟩ (soX9_takeChalk l G ad kt iv1 ar x2 x3 x4 x5 _  h H.size) (cwV 4 C.2.2.2.2.1 gX9_byChalk_X9_takeChalk rfl rfl rfl (by decide +kernel) ⟨Nat.le_of_ble_eq_true rfl, Nat.le_of_ble_eq_true rfl⟩) (fw_preV hG hK (ci := 9) rfl kw_o9) rfl rfl hl.1 rfl (lv_room (Nat.le_of_ble_eq_true rfl)) dX9_byChalk_27 ⟨Nat.zero_le _, Nat.zero_le _⟩) hG hK (fun r4 iv5 ar6 H locs h hG => ?_)
    refine lv_if_eq (tgt := 43) C.1 C.2.1 dX9_byChalk_30 (by decide) (fun c7 => ?_) (fun c7 => ?_)
    · have h := h.1 c7
      refine lv_ldc2 C.1 C.2.1 C.2.2.2.2.2.1 k113 dX9_byChalk_43 ?_
      exact fw_lret C hG h dX9_byChalk_46
    · have h := h.2 c7
      refine lv_iload C.1 C.2.1 dX9_byChalk_33 (lv_at hl 6 rfl) ?_
      refine lv_iconst (v := 0) C.1 C.2.1 dX9_byChalk_35 (by decide) ?_
      refine lv_iconst (v := 1) C.1 C.2.1 dX9_byChalk_36 (by decide) ?_
      refine fw_pcalli (va_runS (As := [.int x6, .int 0, .int 1]) (rest := []) ⟨C.1, C.2.1, C.2.2.2.2.2.2, C.2.2.2.2.2.1, C.2.2.2.2.1⟩ (soX9_within l x6 0 1 _ h H.size) (va_cwS 3 C.2.2.2.2.1 gX9_byChalk_X9_within rfl rfl rfl (by decide +kernel) ⟨Nat.le_of_ble_eq_true rfl, Nat.le_of_ble_eq_true rfl⟩) fw_ppre rfl rfl hl.1 rfl (lv_room (Nat.le_of_ble_eq_true rfl)) dX9_byChalk_37 ⟨Nat.zero_le _, Nat.zero_le _⟩) hG hK (fun r8  H locs h hG => ?_)
      refine lv_if_ne (tgt := 47) C.1 C.2.1 dX9_byChalk_40 (by decide) (fun c9 => ?_) (fun c9 => ?_)
      · have h := h.1 c9
        refine lv_iconst (v := 0) C.1 C.2.1 dX9_byChalk_47 (by decide) ?_
        refine lv_istore (lv' := [(7, .int 0), (0, .ref (ad 0)), (1, .int x1), (2, .int x2), (3, .int x3), (4, .int x4), (5, .int x5), (6, .int x6)]) C.1 C.2.1 dX9_byChalk_48 hl (by decide) rfl (fun ls hl => ?_)
        refine lv_iconst (v := 0) C.1 C.2.1 dX9_byChalk_50 (by decide) ?_
        refine lv_istore (lv' := [(8, .int 0), (7, .int 0), (0, .ref (ad 0)), (1, .int x1), (2, .int x2), (3, .int x3), (4, .int x4), (5, .int x5), (6, .int x6)]) C.1 C.2.1 dX9_byChalk_51 hl (by decide) rfl (fun ls hl => ?_)
        obtain ⟨ku, h⟩ := h
        refine soX9_byChalk_L53 C hK  ?_ ku _ _ h _ _ hG ls (lv_sub hl [0, 1, 2, 3, 7, 8] rfl)
        intro w22 w23 h H locs hG ls hl
        refine lv_iload C.1 C.2.1 dX9_byChalk_128 (lv_at hl 1 rfl) ?_
        refine lv_i2l C.1 C.2.1 dX9_byChalk_130 rfl ?_
        refine lv_iload C.1 C.2.1 dX9_byChalk_131 (lv_at hl 4 rfl) ?_
        refine lv_i2l C.1 C.2.1 dX9_byChalk_133 rfl ?_
        refine lv_iload C.1 C.2.1 dX9_byChalk_134 (lv_at hl 5 rfl) ?_
        refine fw_pcalll (va_runS (As := [.long w22.toInt64, .long x5.toInt64, .int x6]) (rest := []) ⟨C.1, C.2.1, C.2.2.2.2.2.2, C.2.2.2.2.2.1, C.2.2.2.2.1⟩ (soX9_share l w22.toInt64 x5.toInt64 x6 _ h H.size) (va_cwS 3 C.2.2.2.2.1 gX9_byChalk_X9_share rfl rfl rfl (by decide +kernel) ⟨Nat.le_of_ble_eq_true rfl, Nat.le_of_ble_eq_true rfl⟩) fw_ppre rfl rfl hl.1 rfl (lv_room (Nat.le_of_ble_eq_true rfl)) dX9_byChalk_136 ⟨Nat.zero_le _, Nat.zero_le _⟩) hG hK (fun r24  H locs h hG => ?_)
        exact fw_lret C hG h dX9_byChalk_139
      · have h := h.2 c9
        refine lv_ldc2 C.1 C.2.1 C.2.2.2.2.2.1 k113 dX9_byChalk_43 ?_
        exact fw_lret C hG h dX9_byChalk_46
  · have h := h.2 c3
    refine lv_ldc2 C.1 C.2.1 C.2.2.2.2.2.1 k113 dX9_byChalk_16 ?_
    exact fw_lret C hG h dX9_byChalk_19
/-! KnifeBoard.sheet(III)I -/
def rmX9_sheet : Room := { frames := 3, cells := 0, slots := 0, locals := 63 }
def wpX9_sheet (kt : kw_T) (iv : fw_F) (ar : fw_R) (x1 : Int32) (x2 : Int32) (x3 : Int32) (Q : Int32 → fw_F → fw_R → Prop) : Prop := ∀ iv1 : fw_F, iv1 = va_up iv 1 0 → (wpX9_refusesSheet x1 x2 (fun (r2 : Int32) => (r2 = 0 → ((x3 ≤ 80 → ((0 ≤ x3 → (vp_in x1 4 ∧ (∀ j7 : Nat, j7 = x1.toNatClampNeg → j7 < 4 → (wpX6_renew kt iv1 ar j7 x2 x3 (fun (iv8 : fw_F) (ar9 : fw_R) => Q 1 iv8 ar9))))) ∧ (¬ 0 ≤ x3 → (wpX9_faulted kt iv1 ar 4 (fun (r10 : Int32) (iv11 : fw_F) (ar12 : fw_R) => Q r10 iv11 ar12))))) ∧ (¬ x3 ≤ 80 → (Q (-2) iv1 ar)))) ∧ (¬ r2 = 0 → (Q r2 iv1 ar))))
set_option maxHeartbeats 4000000 in
set_option maxRecDepth 100000 in
theorem soX9_sheet (l : Launch) (G : fw_G) (ad : Nat → Nat) (kt : kw_T) (iv : fw_F) (ar : fw_R) (x1 : Int32) (x2 : Int32) (x3 : Int32) (Q : Int32 → fw_F → fw_R → Prop)  (h : wpX9_sheet kt iv ar x1 x2 x3 Q) : fw_M l G (kw G ad kt) yX9_sheet wsX9_sheet rmX9_sheet [.ref (ad 0), .int x1, .int x2, .int x3] iv ar (fw_Qi G (kw G ad kt) Q) := by
  refine fw_start (cc := cX9_sheet) (nL := 5) (rt := (some .int)) (by decide) rfl (Nat.le_of_ble_eq_true rfl) ?_
  intro p e s m below meth c A ls H locs C hK hG hl
  obtain ⟨args, ea⟩ : ∃ z : Array Value, z = ([.ref (ad 0), .int x1, .int x2, .int x3] : List Value).toArray := ⟨_, rfl⟩
  rw [← ea] at C ⊢
  have C : fw_C p s m args meth c cX9_sheet 5 (some .int) wsX9_sheet RX9 := C
  have hl : lv_has ls 5 [(0, .ref (ad 0)), (1, .int x1), (2, .int x2), (3, .int x3)] := hl
  unfold wpX9_sheet at h
  have in_X9 : ∀ x ∈ wsX90, x ∈ wsX9_sheet := by decide +kernel
  have k52 := C.2.2.2.2.1 (.fieldLink RX9 52 "KnifeBoard" "sheets" "[LKnifeBoard$Sheet;") (by decide +kernel)
  have k71 := C.2.2.2.2.1 (.fieldLink RX9 71 "KnifeBoard" "theFault" "I") (by decide +kernel)
  refine lv_aload_n C.1 C.2.1 dX9_sheet_0 rfl (lv_at hl 0 rfl) ?_
  refine lv_iconst (v := 0) C.1 C.2.1 dX9_sheet_1 (by decide) ?_
  obtain ⟨iv1, eiv1⟩ : ∃ z : fw_F, z = va_up iv 1 0 := ⟨_, rfl⟩
  have h := h iv1 eiv1
  refine fw_put (w := (kw G ad kt)) C in_X9 tyX9 tyX9_ok nmX9 hK hG 0 kw_o9 rfl 10 (by decide) k71 rfl rfl (ty := .int) (v := .int 0) (by decide +kernel) rfl rfl (by first | decide | exact Nat.le_of_ble_eq_true rfl) (iv1 := iv1) (by rw [eiv1]; exact kw_p9_theFault) dX9_sheet_2 (fun H locs hG => ?_)
  refine lv_iload_n C.1 C.2.1 dX9_sheet_5 rfl (lv_at hl 1 rfl) ?_
  refine lv_iload_n C.1 C.2.1 dX9_sheet_6 rfl (lv_at hl 2 rfl) ?_
  refine fw_pcalli (va_runS (As := [.int x1, .int x2]) (rest := []) ⟨C.1, C.2.1, C.2.2.2.2.2.2, C.2.2.2.2.2.1, C.2.2.2.2.1⟩ (soX9_refusesSheet l x1 x2 _ h H.size) (va_cwS 2 C.2.2.2.2.1 gX9_sheet_X9_refusesSheet rfl rfl rfl (by decide +kernel) ⟨Nat.le_of_ble_eq_true rfl, Nat.le_of_ble_eq_true rfl⟩) fw_ppre rfl rfl hl.1 rfl (lv_room (Nat.le_of_ble_eq_true rfl)) dX9_sheet_7 ⟨Nat.zero_le _, Nat.zero_le _⟩) hG hK (fun r2  H locs h hG => ?_)
  refine lv_istore (lv' := [(4, .int r2), (0, .ref (ad 0)), (1, .int x1), (2, .int x2), (3, .int x3)]) C.1 C.2.1 dX9_sheet_10 hl (by decide) rfl (fun ls hl => ?_)
  refine lv_iload C.1 C.2.1 dX9_sheet_12 (lv_at hl 0 rfl) ?_
  refine lv_if_eq (tgt := 20) C.1 C.2.1 dX9_sheet_14 (by decide) (fun c3 => ?_) (fun c3 => ?_)
  · have h := h.1 c3
    refine lv_iload_n C.1 C.2.1 dX9_sheet_20 rfl (lv_at hl 4 rfl) ?_
    refine lv_bipush (v := 80) C.1 C.2.1 dX9_sheet_21 (by decide) ?_
    refine lv_icmp_le (tgt := 29) C.1 C.2.1 dX9_sheet_23 (by decide) (fun c4 => ?_) (fun c4 => ?_)
    · have h := h.1 c4
      refine lv_iload_n C.1 C.2.1 dX9_sheet_29 rfl (lv_at hl 4 rfl) ?_
      refine lv_if_ge (tgt := 39) C.1 C.2.1 dX9_sheet_30 (by decide) (fun c5 => ?_) (fun c5 => ?_)
      · have h := h.1 c5
        refine lv_aload_n C.1 C.2.1 dX9_sheet_39 rfl (lv_at hl 1 rfl) ?_
        refine fw_get (w := (kw G ad kt)) C in_X9 hK hG 0 kw_o9 rfl 6 (by decide) k52 rfl rfl dX9_sheet_40 ?_
        refine lv_iload_n C.1 C.2.1 dX9_sheet_43 rfl (lv_at hl 2 rfl) ?_
        obtain ⟨c6, h⟩ := h
        refine va_aldq C.1 C.2.1 hK.1 hG.1 16 3 (kw_r16 : ((kw G ad kt) iv1 ar)[16]? = _) rfl c6 dX9_sheet_44 ?_
        obtain ⟨j7, ej7⟩ : ∃ z : Nat, z = x1.toNatClampNeg := ⟨_, rfl⟩
        have hj7 : j7 < 4 := by rw [ej7]; exact Nat.not_le.mp fun z => c6 (Or.inr z)
        have h := h j7 ej7 hj7
        refine W.eq (g2 := F0 m 45 ls (.ref (ad (17 + j7)) :: [])) (by rw [ej7]; rfl) ?_
        refine lv_iload_n C.1 C.2.1 dX9_sheet_45 rfl (lv_at hl 3 rfl) ?_
        refine lv_iload_n C.1 C.2.1 dX9_sheet_46 rfl (lv_at hl 4 rfl) ?_
        refine fw_callv (va_runV (As := [.int x2, .int x3]) (rest := []) ⟨C.1, C.2.1, C.2.2.2.2.2.2, C.2.2.2.2.2.1, C.2.2.2.2.1⟩ (soX6_renew l G ad kt iv1 ar j7 x2 x3 _ hj7 h H.size) (cwV 2 C.2.2.2.2.1 gX9_sheet_X6_renew rfl rfl rfl (by decide +kernel) ⟨Nat.le_of_ble_eq_true rfl, Nat.le_of_ble_eq_true rfl⟩) (fw_preV hG hK (ci := 6) rfl (kw_o6 hj7)) rfl rfl hl.1 rfl (lv_room (Nat.le_of_ble_eq_true rfl)) dX9_sheet_47 ⟨Nat.zero_le _, Nat.zero_le _⟩) hG hK (fun iv8 ar9 H locs h hG => ?_)
        refine lv_iconst (v := 1) C.1 C.2.1 dX9_sheet_50 (by decide) ?_
        exact fw_iret C hG h dX9_sheet_51
      · have h := h.2 c5
        refine lv_aload_n C.1 C.2.1 dX9_sheet_33 rfl (lv_at hl 1 rfl) ?_
        refine lv_iconst (v := 4) C.1 C.2.1 dX9_sheet_34 (by decide) ?_
        refine fw_calli (va_runV (As := [.int 4]) (rest := []) ⟨C.1, C.2.1, C.2.2.2.2.2.2, C.2.2.2.2.2.1, C.2.2.2.2.1⟩ (soX9_faulted l G ad kt iv1 ar 4 _  h H.size) (cwV 1 C.2.2.2.2.1 gX9_sheet_X9_faulted rfl rfl rfl (by decide +kernel) ⟨Nat.le_of_ble_eq_true rfl, Nat.le_of_ble_eq_true rfl⟩) (fw_preV hG hK (ci := 9) rfl kw_o9) rfl rfl hl.1 rfl (lv_room (Nat.le_of_ble_eq_true rfl)) dX9_sheet_35 ⟨Nat.zero_le _, Nat.zero_le _⟩) hG hK (fun r10 iv11 ar12 H locs h hG => ?_)
        exact fw_iret C hG h dX9_sheet_38
    · have h := h.2 c4
      refine lv_bipush (v := (-2)) C.1 C.2.1 dX9_sheet_26 (by decide) ?_
      exact fw_iret C hG h dX9_sheet_28
  · have h := h.2 c3
    refine lv_iload C.1 C.2.1 dX9_sheet_17 (lv_at hl 0 rfl) ?_
    exact fw_iret C hG h dX9_sheet_19
/-! KnifeBoard.lose(I)I -/
def rmX9_lose : Room := { frames := 2, cells := 0, slots := 0, locals := 42 }
def wpX9_lose (kt : kw_T) (iv : fw_F) (ar : fw_R) (x1 : Int32) (Q : Int32 → fw_F → fw_R → Prop) : Prop := wpX9_isSheet x1 (fun (r1 : Int32) => (¬ r1 = 0 → (vp_in x1 4 ∧ (∀ j4 : Nat, j4 = x1.toNatClampNeg → j4 < 4 → ((¬ (iv (9 + j4)) = 0 → (vp_in x1 4 ∧ (∀ j7 : Nat, j7 = x1.toNatClampNeg → j7 < 4 → (∀ iv8 : fw_F, iv8 = va_up iv (9 + j7) 0 → (Q 1 iv8 ar))))) ∧ ((iv (9 + j4)) = 0 → (Q 0 iv ar)))))) ∧ (r1 = 0 → (Q (-1) iv ar)))
set_option maxHeartbeats 4000000 in
set_option maxRecDepth 100000 in
theorem soX9_lose (l : Launch) (G : fw_G) (ad : Nat → Nat) (kt : kw_T) (iv : fw_F) (ar : fw_R) (x1 : Int32) (Q : Int32 → fw_F → fw_R → Prop)  (h : wpX9_lose kt iv ar x1 Q) : fw_M l G (kw G ad kt) yX9_lose wsX9_lose rmX9_lose [.ref (ad 0), .int x1] iv ar (fw_Qi G (kw G ad kt) Q) := by
  refine fw_start (cc := cX9_lose) (nL := 2) (rt := (some .int)) (by decide) rfl (Nat.le_of_ble_eq_true rfl) ?_
  intro p e s m below meth c A ls H locs C hK hG hl
  obtain ⟨args, ea⟩ : ∃ z : Array Value, z = ([.ref (ad 0), .int x1] : List Value).toArray := ⟨_, rfl⟩
  rw [← ea] at C ⊢
  have C : fw_C p s m args meth c cX9_lose 2 (some .int) wsX9_lose RX9 := C
  have hl : lv_has ls 2 [(0, .ref (ad 0)), (1, .int x1)] := hl
  unfold wpX9_lose at h
  have in_X6 : ∀ x ∈ wsX60, x ∈ wsX9_lose := by decide +kernel
  have in_X9 : ∀ x ∈ wsX90, x ∈ wsX9_lose := by decide +kernel
  have k280 := C.2.2.2.2.1 (.fieldLink RX9 280 "KnifeBoard$Sheet" "has" "Z") (by decide +kernel)
  have k52 := C.2.2.2.2.1 (.fieldLink RX9 52 "KnifeBoard" "sheets" "[LKnifeBoard$Sheet;") (by decide +kernel)
  refine lv_iload_n C.1 C.2.1 dX9_lose_0 rfl (lv_at hl 1 rfl) ?_
  refine fw_pcalli (va_runS (As := [.int x1]) (rest := []) ⟨C.1, C.2.1, C.2.2.2.2.2.2, C.2.2.2.2.2.1, C.2.2.2.2.1⟩ (soX9_isSheet l x1 _ h H.size) (va_cwS 1 C.2.2.2.2.1 gX9_lose_X9_isSheet rfl rfl rfl (by decide +kernel) ⟨Nat.le_of_ble_eq_true rfl, Nat.le_of_ble_eq_true rfl⟩) fw_ppre rfl rfl hl.1 rfl (lv_room (Nat.le_of_ble_eq_true rfl)) dX9_lose_1 ⟨Nat.zero_le _, Nat.zero_le _⟩) hG hK (fun r1  H locs h hG => ?_)
  refine lv_if_ne (tgt := 9) C.1 C.2.1 dX9_lose_4 (by decide) (fun c2 => ?_) (fun c2 => ?_)
  · have h := h.1 c2
    refine lv_aload_n C.1 C.2.1 dX9_lose_9 rfl (lv_at hl 0 rfl) ?_
    refine fw_get (w := (kw G ad kt)) C in_X9 hK hG 0 kw_o9 rfl 6 (by decide) k52 rfl rfl dX9_lose_10 ?_
    refine lv_iload_n C.1 C.2.1 dX9_lose_13 rfl (lv_at hl 1 rfl) ?_
    obtain ⟨c3, h⟩ := h
    refine va_aldq C.1 C.2.1 hK.1 hG.1 16 3 (kw_r16 : ((kw G ad kt) iv ar)[16]? = _) rfl c3 dX9_lose_14 ?_
    obtain ⟨j4, ej4⟩ : ∃ z : Nat, z = x1.toNatClampNeg := ⟨_, rfl⟩
    have hj4 : j4 < 4 := by rw [ej4]; exact Nat.not_le.mp fun z => c3 (Or.inr z)
    have h := h j4 ej4 hj4
    refine W.eq (g2 := F0 m 15 ls (.ref (ad (17 + j4)) :: [])) (by rw [ej4]; rfl) ?_
    refine fw_get (w := (kw G ad kt)) C in_X6 hK hG (17 + j4) (kw_o6 hj4) rfl 1 (by decide) k280 rfl rfl dX9_lose_15 ?_
    refine lv_if_ne (tgt := 23) C.1 C.2.1 dX9_lose_18 (by decide) (fun c5 => ?_) (fun c5 => ?_)
    · have h := h.1 c5
      refine lv_aload_n C.1 C.2.1 dX9_lose_23 rfl (lv_at hl 0 rfl) ?_
      refine fw_get (w := (kw G ad kt)) C in_X9 hK hG 0 kw_o9 rfl 6 (by decide) k52 rfl rfl dX9_lose_24 ?_
      refine lv_iload_n C.1 C.2.1 dX9_lose_27 rfl (lv_at hl 1 rfl) ?_
      obtain ⟨c6, h⟩ := h
      refine va_aldq C.1 C.2.1 hK.1 hG.1 16 3 (kw_r16 : ((kw G ad kt) iv ar)[16]? = _) rfl c6 dX9_lose_28 ?_
      obtain ⟨j7, ej7⟩ : ∃ z : Nat, z = x1.toNatClampNeg := ⟨_, rfl⟩
      have hj7 : j7 < 4 := by rw [ej7]; exact Nat.not_le.mp fun z => c6 (Or.inr z)
      have h := h j7 ej7 hj7
      refine W.eq (g2 := F0 m 29 ls (.ref (ad (17 + j7)) :: [])) (by rw [ej7]; rfl) ?_
      refine lv_iconst (v := 0) C.1 C.2.1 dX9_lose_29 (by decide) ?_
      obtain ⟨iv8, eiv8⟩ : ∃ z : fw_F, z = va_up iv (9 + j7) 0 := ⟨_, rfl⟩
      have h := h iv8 eiv8
      refine fw_put (w := (kw G ad kt)) C in_X6 tyX6 tyX6_ok nmX6 hK hG (17 + j7) (kw_o6 hj7) rfl 1 (by decide) k280 rfl rfl (ty := .boolean) (v := .int 0) (by decide +kernel) (by decide) (by decide) (by first | decide | exact Nat.le_of_ble_eq_true rfl) (iv1 := iv8) (by rw [eiv8]; exact (kw_p6_has hj7)) dX9_lose_30 (fun H locs hG => ?_)
      refine lv_iconst (v := 1) C.1 C.2.1 dX9_lose_33 (by decide) ?_
      exact fw_iret C hG h dX9_lose_34
    · have h := h.2 c5
      refine lv_iconst (v := 0) C.1 C.2.1 dX9_lose_21 (by decide) ?_
      exact fw_iret C hG h dX9_lose_22
  · have h := h.2 c2
    refine lv_iconst (v := (-1)) C.1 C.2.1 dX9_lose_7 (by decide) ?_
    exact fw_iret C hG h dX9_lose_8
/-! KnifeBoard.put(III)I -/
def rmX9_put : Room := { frames := 3, cells := 0, slots := 0, locals := 69 }
def wpX9_put (kt : kw_T) (iv : fw_F) (ar : fw_R) (x1 : Int32) (x2 : Int32) (x3 : Int32) (Q : Int32 → fw_F → fw_R → Prop) : Prop := ∀ iv1 : fw_F, iv1 = va_up iv 1 0 → (wpX9_isSheet x1 (fun (r2 : Int32) => (¬ r2 = 0 → (vp_in x1 4 ∧ (∀ j5 : Nat, j5 = x1.toNatClampNeg → j5 < 4 → (wpX6_faultOfTaking kt iv1 ar j5 (iv1 (13 + j5)) x2 1 (fun (r6 : Int32) => (r6 = 0 → (wpX6_store kt iv1 ar j5 x2 x3 (fun (iv8 : fw_F) (ar9 : fw_R) => Q 1 iv8 ar9))) ∧ (¬ r6 = 0 → (wpX9_faulted kt iv1 ar r6 (fun (r10 : Int32) (iv11 : fw_F) (ar12 : fw_R) => Q r10 iv11 ar12)))))))) ∧ (r2 = 0 → (Q (-1) iv1 ar))))
set_option maxHeartbeats 4000000 in
set_option maxRecDepth 100000 in
theorem soX9_put (l : Launch) (G : fw_G) (ad : Nat → Nat) (kt : kw_T) (iv : fw_F) (ar : fw_R) (x1 : Int32) (x2 : Int32) (x3 : Int32) (Q : Int32 → fw_F → fw_R → Prop)  (h : wpX9_put kt iv ar x1 x2 x3 Q) : fw_M l G (kw G ad kt) yX9_put wsX9_put rmX9_put [.ref (ad 0), .int x1, .int x2, .int x3] iv ar (fw_Qi G (kw G ad kt) Q) := by
  refine fw_start (cc := cX9_put) (nL := 6) (rt := (some .int)) (by decide) rfl (Nat.le_of_ble_eq_true rfl) ?_
  intro p e s m below meth c A ls H locs C hK hG hl
  obtain ⟨args, ea⟩ : ∃ z : Array Value, z = ([.ref (ad 0), .int x1, .int x2, .int x3] : List Value).toArray := ⟨_, rfl⟩
  rw [← ea] at C ⊢
  have C : fw_C p s m args meth c cX9_put 6 (some .int) wsX9_put RX9 := C
  have hl : lv_has ls 6 [(0, .ref (ad 0)), (1, .int x1), (2, .int x2), (3, .int x3)] := hl
  unfold wpX9_put at h
  have in_X6 : ∀ x ∈ wsX60, x ∈ wsX9_put := by decide +kernel
  have in_X9 : ∀ x ∈ wsX90, x ∈ wsX9_put := by decide +kernel
  have k283 := C.2.2.2.2.1 (.fieldLink RX9 283 "KnifeBoard$Sheet" "sort" "I") (by decide +kernel)
  have k52 := C.2.2.2.2.1 (.fieldLink RX9 52 "KnifeBoard" "sheets" "[LKnifeBoard$Sheet;") (by decide +kernel)
  have k71 := C.2.2.2.2.1 (.fieldLink RX9 71 "KnifeBoard" "theFault" "I") (by decide +kernel)
  refine lv_aload_n C.1 C.2.1 dX9_put_0 rfl (lv_at hl 0 rfl) ?_
  refine lv_iconst (v := 0) C.1 C.2.1 dX9_put_1 (by decide) ?_
  obtain ⟨iv1, eiv1⟩ : ∃ z : fw_F, z = va_up iv 1 0 := ⟨_, rfl⟩
  have h := h iv1 eiv1
  refine fw_put (w := (kw G ad kt)) C in_X9 tyX9 tyX9_ok nmX9 hK hG 0 kw_o9 rfl 10 (by decide) k71 rfl rfl (ty := .int) (v := .int 0) (by decide +kernel) rfl rfl (by first | decide | exact Nat.le_of_ble_eq_true rfl) (iv1 := iv1) (by rw [eiv1]; exact kw_p9_theFault) dX9_put_2 (fun H locs hG => ?_)
  refine lv_iload_n C.1 C.2.1 dX9_put_5 rfl (lv_at hl 1 rfl) ?_
  refine fw_pcalli (va_runS (As := [.int x1]) (rest := []) ⟨C.1, C.2.1, C.2.2.2.2.2.2, C.2.2.2.2.2.1, C.2.2.2.2.1⟩ (soX9_isSheet l x1 _ h H.size) (va_cwS 1 C.2.2.2.2.1 gX9_put_X9_isSheet rfl rfl rfl (by decide +kernel) ⟨Nat.le_of_ble_eq_true rfl, Nat.le_of_ble_eq_true rfl⟩) fw_ppre rfl rfl hl.1 rfl (lv_room (Nat.le_of_ble_eq_true rfl)) dX9_put_6 ⟨Nat.zero_le _, Nat.zero_le _⟩) hG hK (fun r2  H locs h hG => ?_)
  refine lv_if_ne (tgt := 14) C.1 C.2.1 dX9_put_9 (by decide) (fun c3 => ?_) (fun c3 => ?_)
  · have h := h.1 c3
    refine lv_aload_n C.1 C.2.1 dX9_put_14 rfl (lv_at hl 0 rfl) ?_
    refine fw_get (w := (kw G ad kt)) C in_X9 hK hG 0 kw_o9 rfl 6 (by decide) k52 rfl rfl dX9_put_15 ?_
    refine lv_iload_n C.1 C.2.1 dX9_put_18 rfl (lv_at hl 1 rfl) ?_
    obtain ⟨c4, h⟩ := h
    refine va_aldq C.1 C.2.1 hK.1 hG.1 16 3 (kw_r16 : ((kw G ad kt) iv1 ar)[16]? = _) rfl c4 dX9_put_19 ?_
    obtain ⟨j5, ej5⟩ : ∃ z : Nat, z = x1.toNatClampNeg := ⟨_, rfl⟩
    have hj5 : j5 < 4 := by rw [ej5]; exact Nat.not_le.mp fun z => c4 (Or.inr z)
    have h := h j5 ej5 hj5
    refine W.eq (g2 := F0 m 20 ls (.ref (ad (17 + j5)) :: [])) (by rw [ej5]; rfl) ?_
    refine lv_astore (lv' := [(4, .ref (ad (17 + j5))), (0, .ref (ad 0)), (1, .int x1), (2, .int x2), (3, .int x3)]) C.1 C.2.1 dX9_put_20 hl (by decide) rfl (fun ls hl => ?_)
    refine lv_aload C.1 C.2.1 dX9_put_22 (lv_at hl 0 rfl) ?_
    refine lv_aload C.1 C.2.1 dX9_put_24 (lv_at hl 0 rfl) ?_
    refine fw_get (w := (kw G ad kt)) C in_X6 hK hG (17 + j5) (kw_o6 hj5) rfl 2 (by decide) k283 rfl rfl dX9_put_26 ?_
    refine lv_iload_n C.1 C.2.1 dX9_put_29 rfl (lv_at hl 3 rfl) ?_
    refine lv_lconst (v := 1) C.1 C.2.1 dX9_put_30 (by decide) ?_
    refine fw_rcalli (va_runV (As := [.int (iv1 (13 + j5)), .int x2, .long 1]) (rest := []) ⟨C.1, C.2.1, C.2.2.2.2.2.2, C.2.2.2.2.2.1, C.2.2.2.2.1⟩ (soX6_faultOfTaking l G ad kt iv1 ar j5 (iv1 (13 + j5)) x2 1 _ hj5 h H.size) (cwV 3 C.2.2.2.2.1 gX9_put_X6_faultOfTaking rfl rfl rfl (by decide +kernel) ⟨Nat.le_of_ble_eq_true rfl, Nat.le_of_ble_eq_true rfl⟩) (fw_preV hG hK (ci := 6) rfl (kw_o6 hj5)) rfl rfl hl.1 rfl (lv_room (Nat.le_of_ble_eq_true rfl)) dX9_put_31 ⟨Nat.zero_le _, Nat.zero_le _⟩) hG hK (fun r6  H locs h hG => ?_)
    refine lv_istore (lv' := [(5, .int r6), (4, .ref (ad (17 + j5))), (0, .ref (ad 0)), (1, .int x1), (2, .int x2), (3, .int x3)]) C.1 C.2.1 dX9_put_34 hl (by decide) rfl (fun ls hl => ?_)
    refine lv_iload C.1 C.2.1 dX9_put_36 (lv_at hl 0 rfl) ?_
    refine lv_if_eq (tgt := 48) C.1 C.2.1 dX9_put_38 (by decide) (fun c7 => ?_) (fun c7 => ?_)
    · have h := h.1 c7
      refine lv_aload C.1 C.2.1 dX9_put_48 (lv_at hl 1 rfl) ?_
      refine lv_iload_n C.1 C.2.1 dX9_put_50 rfl (lv_at hl 4 rfl) ?_
      refine lv_iload_n C.1 C.2.1 dX9_put_51 rfl (lv_at hl 5 rfl) ?_
      refine fw_callv (va_runV (As := [.int x2, .int x3]) (rest := []) ⟨C.1, C.2.1, C.2.2.2.2.2.2, C.2.2.2.2.2.1, C.2.2.2.2.1⟩ (soX6_store l G ad kt iv1 ar j5 x2 x3 _ hj5 h H.size) (cwV 2 C.2.2.2.2.1 gX9_put_X6_store rfl rfl rfl (by decide +kernel) ⟨Nat.le_of_ble_eq_true rfl, Nat.le_of_ble_eq_true rfl⟩) (fw_preV hG hK (ci := 6) rfl (kw_o6 hj5)) rfl rfl hl.1 rfl (lv_room (Nat.le_of_ble_eq_true rfl)) dX9_put_52 ⟨Nat.zero_le _, Nat.zero_le _⟩) hG hK (fun iv8 ar9 H locs h hG => ?_)
      refine lv_iconst (v := 1) C.1 C.2.1 dX9_put_55 (by decide) ?_
      exact fw_iret C hG h dX9_put_56
    · have h := h.2 c7
      refine lv_aload_n C.1 C.2.1 dX9_put_41 rfl (lv_at hl 2 rfl) ?_
      refine lv_iload C.1 C.2.1 dX9_put_42 (lv_at hl 0 rfl) ?_
      refine fw_calli (va_runV (As := [.int r6]) (rest := []) ⟨C.1, C.2.1, C.2.2.2.2.2.2, C.2.2.2.2.2.1, C.2.2.2.2.1⟩ (soX9_faulted l G ad kt iv1 ar r6 _  h H.size) (cwV 1 C.2.2.2.2.1 gX9_put_X9_faulted rfl rfl rfl (by decide +kernel) ⟨Nat.le_of_ble_eq_true rfl, Nat.le_of_ble_eq_true rfl⟩) (fw_preV hG hK (ci := 9) rfl kw_o9) rfl rfl hl.1 rfl (lv_room (Nat.le_of_ble_eq_true rfl)) dX9_put_44 ⟨Nat.zero_le _, Nat.zero_le _⟩) hG hK (fun r10 iv11 ar12 H locs h hG => ?_)
      exact fw_iret C hG h dX9_put_47
  · have h := h.2 c3
    refine lv_iconst (v := (-1)) C.1 C.2.1 dX9_put_12 (by decide) ?_
    exact fw_iret C hG h dX9_put_13
/-! KnifeBoard.cell(III)J -/
def rmX9_cell : Room := { frames := 4, cells := 0, slots := 0, locals := 96 }
def wpX9_cell (kt : kw_T) (iv : fw_F) (ar : fw_R) (x1 : Int32) (x2 : Int32) (x3 : Int32) (Q : Int64 → fw_F → fw_R → Prop) : Prop := ∀ iv1 : fw_F, iv1 = va_up iv 1 0 → (wpX9_refusesSheet x1 x3 (fun (r2 : Int32) => (r2 = 0 → (wpX9_takeCells kt iv1 ar x1 x3 x2 1 (fun (r4 : Int32) (iv5 : fw_F) (ar6 : fw_R) => (r4 = 0 → (vp_in (0 : Int32) 80 ∧ (Q (((ar6 25) (0 : Int32).toNatClampNeg).toInt64) iv5 ar6))) ∧ (¬ r4 = 0 → (Q (-9223372036854775808) iv5 ar6))))) ∧ (¬ r2 = 0 → (Q (-9223372036854775808) iv1 ar))))
set_option maxHeartbeats 4000000 in
set_option maxRecDepth 100000 in
theorem soX9_cell (l : Launch) (G : fw_G) (ad : Nat → Nat) (kt : kw_T) (iv : fw_F) (ar : fw_R) (x1 : Int32) (x2 : Int32) (x3 : Int32) (Q : Int64 → fw_F → fw_R → Prop)  (h : wpX9_cell kt iv ar x1 x2 x3 Q) : fw_M l G (kw G ad kt) yX9_cell wsX9_cell rmX9_cell [.ref (ad 0), .int x1, .int x2, .int x3] iv ar (fw_Ql G (kw G ad kt) Q) := by
  refine fw_start (cc := cX9_cell) (nL := 4) (rt := (some .long)) (by decide) rfl (Nat.le_of_ble_eq_true rfl) ?_
  intro p e s m below meth c A ls H locs C hK hG hl
  obtain ⟨args, ea⟩ : ∃ z : Array Value, z = ([.ref (ad 0), .int x1, .int x2, .int x3] : List Value).toArray := ⟨_, rfl⟩
  rw [← ea] at C ⊢
  have C : fw_C p s m args meth c cX9_cell 4 (some .long) wsX9_cell RX9 := C
  have hl : lv_has ls 4 [(0, .ref (ad 0)), (1, .int x1), (2, .int x2), (3, .int x3)] := hl
  unfold wpX9_cell at h
  have in_X9 : ∀ x ∈ wsX90, x ∈ wsX9_cell := by decide +kernel
  have k113 := C.2.2.2.2.1 (.constantLong RX9 113 (-9223372036854775808)) (by decide +kernel)
  have k56 := C.2.2.2.2.1 (.fieldLink RX9 56 "KnifeBoard" "taken" "[I") (by decide +kernel)
  have k71 := C.2.2.2.2.1 (.fieldLink RX9 71 "KnifeBoard" "theFault" "I") (by decide +kernel)
  refine lv_aload_n C.1 C.2.1 dX9_cell_0 rfl (lv_at hl 0 rfl) ?_
  refine lv_iconst (v := 0) C.1 C.2.1 dX9_cell_1 (by decide) ?_
  obtain ⟨iv1, eiv1⟩ : ∃ z : fw_F, z = va_up iv 1 0 := ⟨_, rfl⟩
  have h := h iv1 eiv1
  refine fw_put (w := (kw G ad kt)) C in_X9 tyX9 tyX9_ok nmX9 hK hG 0 kw_o9 rfl 10 (by decide) k71 rfl rfl (ty := .int) (v := .int 0) (by decide +kernel) rfl rfl (by first | decide | exact Nat.le_of_ble_eq_true rfl) (iv1 := iv1) (by rw [eiv1]; exact kw_p9_theFault) dX9_cell_2 (fun H locs hG => ?_)
  refine lv_iload_n C.1 C.2.1 dX9_cell_5 rfl (lv_at hl 1 rfl) ?_
  refine lv_iload_n C.1 C.2.1 dX9_cell_6 rfl (lv_at hl 3 rfl) ?_
  refine fw_pcalli (va_runS (As := [.int x1, .int x3]) (rest := []) ⟨C.1, C.2.1, C.2.2.2.2.2.2, C.2.2.2.2.2.1, C.2.2.2.2.1⟩ (soX9_refusesSheet l x1 x3 _ h H.size) (va_cwS 2 C.2.2.2.2.1 gX9_cell_X9_refusesSheet rfl rfl rfl (by decide +kernel) ⟨Nat.le_of_ble_eq_true rfl, Nat.le_of_ble_eq_true rfl⟩) fw_ppre rfl rfl hl.1 rfl (lv_room (Nat.le_of_ble_eq_true rfl)) dX9_cell_7 ⟨Nat.zero_le _, Nat.zero_le _⟩) hG hK (fun r2  H locs h hG => ?_)
  refine lv_if_eq (tgt := 17) C.1 C.2.1 dX9_cell_10 (by decide) (fun c3 => ?_) (fun c3 => ?_)
  · have h := h.1 c3
    refine lv_aload_n C.1 C.2.1 dX9_cell_17 rfl (lv_at hl 0 rfl) ?_
    refine lv_iload_n C.1 C.2.1 dX9_cell_18 rfl (lv_at hl 1 rfl) ?_
    refine lv_iload_n C.1 C.2.1 dX9_cell_19 rfl (lv_at hl 3 rfl) ?_
    refine lv_iload_n C.1 C.2.1 dX9_cell_20 rfl (lv_at hl 2 rfl) ?_
    refine lv_lconst (v := 1) C.1 C.2.1 dX9_cell_21 (by decide) ?_
    refine fw_calli (va_runV (As := [.int x1, .int x3, .int x2, .long 1]) (rest := []) ⟨C.1, C.2.1, C.2.2.2.2.2.2, C.2.2.2.2.2.1, C.2.2.2.2.1⟩ (soX9_takeCells l G ad kt iv1 ar x1 x3 x2 1 _  h H.size) (cwV 4 C.2.2.2.2.1 gX9_cell_X9_takeCells rfl rfl rfl (by decide +kernel) ⟨Nat.le_of_ble_eq_true rfl, Nat.le_of_ble_eq_true rfl⟩) (fw_preV hG hK (ci := 9) rfl kw_o9) rfl rfl hl.1 rfl (lv_room (Nat.le_of_ble_eq_true rfl)) dX9_cell_22 ⟨Nat.zero_le _, Nat.zero_le _⟩) hG hK (fun r4 iv5 ar6 H locs h hG => ?_)
    refine lv_if_eq (tgt := 32) C.1 C.2.1 dX9_cell_25 (by decide) (fun c7 => ?_) (fun c7 => ?_)
    · have h := h.1 c7
      refine lv_aload_n C.1 C.2.1 dX9_cell_32 rfl (lv_at hl 0 rfl) ?_
      refine fw_get (w := (kw G ad kt)) C in_X9 hK hG 0 kw_o9 rfl 7 (by decide) k56 rfl rfl dX9_cell_33 ?_
      refine lv_iconst (v := 0) C.1 C.2.1 dX9_cell_36 (by decide) ?_
      obtain ⟨c8, h⟩ := h
      refine fw_iald (w := (kw G ad kt)) C hK hG 25 kw_a25 c8 dX9_cell_37 ?_
      refine lv_i2l C.1 C.2.1 dX9_cell_38 rfl ?_
      exact fw_lret C hG h dX9_cell_39
    · have h := h.2 c7
      refine lv_ldc2 C.1 C.2.1 C.2.2.2.2.2.1 k113 dX9_cell_28 ?_
      exact fw_lret C hG h dX9_cell_31
  · have h := h.2 c3
    refine lv_ldc2 C.1 C.2.1 C.2.2.2.2.2.1 k113 dX9_cell_13 ?_
    exact fw_lret C hG h dX9_cell_16
/-! KnifeBoard.copy(IIIII)I -/
def rmX9_copy : Room := { frames := 2, cells := 0, slots := 0, locals := 45 }
def wpX9_copy (kt : kw_T) (iv : fw_F) (ar : fw_R) (x1 : Int32) (x2 : Int32) (x3 : Int32) (x4 : Int32) (x5 : Int32) (Q : Int32 → fw_F → fw_R → Prop) : Prop := ∀ iv1 : fw_F, iv1 = va_up iv 1 0 → (wpX9_isSheet x1 (fun (r2 : Int32) => (r2 = 0 → (Q (-1) iv1 ar)) ∧ (¬ r2 = 0 → (wpX9_isSheet x3 (fun (r4 : Int32) => (¬ r4 = 0 → (vp_in x1 4 ∧ (∀ j7 : Nat, j7 = x1.toNatClampNeg → j7 < 4 → (vp_in x3 4 ∧ (∀ j9 : Nat, j9 = x3.toNatClampNeg → j9 < 4 → (((iv1 (9 + j7)) = 0 → (wpX9_faulted kt iv1 ar 1 (fun (r11 : Int32) (iv12 : fw_F) (ar13 : fw_R) => Q r11 iv12 ar13))) ∧ (¬ (iv1 (9 + j7)) = 0 → ((¬ (iv1 (9 + j9)) = 0 → (((iv1 (13 + j7)) = (iv1 (13 + j9)) → ((x5 < 0 → (wpX9_faulted kt iv1 ar 3 (fun (r17 : Int32) (iv18 : fw_F) (ar19 : fw_R) => Q r17 iv18 ar19))) ∧ (¬ x5 < 0 → (wpX6_reaches kt iv1 ar j7 x2 x5.toInt64 (fun (r20 : Int32) => (r20 = 0 → (wpX9_faulted kt iv1 ar 3 (fun (r22 : Int32) (iv23 : fw_F) (ar24 : fw_R) => Q r22 iv23 ar24))) ∧ (¬ r20 = 0 → (wpX6_reaches kt iv1 ar j9 x4 x5.toInt64 (fun (r25 : Int32) => (¬ r25 = 0 → (¬ x2 < 0 ∧ ¬ x4 < 0 ∧ ¬ x5 < 0 ∧ x2.toNatClampNeg + x5.toNatClampNeg ≤ 80 ∧ x4.toNatClampNeg + x5.toNatClampNeg ≤ 80 ∧ (∀ ar32 : fw_R, ar32 = va_up ar (21 + j9) (va_cpy (ar (21 + j7)) (ar (21 + j9)) x2.toNatClampNeg x4.toNatClampNeg x5.toNatClampNeg) → (Q x5 iv1 ar32)))) ∧ (r25 = 0 → (wpX9_faulted kt iv1 ar 3 (fun (r33 : Int32) (iv34 : fw_F) (ar35 : fw_R) => Q r33 iv34 ar35))))))))))) ∧ (¬ (iv1 (13 + j7)) = (iv1 (13 + j9)) → (wpX9_faulted kt iv1 ar 2 (fun (r36 : Int32) (iv37 : fw_F) (ar38 : fw_R) => Q r36 iv37 ar38))))) ∧ ((iv1 (9 + j9)) = 0 → (wpX9_faulted kt iv1 ar 1 (fun (r39 : Int32) (iv40 : fw_F) (ar41 : fw_R) => Q r39 iv40 ar41))))))))))) ∧ (r4 = 0 → (Q (-1) iv1 ar)))))))
set_option maxHeartbeats 4000000 in
set_option maxRecDepth 100000 in
theorem soX9_copy (l : Launch) (G : fw_G) (ad : Nat → Nat) (kt : kw_T) (iv : fw_F) (ar : fw_R) (x1 : Int32) (x2 : Int32) (x3 : Int32) (x4 : Int32) (x5 : Int32) (Q : Int32 → fw_F → fw_R → Prop)  (h : wpX9_copy kt iv ar x1 x2 x3 x4 x5 Q) : fw_M l G (kw G ad kt) yX9_copy wsX9_copy rmX9_copy [.ref (ad 0), .int x1, .int x2, .int x3, .int x4, .int x5] iv ar (fw_Qi G (kw G ad kt) Q) := by
  refine fw_start (cc := cX9_copy) (nL := 8) (rt := (some .int)) (by decide) rfl (Nat.le_of_ble_eq_true rfl) ?_
  intro p e s m below meth c A ls H locs C hK hG hl
  obtain ⟨args, ea⟩ : ∃ z : Array Value, z = ([.ref (ad 0), .int x1, .int x2, .int x3, .int x4, .int x5] : List Value).toArray := ⟨_, rfl⟩
  rw [← ea] at C ⊢
  have C : fw_C p s m args meth c cX9_copy 8 (some .int) wsX9_copy RX9 := C
  have hl : lv_has ls 8 [(0, .ref (ad 0)), (1, .int x1), (2, .int x2), (3, .int x3), (4, .int x4), (5, .int x5)] := hl
  unfold wpX9_copy at h
  have ac1 := C.2.2.2.2.1 (.native arraycopyName) (by decide +kernel)
  have ac2 := C.2.2.2.2.1 (.static arraycopyName) (by decide +kernel)
  have ac3 := C.2.2.2.2.1 (.initialized "java/lang/System") (by decide +kernel)
  have in_X6 : ∀ x ∈ wsX60, x ∈ wsX9_copy := by decide +kernel
  have in_X9 : ∀ x ∈ wsX90, x ∈ wsX9_copy := by decide +kernel
  have k280 := C.2.2.2.2.1 (.fieldLink RX9 280 "KnifeBoard$Sheet" "has" "Z") (by decide +kernel)
  have k283 := C.2.2.2.2.1 (.fieldLink RX9 283 "KnifeBoard$Sheet" "sort" "I") (by decide +kernel)
  have k297 := C.2.2.2.2.1 (.fieldLink RX9 297 "KnifeBoard$Sheet" "cells" "[I") (by decide +kernel)
  have k52 := C.2.2.2.2.1 (.fieldLink RX9 52 "KnifeBoard" "sheets" "[LKnifeBoard$Sheet;") (by decide +kernel)
  have k71 := C.2.2.2.2.1 (.fieldLink RX9 71 "KnifeBoard" "theFault" "I") (by decide +kernel)
  have m300 := C.2.2.2.2.1 (.methodLink RX9 300 arraycopyName) (by decide +kernel)
  refine lv_aload_n C.1 C.2.1 dX9_copy_0 rfl (lv_at hl 0 rfl) ?_
  refine lv_iconst (v := 0) C.1 C.2.1 dX9_copy_1 (by decide) ?_
  obtain ⟨iv1, eiv1⟩ : ∃ z : fw_F, z = va_up iv 1 0 := ⟨_, rfl⟩
  have h := h iv1 eiv1
  refine fw_put (w := (kw G ad kt)) C in_X9 tyX9 tyX9_ok nmX9 hK hG 0 kw_o9 rfl 10 (by decide) k71 rfl rfl (ty := .int) (v := .int 0) (by decide +kernel) rfl rfl (by first | decide | exact Nat.le_of_ble_eq_true rfl) (iv1 := iv1) (by rw [eiv1]; exact kw_p9_theFault) dX9_copy_2 (fun H locs hG => ?_)
  refine lv_iload_n C.1 C.2.1 dX9_copy_5 rfl (lv_at hl 1 rfl) ?_
  refine fw_pcalli (va_runS (As := [.int x1]) (rest := []) ⟨C.1, C.2.1, C.2.2.2.2.2.2, C.2.2.2.2.2.1, C.2.2.2.2.1⟩ (soX9_isSheet l x1 _ h H.size) (va_cwS 1 C.2.2.2.2.1 gX9_copy_X9_isSheet rfl rfl rfl (by decide +kernel) ⟨Nat.le_of_ble_eq_true rfl, Nat.le_of_ble_eq_true rfl⟩) fw_ppre rfl rfl hl.1 rfl (lv_room (Nat.le_of_ble_eq_true rfl)) dX9_copy_6 ⟨Nat.zero_le _, Nat.zero_le _⟩) hG hK (fun r2  H locs h hG => ?_)
  refine lv_if_eq (tgt := 19) C.1 C.2.1 dX9_copy_9 (by decide) (fun c3 => ?_) (fun c3 => ?_)
  · have h := h.1 c3
    refine lv_iconst (v := (-1)) C.1 C.2.1 dX9_copy_19 (by decide) ?_
    exact fw_iret C hG h dX9_copy_20
  · have h := h.2 c3
    refine lv_iload_n C.1 C.2.1 dX9_copy_12 rfl (lv_at hl 3 rfl) ?_
    refine fw_pcalli (va_runS (As := [.int x3]) (rest := []) ⟨C.1, C.2.1, C.2.2.2.2.2.2, C.2.2.2.2.2.1, C.2.2.2.2.1⟩ (soX9_isSheet l x3 _ h H.size) (va_cwS 1 C.2.2.2.2.1 gX9_copy_X9_isSheet rfl rfl rfl (by decide +kernel) ⟨Nat.le_of_ble_eq_true rfl, Nat.le_of_ble_eq_true rfl⟩) fw_ppre rfl rfl hl.1 rfl (lv_room (Nat.le_of_ble_eq_true rfl)) dX9_copy_13 ⟨Nat.zero_le _, Nat.zero_le _⟩) hG hK (fun r4  H locs h hG => ?_)
    refine lv_if_ne (tgt := 21) C.1 C.2.1 dX9_copy_16 (by decide) (fun c5 => ?_) (fun c5 => ?_)
    · have h := h.1 c5
      refine lv_aload_n C.1 C.2.1 dX9_copy_21 rfl (lv_at hl 0 rfl) ?_
      refine fw_get (w := (kw G ad kt)) C in_X9 hK hG 0 kw_o9 rfl 6 (by decide) k52 rfl rfl dX9_copy_22 ?_
      refine lv_iload_n C.1 C.2.1 dX9_copy_25 rfl (lv_at hl 1 rfl) ?_
      obtain ⟨c6, h⟩ := h
      refine va_aldq C.1 C.2.1 hK.1 hG.1 16 3 (kw_r16 : ((kw G ad kt) iv1 ar)[16]? = _) rfl c6 dX9_copy_26 ?_
      obtain ⟨j7, ej7⟩ : ∃ z : Nat, z = x1.toNatClampNeg := ⟨_, rfl⟩
      have hj7 : j7 < 4 := by rw [ej7]; exact Nat.not_le.mp fun z => c6 (Or.inr z)
      have h := h j7 ej7 hj7
      refine W.eq (g2 := F0 m 27 ls (.ref (ad (17 + j7)) :: [])) (by rw [ej7]; rfl) ?_
      refine lv_astore (lv' := [(6, .ref (ad (17 + j7))), (0, .ref (ad 0)), (1, .int x1), (2, .int x2), (3, .int x3), (4, .int x4), (5, .int x5)]) C.1 C.2.1 dX9_copy_27 hl (by decide) rfl (fun ls hl => ?_)
      refine lv_aload_n C.1 C.2.1 dX9_copy_29 rfl (lv_at hl 1 rfl) ?_
      refine fw_get (w := (kw G ad kt)) C in_X9 hK hG 0 kw_o9 rfl 6 (by decide) k52 rfl rfl dX9_copy_30 ?_
      refine lv_iload_n C.1 C.2.1 dX9_copy_33 rfl (lv_at hl 4 rfl) ?_
      obtain ⟨c8, h⟩ := h
      refine va_aldq C.1 C.2.1 hK.1 hG.1 16 3 (kw_r16 : ((kw G ad kt) iv1 ar)[16]? = _) rfl c8 dX9_copy_34 ?_
      obtain ⟨j9, ej9⟩ : ∃ z : Nat, z = x3.toNatClampNeg := ⟨_, rfl⟩
      have hj9 : j9 < 4 := by rw [ej9]; exact Nat.not_le.mp fun z => c8 (Or.inr z)
      have h := h j9 ej9 hj9
      refine W.eq (g2 := F0 m 35 ls (.ref (ad (17 + j9)) :: [])) (by rw [ej9]; rfl) ?_
      refine lv_astore (lv' := [(7, .ref (ad (17 + j9))), (6, .ref (ad (17 + j7))), (0, .ref (ad 0)), (1, .int x1), (2, .int x2), (3, .int x3), (4, .int x4), (5, .int x5)]) C.1 C.2.1 dX9_copy_35 hl (by decide) rfl (fun ls hl => ?_)
      refine lv_aload C.1 C.2.1 dX9_copy_37 (lv_at hl 1 rfl) ?_
      refine fw_get (w := (kw G ad kt)) C in_X6 hK hG (17 + j7) (kw_o6 hj7) rfl 1 (by decide) k280 rfl rfl dX9_copy_39 ?_
      refine lv_if_eq (tgt := 53) C.1 C.2.1 dX9_copy_42 (by decide) (fun c10 => ?_) (fun c10 => ?_)
      · have h := h.1 c10
        refine lv_aload_n C.1 C.2.1 dX9_copy_53 rfl (lv_at hl 2 rfl) ?_
        refine lv_iconst (v := 1) C.1 C.2.1 dX9_copy_54 (by decide) ?_
        refine fw_calli (va_runV (As := [.int 1]) (rest := []) ⟨C.1, C.2.1, C.2.2.2.2.2.2, C.2.2.2.2.2.1, C.2.2.2.2.1⟩ (soX9_faulted l G ad kt iv1 ar 1 _  h H.size) (cwV 1 C.2.2.2.2.1 gX9_copy_X9_faulted rfl rfl rfl (by decide +kernel) ⟨Nat.le_of_ble_eq_true rfl, Nat.le_of_ble_eq_true rfl⟩) (fw_preV hG hK (ci := 9) rfl kw_o9) rfl rfl hl.1 rfl (lv_room (Nat.le_of_ble_eq_true rfl)) dX9_copy_55 ⟨Nat.zero_le _, Nat.zero_le _⟩) hG hK (fun r11 iv12 ar13 H locs h hG => ?_)
        exact fw_iret C hG h dX9_copy_58
      · have h := h.2 c10
        refine lv_aload C.1 C.2.1 dX9_copy_45 (lv_at hl 0 rfl) ?_
        refine fw_get (w := (kw G ad kt)) C in_X6 hK hG (17 + j9) (kw_o6 hj9) rfl 1 (by decide) k280 rfl rfl dX9_copy_47 ?_
        refine lv_if_ne (tgt := 59) C.1 C.2.1 dX9_copy_50 (by decide) (fun c14 => ?_) (fun c14 => ?_)
        · have h := h.1 c14
          refine lv_aload C.1 C.2.1 dX9_copy_59 (lv_at hl 1 rfl) ?_
          refine fw_get (w := (kw G ad kt)) C in_X6 hK hG (17 + j7) (kw_o6 hj7) rfl 2 (by decide) k283 rfl rfl dX9_copy_61 ?_
          refine lv_aload C.1 C.2.1 dX9_copy_64 (lv_at hl 0 rfl) ?_
          refine fw_get (w := (kw G ad kt)) C in_X6 hK hG (17 + j9) (kw_o6 hj9) rfl 2 (by decide) k283 rfl rfl dX9_copy_66 ?_
          refine lv_icmp_eq (tgt := 78) C.1 C.2.1 dX9_copy_69 (by decide) (fun c15 => ?_) (fun c15 => ?_)
          · have h := h.1 c15
            refine lv_iload C.1 C.2.1 dX9_copy_78 (lv_at hl 7 rfl) ?_
            refine lv_if_lt (tgt := 108) C.1 C.2.1 dX9_copy_80 (by decide) (fun c16 => ?_) (fun c16 => ?_)
            · have h := h.1 c16
              refine lv_aload_n C.1 C.2.1 dX9_copy_108 rfl (lv_at hl 2 rfl) ?_
              refine lv_iconst (v := 3) C.1 C.2.1 dX9_copy_109 (by decide) ?_
              refine fw_calli (va_runV (As := [.int 3]) (rest := []) ⟨C.1, C.2.1, C.2.2.2.2.2.2, C.2.2.2.2.2.1, C.2.2.2.2.1⟩ (soX9_faulted l G ad kt iv1 ar 3 _  h H.size) (cwV 1 C.2.2.2.2.1 gX9_copy_X9_faulted rfl rfl rfl (by decide +kernel) ⟨Nat.le_of_ble_eq_true rfl, Nat.le_of_ble_eq_true rfl⟩) (fw_preV hG hK (ci := 9) rfl kw_o9) rfl rfl hl.1 rfl (lv_room (Nat.le_of_ble_eq_true rfl)) dX9_copy_110 ⟨Nat.zero_le _, Nat.zero_le _⟩) hG hK (fun r17 iv18 ar19 H locs h hG => ?_)
              exact fw_iret C hG h dX9_copy_113
            · have h := h.2 c16
              refine lv_aload C.1 C.2.1 dX9_copy_83 (lv_at hl 1 rfl) ?_
              refine lv_iload_n C.1 C.2.1 dX9_copy_85 rfl (lv_at hl 4 rfl) ?_
              refine lv_iload C.1 C.2.1 dX9_copy_86 (lv_at hl 7 rfl) ?_
              refine lv_i2l C.1 C.2.1 dX9_copy_88 rfl ?_
              refine fw_rcalli (va_runV (As := [.int x2, .long x5.toInt64]) (rest := []) ⟨C.1, C.2.1, C.2.2.2.2.2.2, C.2.2.2.2.2.1, C.2.2.2.2.1⟩ (soX6_reaches l G ad kt iv1 ar j7 x2 x5.toInt64 _ hj7 h H.size) (cwV 2 C.2.2.2.2.1 gX9_copy_X6_reaches rfl rfl rfl (by decide +kernel) ⟨Nat.le_of_ble_eq_true rfl, Nat.le_of_ble_eq_true rfl⟩) (fw_preV hG hK (ci := 6) rfl (kw_o6 hj7)) rfl rfl hl.1 rfl (lv_room (Nat.le_of_ble_eq_true rfl)) dX9_copy_89 ⟨Nat.zero_le _, Nat.zero_le _⟩) hG hK (fun r20  H locs h hG => ?_)
              refine lv_if_eq (tgt := 108) C.1 C.2.1 dX9_copy_92 (by decide) (fun c21 => ?_) (fun c21 => ?_)
              · have h := h.1 c21
                refine lv_aload_n C.1 C.2.1 dX9_copy_108 rfl (lv_at hl 2 rfl) ?_
                refine lv_iconst (v := 3) C.1 C.2.1 dX9_copy_109 (by decide) ?_
                refine fw_calli (va_runV (As := [.int 3]) (rest := []) ⟨C.1, C.2.1, C.2.2.2.2.2.2, C.2.2.2.2.2.1, C.2.2.2.2.1⟩ (soX9_faulted l G ad kt iv1 ar 3 _  h H.size) (cwV 1 C.2.2.2.2.1 gX9_copy_X9_faulted rfl rfl rfl (by decide +kernel) ⟨Nat.le_of_ble_eq_true rfl, Nat.le_of_ble_eq_true rfl⟩) (fw_preV hG hK (ci := 9) rfl kw_o9) rfl rfl hl.1 rfl (lv_room (Nat.le_of_ble_eq_true rfl)) dX9_copy_110 ⟨Nat.zero_le _, Nat.zero_le _⟩) hG hK (fun r22 iv23 ar24 H locs h hG => ?_)
                exact fw_iret C hG h dX9_copy_113
              · have h := h.2 c21
                refine lv_aload C.1 C.2.1 dX9_copy_95 (lv_at hl 0 rfl) ?_
                refine lv_iload C.1 C.2.1 dX9_copy_97 (lv_at hl 6 rfl) ?_
                refine lv_iload C.1 C.2.1 dX9_copy_99 (lv_at hl 7 rfl) ?_
                refine lv_i2l C.1 C.2.1 dX9_copy_101 rfl ?_
                refine fw_rcalli (va_runV (As := [.int x4, .long x5.toInt64]) (rest := []) ⟨C.1, C.2.1, C.2.2.2.2.2.2, C.2.2.2.2.2.1, C.2.2.2.2.1⟩ (soX6_reaches l G ad kt iv1 ar j9 x4 x5.toInt64 _ hj9 h H.size) (cwV 2 C.2.2.2.2.1 gX9_copy_X6_reaches rfl rfl rfl (by decide +kernel) ⟨Nat.le_of_ble_eq_true rfl, Nat.le_of_ble_eq_true rfl⟩) (fw_preV hG hK (ci := 6) rfl (kw_o6 hj9)) rfl rfl hl.1 rfl (lv_room (Nat.le_of_ble_eq_true rfl)) dX9_copy_102 ⟨Nat.zero_le _, Nat.zero_le _⟩) hG hK (fun r25  H locs h hG => ?_)
                refine lv_if_ne (tgt := 114) C.1 C.2.1 dX9_copy_105 (by decide) (fun c26 => ?_) (fun c26 => ?_)
                · have h := h.1 c26
                  refine lv_aload C.1 C.2.1 dX9_copy_114 (lv_at hl 1 rfl) ?_
                  refine fw_get (w := (kw G ad kt)) C in_X6 hK hG (17 + j7) (kw_o6 hj7) rfl 0 (by decide) k297 rfl rfl dX9_copy_116 ?_
                  refine lv_iload_n C.1 C.2.1 dX9_copy_119 rfl (lv_at hl 4 rfl) ?_
                  refine lv_aload C.1 C.2.1 dX9_copy_120 (lv_at hl 0 rfl) ?_
                  refine fw_get (w := (kw G ad kt)) C in_X6 hK hG (17 + j9) (kw_o6 hj9) rfl 0 (by decide) k297 rfl rfl dX9_copy_122 ?_
                  refine lv_iload C.1 C.2.1 dX9_copy_125 (lv_at hl 6 rfl) ?_
                  refine lv_iload C.1 C.2.1 dX9_copy_127 (lv_at hl 7 rfl) ?_
                  obtain ⟨c27, c28, c29, c30, c31, h⟩ := h
                  obtain ⟨ar32, ear32⟩ : ∃ z : fw_R, z = va_up ar (21 + j9) (va_cpy (ar (21 + j7)) (ar (21 + j9)) x2.toNatClampNeg x4.toNatClampNeg x5.toNatClampNeg) := ⟨_, rfl⟩
                  have h := h ar32 ear32
                  refine va_copyi C.1 C.2.1 (by rw [C.2.2.2.2.2.2]; exact hl.1.symm) C.2.2.2.2.2.1 m300 ac1 ac2 ac3 hK.1 hG.1 hG.2.1 hG.2.2 (21 + j7) (21 + j9) 0 0 ((kw_aS hj7) : ((kw G ad kt) iv1 ar)[(21 + j7)]? = _) ((kw_aS hj9) : ((kw G ad kt) iv1 ar)[(21 + j9)]? = _) rfl rfl rfl c27 c28 c29 c30 c31 (fun _ _ => rfl) (Nat.le_of_ble_eq_true rfl) (Nat.le_of_ble_eq_true rfl) dX9_copy_129 (fun H locs h1 h2 h3 => ?_)
                  have hG : fw_H G ((kw G ad kt) iv1 ar32) A s H locs := ⟨by rw [ear32, ← (kw_sS hj9)]; exact h1, by rw [ear32, ← (kw_sS hj9)]; exact h2, h3⟩
                  refine lv_iload C.1 C.2.1 dX9_copy_132 (lv_at hl 7 rfl) ?_
                  exact fw_iret C hG h dX9_copy_134
                · have h := h.2 c26
                  refine lv_aload_n C.1 C.2.1 dX9_copy_108 rfl (lv_at hl 2 rfl) ?_
                  refine lv_iconst (v := 3) C.1 C.2.1 dX9_copy_109 (by decide) ?_
                  refine fw_calli (va_runV (As := [.int 3]) (rest := []) ⟨C.1, C.2.1, C.2.2.2.2.2.2, C.2.2.2.2.2.1, C.2.2.2.2.1⟩ (soX9_faulted l G ad kt iv1 ar 3 _  h H.size) (cwV 1 C.2.2.2.2.1 gX9_copy_X9_faulted rfl rfl rfl (by decide +kernel) ⟨Nat.le_of_ble_eq_true rfl, Nat.le_of_ble_eq_true rfl⟩) (fw_preV hG hK (ci := 9) rfl kw_o9) rfl rfl hl.1 rfl (lv_room (Nat.le_of_ble_eq_true rfl)) dX9_copy_110 ⟨Nat.zero_le _, Nat.zero_le _⟩) hG hK (fun r33 iv34 ar35 H locs h hG => ?_)
                  exact fw_iret C hG h dX9_copy_113
          · have h := h.2 c15
            refine lv_aload_n C.1 C.2.1 dX9_copy_72 rfl (lv_at hl 2 rfl) ?_
            refine lv_iconst (v := 2) C.1 C.2.1 dX9_copy_73 (by decide) ?_
            refine fw_calli (va_runV (As := [.int 2]) (rest := []) ⟨C.1, C.2.1, C.2.2.2.2.2.2, C.2.2.2.2.2.1, C.2.2.2.2.1⟩ (soX9_faulted l G ad kt iv1 ar 2 _  h H.size) (cwV 1 C.2.2.2.2.1 gX9_copy_X9_faulted rfl rfl rfl (by decide +kernel) ⟨Nat.le_of_ble_eq_true rfl, Nat.le_of_ble_eq_true rfl⟩) (fw_preV hG hK (ci := 9) rfl kw_o9) rfl rfl hl.1 rfl (lv_room (Nat.le_of_ble_eq_true rfl)) dX9_copy_74 ⟨Nat.zero_le _, Nat.zero_le _⟩) hG hK (fun r36 iv37 ar38 H locs h hG => ?_)
            exact fw_iret C hG h dX9_copy_77
        · have h := h.2 c14
          refine lv_aload_n C.1 C.2.1 dX9_copy_53 rfl (lv_at hl 2 rfl) ?_
          refine lv_iconst (v := 1) C.1 C.2.1 dX9_copy_54 (by decide) ?_
          refine fw_calli (va_runV (As := [.int 1]) (rest := []) ⟨C.1, C.2.1, C.2.2.2.2.2.2, C.2.2.2.2.2.1, C.2.2.2.2.1⟩ (soX9_faulted l G ad kt iv1 ar 1 _  h H.size) (cwV 1 C.2.2.2.2.1 gX9_copy_X9_faulted rfl rfl rfl (by decide +kernel) ⟨Nat.le_of_ble_eq_true rfl, Nat.le_of_ble_eq_true rfl⟩) (fw_preV hG hK (ci := 9) rfl kw_o9) rfl rfl hl.1 rfl (lv_room (Nat.le_of_ble_eq_true rfl)) dX9_copy_55 ⟨Nat.zero_le _, Nat.zero_le _⟩) hG hK (fun r39 iv40 ar41 H locs h hG => ?_)
          exact fw_iret C hG h dX9_copy_58
    · have h := h.2 c5
      refine lv_iconst (v := (-1)) C.1 C.2.1 dX9_copy_19 (by decide) ?_
      exact fw_iret C hG h dX9_copy_20
/-! KnifeBoard.tell(I)I -/
def rmX9_tell : Room := { frames := 4, cells := 0, slots := 0, locals := 85 }
def wpX9_tell (kt : kw_T) (iv : fw_F) (ar : fw_R) (x1 : Int32) (Q : Int32 → fw_F → fw_R → Prop) : Prop := wpX9_knifeAt kt iv ar x1 (fun (r1 : Option Nat) => (r1 = none → (Q (-1) iv ar)) ∧ (∀ i2 : Nat, r1 = some i2 → i2 < kt.1 ∧ ((kt.2.1 i2 = 0 → wpX3_telling kt iv ar i2 (fun (r3 : Int32) (iv4 : fw_F) (ar5 : fw_R) => Q r3 iv4 ar5)) ∧ (¬ kt.2.1 i2 = 0 → kt.2.1 i2 = 1 → wpX2_telling kt iv ar i2 (fun (r3 : Int32) (iv4 : fw_F) (ar5 : fw_R) => Q r3 iv4 ar5)) ∧ (¬ kt.2.1 i2 = 0 → ¬ kt.2.1 i2 = 1 → wpX8_telling kt iv ar i2 (fun (r3 : Int32) (iv4 : fw_F) (ar5 : fw_R) => Q r3 iv4 ar5)))))
set_option maxHeartbeats 4000000 in
set_option maxRecDepth 100000 in
theorem soX9_tell (l : Launch) (G : fw_G) (ad : Nat → Nat) (kt : kw_T) (iv : fw_F) (ar : fw_R) (x1 : Int32) (Q : Int32 → fw_F → fw_R → Prop)  (h : wpX9_tell kt iv ar x1 Q) : fw_M l G (kw G ad kt) yX9_tell wsX9_tell rmX9_tell [.ref (ad 0), .int x1] iv ar (fw_Qi G (kw G ad kt) Q) := by
  refine fw_start (cc := cX9_tell) (nL := 3) (rt := (some .int)) (by decide) rfl (Nat.le_of_ble_eq_true rfl) ?_
  intro p e s m below meth c A ls H locs C hK hG hl
  obtain ⟨args, ea⟩ : ∃ z : Array Value, z = ([.ref (ad 0), .int x1] : List Value).toArray := ⟨_, rfl⟩
  rw [← ea] at C ⊢
  have C : fw_C p s m args meth c cX9_tell 3 (some .int) wsX9_tell RX9 := C
  have hl : lv_has ls 3 [(0, .ref (ad 0)), (1, .int x1)] := hl
  unfold wpX9_tell at h
  have in_X9 : ∀ x ∈ wsX90, x ∈ wsX9_tell := by decide +kernel
  have k67 := C.2.2.2.2.1 (.fieldLink RX9 67 "KnifeBoard" "theTrace" "LKnifeBoard$Trace;") (by decide +kernel)
  refine lv_aload_n C.1 C.2.1 dX9_tell_0 rfl (lv_at hl 0 rfl) ?_
  refine lv_iload_n C.1 C.2.1 dX9_tell_1 rfl (lv_at hl 1 rfl) ?_
  refine fw_rcallq (va_runV (As := [.int x1]) (rest := []) ⟨C.1, C.2.1, C.2.2.2.2.2.2, C.2.2.2.2.2.1, C.2.2.2.2.1⟩ (soX9_knifeAt l G ad kt iv ar x1 _  h H.size) (cwV 1 C.2.2.2.2.1 gX9_tell_X9_knifeAt rfl rfl rfl (by decide +kernel) ⟨Nat.le_of_ble_eq_true rfl, Nat.le_of_ble_eq_true rfl⟩) (fw_preV hG hK (ci := 9) rfl kw_o9) rfl rfl hl.1 rfl (lv_room (Nat.le_of_ble_eq_true rfl)) dX9_tell_2 ⟨Nat.zero_le _, Nat.zero_le _⟩) hG hK (fun r1  H locs h hG => ?_)
  rcases r1 with _ | i2
  · have h := h.1 rfl
    refine W.eq (g2 := F0 m 5 ls (.null :: [])) rfl ?_
    refine lv_astore_nN (lv' := [(2, .null), (0, .ref (ad 0)), (1, .int x1)]) C.1 C.2.1 dX9_tell_5 rfl hl (by decide) rfl (fun ls hl => ?_)
    refine lv_aload_nN C.1 C.2.1 dX9_tell_6 rfl (lv_at hl 0 rfl) ?_
    refine lv_ifnonnullN C.1 C.2.1 dX9_tell_7 ?_
    refine lv_iconst (v := (-1)) C.1 C.2.1 dX9_tell_10 (by decide) ?_
    refine lv_goto (tgt := 22) C.1 C.2.1 dX9_tell_11 (by decide) ?_
    exact fw_iret C hG h dX9_tell_22
  · obtain ⟨hi2, h⟩ := h.2 i2 rfl
    refine W.eq (g2 := F0 m 5 ls (.ref (ad (28 + 2 * i2)) :: [])) rfl ?_
    refine lv_astore_n (lv' := [(2, .ref (ad (28 + 2 * i2))), (0, .ref (ad 0)), (1, .int x1)]) C.1 C.2.1 dX9_tell_5 rfl hl (by decide) rfl (fun ls hl => ?_)
    refine lv_aload_n C.1 C.2.1 dX9_tell_6 rfl (lv_at hl 0 rfl) ?_
    refine lv_ifnonnull (tgt := 14) C.1 C.2.1 dX9_tell_7 (by decide) ?_
    refine lv_aload_n C.1 C.2.1 dX9_tell_14 rfl (lv_at hl 0 rfl) ?_
    refine lv_aload_n C.1 C.2.1 dX9_tell_15 rfl (lv_at hl 1 rfl) ?_
    refine fw_get (w := (kw G ad kt)) C in_X9 hK hG 0 kw_o9 rfl 9 (by decide) k67 rfl rfl dX9_tell_16 ?_
    have rn : va_Run p l e rmX9_tell s m args below meth c H locs 0 0 0 0 (F0 m 19 ls (.ref (ad 27) :: .ref (ad (28 + 2 * i2)) :: [])) [] (fw_Qi G (kw G ad kt) (fun (r3 : Int32) (iv4 : fw_F) (ar5 : fw_R) => Q r3 iv4 ar5) (va_A ((kw G ad kt) iv ar) H.size) (.ref (ad (28 + 2 * i2)) :: [.ref (ad 27)]).toArray) (va_A ((kw G ad kt) iv ar) H.size) := by
      by_cases e0 : kt.2.1 i2 = 0
      · exact va_runV (As := [.ref (ad 27)]) (rest := []) ⟨C.1, C.2.1, C.2.2.2.2.2.2, C.2.2.2.2.2.1, C.2.2.2.2.1⟩ (soX3_telling l G ad kt iv ar i2 _ hi2 (h.1 e0) H.size) (cwV 1 C.2.2.2.2.1 gX9_tell_X3_telling rfl rfl rfl (by decide +kernel) ⟨Nat.le_of_ble_eq_true rfl, Nat.le_of_ble_eq_true rfl⟩) (fw_preV hG hK (ci := 3) rfl (kw_oK3 hi2 (kw_d3 e0))) rfl rfl hl.1 rfl (lv_room (Nat.le_of_ble_eq_true rfl)) dX9_tell_19 ⟨Nat.zero_le _, Nat.zero_le _⟩
      · by_cases e1 : kt.2.1 i2 = 1
        · exact va_runU (As := [.ref (ad 27)]) (rest := []) ⟨C.1, C.2.1, C.2.2.2.2.2.2, C.2.2.2.2.2.1, C.2.2.2.2.1⟩ (soX2_telling l G ad kt iv ar i2 _ hi2 e0 (h.2.1 e0 e1) H.size) (va_cwO 1 C.2.2.2.2.1 gX9_tell_X2_telling_u306X2 rfl rfl rfl (b0 := cX3_telling) (m0 := 2) (r0 := (some .int)) (by decide +kernel) (by decide +kernel) ⟨Nat.le_of_ble_eq_true rfl, Nat.le_of_ble_eq_true rfl⟩) (fw_preV hG hK (ci := 2) rfl (kw_oK2 hi2 (kw_d2 e0 e1))) rfl rfl hl.1 rfl (lv_room (Nat.le_of_ble_eq_true rfl)) dX9_tell_19 ⟨Nat.zero_le _, Nat.zero_le _⟩
        · exact va_runU (As := [.ref (ad 27)]) (rest := []) ⟨C.1, C.2.1, C.2.2.2.2.2.2, C.2.2.2.2.2.1, C.2.2.2.2.1⟩ (soX8_telling l G ad kt iv ar i2 _ hi2 e0 e1 (h.2.2 e0 e1) H.size) (va_cwO 1 C.2.2.2.2.1 gX9_tell_X8_telling_u306X8 rfl rfl rfl (b0 := cX3_telling) (m0 := 2) (r0 := (some .int)) (by decide +kernel) (by decide +kernel) ⟨Nat.le_of_ble_eq_true rfl, Nat.le_of_ble_eq_true rfl⟩) (fw_preV hG hK (ci := 8) rfl (kw_oK8 hi2 (kw_d8 e0 e1))) rfl rfl hl.1 rfl (lv_room (Nat.le_of_ble_eq_true rfl)) dX9_tell_19 ⟨Nat.zero_le _, Nat.zero_le _⟩
    refine fw_calli (rn) hG hK (fun r3 iv4 ar5 H locs h hG => ?_)
    exact fw_iret C hG h dX9_tell_22
/-! KnifeBoard.whet(I)I -/
def rmX9_whet : Room := { frames := 2, cells := 0, slots := 0, locals := 43 }
def wpX9_whet (kt : kw_T) (iv : fw_F) (ar : fw_R) (x1 : Int32) (Q : Int32 → fw_F → fw_R → Prop) : Prop := wpX9_knifeAt kt iv ar x1 (fun (r1 : Option Nat) => (r1 = none → (Q (-1) iv ar)) ∧ (∀ i2 : Nat, r1 = some i2 → i2 < kt.1 ∧ ((kt.2.1 i2 = 0 → wpX3_whetting kt iv ar i2 (fun (r3 : Int32) (iv4 : fw_F) (ar5 : fw_R) => Q r3 iv4 ar5)) ∧ (¬ kt.2.1 i2 = 0 → kt.2.1 i2 = 1 → wpX3_whetting kt iv ar i2 (fun (r3 : Int32) (iv4 : fw_F) (ar5 : fw_R) => Q r3 iv4 ar5)) ∧ (¬ kt.2.1 i2 = 0 → ¬ kt.2.1 i2 = 1 → wpX8_whetting kt iv ar i2 (fun (r3 : Int32) (iv4 : fw_F) (ar5 : fw_R) => Q r3 iv4 ar5)))))
set_option maxHeartbeats 4000000 in
set_option maxRecDepth 100000 in
theorem soX9_whet (l : Launch) (G : fw_G) (ad : Nat → Nat) (kt : kw_T) (iv : fw_F) (ar : fw_R) (x1 : Int32) (Q : Int32 → fw_F → fw_R → Prop)  (h : wpX9_whet kt iv ar x1 Q) : fw_M l G (kw G ad kt) yX9_whet wsX9_whet rmX9_whet [.ref (ad 0), .int x1] iv ar (fw_Qi G (kw G ad kt) Q) := by
  refine fw_start (cc := cX9_whet) (nL := 3) (rt := (some .int)) (by decide) rfl (Nat.le_of_ble_eq_true rfl) ?_
  intro p e s m below meth c A ls H locs C hK hG hl
  obtain ⟨args, ea⟩ : ∃ z : Array Value, z = ([.ref (ad 0), .int x1] : List Value).toArray := ⟨_, rfl⟩
  rw [← ea] at C ⊢
  have C : fw_C p s m args meth c cX9_whet 3 (some .int) wsX9_whet RX9 := C
  have hl : lv_has ls 3 [(0, .ref (ad 0)), (1, .int x1)] := hl
  unfold wpX9_whet at h
  have in_X9 : ∀ x ∈ wsX90, x ∈ wsX9_whet := by decide +kernel
  have k67 := C.2.2.2.2.1 (.fieldLink RX9 67 "KnifeBoard" "theTrace" "LKnifeBoard$Trace;") (by decide +kernel)
  refine lv_aload_n C.1 C.2.1 dX9_whet_0 rfl (lv_at hl 0 rfl) ?_
  refine lv_iload_n C.1 C.2.1 dX9_whet_1 rfl (lv_at hl 1 rfl) ?_
  refine fw_rcallq (va_runV (As := [.int x1]) (rest := []) ⟨C.1, C.2.1, C.2.2.2.2.2.2, C.2.2.2.2.2.1, C.2.2.2.2.1⟩ (soX9_knifeAt l G ad kt iv ar x1 _  h H.size) (cwV 1 C.2.2.2.2.1 gX9_whet_X9_knifeAt rfl rfl rfl (by decide +kernel) ⟨Nat.le_of_ble_eq_true rfl, Nat.le_of_ble_eq_true rfl⟩) (fw_preV hG hK (ci := 9) rfl kw_o9) rfl rfl hl.1 rfl (lv_room (Nat.le_of_ble_eq_true rfl)) dX9_whet_2 ⟨Nat.zero_le _, Nat.zero_le _⟩) hG hK (fun r1  H locs h hG => ?_)
  rcases r1 with _ | i2
  · have h := h.1 rfl
    refine W.eq (g2 := F0 m 5 ls (.null :: [])) rfl ?_
    refine lv_astore_nN (lv' := [(2, .null), (0, .ref (ad 0)), (1, .int x1)]) C.1 C.2.1 dX9_whet_5 rfl hl (by decide) rfl (fun ls hl => ?_)
    refine lv_aload_nN C.1 C.2.1 dX9_whet_6 rfl (lv_at hl 0 rfl) ?_
    refine lv_ifnonnullN C.1 C.2.1 dX9_whet_7 ?_
    refine lv_iconst (v := (-1)) C.1 C.2.1 dX9_whet_10 (by decide) ?_
    refine lv_goto (tgt := 22) C.1 C.2.1 dX9_whet_11 (by decide) ?_
    exact fw_iret C hG h dX9_whet_22
  · obtain ⟨hi2, h⟩ := h.2 i2 rfl
    refine W.eq (g2 := F0 m 5 ls (.ref (ad (28 + 2 * i2)) :: [])) rfl ?_
    refine lv_astore_n (lv' := [(2, .ref (ad (28 + 2 * i2))), (0, .ref (ad 0)), (1, .int x1)]) C.1 C.2.1 dX9_whet_5 rfl hl (by decide) rfl (fun ls hl => ?_)
    refine lv_aload_n C.1 C.2.1 dX9_whet_6 rfl (lv_at hl 0 rfl) ?_
    refine lv_ifnonnull (tgt := 14) C.1 C.2.1 dX9_whet_7 (by decide) ?_
    refine lv_aload_n C.1 C.2.1 dX9_whet_14 rfl (lv_at hl 0 rfl) ?_
    refine lv_aload_n C.1 C.2.1 dX9_whet_15 rfl (lv_at hl 1 rfl) ?_
    refine fw_get (w := (kw G ad kt)) C in_X9 hK hG 0 kw_o9 rfl 9 (by decide) k67 rfl rfl dX9_whet_16 ?_
    have rn : va_Run p l e rmX9_whet s m args below meth c H locs 0 0 0 0 (F0 m 19 ls (.ref (ad 27) :: .ref (ad (28 + 2 * i2)) :: [])) [] (fw_Qi G (kw G ad kt) (fun (r3 : Int32) (iv4 : fw_F) (ar5 : fw_R) => Q r3 iv4 ar5) (va_A ((kw G ad kt) iv ar) H.size) (.ref (ad (28 + 2 * i2)) :: [.ref (ad 27)]).toArray) (va_A ((kw G ad kt) iv ar) H.size) := by
      by_cases e0 : kt.2.1 i2 = 0
      · exact va_runV (As := [.ref (ad 27)]) (rest := []) ⟨C.1, C.2.1, C.2.2.2.2.2.2, C.2.2.2.2.2.1, C.2.2.2.2.1⟩ (soX3_whetting l G ad kt iv ar i2 _ hi2 (h.1 e0) H.size) (cwV 1 C.2.2.2.2.1 gX9_whet_X3_whetting rfl rfl rfl (by decide +kernel) ⟨Nat.le_of_ble_eq_true rfl, Nat.le_of_ble_eq_true rfl⟩) (fw_preV hG hK (ci := 3) rfl (kw_oK3 hi2 (kw_d3 e0))) rfl rfl hl.1 rfl (lv_room (Nat.le_of_ble_eq_true rfl)) dX9_whet_19 ⟨Nat.zero_le _, Nat.zero_le _⟩
      · by_cases e1 : kt.2.1 i2 = 1
        · exact va_runU (As := [.ref (ad 27)]) (rest := []) ⟨C.1, C.2.1, C.2.2.2.2.2.2, C.2.2.2.2.2.1, C.2.2.2.2.1⟩ (soX3_whetting l G ad kt iv ar i2 _ hi2 (h.2.1 e0 e1) H.size) (va_cwU 1 C.2.2.2.2.1 gX9_whet_X3_whetting_u310X2 rfl rfl rfl rfl (by decide +kernel) ⟨Nat.le_of_ble_eq_true rfl, Nat.le_of_ble_eq_true rfl⟩) (fw_preV hG hK (ci := 2) rfl (kw_oK2 hi2 (kw_d2 e0 e1))) rfl rfl hl.1 rfl (lv_room (Nat.le_of_ble_eq_true rfl)) dX9_whet_19 ⟨Nat.zero_le _, Nat.zero_le _⟩
        · exact va_runU (As := [.ref (ad 27)]) (rest := []) ⟨C.1, C.2.1, C.2.2.2.2.2.2, C.2.2.2.2.2.1, C.2.2.2.2.1⟩ (soX8_whetting l G ad kt iv ar i2 _ hi2 e0 e1 (h.2.2 e0 e1) H.size) (va_cwO 1 C.2.2.2.2.1 gX9_whet_X8_whetting_u310X8 rfl rfl rfl (b0 := cX3_whetting) (m0 := 2) (r0 := (some .int)) (by decide +kernel) (by decide +kernel) ⟨Nat.le_of_ble_eq_true rfl, Nat.le_of_ble_eq_true rfl⟩) (fw_preV hG hK (ci := 8) rfl (kw_oK8 hi2 (kw_d8 e0 e1))) rfl rfl hl.1 rfl (lv_room (Nat.le_of_ble_eq_true rfl)) dX9_whet_19 ⟨Nat.zero_le _, Nat.zero_le _⟩
    refine fw_calli (rn) hG hK (fun r3 iv4 ar5 H locs h hG => ?_)
    exact fw_iret C hG h dX9_whet_22
/-! KnifeBoard.as(II)I -/
def rmX9_as : Room := { frames := 2, cells := 0, slots := 0, locals := 43 }
def wpX9_as (kt : kw_T) (iv : fw_F) (ar : fw_R) (x1 : Int32) (x2 : Int32) (Q : Int32 → fw_F → fw_R → Prop) : Prop := ∀ iv1 : fw_F, iv1 = va_up iv 1 0 → (wpX9_knifeAt kt iv1 ar x1 (fun (r2 : Option Nat) => (r2 = none → (Q (-1) iv1 ar)) ∧ (∀ i3 : Nat, r2 = some i3 → i3 < kt.1 ∧ (wpX9_within x2 0 2 (fun (r4 : Int32) => (¬ r4 = 0 → ((¬ x2 = 1 → ((¬ x2 = 2 → (Q 1 iv1 ar)) ∧ (x2 = 2 → (((kt.2.1 i3 = 0 ∨ kt.2.1 i3 = 1) → (wpX9_faulted kt iv1 ar 2 (fun (r10 : Int32) (iv11 : fw_F) (ar12 : fw_R) => Q r10 iv11 ar12))) ∧ (¬ (kt.2.1 i3 = 0 ∨ kt.2.1 i3 = 1) → (Q 1 iv1 ar)))))) ∧ (x2 = 1 → ((kt.2.1 i3 = 0 → (wpX9_faulted kt iv1 ar 2 (fun (r16 : Int32) (iv17 : fw_F) (ar18 : fw_R) => Q r16 iv17 ar18))) ∧ (¬ kt.2.1 i3 = 0 → ((¬ x2 = 2 → (Q 1 iv1 ar)) ∧ (x2 = 2 → (((kt.2.1 i3 = 0 ∨ kt.2.1 i3 = 1) → (wpX9_faulted kt iv1 ar 2 (fun (r23 : Int32) (iv24 : fw_F) (ar25 : fw_R) => Q r23 iv24 ar25))) ∧ (¬ (kt.2.1 i3 = 0 ∨ kt.2.1 i3 = 1) → (Q 1 iv1 ar)))))))))) ∧ (r4 = 0 → (Q (-2) iv1 ar)))))))
set_option maxHeartbeats 4000000 in
set_option maxRecDepth 100000 in
theorem soX9_as (l : Launch) (G : fw_G) (ad : Nat → Nat) (kt : kw_T) (iv : fw_F) (ar : fw_R) (x1 : Int32) (x2 : Int32) (Q : Int32 → fw_F → fw_R → Prop)  (h : wpX9_as kt iv ar x1 x2 Q) : fw_M l G (kw G ad kt) yX9_as wsX9_as rmX9_as [.ref (ad 0), .int x1, .int x2] iv ar (fw_Qi G (kw G ad kt) Q) := by
  refine fw_start (cc := cX9_as) (nL := 4) (rt := (some .int)) (by decide) rfl (Nat.le_of_ble_eq_true rfl) ?_
  intro p e s m below meth c A ls H locs C hK hG hl
  obtain ⟨args, ea⟩ : ∃ z : Array Value, z = ([.ref (ad 0), .int x1, .int x2] : List Value).toArray := ⟨_, rfl⟩
  rw [← ea] at C ⊢
  have C : fw_C p s m args meth c cX9_as 4 (some .int) wsX9_as RX9 := C
  have hl : lv_has ls 4 [(0, .ref (ad 0)), (1, .int x1), (2, .int x2)] := hl
  unfold wpX9_as at h
  have in_X9 : ∀ x ∈ wsX90, x ∈ wsX9_as := by decide +kernel
  have k71 := C.2.2.2.2.1 (.fieldLink RX9 71 "KnifeBoard" "theFault" "I") (by decide +kernel)
  have k81 := C.2.2.2.2.1 (.classLink RX9 81 "KnifeBoard$Hatchet") (by decide +kernel)
  have k86 := C.2.2.2.2.1 (.classLink RX9 86 "KnifeBoard$Twin") (by decide +kernel)
  refine lv_aload_n C.1 C.2.1 dX9_as_0 rfl (lv_at hl 0 rfl) ?_
  refine lv_iconst (v := 0) C.1 C.2.1 dX9_as_1 (by decide) ?_
  obtain ⟨iv1, eiv1⟩ : ∃ z : fw_F, z = va_up iv 1 0 := ⟨_, rfl⟩
  have h := h iv1 eiv1
  refine fw_put (w := (kw G ad kt)) C in_X9 tyX9 tyX9_ok nmX9 hK hG 0 kw_o9 rfl 10 (by decide) k71 rfl rfl (ty := .int) (v := .int 0) (by decide +kernel) rfl rfl (by first | decide | exact Nat.le_of_ble_eq_true rfl) (iv1 := iv1) (by rw [eiv1]; exact kw_p9_theFault) dX9_as_2 (fun H locs hG => ?_)
  refine lv_aload_n C.1 C.2.1 dX9_as_5 rfl (lv_at hl 0 rfl) ?_
  refine lv_iload_n C.1 C.2.1 dX9_as_6 rfl (lv_at hl 1 rfl) ?_
  refine fw_rcallq (va_runV (As := [.int x1]) (rest := []) ⟨C.1, C.2.1, C.2.2.2.2.2.2, C.2.2.2.2.2.1, C.2.2.2.2.1⟩ (soX9_knifeAt l G ad kt iv1 ar x1 _  h H.size) (cwV 1 C.2.2.2.2.1 gX9_as_X9_knifeAt rfl rfl rfl (by decide +kernel) ⟨Nat.le_of_ble_eq_true rfl, Nat.le_of_ble_eq_true rfl⟩) (fw_preV hG hK (ci := 9) rfl kw_o9) rfl rfl hl.1 rfl (lv_room (Nat.le_of_ble_eq_true rfl)) dX9_as_7 ⟨Nat.zero_le _, Nat.zero_le _⟩) hG hK (fun r2  H locs h hG => ?_)
  rcases r2 with _ | i3
  · have h := h.1 rfl
    refine W.eq (g2 := F0 m 10 ls (.null :: [])) rfl ?_
    refine lv_astore_nN (lv' := [(3, .null), (0, .ref (ad 0)), (1, .int x1), (2, .int x2)]) C.1 C.2.1 dX9_as_10 rfl hl (by decide) rfl (fun ls hl => ?_)
    refine lv_aload_nN C.1 C.2.1 dX9_as_11 rfl (lv_at hl 0 rfl) ?_
    refine lv_ifnonnullN C.1 C.2.1 dX9_as_12 ?_
    refine lv_iconst (v := (-1)) C.1 C.2.1 dX9_as_15 (by decide) ?_
    exact fw_iret C hG h dX9_as_16
  · obtain ⟨hi3, h⟩ := h.2 i3 rfl
    refine W.eq (g2 := F0 m 10 ls (.ref (ad (28 + 2 * i3)) :: [])) rfl ?_
    refine lv_astore_n (lv' := [(3, .ref (ad (28 + 2 * i3))), (0, .ref (ad 0)), (1, .int x1), (2, .int x2)]) C.1 C.2.1 dX9_as_10 rfl hl (by decide) rfl (fun ls hl => ?_)
    refine lv_aload_n C.1 C.2.1 dX9_as_11 rfl (lv_at hl 0 rfl) ?_
    refine lv_ifnonnull (tgt := 17) C.1 C.2.1 dX9_as_12 (by decide) ?_
    refine lv_iload_n C.1 C.2.1 dX9_as_17 rfl (lv_at hl 3 rfl) ?_
    refine lv_iconst (v := 0) C.1 C.2.1 dX9_as_18 (by decide) ?_
    refine lv_iconst (v := 2) C.1 C.2.1 dX9_as_19 (by decide) ?_
    refine fw_pcalli (va_runS (As := [.int x2, .int 0, .int 2]) (rest := []) ⟨C.1, C.2.1, C.2.2.2.2.2.2, C.2.2.2.2.2.1, C.2.2.2.2.1⟩ (soX9_within l x2 0 2 _ h H.size) (va_cwS 3 C.2.2.2.2.1 gX9_as_X9_within rfl rfl rfl (by decide +kernel) ⟨Nat.le_of_ble_eq_true rfl, Nat.le_of_ble_eq_true rfl⟩) fw_ppre rfl rfl hl.1 rfl (lv_room (Nat.le_of_ble_eq_true rfl)) dX9_as_20 ⟨Nat.zero_le _, Nat.zero_le _⟩) hG hK (fun r4  H locs h hG => ?_)
    refine lv_if_ne (tgt := 29) C.1 C.2.1 dX9_as_23 (by decide) (fun c5 => ?_) (fun c5 => ?_)
    · have h := h.1 c5
      refine lv_iload_n C.1 C.2.1 dX9_as_29 rfl (lv_at hl 3 rfl) ?_
      refine lv_iconst (v := 1) C.1 C.2.1 dX9_as_30 (by decide) ?_
      refine lv_icmp_ne (tgt := 47) C.1 C.2.1 dX9_as_31 (by decide) (fun c6 => ?_) (fun c6 => ?_)
      · have h := h.1 c6
        refine lv_iload_n C.1 C.2.1 dX9_as_47 rfl (lv_at hl 3 rfl) ?_
        refine lv_iconst (v := 2) C.1 C.2.1 dX9_as_48 (by decide) ?_
        refine lv_icmp_ne (tgt := 65) C.1 C.2.1 dX9_as_49 (by decide) (fun c7 => ?_) (fun c7 => ?_)
        · have h := h.1 c7
          refine lv_iconst (v := 1) C.1 C.2.1 dX9_as_65 (by decide) ?_
          exact fw_iret C hG h dX9_as_66
        · have h := h.2 c7
          refine lv_aload_n C.1 C.2.1 dX9_as_52 rfl (lv_at hl 0 rfl) ?_
          refine kw_instT C hK hG hi3 k86 dX9_as_53 (fun c8 => ?_) (fun c8 => ?_)
          · have h := h.1 c8
            refine lv_if_ne (tgt := 65) C.1 C.2.1 dX9_as_56 (by decide) (fun c9 => ?_) (fun c9 => ?_)
            · exact absurd c9 (by decide)
            · refine lv_aload_n C.1 C.2.1 dX9_as_59 rfl (lv_at hl 1 rfl) ?_
              refine lv_iconst (v := 2) C.1 C.2.1 dX9_as_60 (by decide) ?_
              refine fw_calli (va_runV (As := [.int 2]) (rest := []) ⟨C.1, C.2.1, C.2.2.2.2.2.2, C.2.2.2.2.2.1, C.2.2.2.2.1⟩ (soX9_faulted l G ad kt iv1 ar 2 _  h H.size) (cwV 1 C.2.2.2.2.1 gX9_as_X9_faulted rfl rfl rfl (by decide +kernel) ⟨Nat.le_of_ble_eq_true rfl, Nat.le_of_ble_eq_true rfl⟩) (fw_preV hG hK (ci := 9) rfl kw_o9) rfl rfl hl.1 rfl (lv_room (Nat.le_of_ble_eq_true rfl)) dX9_as_61 ⟨Nat.zero_le _, Nat.zero_le _⟩) hG hK (fun r10 iv11 ar12 H locs h hG => ?_)
              exact fw_iret C hG h dX9_as_64
          · have h := h.2 c8
            refine lv_if_ne (tgt := 65) C.1 C.2.1 dX9_as_56 (by decide) (fun c13 => ?_) (fun c13 => ?_)
            · refine lv_iconst (v := 1) C.1 C.2.1 dX9_as_65 (by decide) ?_
              exact fw_iret C hG h dX9_as_66
            · exact absurd c13 (by decide)
      · have h := h.2 c6
        refine lv_aload_n C.1 C.2.1 dX9_as_34 rfl (lv_at hl 0 rfl) ?_
        refine kw_instH C hK hG hi3 k81 dX9_as_35 (fun c14 => ?_) (fun c14 => ?_)
        · have h := h.1 c14
          refine lv_if_ne (tgt := 47) C.1 C.2.1 dX9_as_38 (by decide) (fun c15 => ?_) (fun c15 => ?_)
          · exact absurd c15 (by decide)
          · refine lv_aload_n C.1 C.2.1 dX9_as_41 rfl (lv_at hl 1 rfl) ?_
            refine lv_iconst (v := 2) C.1 C.2.1 dX9_as_42 (by decide) ?_
            refine fw_calli (va_runV (As := [.int 2]) (rest := []) ⟨C.1, C.2.1, C.2.2.2.2.2.2, C.2.2.2.2.2.1, C.2.2.2.2.1⟩ (soX9_faulted l G ad kt iv1 ar 2 _  h H.size) (cwV 1 C.2.2.2.2.1 gX9_as_X9_faulted rfl rfl rfl (by decide +kernel) ⟨Nat.le_of_ble_eq_true rfl, Nat.le_of_ble_eq_true rfl⟩) (fw_preV hG hK (ci := 9) rfl kw_o9) rfl rfl hl.1 rfl (lv_room (Nat.le_of_ble_eq_true rfl)) dX9_as_43 ⟨Nat.zero_le _, Nat.zero_le _⟩) hG hK (fun r16 iv17 ar18 H locs h hG => ?_)
            exact fw_iret C hG h dX9_as_46
        · have h := h.2 c14
          refine lv_if_ne (tgt := 47) C.1 C.2.1 dX9_as_38 (by decide) (fun c19 => ?_) (fun c19 => ?_)
          · refine lv_iload_n C.1 C.2.1 dX9_as_47 rfl (lv_at hl 3 rfl) ?_
            refine lv_iconst (v := 2) C.1 C.2.1 dX9_as_48 (by decide) ?_
            refine lv_icmp_ne (tgt := 65) C.1 C.2.1 dX9_as_49 (by decide) (fun c20 => ?_) (fun c20 => ?_)
            · have h := h.1 c20
              refine lv_iconst (v := 1) C.1 C.2.1 dX9_as_65 (by decide) ?_
              exact fw_iret C hG h dX9_as_66
            · have h := h.2 c20
              refine lv_aload_n C.1 C.2.1 dX9_as_52 rfl (lv_at hl 0 rfl) ?_
              refine kw_instT C hK hG hi3 k86 dX9_as_53 (fun c21 => ?_) (fun c21 => ?_)
              · have h := h.1 c21
                refine lv_if_ne (tgt := 65) C.1 C.2.1 dX9_as_56 (by decide) (fun c22 => ?_) (fun c22 => ?_)
                · exact absurd c22 (by decide)
                · refine lv_aload_n C.1 C.2.1 dX9_as_59 rfl (lv_at hl 1 rfl) ?_
                  refine lv_iconst (v := 2) C.1 C.2.1 dX9_as_60 (by decide) ?_
                  refine fw_calli (va_runV (As := [.int 2]) (rest := []) ⟨C.1, C.2.1, C.2.2.2.2.2.2, C.2.2.2.2.2.1, C.2.2.2.2.1⟩ (soX9_faulted l G ad kt iv1 ar 2 _  h H.size) (cwV 1 C.2.2.2.2.1 gX9_as_X9_faulted rfl rfl rfl (by decide +kernel) ⟨Nat.le_of_ble_eq_true rfl, Nat.le_of_ble_eq_true rfl⟩) (fw_preV hG hK (ci := 9) rfl kw_o9) rfl rfl hl.1 rfl (lv_room (Nat.le_of_ble_eq_true rfl)) dX9_as_61 ⟨Nat.zero_le _, Nat.zero_le _⟩) hG hK (fun r23 iv24 ar25 H locs h hG => ?_)
                  exact fw_iret C hG h dX9_as_64
              · have h := h.2 c21
                refine lv_if_ne (tgt := 65) C.1 C.2.1 dX9_as_56 (by decide) (fun c26 => ?_) (fun c26 => ?_)
                · refine lv_iconst (v := 1) C.1 C.2.1 dX9_as_65 (by decide) ?_
                  exact fw_iret C hG h dX9_as_66
                · exact absurd c26 (by decide)
          · exact absurd c19 (by decide)
    · have h := h.2 c5
      refine lv_bipush (v := (-2)) C.1 C.2.1 dX9_as_26 (by decide) ?_
      exact fw_iret C hG h dX9_as_28
/-! KnifeBoard.trace()I -/
def rmX9_trace : Room := { frames := 0, cells := 0, slots := 0, locals := 0 }
def wpX9_trace (kt : kw_T) (iv : fw_F) (ar : fw_R)  (Q : Int32 → Prop) : Prop := Q (iv 21)
set_option maxHeartbeats 4000000 in
set_option maxRecDepth 100000 in
theorem soX9_trace (l : Launch) (G : fw_G) (ad : Nat → Nat) (kt : kw_T) (iv : fw_F) (ar : fw_R)  (Q : Int32 → Prop)  (h : wpX9_trace kt iv ar  Q) : fw_M l G (kw G ad kt) yX9_trace wsX9_trace rmX9_trace [.ref (ad 0)] iv ar (fw_Qi G (kw G ad kt) (fun r iv1 ar1 => Q r ∧ iv = iv1 ∧ ar = ar1)) := by
  refine fw_start (cc := cX9_trace) (nL := 1) (rt := (some .int)) (by decide) rfl (Nat.le_of_ble_eq_true rfl) ?_
  intro p e s m below meth c A ls H locs C hK hG hl
  obtain ⟨args, ea⟩ : ∃ z : Array Value, z = ([.ref (ad 0)] : List Value).toArray := ⟨_, rfl⟩
  rw [← ea] at C ⊢
  have C : fw_C p s m args meth c cX9_trace 1 (some .int) wsX9_trace RX9 := C
  have hl : lv_has ls 1 [(0, .ref (ad 0))] := hl
  unfold wpX9_trace at h
  have in_X7 : ∀ x ∈ wsX70, x ∈ wsX9_trace := by decide +kernel
  have in_X9 : ∀ x ∈ wsX90, x ∈ wsX9_trace := by decide +kernel
  have k313 := C.2.2.2.2.1 (.fieldLink RX9 313 "KnifeBoard$Trace" "value" "I") (by decide +kernel)
  have k67 := C.2.2.2.2.1 (.fieldLink RX9 67 "KnifeBoard" "theTrace" "LKnifeBoard$Trace;") (by decide +kernel)
  refine lv_aload_n C.1 C.2.1 dX9_trace_0 rfl (lv_at hl 0 rfl) ?_
  refine fw_get (w := (kw G ad kt)) C in_X9 hK hG 0 kw_o9 rfl 9 (by decide) k67 rfl rfl dX9_trace_1 ?_
  refine fw_get (w := (kw G ad kt)) C in_X7 hK hG 27 kw_o7 rfl 0 (by decide) k313 rfl rfl dX9_trace_4 ?_
  exact fw_iret C hG ⟨h, rfl, rfl⟩ dX9_trace_7
/-! KnifeBoard.fault()I -/
def rmX9_fault : Room := { frames := 0, cells := 0, slots := 0, locals := 0 }
def wpX9_fault (kt : kw_T) (iv : fw_F) (ar : fw_R)  (Q : Int32 → Prop) : Prop := Q (iv 1)
set_option maxHeartbeats 4000000 in
set_option maxRecDepth 100000 in
theorem soX9_fault (l : Launch) (G : fw_G) (ad : Nat → Nat) (kt : kw_T) (iv : fw_F) (ar : fw_R)  (Q : Int32 → Prop)  (h : wpX9_fault kt iv ar  Q) : fw_M l G (kw G ad kt) yX9_fault wsX9_fault rmX9_fault [.ref (ad 0)] iv ar (fw_Qi G (kw G ad kt) (fun r iv1 ar1 => Q r ∧ iv = iv1 ∧ ar = ar1)) := by
  refine fw_start (cc := cX9_fault) (nL := 1) (rt := (some .int)) (by decide) rfl (Nat.le_of_ble_eq_true rfl) ?_
  intro p e s m below meth c A ls H locs C hK hG hl
  obtain ⟨args, ea⟩ : ∃ z : Array Value, z = ([.ref (ad 0)] : List Value).toArray := ⟨_, rfl⟩
  rw [← ea] at C ⊢
  have C : fw_C p s m args meth c cX9_fault 1 (some .int) wsX9_fault RX9 := C
  have hl : lv_has ls 1 [(0, .ref (ad 0))] := hl
  unfold wpX9_fault at h
  have in_X9 : ∀ x ∈ wsX90, x ∈ wsX9_fault := by decide +kernel
  have k71 := C.2.2.2.2.1 (.fieldLink RX9 71 "KnifeBoard" "theFault" "I") (by decide +kernel)
  refine lv_aload_n C.1 C.2.1 dX9_fault_0 rfl (lv_at hl 0 rfl) ?_
  refine fw_get (w := (kw G ad kt)) C in_X9 hK hG 0 kw_o9 rfl 10 (by decide) k71 rfl rfl dX9_fault_1 ?_
  exact fw_iret C hG ⟨h, rfl, rfl⟩ dX9_fault_4
/-! KnifeBoard.many(I)I -/
def rmX9_many : Room := { frames := 1, cells := 0, slots := 0, locals := 20 }
def wpX9_many (kt : kw_T) (iv : fw_F) (ar : fw_R) (x1 : Int32) (Q : Int32 → Prop) : Prop := (x1 = 0 → (Q (iv 0))) ∧ (x1 = 1 → (wpX0_count kt iv ar  (fun (r3 : Int32) => Q r3))) ∧ (x1 = 2 → (Q (iv 4))) ∧ (x1 = 3 → (Q (iv 5))) ∧ (x1 = 4 → (Q (iv 7))) ∧ (x1 = 5 → (Q (iv 3))) ∧ (¬ x1 = 0 → (¬ x1 = 1 → (¬ x1 = 2 → (¬ x1 = 3 → (¬ x1 = 4 → (¬ x1 = 5 → (Q (-2))))))))
set_option maxHeartbeats 4000000 in
set_option maxRecDepth 100000 in
theorem soX9_many (l : Launch) (G : fw_G) (ad : Nat → Nat) (kt : kw_T) (iv : fw_F) (ar : fw_R) (x1 : Int32) (Q : Int32 → Prop)  (h : wpX9_many kt iv ar x1 Q) : fw_M l G (kw G ad kt) yX9_many wsX9_many rmX9_many [.ref (ad 0), .int x1] iv ar (fw_Qi G (kw G ad kt) (fun r iv1 ar1 => Q r ∧ iv = iv1 ∧ ar = ar1)) := by
  refine fw_start (cc := cX9_many) (nL := 2) (rt := (some .int)) (by decide) rfl (Nat.le_of_ble_eq_true rfl) ?_
  intro p e s m below meth c A ls H locs C hK hG hl
  obtain ⟨args, ea⟩ : ∃ z : Array Value, z = ([.ref (ad 0), .int x1] : List Value).toArray := ⟨_, rfl⟩
  rw [← ea] at C ⊢
  have C : fw_C p s m args meth c cX9_many 2 (some .int) wsX9_many RX9 := C
  have hl : lv_has ls 2 [(0, .ref (ad 0)), (1, .int x1)] := hl
  unfold wpX9_many at h
  have in_X0 : ∀ x ∈ wsX00, x ∈ wsX9_many := by decide +kernel
  have in_X1 : ∀ x ∈ wsX10, x ∈ wsX9_many := by decide +kernel
  have in_X4 : ∀ x ∈ wsX40, x ∈ wsX9_many := by decide +kernel
  have in_X9 : ∀ x ∈ wsX90, x ∈ wsX9_many := by decide +kernel
  have k17 := C.2.2.2.2.1 (.fieldLink RX9 17 "KnifeBoard" "knifeCount" "I") (by decide +kernel)
  have k24 := C.2.2.2.2.1 (.fieldLink RX9 24 "KnifeBoard" "theHand" "LKnifeBoard$Hand;") (by decide +kernel)
  have k240 := C.2.2.2.2.1 (.fieldLink RX9 240 "KnifeBoard$Marks" "count" "I") (by decide +kernel)
  have k31 := C.2.2.2.2.1 (.fieldLink RX9 31 "KnifeBoard" "theBoard" "LKnifeBoard$Board;") (by decide +kernel)
  have k316 := C.2.2.2.2.1 (.fieldLink RX9 316 "KnifeBoard$Board" "high" "I") (by decide +kernel)
  have k319 := C.2.2.2.2.1 (.fieldLink RX9 319 "KnifeBoard$Board" "wide" "I") (by decide +kernel)
  have k322 := C.2.2.2.2.1 (.fieldLink RX9 322 "KnifeBoard$Hand" "tires" "I") (by decide +kernel)
  have k45 := C.2.2.2.2.1 (.fieldLink RX9 45 "KnifeBoard" "marks" "LKnifeBoard$Marks;") (by decide +kernel)
  refine lv_iload_n C.1 C.2.1 dX9_many_0 rfl (lv_at hl 1 rfl) ?_
  by_cases c1 : x1 = 0
  · have h := h.1 c1
    refine W.eq (g2 := F0 m 1 ls (.int 0 :: [])) (by rw [c1]) ?_
    refine lv_tableIn (tgt := 40) C.1 C.2.1 dX9_many_1 (by decide) (by decide) rfl (by decide) ?_
    refine lv_aload_n C.1 C.2.1 dX9_many_40 rfl (lv_at hl 0 rfl) ?_
    refine fw_get (w := (kw G ad kt)) C in_X9 hK hG 0 kw_o9 rfl 1 (by decide) k17 rfl rfl dX9_many_41 ?_
    exact fw_iret C hG ⟨h, rfl, rfl⟩ dX9_many_44
  have h := h.2
  by_cases c2 : x1 = 1
  · have h := h.1 c2
    refine W.eq (g2 := F0 m 1 ls (.int 1 :: [])) (by rw [c2]) ?_
    refine lv_tableIn (tgt := 45) C.1 C.2.1 dX9_many_1 (by decide) (by decide) rfl (by decide) ?_
    refine lv_aload_n C.1 C.2.1 dX9_many_45 rfl (lv_at hl 0 rfl) ?_
    refine fw_get (w := (kw G ad kt)) C in_X9 hK hG 0 kw_o9 rfl 3 (by decide) k31 rfl rfl dX9_many_46 ?_
    refine fw_rcalli (va_runV (As := []) (rest := []) ⟨C.1, C.2.1, C.2.2.2.2.2.2, C.2.2.2.2.2.1, C.2.2.2.2.1⟩ (soX0_count l G ad kt iv ar  _  h H.size) (cwV 0 C.2.2.2.2.1 gX9_many_X0_count rfl rfl rfl (by decide +kernel) ⟨Nat.le_of_ble_eq_true rfl, Nat.le_of_ble_eq_true rfl⟩) (fw_preV hG hK (ci := 0) rfl kw_o0) rfl rfl hl.1 rfl (lv_room (Nat.le_of_ble_eq_true rfl)) dX9_many_49 ⟨Nat.zero_le _, Nat.zero_le _⟩) hG hK (fun r3  H locs h hG => ?_)
    exact fw_iret C hG ⟨h, rfl, rfl⟩ dX9_many_52
  have h := h.2
  by_cases c4 : x1 = 2
  · have h := h.1 c4
    refine W.eq (g2 := F0 m 1 ls (.int 2 :: [])) (by rw [c4]) ?_
    refine lv_tableIn (tgt := 53) C.1 C.2.1 dX9_many_1 (by decide) (by decide) rfl (by decide) ?_
    refine lv_aload_n C.1 C.2.1 dX9_many_53 rfl (lv_at hl 0 rfl) ?_
    refine fw_get (w := (kw G ad kt)) C in_X9 hK hG 0 kw_o9 rfl 3 (by decide) k31 rfl rfl dX9_many_54 ?_
    refine fw_get (w := (kw G ad kt)) C in_X0 hK hG 4 kw_o0 rfl 1 (by decide) k316 rfl rfl dX9_many_57 ?_
    exact fw_iret C hG ⟨h, rfl, rfl⟩ dX9_many_60
  have h := h.2
  by_cases c5 : x1 = 3
  · have h := h.1 c5
    refine W.eq (g2 := F0 m 1 ls (.int 3 :: [])) (by rw [c5]) ?_
    refine lv_tableIn (tgt := 61) C.1 C.2.1 dX9_many_1 (by decide) (by decide) rfl (by decide) ?_
    refine lv_aload_n C.1 C.2.1 dX9_many_61 rfl (lv_at hl 0 rfl) ?_
    refine fw_get (w := (kw G ad kt)) C in_X9 hK hG 0 kw_o9 rfl 3 (by decide) k31 rfl rfl dX9_many_62 ?_
    refine fw_get (w := (kw G ad kt)) C in_X0 hK hG 4 kw_o0 rfl 2 (by decide) k319 rfl rfl dX9_many_65 ?_
    exact fw_iret C hG ⟨h, rfl, rfl⟩ dX9_many_68
  have h := h.2
  by_cases c6 : x1 = 4
  · have h := h.1 c6
    refine W.eq (g2 := F0 m 1 ls (.int 4 :: [])) (by rw [c6]) ?_
    refine lv_tableIn (tgt := 69) C.1 C.2.1 dX9_many_1 (by decide) (by decide) rfl (by decide) ?_
    refine lv_aload_n C.1 C.2.1 dX9_many_69 rfl (lv_at hl 0 rfl) ?_
    refine fw_get (w := (kw G ad kt)) C in_X9 hK hG 0 kw_o9 rfl 5 (by decide) k45 rfl rfl dX9_many_70 ?_
    refine fw_get (w := (kw G ad kt)) C in_X4 hK hG 10 kw_o4 rfl 2 (by decide) k240 rfl rfl dX9_many_73 ?_
    exact fw_iret C hG ⟨h, rfl, rfl⟩ dX9_many_76
  have h := h.2
  by_cases c7 : x1 = 5
  · have h := h.1 c7
    refine W.eq (g2 := F0 m 1 ls (.int 5 :: [])) (by rw [c7]) ?_
    refine lv_tableIn (tgt := 77) C.1 C.2.1 dX9_many_1 (by decide) (by decide) rfl (by decide) ?_
    refine lv_aload_n C.1 C.2.1 dX9_many_77 rfl (lv_at hl 0 rfl) ?_
    refine fw_get (w := (kw G ad kt)) C in_X9 hK hG 0 kw_o9 rfl 2 (by decide) k24 rfl rfl dX9_many_78 ?_
    refine fw_get (w := (kw G ad kt)) C in_X1 hK hG 2 kw_o1 rfl 2 (by decide) k322 rfl rfl dX9_many_81 ?_
    exact fw_iret C hG ⟨h, rfl, rfl⟩ dX9_many_84
  have h := h.2
  have h := h c1
  have h := h c2
  have h := h c4
  have h := h c5
  have h := h c6
  have h := h c7
  have dn : x1.toInt < 0 ∨ 5 < x1.toInt := by
    have nc1 : x1.toInt ≠ 0 := fun z => c1 (Int32.toInt_inj.mp (z.trans (by decide)))
    have nc2 : x1.toInt ≠ 1 := fun z => c2 (Int32.toInt_inj.mp (z.trans (by decide)))
    have nc4 : x1.toInt ≠ 2 := fun z => c4 (Int32.toInt_inj.mp (z.trans (by decide)))
    have nc5 : x1.toInt ≠ 3 := fun z => c5 (Int32.toInt_inj.mp (z.trans (by decide)))
    have nc6 : x1.toInt ≠ 4 := fun z => c6 (Int32.toInt_inj.mp (z.trans (by decide)))
    have nc7 : x1.toInt ≠ 5 := fun z => c7 (Int32.toInt_inj.mp (z.trans (by decide)))
    omega
  refine lv_tableOut (tgt := 85) C.1 C.2.1 dX9_many_1 dn (by decide) ?_
  refine lv_bipush (v := (-2)) C.1 C.2.1 dX9_many_85 (by decide) ?_
  exact fw_iret C hG ⟨h, rfl, rfl⟩ dX9_many_87
