/-! KnifeBoard.within(III)Z -/
def rmX9_within : Room := { frames := 0, cells := 0, slots := 0, locals := 0 }
def wpX9_within (x0 : Int32) (x1 : Int32) (x2 : Int32) (Q : Int32 → Prop) : Prop := (x0 < x1 → (Q 0)) ∧ (¬ x0 < x1 → ((x2 < x0 → (Q 0)) ∧ (¬ x2 < x0 → (Q 1))))
set_option maxHeartbeats 4000000 in
set_option maxRecDepth 100000 in
theorem soX9_within (l : Launch) (x0 : Int32) (x1 : Int32) (x2 : Int32) (Q : Int32 → Prop) (h : wpX9_within x0 x1 x2 Q) : fw_pM l yX9_within wsX9_within rmX9_within [.int x0, .int x1, .int x2] (fw_pQi Q) := by
  refine fw_pstart (cc := cX9_within) (nL := 3) (rt := (some .boolean)) (by decide) rfl (Nat.le_of_ble_eq_true rfl) ?_
  intro p e s m below meth c A ls H locs C hA hS hl
  obtain ⟨args, ea⟩ : ∃ z : Array Value, z = ([.int x0, .int x1, .int x2] : List Value).toArray := ⟨_, rfl⟩
  rw [← ea] at C ⊢
  have C : fw_C p s m args meth c cX9_within 3 (some .boolean) wsX9_within RX9 := C
  have hl : lv_has ls 3 [(0, .int x0), (1, .int x1), (2, .int x2)] := hl
  unfold wpX9_within at h
  refine lv_iload_n C.1 C.2.1 dX9_within_0 rfl (lv_at hl 0 rfl) ?_
  refine lv_iload_n C.1 C.2.1 dX9_within_1 rfl (lv_at hl 1 rfl) ?_
  refine lv_icmp_lt (tgt := 14) C.1 C.2.1 dX9_within_2 (by decide) (fun c1 => ?_) (fun c1 => ?_)
  · have h := h.1 c1
    refine lv_iconst (v := 0) C.1 C.2.1 dX9_within_14 (by decide) ?_
    exact fw_pzret C hS (by decide) h dX9_within_15
  · have h := h.2 c1
    refine lv_iload_n C.1 C.2.1 dX9_within_5 rfl (lv_at hl 0 rfl) ?_
    refine lv_iload_n C.1 C.2.1 dX9_within_6 rfl (lv_at hl 2 rfl) ?_
    refine lv_icmp_gt (tgt := 14) C.1 C.2.1 dX9_within_7 (by decide) (fun c2 => ?_) (fun c2 => ?_)
    · have h := h.1 c2
      refine lv_iconst (v := 0) C.1 C.2.1 dX9_within_14 (by decide) ?_
      exact fw_pzret C hS (by decide) h dX9_within_15
    · have h := h.2 c2
      refine lv_iconst (v := 1) C.1 C.2.1 dX9_within_10 (by decide) ?_
      refine lv_goto (tgt := 15) C.1 C.2.1 dX9_within_11 (by decide) ?_
      exact fw_pzret C hS (by decide) h dX9_within_15
/-! KnifeBoard$Board.letterOf(I)I -/
def rmX0_letterOf : Room := { frames := 0, cells := 0, slots := 0, locals := 0 }
def wpX0_letterOf (x0 : Int32) (Q : Int32 → Prop) : Prop := (x0 = 107 → (Q 1)) ∧ (x0 = 119 → (Q 0)) ∧ (x0 = 120 → (Q 2)) ∧ (x0 = 121 → (Q 3)) ∧ (¬ x0 = 107 → (¬ x0 = 119 → (¬ x0 = 120 → (¬ x0 = 121 → (Q (-1))))))
set_option maxHeartbeats 4000000 in
set_option maxRecDepth 100000 in
theorem soX0_letterOf (l : Launch) (x0 : Int32) (Q : Int32 → Prop) (h : wpX0_letterOf x0 Q) : fw_pM l yX0_letterOf wsX0_letterOf rmX0_letterOf [.int x0] (fw_pQi Q) := by
  refine fw_pstart (cc := cX0_letterOf) (nL := 1) (rt := (some .int)) (by decide) rfl (Nat.le_of_ble_eq_true rfl) ?_
  intro p e s m below meth c A ls H locs C hA hS hl
  obtain ⟨args, ea⟩ : ∃ z : Array Value, z = ([.int x0] : List Value).toArray := ⟨_, rfl⟩
  rw [← ea] at C ⊢
  have C : fw_C p s m args meth c cX0_letterOf 1 (some .int) wsX0_letterOf RX0 := C
  have hl : lv_has ls 1 [(0, .int x0)] := hl
  unfold wpX0_letterOf at h
  refine lv_iload_n C.1 C.2.1 dX0_letterOf_0 rfl (lv_at hl 0 rfl) ?_
  by_cases c1 : x0 = 107
  · have h := h.1 c1
    refine W.eq (g2 := F0 m 1 ls (.int 107 :: [])) (by rw [c1]) ?_
    refine lv_lookup (off := 45) (tgt := 46) C.1 C.2.1 dX0_letterOf_1 (by decide) (by decide) (by decide) ?_
    refine lv_iconst (v := 1) C.1 C.2.1 dX0_letterOf_46 (by decide) ?_
    exact fw_piret C hS h dX0_letterOf_47
  have h := h.2
  by_cases c2 : x0 = 119
  · have h := h.1 c2
    refine W.eq (g2 := F0 m 1 ls (.int 119 :: [])) (by rw [c2]) ?_
    refine lv_lookup (off := 43) (tgt := 44) C.1 C.2.1 dX0_letterOf_1 (by decide) (by decide) (by decide) ?_
    refine lv_iconst (v := 0) C.1 C.2.1 dX0_letterOf_44 (by decide) ?_
    exact fw_piret C hS h dX0_letterOf_45
  have h := h.2
  by_cases c3 : x0 = 120
  · have h := h.1 c3
    refine W.eq (g2 := F0 m 1 ls (.int 120 :: [])) (by rw [c3]) ?_
    refine lv_lookup (off := 47) (tgt := 48) C.1 C.2.1 dX0_letterOf_1 (by decide) (by decide) (by decide) ?_
    refine lv_iconst (v := 2) C.1 C.2.1 dX0_letterOf_48 (by decide) ?_
    exact fw_piret C hS h dX0_letterOf_49
  have h := h.2
  by_cases c4 : x0 = 121
  · have h := h.1 c4
    refine W.eq (g2 := F0 m 1 ls (.int 121 :: [])) (by rw [c4]) ?_
    refine lv_lookup (off := 49) (tgt := 50) C.1 C.2.1 dX0_letterOf_1 (by decide) (by decide) (by decide) ?_
    refine lv_iconst (v := 3) C.1 C.2.1 dX0_letterOf_50 (by decide) ?_
    exact fw_piret C hS h dX0_letterOf_51
  have h := h.2
  have h := h c1
  have h := h c2
  have h := h c3
  have h := h c4
  have nc1 : x0.toInt ≠ 107 := fun z => c1 (Int32.toInt_inj.mp (z.trans (by decide)))
  have nc2 : x0.toInt ≠ 119 := fun z => c2 (Int32.toInt_inj.mp (z.trans (by decide)))
  have nc3 : x0.toInt ≠ 120 := fun z => c3 (Int32.toInt_inj.mp (z.trans (by decide)))
  have nc4 : x0.toInt ≠ 121 := fun z => c4 (Int32.toInt_inj.mp (z.trans (by decide)))
  refine lv_lookup (off := 51) (tgt := 52) C.1 C.2.1 dX0_letterOf_1 (by decide) (by simp [Op.lookupswitch.offset, nc1, Ne.symm nc1, nc2, Ne.symm nc2, nc3, Ne.symm nc3, nc4, Ne.symm nc4]) (by decide) ?_
  refine lv_iconst (v := (-1)) C.1 C.2.1 dX0_letterOf_52 (by decide) ?_
  exact fw_piret C hS h dX0_letterOf_53
/-! KnifeBoard$Board.goesOn([II)Z -/
def rmX0_goesOn : Room := { frames := 1, cells := 0, slots := 0, locals := 22 }
def wpX0_goesOn (kt : kw_T) (iv : fw_F) (ar : fw_R) (x1 : Int32) (Q : Int32 → Prop) : Prop := (x1 < 80 → (vp_in x1 80 ∧ (∀ y3 : Int32, y3 = (ar 25) x1.toNatClampNeg → ((¬ x1 = 0 → ((3 ≤ x1 → (vp_in (2 : Int32) 80 ∧ (∀ y7 : Int32, y7 = (((ar 25) (2 : Int32).toNatClampNeg) - 48) + 1 → ((2 ≤ y7 → (¬ y7 = 0 ∧ (∀ y10 : Int32, y10 = (x1 - 3) / y7 → (¬ y7 = 0 ∧ (∀ y12 : Int32, y12 = (x1 - 3) - (x1 - 3) / y7 * y7 → (vp_in (1 : Int32) 80 ∧ ((y10 < (((ar 25) (1 : Int32).toNatClampNeg) - 48) → ((¬ y12 = 0 → (wpX0_letterOf y3 (fun (r16 : Int32) => (r16 = (-1) → (Q 0)) ∧ (¬ r16 = (-1) → (Q 1))))) ∧ (y12 = 0 → ((¬ y3 = 59 → (Q 0)) ∧ (y3 = 59 → (Q 1)))))) ∧ (¬ y10 < (((ar 25) (1 : Int32).toNatClampNeg) - 48) → (Q 0))))))))) ∧ (¬ 2 ≤ y7 → (Q 0)))))) ∧ (¬ 3 ≤ x1 → (wpX9_within y3 49 54 (fun (r19 : Int32) => (r19 = 0 ∨ r19 = 1) ∧ Q r19))))) ∧ (x1 = 0 → ((¬ y3 = 98 → (Q 0)) ∧ (y3 = 98 → (Q 1)))))))) ∧ (¬ x1 < 80 → (Q 0))
set_option maxHeartbeats 4000000 in
set_option maxRecDepth 100000 in
theorem soX0_goesOn (l : Launch) (G : fw_G) (ad : Nat → Nat) (kt : kw_T) (iv : fw_F) (ar : fw_R) (x1 : Int32) (Q : Int32 → Prop)  (h : wpX0_goesOn kt iv ar x1 Q) : fw_M l G (kw G ad kt) yX0_goesOn wsX0_goesOn rmX0_goesOn [.ref (ad 25), .int x1] iv ar (fw_Qi G (kw G ad kt) (fun r iv1 ar1 => Q r ∧ iv = iv1 ∧ ar = ar1)) := by
  refine fw_start (cc := cX0_goesOn) (nL := 6) (rt := (some .boolean)) (by decide) rfl (Nat.le_of_ble_eq_true rfl) ?_
  intro p e s m below meth c A ls H locs C hK hG hl
  obtain ⟨args, ea⟩ : ∃ z : Array Value, z = ([.ref (ad 25), .int x1] : List Value).toArray := ⟨_, rfl⟩
  rw [← ea] at C ⊢
  have C : fw_C p s m args meth c cX0_goesOn 6 (some .boolean) wsX0_goesOn RX0 := C
  have hl : lv_has ls 6 [(0, .ref (ad 25)), (1, .int x1)] := hl
  unfold wpX0_goesOn at h
  refine lv_iload_n C.1 C.2.1 dX0_goesOn_0 rfl (lv_at hl 1 rfl) ?_
  refine lv_aload_n C.1 C.2.1 dX0_goesOn_1 rfl (lv_at hl 0 rfl) ?_
  refine va_alen (v := 80) C.1 C.2.1 hK.1 hG.1 25 0 (kw_a25 : ((kw G ad kt) iv ar)[25]? = _) rfl rfl dX0_goesOn_2 ?_
  refine lv_icmp_lt (tgt := 8) C.1 C.2.1 dX0_goesOn_3 (by decide) (fun c1 => ?_) (fun c1 => ?_)
  · have h := h.1 c1
    refine lv_aload_n C.1 C.2.1 dX0_goesOn_8 rfl (lv_at hl 0 rfl) ?_
    refine lv_iload_n C.1 C.2.1 dX0_goesOn_9 rfl (lv_at hl 1 rfl) ?_
    obtain ⟨c2, h⟩ := h
    refine fw_iald (w := (kw G ad kt)) C hK hG 25 kw_a25 c2 dX0_goesOn_10 ?_
    refine lv_topi (fun y3 ey3 => ?_)
    have h := h y3 ey3
    refine lv_istore_n (lv' := [(2, .int y3), (0, .ref (ad 25)), (1, .int x1)]) C.1 C.2.1 dX0_goesOn_11 rfl hl (by decide) rfl (fun ls hl => ?_)
    refine lv_iload_n C.1 C.2.1 dX0_goesOn_12 rfl (lv_at hl 2 rfl) ?_
    refine lv_if_ne (tgt := 28) C.1 C.2.1 dX0_goesOn_13 (by decide) (fun c4 => ?_) (fun c4 => ?_)
    · have h := h.1 c4
      refine lv_iload_n C.1 C.2.1 dX0_goesOn_28 rfl (lv_at hl 2 rfl) ?_
      refine lv_iconst (v := 3) C.1 C.2.1 dX0_goesOn_29 (by decide) ?_
      refine lv_icmp_ge (tgt := 42) C.1 C.2.1 dX0_goesOn_30 (by decide) (fun c5 => ?_) (fun c5 => ?_)
      · have h := h.1 c5
        refine lv_aload_n C.1 C.2.1 dX0_goesOn_42 rfl (lv_at hl 1 rfl) ?_
        refine lv_iconst (v := 2) C.1 C.2.1 dX0_goesOn_43 (by decide) ?_
        obtain ⟨c6, h⟩ := h
        refine fw_iald (w := (kw G ad kt)) C hK hG 25 kw_a25 c6 dX0_goesOn_44 ?_
        refine lv_bipush (v := 48) C.1 C.2.1 dX0_goesOn_45 (by decide) ?_
        refine lv_isub C.1 C.2.1 dX0_goesOn_47 ?_
        refine lv_iconst (v := 1) C.1 C.2.1 dX0_goesOn_48 (by decide) ?_
        refine lv_iadd C.1 C.2.1 dX0_goesOn_49 ?_
        refine lv_topi (fun y7 ey7 => ?_)
        have h := h y7 ey7
        refine lv_istore_n (lv' := [(3, .int y7), (2, .int y3), (0, .ref (ad 25)), (1, .int x1)]) C.1 C.2.1 dX0_goesOn_50 rfl hl (by decide) rfl (fun ls hl => ?_)
        refine lv_iload_n C.1 C.2.1 dX0_goesOn_51 rfl (lv_at hl 0 rfl) ?_
        refine lv_iconst (v := 2) C.1 C.2.1 dX0_goesOn_52 (by decide) ?_
        refine lv_icmp_ge (tgt := 58) C.1 C.2.1 dX0_goesOn_53 (by decide) (fun c8 => ?_) (fun c8 => ?_)
        · have h := h.1 c8
          refine lv_iload_n C.1 C.2.1 dX0_goesOn_58 rfl (lv_at hl 3 rfl) ?_
          refine lv_iconst (v := 3) C.1 C.2.1 dX0_goesOn_59 (by decide) ?_
          refine lv_isub C.1 C.2.1 dX0_goesOn_60 ?_
          refine lv_iload_n C.1 C.2.1 dX0_goesOn_61 rfl (lv_at hl 0 rfl) ?_
          obtain ⟨c9, h⟩ := h
          refine lv_idiv C.1 C.2.1 dX0_goesOn_62 c9 ?_
          refine lv_topi (fun y10 ey10 => ?_)
          have h := h y10 ey10
          refine lv_istore (lv' := [(4, .int y10), (3, .int y7), (2, .int y3), (0, .ref (ad 25)), (1, .int x1)]) C.1 C.2.1 dX0_goesOn_63 hl (by decide) rfl (fun ls hl => ?_)
          refine lv_iload_n C.1 C.2.1 dX0_goesOn_65 rfl (lv_at hl 4 rfl) ?_
          refine lv_iconst (v := 3) C.1 C.2.1 dX0_goesOn_66 (by decide) ?_
          refine lv_isub C.1 C.2.1 dX0_goesOn_67 ?_
          refine lv_iload_n C.1 C.2.1 dX0_goesOn_68 rfl (lv_at hl 1 rfl) ?_
          obtain ⟨c11, h⟩ := h
          refine lv_irem C.1 C.2.1 dX0_goesOn_69 c11 ?_
          refine lv_topi (fun y12 ey12 => ?_)
          have h := h y12 ey12
          refine lv_istore (lv' := [(5, .int y12), (4, .int y10), (3, .int y7), (2, .int y3), (0, .ref (ad 25)), (1, .int x1)]) C.1 C.2.1 dX0_goesOn_70 hl (by decide) rfl (fun ls hl => ?_)
          refine lv_iload C.1 C.2.1 dX0_goesOn_72 (lv_at hl 1 rfl) ?_
          refine lv_aload_n C.1 C.2.1 dX0_goesOn_74 rfl (lv_at hl 4 rfl) ?_
          refine lv_iconst (v := 1) C.1 C.2.1 dX0_goesOn_75 (by decide) ?_
          obtain ⟨c13, h⟩ := h
          refine fw_iald (w := (kw G ad kt)) C hK hG 25 kw_a25 c13 dX0_goesOn_76 ?_
          refine lv_bipush (v := 48) C.1 C.2.1 dX0_goesOn_77 (by decide) ?_
          refine lv_isub C.1 C.2.1 dX0_goesOn_79 ?_
          refine lv_icmp_lt (tgt := 85) C.1 C.2.1 dX0_goesOn_80 (by decide) (fun c14 => ?_) (fun c14 => ?_)
          · have h := h.1 c14
            refine lv_iload C.1 C.2.1 dX0_goesOn_85 (lv_at hl 0 rfl) ?_
            refine lv_if_ne (tgt := 104) C.1 C.2.1 dX0_goesOn_87 (by decide) (fun c15 => ?_) (fun c15 => ?_)
            · have h := h.1 c15
              refine lv_iload_n C.1 C.2.1 dX0_goesOn_104 rfl (lv_at hl 3 rfl) ?_
              refine fw_pcalli (va_runS (As := [.int y3]) (rest := []) ⟨C.1, C.2.1, C.2.2.2.2.2.2, C.2.2.2.2.2.1, C.2.2.2.2.1⟩ (soX0_letterOf l y3 _ h H.size) (va_cwS 1 C.2.2.2.2.1 gX0_goesOn_X0_letterOf rfl rfl rfl (by decide +kernel) ⟨Nat.le_of_ble_eq_true rfl, Nat.le_of_ble_eq_true rfl⟩) fw_ppre rfl rfl hl.1 rfl (lv_room (Nat.le_of_ble_eq_true rfl)) dX0_goesOn_105 ⟨Nat.zero_le _, Nat.zero_le _⟩) hG hK (fun r16  H locs h hG => ?_)
              refine lv_iconst (v := (-1)) C.1 C.2.1 dX0_goesOn_108 (by decide) ?_
              refine lv_icmp_eq (tgt := 116) C.1 C.2.1 dX0_goesOn_109 (by decide) (fun c17 => ?_) (fun c17 => ?_)
              · have h := h.1 c17
                refine lv_iconst (v := 0) C.1 C.2.1 dX0_goesOn_116 (by decide) ?_
                exact fw_zret C hG (by decide) ⟨h, rfl, rfl⟩ dX0_goesOn_117
              · have h := h.2 c17
                refine lv_iconst (v := 1) C.1 C.2.1 dX0_goesOn_112 (by decide) ?_
                refine lv_goto (tgt := 117) C.1 C.2.1 dX0_goesOn_113 (by decide) ?_
                exact fw_zret C hG (by decide) ⟨h, rfl, rfl⟩ dX0_goesOn_117
            · have h := h.2 c15
              refine lv_iload_n C.1 C.2.1 dX0_goesOn_90 rfl (lv_at hl 3 rfl) ?_
              refine lv_bipush (v := 59) C.1 C.2.1 dX0_goesOn_91 (by decide) ?_
              refine lv_icmp_ne (tgt := 100) C.1 C.2.1 dX0_goesOn_93 (by decide) (fun c18 => ?_) (fun c18 => ?_)
              · have h := h.1 c18
                refine lv_iconst (v := 0) C.1 C.2.1 dX0_goesOn_100 (by decide) ?_
                refine lv_goto (tgt := 117) C.1 C.2.1 dX0_goesOn_101 (by decide) ?_
                exact fw_zret C hG (by decide) ⟨h, rfl, rfl⟩ dX0_goesOn_117
              · have h := h.2 c18
                refine lv_iconst (v := 1) C.1 C.2.1 dX0_goesOn_96 (by decide) ?_
                refine lv_goto (tgt := 117) C.1 C.2.1 dX0_goesOn_97 (by decide) ?_
                exact fw_zret C hG (by decide) ⟨h, rfl, rfl⟩ dX0_goesOn_117
          · have h := h.2 c14
            refine lv_iconst (v := 0) C.1 C.2.1 dX0_goesOn_83 (by decide) ?_
            exact fw_zret C hG (by decide) ⟨h, rfl, rfl⟩ dX0_goesOn_84
        · have h := h.2 c8
          refine lv_iconst (v := 0) C.1 C.2.1 dX0_goesOn_56 (by decide) ?_
          exact fw_zret C hG (by decide) ⟨h, rfl, rfl⟩ dX0_goesOn_57
      · have h := h.2 c5
        refine lv_iload_n C.1 C.2.1 dX0_goesOn_33 rfl (lv_at hl 0 rfl) ?_
        refine lv_bipush (v := 49) C.1 C.2.1 dX0_goesOn_34 (by decide) ?_
        refine lv_bipush (v := 54) C.1 C.2.1 dX0_goesOn_36 (by decide) ?_
        refine fw_pcalli (va_runSN (As := [.int y3, .int 49, .int 54]) (rest := []) ⟨C.1, C.2.1, C.2.2.2.2.2.2, C.2.2.2.2.2.1, C.2.2.2.2.1⟩ (soX9_within l y3 49 54 _ h H.size) ⟨va_cnB 3 C.2.2.2.2.1 gX0_goesOn_X9_within_n26 rfl rfl rfl hK.2.1.1.2.2.1 (C.2.2.2.2.1 (.initialized RX9) (by decide +kernel)) (by decide +kernel) ⟨Nat.le_of_ble_eq_true rfl, Nat.le_of_ble_eq_true rfl⟩, C.2.2.2.2.1 (.static yX9_within) (by decide +kernel), trivial⟩ fw_ppre rfl rfl hl.1 rfl (lv_room (Nat.le_of_ble_eq_true rfl)) dX0_goesOn_38 ⟨Nat.zero_le _, Nat.zero_le _⟩) hG hK (fun r19  H locs h hG => ?_)
        obtain ⟨cb, h⟩ := h
        exact fw_zret C hG (fw_nb cb) ⟨h, rfl, rfl⟩ dX0_goesOn_41
    · have h := h.2 c4
      refine lv_iload_n C.1 C.2.1 dX0_goesOn_16 rfl (lv_at hl 0 rfl) ?_
      refine lv_bipush (v := 98) C.1 C.2.1 dX0_goesOn_17 (by decide) ?_
      refine lv_icmp_ne (tgt := 26) C.1 C.2.1 dX0_goesOn_19 (by decide) (fun c20 => ?_) (fun c20 => ?_)
      · have h := h.1 c20
        refine lv_iconst (v := 0) C.1 C.2.1 dX0_goesOn_26 (by decide) ?_
        exact fw_zret C hG (by decide) ⟨h, rfl, rfl⟩ dX0_goesOn_27
      · have h := h.2 c20
        refine lv_iconst (v := 1) C.1 C.2.1 dX0_goesOn_22 (by decide) ?_
        refine lv_goto (tgt := 27) C.1 C.2.1 dX0_goesOn_23 (by decide) ?_
        exact fw_zret C hG (by decide) ⟨h, rfl, rfl⟩ dX0_goesOn_27
  · have h := h.2 c1
    refine lv_iconst (v := 0) C.1 C.2.1 dX0_goesOn_6 (by decide) ?_
    exact fw_zret C hG (by decide) ⟨h, rfl, rfl⟩ dX0_goesOn_7
/-! KnifeBoard$Board.firstFault([II)I -/
def rmX0_firstFault : Room := { frames := 2, cells := 0, slots := 0, locals := 47 }
def wpX0_firstFault_L2 (kt : kw_T) (x1 : Int32) (iv : fw_F) (ar : fw_R) (Q : Int32 → Prop) (K : Int32 → Prop) : Nat → Int32 → Prop
  | 0, _ => False
  | fu + 1, z2 => (x1 ≤ z2 → (K z2)) ∧ (¬ x1 ≤ z2 → (wpX0_goesOn kt iv ar z2 (fun (r2 : Int32) => (¬ r2 = 0 → (∀ y4 : Int32, y4 = z2 + 1 → (wpX0_firstFault_L2 kt x1 iv ar Q K fu y4))) ∧ (r2 = 0 → (Q z2)))))
def wpX0_firstFault (kt : kw_T) (iv : fw_F) (ar : fw_R) (x1 : Int32) (Q : Int32 → Prop) : Prop := ∃ ku : Nat, wpX0_firstFault_L2 kt x1 iv ar Q (fun (w5 : Int32) => (3 ≤ x1 → (vp_in (1 : Int32) 80 ∧ (vp_in (2 : Int32) 80 ∧ ((¬ x1 = (3 + ((((ar 25) (1 : Int32).toNatClampNeg) - 48) * ((((ar 25) (2 : Int32).toNatClampNeg) - 48) + 1))) → (Q x1)) ∧ (x1 = (3 + ((((ar 25) (1 : Int32).toNatClampNeg) - 48) * ((((ar 25) (2 : Int32).toNatClampNeg) - 48) + 1))) → (Q (-9))))))) ∧ (¬ 3 ≤ x1 → (Q x1))) ku 0
set_option maxHeartbeats 4000000 in
set_option maxRecDepth 100000 in
theorem soX0_firstFault_L2 {p : Program} {l : Launch} {e : Env} {s : State} {m : MethodId} {args : Array Value} {below : List Frame} {meth : Method} {c : Code} {A : Nat → Prop} {G : fw_G} {ad : Nat → Nat} {kt : kw_T} {x1 : Int32} {iv : fw_F} {ar : fw_R} {Q : Int32 → Prop} {K : Int32 → Prop} (C : fw_C p s m args meth c cX0_firstFault 3 (some .int) wsX0_firstFault RX0) (hK : fw_K G A s)  (hX : ∀ (z2 : Int32), K z2 → ∀ (H : Heap) (locs : List Loc), fw_H G ((kw G ad kt) iv ar) A s H locs → ∀ (ls : Array Slot), lv_has ls 3 [(2, .int z2), (0, .ref (ad 25)), (1, .int x1)] → W p l e rmX0_firstFault s m args below meth c H locs 0 0 (MQ below (fw_Qi G (kw G ad kt) (fun r iv1 ar1 => Q r ∧ iv = iv1 ∧ ar = ar1) A) args s 0 0 A) (F0 m 23 ls [])) : ∀ (fu : Nat) (z2 : Int32), wpX0_firstFault_L2 kt x1 iv ar Q K fu z2 → ∀ (H : Heap) (locs : List Loc), fw_H G ((kw G ad kt) iv ar) A s H locs → ∀ (ls : Array Slot), lv_has ls 3 [(2, .int z2), (0, .ref (ad 25)), (1, .int x1)] → W p l e rmX0_firstFault s m args below meth c H locs 0 0 (MQ below (fw_Qi G (kw G ad kt) (fun r iv1 ar1 => Q r ∧ iv = iv1 ∧ ar = ar1) A) args s 0 0 A) (F0 m 2 ls []) := by
  intro fu
  induction fu with
  | zero => intro z2 h; exact h.elim
  | succ fu ih =>
    intro z2 h H locs hG ls hl
    unfold wpX0_firstFault_L2 at h
    refine lv_iload_n C.1 C.2.1 dX0_firstFault_2 rfl (lv_at hl 0 rfl) ?_
    refine lv_iload_n C.1 C.2.1 dX0_firstFault_3 rfl (lv_at hl 2 rfl) ?_
    refine lv_icmp_ge (tgt := 23) C.1 C.2.1 dX0_firstFault_4 (by decide) (fun c1 => ?_) (fun c1 => ?_)
    · have h := h.1 c1
      exact hX _ h _ _ hG ls (lv_sub hl [0, 1, 2] rfl)
    · have h := h.2 c1
      refine lv_aload_n C.1 C.2.1 dX0_firstFault_7 rfl (lv_at hl 1 rfl) ?_
      refine lv_iload_n C.1 C.2.1 dX0_firstFault_8 rfl (lv_at hl 0 rfl) ?_
      refine fw_rcalli (va_runS (As := [.ref (ad 25), .int z2]) (rest := []) ⟨C.1, C.2.1, C.2.2.2.2.2.2, C.2.2.2.2.2.1, C.2.2.2.2.1⟩ (soX0_goesOn l G ad kt iv ar z2 _  h H.size) (va_cwS 2 C.2.2.2.2.1 gX0_firstFault_X0_goesOn rfl rfl rfl (by decide +kernel) ⟨Nat.le_of_ble_eq_true rfl, Nat.le_of_ble_eq_true rfl⟩) (fw_preS hG hK) rfl rfl hl.1 rfl (lv_room (Nat.le_of_ble_eq_true rfl)) dX0_firstFault_9 ⟨Nat.zero_le _, Nat.zero_le _⟩) hG hK (fun r2  H locs h hG => ?_)
      refine lv_if_ne (tgt := 17) C.1 C.2.1 dX0_firstFault_12 (by decide) (fun c3 => ?_) (fun c3 => ?_)
      · have h := h.1 c3
        obtain ⟨y4, ey4⟩ : ∃ z : Int32, z = z2 + 1 := ⟨_, rfl⟩
        have h := h y4 ey4
        refine lv_iinc (v := y4) (lv' := [(2, .int y4), (0, .ref (ad 25)), (1, .int x1)]) C.1 C.2.1 dX0_firstFault_17 hl (k := 0) rfl (by rw [ey4]; rfl) (by decide) rfl (fun ls hl => ?_)
        refine lv_goto (tgt := 2) C.1 C.2.1 dX0_firstFault_20 (by decide) ?_
        exact ih _ h _ _ hG ls (lv_sub hl [0, 1, 2] rfl)
      · have h := h.2 c3
        refine lv_iload_n C.1 C.2.1 dX0_firstFault_15 rfl (lv_at hl 0 rfl) ?_
        exact fw_iret C hG ⟨h, rfl, rfl⟩ dX0_firstFault_16

set_option maxHeartbeats 4000000 in
set_option maxRecDepth 100000 in
theorem soX0_firstFault (l : Launch) (G : fw_G) (ad : Nat → Nat) (kt : kw_T) (iv : fw_F) (ar : fw_R) (x1 : Int32) (Q : Int32 → Prop)  (h : wpX0_firstFault kt iv ar x1 Q) : fw_M l G (kw G ad kt) yX0_firstFault wsX0_firstFault rmX0_firstFault [.ref (ad 25), .int x1] iv ar (fw_Qi G (kw G ad kt) (fun r iv1 ar1 => Q r ∧ iv = iv1 ∧ ar = ar1)) := by
  refine fw_start (cc := cX0_firstFault) (nL := 3) (rt := (some .int)) (by decide) rfl (Nat.le_of_ble_eq_true rfl) ?_
  intro p e s m below meth c A ls H locs C hK hG hl
  obtain ⟨args, ea⟩ : ∃ z : Array Value, z = ([.ref (ad 25), .int x1] : List Value).toArray := ⟨_, rfl⟩
  rw [← ea] at C ⊢
  have C : fw_C p s m args meth c cX0_firstFault 3 (some .int) wsX0_firstFault RX0 := C
  have hl : lv_has ls 3 [(0, .ref (ad 25)), (1, .int x1)] := hl
  unfold wpX0_firstFault at h
  refine lv_iconst (v := 0) C.1 C.2.1 dX0_firstFault_0 (by decide) ?_
  refine lv_istore_n (lv' := [(2, .int 0), (0, .ref (ad 25)), (1, .int x1)]) C.1 C.2.1 dX0_firstFault_1 rfl hl (by decide) rfl (fun ls hl => ?_)
  obtain ⟨ku, h⟩ := h
  refine soX0_firstFault_L2 C hK  ?_ ku _ h _ _ hG ls (lv_sub hl [0, 1, 2] rfl)
  intro w5 h H locs hG ls hl
  refine lv_iload_n C.1 C.2.1 dX0_firstFault_23 rfl (lv_at hl 2 rfl) ?_
  refine lv_iconst (v := 3) C.1 C.2.1 dX0_firstFault_24 (by decide) ?_
  refine lv_icmp_ge (tgt := 30) C.1 C.2.1 dX0_firstFault_25 (by decide) (fun c6 => ?_) (fun c6 => ?_)
  · have h := h.1 c6
    refine lv_iload_n C.1 C.2.1 dX0_firstFault_30 rfl (lv_at hl 2 rfl) ?_
    refine lv_iconst (v := 3) C.1 C.2.1 dX0_firstFault_31 (by decide) ?_
    refine lv_aload_n C.1 C.2.1 dX0_firstFault_32 rfl (lv_at hl 1 rfl) ?_
    refine lv_iconst (v := 1) C.1 C.2.1 dX0_firstFault_33 (by decide) ?_
    obtain ⟨c7, h⟩ := h
    refine fw_iald (w := (kw G ad kt)) C hK hG 25 kw_a25 c7 dX0_firstFault_34 ?_
    refine lv_bipush (v := 48) C.1 C.2.1 dX0_firstFault_35 (by decide) ?_
    refine lv_isub C.1 C.2.1 dX0_firstFault_37 ?_
    refine lv_aload_n C.1 C.2.1 dX0_firstFault_38 rfl (lv_at hl 1 rfl) ?_
    refine lv_iconst (v := 2) C.1 C.2.1 dX0_firstFault_39 (by decide) ?_
    obtain ⟨c8, h⟩ := h
    refine fw_iald (w := (kw G ad kt)) C hK hG 25 kw_a25 c8 dX0_firstFault_40 ?_
    refine lv_bipush (v := 48) C.1 C.2.1 dX0_firstFault_41 (by decide) ?_
    refine lv_isub C.1 C.2.1 dX0_firstFault_43 ?_
    refine lv_iconst (v := 1) C.1 C.2.1 dX0_firstFault_44 (by decide) ?_
    refine lv_iadd C.1 C.2.1 dX0_firstFault_45 ?_
    refine lv_imul C.1 C.2.1 dX0_firstFault_46 ?_
    refine lv_iadd C.1 C.2.1 dX0_firstFault_47 ?_
    refine lv_icmp_ne (tgt := 56) C.1 C.2.1 dX0_firstFault_48 (by decide) (fun c9 => ?_) (fun c9 => ?_)
    · have h := h.1 c9
      refine lv_iload_n C.1 C.2.1 dX0_firstFault_56 rfl (lv_at hl 2 rfl) ?_
      exact fw_iret C hG ⟨h, rfl, rfl⟩ dX0_firstFault_57
    · have h := h.2 c9
      refine lv_bipush (v := (-9)) C.1 C.2.1 dX0_firstFault_51 (by decide) ?_
      refine lv_goto (tgt := 57) C.1 C.2.1 dX0_firstFault_53 (by decide) ?_
      exact fw_iret C hG ⟨h, rfl, rfl⟩ dX0_firstFault_57
  · have h := h.2 c6
    refine lv_iload_n C.1 C.2.1 dX0_firstFault_28 rfl (lv_at hl 2 rfl) ?_
    exact fw_iret C hG ⟨h, rfl, rfl⟩ dX0_firstFault_29
/-! KnifeBoard$Board.read([II)V -/
def rmX0_read : Room := { frames := 1, cells := 0, slots := 0, locals := 20 }
def wpX0_read_L37 (kt : kw_T) (x2 : Int32) (Q : fw_F → fw_R → Prop) (K : Int32 → Int32 → fw_F → fw_R → Prop) : Nat → Int32 → Int32 → fw_F → fw_R → Prop
  | 0, _, _, _, _ => False
  | fu + 1, z3, z4, iv, ar => (x2 ≤ z4 → (K z3 z4 iv ar)) ∧ (¬ x2 ≤ z4 → (vp_in z4 80 ∧ ((((ar 25) z4.toNatClampNeg) = 59 → (∀ y10 : Int32, y10 = z4 + 1 → (wpX0_read_L37 kt x2 Q K fu z3 y10 iv ar))) ∧ (¬ ((ar 25) z4.toNatClampNeg) = 59 → ((36 ≤ z3 → (∀ y12 : Int32, y12 = z4 + 1 → (wpX0_read_L37 kt x2 Q K fu z3 y12 iv ar))) ∧ (¬ 36 ≤ z3 → (∀ y13 : Int32, y13 = z3 + 1 → (vp_in z4 80 ∧ (wpX0_letterOf ((ar 25) z4.toNatClampNeg) (fun (r15 : Int32) => vp_in z3 36 ∧ (∀ ar17 : fw_R, ar17 = va_up ar 5 (upd (ar 5) z3.toNatClampNeg r15) → (∀ y18 : Int32, y18 = z4 + 1 → (wpX0_read_L37 kt x2 Q K fu y13 y18 iv ar17)))))))))))))
def wpX0_read (kt : kw_T) (iv : fw_F) (ar : fw_R) (x2 : Int32) (Q : fw_F → fw_R → Prop) : Prop := (x2 < 3 → (Q iv ar)) ∧ (¬ x2 < 3 → ((x2 ≤ 80 → (vp_in (1 : Int32) 80 ∧ (∀ iv4 : fw_F, iv4 = va_up iv 4 (((ar 25) (1 : Int32).toNatClampNeg) - 48) → (vp_in (2 : Int32) 80 ∧ (∀ iv6 : fw_F, iv6 = va_up iv4 5 (((ar 25) (2 : Int32).toNatClampNeg) - 48) → (∃ ku : Nat, wpX0_read_L37 kt x2 Q (fun (w19 : Int32) (w20 : Int32) (iv21 : fw_F) (ar22 : fw_R) => Q iv21 ar22) ku 0 3 iv6 ar)))))) ∧ (¬ x2 ≤ 80 → (Q iv ar))))
set_option maxHeartbeats 4000000 in
set_option maxRecDepth 100000 in
theorem soX0_read_L37 {p : Program} {l : Launch} {e : Env} {s : State} {m : MethodId} {args : Array Value} {below : List Frame} {meth : Method} {c : Code} {A : Nat → Prop} {G : fw_G} {ad : Nat → Nat} {kt : kw_T} {x2 : Int32} {Q : fw_F → fw_R → Prop} {K : Int32 → Int32 → fw_F → fw_R → Prop} (C : fw_C p s m args meth c cX0_read 5 none wsX0_read RX0) (hK : fw_K G A s)  (hX : ∀ (z3 : Int32) (z4 : Int32) (iv : fw_F) (ar : fw_R), K z3 z4 iv ar → ∀ (H : Heap) (locs : List Loc), fw_H G ((kw G ad kt) iv ar) A s H locs → ∀ (ls : Array Slot), lv_has ls 5 [(4, .int z4), (3, .int z3), (0, .ref (ad 4)), (1, .ref (ad 25)), (2, .int x2)] → W p l e rmX0_read s m args below meth c H locs 0 0 (MQ below (fw_Qv G (kw G ad kt) Q A) args s 0 0 A) (F0 m 80 ls [])) : ∀ (fu : Nat) (z3 : Int32) (z4 : Int32) (iv : fw_F) (ar : fw_R), wpX0_read_L37 kt x2 Q K fu z3 z4 iv ar → ∀ (H : Heap) (locs : List Loc), fw_H G ((kw G ad kt) iv ar) A s H locs → ∀ (ls : Array Slot), lv_has ls 5 [(4, .int z4), (3, .int z3), (0, .ref (ad 4)), (1, .ref (ad 25)), (2, .int x2)] → W p l e rmX0_read s m args below meth c H locs 0 0 (MQ below (fw_Qv G (kw G ad kt) Q A) args s 0 0 A) (F0 m 37 ls []) := by
  intro fu
  have in_X0 : ∀ x ∈ wsX00, x ∈ wsX0_read := by decide +kernel
  have k9 := C.2.2.2.2.1 (.fieldLink RX0 9 "KnifeBoard$Board" "letters" "[I") (by decide +kernel)
  induction fu with
  | zero => intro z3 z4 iv ar h; exact h.elim
  | succ fu ih =>
    intro z3 z4 iv ar h H locs hG ls hl
    unfold wpX0_read_L37 at h
    refine lv_iload C.1 C.2.1 dX0_read_37 (lv_at hl 0 rfl) ?_
    refine lv_iload_n C.1 C.2.1 dX0_read_39 rfl (lv_at hl 4 rfl) ?_
    refine lv_icmp_ge (tgt := 80) C.1 C.2.1 dX0_read_40 (by decide) (fun c7 => ?_) (fun c7 => ?_)
    · have h := h.1 c7
      exact hX _ _ _ _ h _ _ hG ls (lv_sub hl [0, 1, 2, 3, 4] rfl)
    · have h := h.2 c7
      refine lv_aload_n C.1 C.2.1 dX0_read_43 rfl (lv_at hl 3 rfl) ?_
      refine lv_iload C.1 C.2.1 dX0_read_44 (lv_at hl 0 rfl) ?_
      obtain ⟨c8, h⟩ := h
      refine fw_iald (w := (kw G ad kt)) C hK hG 25 kw_a25 c8 dX0_read_46 ?_
      refine lv_bipush (v := 59) C.1 C.2.1 dX0_read_47 (by decide) ?_
      refine lv_icmp_eq (tgt := 74) C.1 C.2.1 dX0_read_49 (by decide) (fun c9 => ?_) (fun c9 => ?_)
      · have h := h.1 c9
        obtain ⟨y10, ey10⟩ : ∃ z : Int32, z = z4 + 1 := ⟨_, rfl⟩
        have h := h y10 ey10
        refine lv_iinc (v := y10) (lv' := [(4, .int y10), (3, .int z3), (0, .ref (ad 4)), (1, .ref (ad 25)), (2, .int x2)]) C.1 C.2.1 dX0_read_74 hl (k := 0) rfl (by rw [ey10]; rfl) (by decide) rfl (fun ls hl => ?_)
        refine lv_goto (tgt := 37) C.1 C.2.1 dX0_read_77 (by decide) ?_
        exact ih _ _ _ _ h _ _ hG ls (lv_sub hl [0, 1, 2, 3, 4] rfl)
      · have h := h.2 c9
        refine lv_iload_n C.1 C.2.1 dX0_read_52 rfl (lv_at hl 1 rfl) ?_
        refine lv_bipush (v := 36) C.1 C.2.1 dX0_read_53 (by decide) ?_
        refine lv_icmp_ge (tgt := 74) C.1 C.2.1 dX0_read_55 (by decide) (fun c11 => ?_) (fun c11 => ?_)
        · have h := h.1 c11
          obtain ⟨y12, ey12⟩ : ∃ z : Int32, z = z4 + 1 := ⟨_, rfl⟩
          have h := h y12 ey12
          refine lv_iinc (v := y12) (lv' := [(4, .int y12), (3, .int z3), (0, .ref (ad 4)), (1, .ref (ad 25)), (2, .int x2)]) C.1 C.2.1 dX0_read_74 hl (k := 0) rfl (by rw [ey12]; rfl) (by decide) rfl (fun ls hl => ?_)
          refine lv_goto (tgt := 37) C.1 C.2.1 dX0_read_77 (by decide) ?_
          exact ih _ _ _ _ h _ _ hG ls (lv_sub hl [0, 1, 2, 3, 4] rfl)
        · have h := h.2 c11
          refine lv_aload_n C.1 C.2.1 dX0_read_58 rfl (lv_at hl 2 rfl) ?_
          refine fw_get (w := (kw G ad kt)) C in_X0 hK hG 4 kw_o0 rfl 0 (by decide) k9 rfl rfl dX0_read_59 ?_
          refine lv_iload_n C.1 C.2.1 dX0_read_62 rfl (lv_at hl 1 rfl) ?_
          obtain ⟨y13, ey13⟩ : ∃ z : Int32, z = z3 + 1 := ⟨_, rfl⟩
          have h := h y13 ey13
          refine lv_iinc (v := y13) (lv' := [(3, .int y13), (4, .int z4), (0, .ref (ad 4)), (1, .ref (ad 25)), (2, .int x2)]) C.1 C.2.1 dX0_read_63 hl (k := 1) rfl (by rw [ey13]; rfl) (by decide) rfl (fun ls hl => ?_)
          refine lv_aload_n C.1 C.2.1 dX0_read_66 rfl (lv_at hl 3 rfl) ?_
          refine lv_iload C.1 C.2.1 dX0_read_67 (lv_at hl 1 rfl) ?_
          obtain ⟨c14, h⟩ := h
          refine fw_iald (w := (kw G ad kt)) C hK hG 25 kw_a25 c14 dX0_read_69 ?_
          refine fw_pcalli (va_runS (As := [.int ((ar 25) z4.toNatClampNeg)]) (rest := [.int z3, .ref (ad 5)]) ⟨C.1, C.2.1, C.2.2.2.2.2.2, C.2.2.2.2.2.1, C.2.2.2.2.1⟩ (soX0_letterOf l ((ar 25) z4.toNatClampNeg) _ h H.size) (va_cwS 1 C.2.2.2.2.1 gX0_read_X0_letterOf rfl rfl rfl (by decide +kernel) ⟨Nat.le_of_ble_eq_true rfl, Nat.le_of_ble_eq_true rfl⟩) fw_ppre rfl rfl hl.1 rfl (lv_room (Nat.le_of_ble_eq_true rfl)) dX0_read_70 ⟨Nat.zero_le _, Nat.zero_le _⟩) hG hK (fun r15  H locs h hG => ?_)
          obtain ⟨c16, h⟩ := h
          obtain ⟨ar17, ear17⟩ : ∃ z : fw_R, z = va_up ar 5 (upd (ar 5) z3.toNatClampNeg r15) := ⟨_, rfl⟩
          have h := h ar17 ear17
          refine fw_iast (w := (kw G ad kt)) C hK hG 5 kw_a5 c16 (ar1 := ar17) (by rw [ear17]; exact kw_s5) dX0_read_73 (fun H locs hG => ?_)
          obtain ⟨y18, ey18⟩ : ∃ z : Int32, z = z4 + 1 := ⟨_, rfl⟩
          have h := h y18 ey18
          refine lv_iinc (v := y18) (lv' := [(4, .int y18), (3, .int y13), (0, .ref (ad 4)), (1, .ref (ad 25)), (2, .int x2)]) C.1 C.2.1 dX0_read_74 hl (k := 1) rfl (by rw [ey18]; rfl) (by decide) rfl (fun ls hl => ?_)
          refine lv_goto (tgt := 37) C.1 C.2.1 dX0_read_77 (by decide) ?_
          exact ih _ _ _ _ h _ _ hG ls (lv_sub hl [0, 1, 2, 3, 4] rfl)

set_option maxHeartbeats 4000000 in
set_option maxRecDepth 100000 in
theorem soX0_read (l : Launch) (G : fw_G) (ad : Nat → Nat) (kt : kw_T) (iv : fw_F) (ar : fw_R) (x2 : Int32) (Q : fw_F → fw_R → Prop)  (h : wpX0_read kt iv ar x2 Q) : fw_M l G (kw G ad kt) yX0_read wsX0_read rmX0_read [.ref (ad 4), .ref (ad 25), .int x2] iv ar (fw_Qv G (kw G ad kt) Q) := by
  refine fw_start (cc := cX0_read) (nL := 5) (rt := none) (by decide) rfl (Nat.le_of_ble_eq_true rfl) ?_
  intro p e s m below meth c A ls H locs C hK hG hl
  obtain ⟨args, ea⟩ : ∃ z : Array Value, z = ([.ref (ad 4), .ref (ad 25), .int x2] : List Value).toArray := ⟨_, rfl⟩
  rw [← ea] at C ⊢
  have C : fw_C p s m args meth c cX0_read 5 none wsX0_read RX0 := C
  have hl : lv_has ls 5 [(0, .ref (ad 4)), (1, .ref (ad 25)), (2, .int x2)] := hl
  unfold wpX0_read at h
  have in_X0 : ∀ x ∈ wsX00, x ∈ wsX0_read := by decide +kernel
  have k15 := C.2.2.2.2.1 (.fieldLink RX0 15 "KnifeBoard$Board" "high" "I") (by decide +kernel)
  have k19 := C.2.2.2.2.1 (.fieldLink RX0 19 "KnifeBoard$Board" "wide" "I") (by decide +kernel)
  refine lv_iload_n C.1 C.2.1 dX0_read_0 rfl (lv_at hl 2 rfl) ?_
  refine lv_iconst (v := 3) C.1 C.2.1 dX0_read_1 (by decide) ?_
  refine lv_icmp_lt (tgt := 11) C.1 C.2.1 dX0_read_2 (by decide) (fun c1 => ?_) (fun c1 => ?_)
  · have h := h.1 c1
    exact fw_vret C hG h dX0_read_11
  · have h := h.2 c1
    refine lv_iload_n C.1 C.2.1 dX0_read_5 rfl (lv_at hl 2 rfl) ?_
    refine lv_aload_n C.1 C.2.1 dX0_read_6 rfl (lv_at hl 1 rfl) ?_
    refine va_alen (v := 80) C.1 C.2.1 hK.1 hG.1 25 0 (kw_a25 : ((kw G ad kt) iv ar)[25]? = _) rfl rfl dX0_read_7 ?_
    refine lv_icmp_le (tgt := 12) C.1 C.2.1 dX0_read_8 (by decide) (fun c2 => ?_) (fun c2 => ?_)
    · have h := h.1 c2
      refine lv_aload_n C.1 C.2.1 dX0_read_12 rfl (lv_at hl 0 rfl) ?_
      refine lv_aload_n C.1 C.2.1 dX0_read_13 rfl (lv_at hl 1 rfl) ?_
      refine lv_iconst (v := 1) C.1 C.2.1 dX0_read_14 (by decide) ?_
      obtain ⟨c3, h⟩ := h
      refine fw_iald (w := (kw G ad kt)) C hK hG 25 kw_a25 c3 dX0_read_15 ?_
      refine lv_bipush (v := 48) C.1 C.2.1 dX0_read_16 (by decide) ?_
      refine lv_isub C.1 C.2.1 dX0_read_18 ?_
      obtain ⟨iv4, eiv4⟩ : ∃ z : fw_F, z = va_up iv 4 (((ar 25) (1 : Int32).toNatClampNeg) - 48) := ⟨_, rfl⟩
      have h := h iv4 eiv4
      refine fw_put (w := (kw G ad kt)) C in_X0 tyX0 tyX0_ok nmX0 hK hG 4 kw_o0 rfl 1 (by decide) k15 rfl rfl (ty := .int) (v := .int (((ar 25) (1 : Int32).toNatClampNeg) - 48)) (by decide +kernel) rfl rfl (by first | decide | exact Nat.le_of_ble_eq_true rfl) (iv1 := iv4) (by rw [eiv4]; exact kw_p0_high) dX0_read_19 (fun H locs hG => ?_)
      refine lv_aload_n C.1 C.2.1 dX0_read_22 rfl (lv_at hl 0 rfl) ?_
      refine lv_aload_n C.1 C.2.1 dX0_read_23 rfl (lv_at hl 1 rfl) ?_
      refine lv_iconst (v := 2) C.1 C.2.1 dX0_read_24 (by decide) ?_
      obtain ⟨c5, h⟩ := h
      refine fw_iald (w := (kw G ad kt)) C hK hG 25 kw_a25 c5 dX0_read_25 ?_
      refine lv_bipush (v := 48) C.1 C.2.1 dX0_read_26 (by decide) ?_
      refine lv_isub C.1 C.2.1 dX0_read_28 ?_
      obtain ⟨iv6, eiv6⟩ : ∃ z : fw_F, z = va_up iv4 5 (((ar 25) (2 : Int32).toNatClampNeg) - 48) := ⟨_, rfl⟩
      have h := h iv6 eiv6
      refine fw_put (w := (kw G ad kt)) C in_X0 tyX0 tyX0_ok nmX0 hK hG 4 kw_o0 rfl 2 (by decide) k19 rfl rfl (ty := .int) (v := .int (((ar 25) (2 : Int32).toNatClampNeg) - 48)) (by decide +kernel) rfl rfl (by first | decide | exact Nat.le_of_ble_eq_true rfl) (iv1 := iv6) (by rw [eiv6]; exact kw_p0_wide) dX0_read_29 (fun H locs hG => ?_)
      refine lv_iconst (v := 0) C.1 C.2.1 dX0_read_32 (by decide) ?_
      refine lv_istore_n (lv' := [(3, .int 0), (0, .ref (ad 4)), (1, .ref (ad 25)), (2, .int x2)]) C.1 C.2.1 dX0_read_33 rfl hl (by decide) rfl (fun ls hl => ?_)
      refine lv_iconst (v := 3) C.1 C.2.1 dX0_read_34 (by decide) ?_
      refine lv_istore (lv' := [(4, .int 3), (3, .int 0), (0, .ref (ad 4)), (1, .ref (ad 25)), (2, .int x2)]) C.1 C.2.1 dX0_read_35 hl (by decide) rfl (fun ls hl => ?_)
      obtain ⟨ku, h⟩ := h
      refine soX0_read_L37 C hK  ?_ ku _ _ _ _ h _ _ hG ls (lv_sub hl [0, 1, 2, 3, 4] rfl)
      intro w19 w20 iv21 ar22 h H locs hG ls hl
      exact fw_vret C hG h dX0_read_80
    · have h := h.2 c2
      exact fw_vret C hG h dX0_read_11
/-! KnifeBoard$Board.count()I -/
def rmX0_count : Room := { frames := 0, cells := 0, slots := 0, locals := 0 }
def wpX0_count (kt : kw_T) (iv : fw_F) (ar : fw_R)  (Q : Int32 → Prop) : Prop := Q ((iv 4) * (iv 5))
set_option maxHeartbeats 4000000 in
set_option maxRecDepth 100000 in
theorem soX0_count (l : Launch) (G : fw_G) (ad : Nat → Nat) (kt : kw_T) (iv : fw_F) (ar : fw_R)  (Q : Int32 → Prop)  (h : wpX0_count kt iv ar  Q) : fw_M l G (kw G ad kt) yX0_count wsX0_count rmX0_count [.ref (ad 4)] iv ar (fw_Qi G (kw G ad kt) (fun r iv1 ar1 => Q r ∧ iv = iv1 ∧ ar = ar1)) := by
  refine fw_start (cc := cX0_count) (nL := 1) (rt := (some .int)) (by decide) rfl (Nat.le_of_ble_eq_true rfl) ?_
  intro p e s m below meth c A ls H locs C hK hG hl
  obtain ⟨args, ea⟩ : ∃ z : Array Value, z = ([.ref (ad 4)] : List Value).toArray := ⟨_, rfl⟩
  rw [← ea] at C ⊢
  have C : fw_C p s m args meth c cX0_count 1 (some .int) wsX0_count RX0 := C
  have hl : lv_has ls 1 [(0, .ref (ad 4))] := hl
  unfold wpX0_count at h
  have in_X0 : ∀ x ∈ wsX00, x ∈ wsX0_count := by decide +kernel
  have k15 := C.2.2.2.2.1 (.fieldLink RX0 15 "KnifeBoard$Board" "high" "I") (by decide +kernel)
  have k19 := C.2.2.2.2.1 (.fieldLink RX0 19 "KnifeBoard$Board" "wide" "I") (by decide +kernel)
  refine lv_aload_n C.1 C.2.1 dX0_count_0 rfl (lv_at hl 0 rfl) ?_
  refine fw_get (w := (kw G ad kt)) C in_X0 hK hG 4 kw_o0 rfl 1 (by decide) k15 rfl rfl dX0_count_1 ?_
  refine lv_aload_n C.1 C.2.1 dX0_count_4 rfl (lv_at hl 0 rfl) ?_
  refine fw_get (w := (kw G ad kt)) C in_X0 hK hG 4 kw_o0 rfl 2 (by decide) k19 rfl rfl dX0_count_5 ?_
  refine lv_imul C.1 C.2.1 dX0_count_8 ?_
  exact fw_iret C hG ⟨h, rfl, rfl⟩ dX0_count_9
/-! KnifeBoard$Board.knows(I)Z -/
def rmX0_knows : Room := { frames := 1, cells := 0, slots := 0, locals := 22 }
def wpX0_knows (kt : kw_T) (iv : fw_F) (ar : fw_R) (x1 : Int32) (Q : Int32 → Prop) : Prop := wpX0_count kt iv ar  (fun (r1 : Int32) => wpX9_within x1 0 (r1 - 1) (fun (r2 : Int32) => (r2 = 0 ∨ r2 = 1) ∧ Q r2))
set_option maxHeartbeats 4000000 in
set_option maxRecDepth 100000 in
theorem soX0_knows (l : Launch) (G : fw_G) (ad : Nat → Nat) (kt : kw_T) (iv : fw_F) (ar : fw_R) (x1 : Int32) (Q : Int32 → Prop)  (h : wpX0_knows kt iv ar x1 Q) : fw_M l G (kw G ad kt) yX0_knows wsX0_knows rmX0_knows [.ref (ad 4), .int x1] iv ar (fw_Qi G (kw G ad kt) (fun r iv1 ar1 => Q r ∧ iv = iv1 ∧ ar = ar1)) := by
  refine fw_start (cc := cX0_knows) (nL := 2) (rt := (some .boolean)) (by decide) rfl (Nat.le_of_ble_eq_true rfl) ?_
  intro p e s m below meth c A ls H locs C hK hG hl
  obtain ⟨args, ea⟩ : ∃ z : Array Value, z = ([.ref (ad 4), .int x1] : List Value).toArray := ⟨_, rfl⟩
  rw [← ea] at C ⊢
  have C : fw_C p s m args meth c cX0_knows 2 (some .boolean) wsX0_knows RX0 := C
  have hl : lv_has ls 2 [(0, .ref (ad 4)), (1, .int x1)] := hl
  unfold wpX0_knows at h
  refine lv_iload_n C.1 C.2.1 dX0_knows_0 rfl (lv_at hl 1 rfl) ?_
  refine lv_iconst (v := 0) C.1 C.2.1 dX0_knows_1 (by decide) ?_
  refine lv_aload_n C.1 C.2.1 dX0_knows_2 rfl (lv_at hl 0 rfl) ?_
  refine fw_rcalli (va_runV (As := []) (rest := [.int 0, .int x1]) ⟨C.1, C.2.1, C.2.2.2.2.2.2, C.2.2.2.2.2.1, C.2.2.2.2.1⟩ (soX0_count l G ad kt iv ar  _  h H.size) (cwV 0 C.2.2.2.2.1 gX0_knows_X0_count rfl rfl rfl (by decide +kernel) ⟨Nat.le_of_ble_eq_true rfl, Nat.le_of_ble_eq_true rfl⟩) (fw_preV hG hK (ci := 0) rfl kw_o0) rfl rfl hl.1 rfl (lv_room (Nat.le_of_ble_eq_true rfl)) dX0_knows_3 ⟨Nat.zero_le _, Nat.zero_le _⟩) hG hK (fun r1  H locs h hG => ?_)
  refine lv_iconst (v := 1) C.1 C.2.1 dX0_knows_6 (by decide) ?_
  refine lv_isub C.1 C.2.1 dX0_knows_7 ?_
  refine fw_pcalli (va_runSN (As := [.int x1, .int 0, .int (r1 - 1)]) (rest := []) ⟨C.1, C.2.1, C.2.2.2.2.2.2, C.2.2.2.2.2.1, C.2.2.2.2.1⟩ (soX9_within l x1 0 (r1 - 1) _ h H.size) ⟨va_cnB 3 C.2.2.2.2.1 gX0_knows_X9_within_n26 rfl rfl rfl hK.2.1.1.2.2.1 (C.2.2.2.2.1 (.initialized RX9) (by decide +kernel)) (by decide +kernel) ⟨Nat.le_of_ble_eq_true rfl, Nat.le_of_ble_eq_true rfl⟩, C.2.2.2.2.1 (.static yX9_within) (by decide +kernel), trivial⟩ fw_ppre rfl rfl hl.1 rfl (lv_room (Nat.le_of_ble_eq_true rfl)) dX0_knows_8 ⟨Nat.zero_le _, Nat.zero_le _⟩) hG hK (fun r2  H locs h hG => ?_)
  obtain ⟨cb, h⟩ := h
  exact fw_zret C hG (fw_nb cb) ⟨h, rfl, rfl⟩ dX0_knows_11
/-! KnifeBoard$Board.isSquare()Z -/
def rmX0_isSquare : Room := { frames := 0, cells := 0, slots := 0, locals := 0 }
def wpX0_isSquare (kt : kw_T) (iv : fw_F) (ar : fw_R)  (Q : Int32 → Prop) : Prop := (¬ (iv 4) = (iv 5) → (Q 0)) ∧ ((iv 4) = (iv 5) → (Q 1))
set_option maxHeartbeats 4000000 in
set_option maxRecDepth 100000 in
theorem soX0_isSquare (l : Launch) (G : fw_G) (ad : Nat → Nat) (kt : kw_T) (iv : fw_F) (ar : fw_R)  (Q : Int32 → Prop)  (h : wpX0_isSquare kt iv ar  Q) : fw_M l G (kw G ad kt) yX0_isSquare wsX0_isSquare rmX0_isSquare [.ref (ad 4)] iv ar (fw_Qi G (kw G ad kt) (fun r iv1 ar1 => Q r ∧ iv = iv1 ∧ ar = ar1)) := by
  refine fw_start (cc := cX0_isSquare) (nL := 1) (rt := (some .boolean)) (by decide) rfl (Nat.le_of_ble_eq_true rfl) ?_
  intro p e s m below meth c A ls H locs C hK hG hl
  obtain ⟨args, ea⟩ : ∃ z : Array Value, z = ([.ref (ad 4)] : List Value).toArray := ⟨_, rfl⟩
  rw [← ea] at C ⊢
  have C : fw_C p s m args meth c cX0_isSquare 1 (some .boolean) wsX0_isSquare RX0 := C
  have hl : lv_has ls 1 [(0, .ref (ad 4))] := hl
  unfold wpX0_isSquare at h
  have in_X0 : ∀ x ∈ wsX00, x ∈ wsX0_isSquare := by decide +kernel
  have k15 := C.2.2.2.2.1 (.fieldLink RX0 15 "KnifeBoard$Board" "high" "I") (by decide +kernel)
  have k19 := C.2.2.2.2.1 (.fieldLink RX0 19 "KnifeBoard$Board" "wide" "I") (by decide +kernel)
  refine lv_aload_n C.1 C.2.1 dX0_isSquare_0 rfl (lv_at hl 0 rfl) ?_
  refine fw_get (w := (kw G ad kt)) C in_X0 hK hG 4 kw_o0 rfl 1 (by decide) k15 rfl rfl dX0_isSquare_1 ?_
  refine lv_aload_n C.1 C.2.1 dX0_isSquare_4 rfl (lv_at hl 0 rfl) ?_
  refine fw_get (w := (kw G ad kt)) C in_X0 hK hG 4 kw_o0 rfl 2 (by decide) k19 rfl rfl dX0_isSquare_5 ?_
  refine lv_icmp_ne (tgt := 15) C.1 C.2.1 dX0_isSquare_8 (by decide) (fun c1 => ?_) (fun c1 => ?_)
  · have h := h.1 c1
    refine lv_iconst (v := 0) C.1 C.2.1 dX0_isSquare_15 (by decide) ?_
    exact fw_zret C hG (by decide) ⟨h, rfl, rfl⟩ dX0_isSquare_16
  · have h := h.2 c1
    refine lv_iconst (v := 1) C.1 C.2.1 dX0_isSquare_11 (by decide) ?_
    refine lv_goto (tgt := 16) C.1 C.2.1 dX0_isSquare_12 (by decide) ?_
    exact fw_zret C hG (by decide) ⟨h, rfl, rfl⟩ dX0_isSquare_16
/-! KnifeBoard$Board.rowOf(I)I -/
def rmX0_rowOf : Room := { frames := 0, cells := 0, slots := 0, locals := 0 }
def wpX0_rowOf (kt : kw_T) (iv : fw_F) (ar : fw_R) (x1 : Int32) (Q : Int32 → Prop) : Prop := (1 ≤ (iv 5) → (¬ (iv 5) = 0 ∧ (Q (x1 / (iv 5))))) ∧ (¬ 1 ≤ (iv 5) → (Q 0))
set_option maxHeartbeats 4000000 in
set_option maxRecDepth 100000 in
theorem soX0_rowOf (l : Launch) (G : fw_G) (ad : Nat → Nat) (kt : kw_T) (iv : fw_F) (ar : fw_R) (x1 : Int32) (Q : Int32 → Prop)  (h : wpX0_rowOf kt iv ar x1 Q) : fw_M l G (kw G ad kt) yX0_rowOf wsX0_rowOf rmX0_rowOf [.ref (ad 4), .int x1] iv ar (fw_Qi G (kw G ad kt) (fun r iv1 ar1 => Q r ∧ iv = iv1 ∧ ar = ar1)) := by
  refine fw_start (cc := cX0_rowOf) (nL := 2) (rt := (some .int)) (by decide) rfl (Nat.le_of_ble_eq_true rfl) ?_
  intro p e s m below meth c A ls H locs C hK hG hl
  obtain ⟨args, ea⟩ : ∃ z : Array Value, z = ([.ref (ad 4), .int x1] : List Value).toArray := ⟨_, rfl⟩
  rw [← ea] at C ⊢
  have C : fw_C p s m args meth c cX0_rowOf 2 (some .int) wsX0_rowOf RX0 := C
  have hl : lv_has ls 2 [(0, .ref (ad 4)), (1, .int x1)] := hl
  unfold wpX0_rowOf at h
  have in_X0 : ∀ x ∈ wsX00, x ∈ wsX0_rowOf := by decide +kernel
  have k19 := C.2.2.2.2.1 (.fieldLink RX0 19 "KnifeBoard$Board" "wide" "I") (by decide +kernel)
  refine lv_aload_n C.1 C.2.1 dX0_rowOf_0 rfl (lv_at hl 0 rfl) ?_
  refine fw_get (w := (kw G ad kt)) C in_X0 hK hG 4 kw_o0 rfl 2 (by decide) k19 rfl rfl dX0_rowOf_1 ?_
  refine lv_iconst (v := 1) C.1 C.2.1 dX0_rowOf_4 (by decide) ?_
  refine lv_icmp_ge (tgt := 12) C.1 C.2.1 dX0_rowOf_5 (by decide) (fun c1 => ?_) (fun c1 => ?_)
  · have h := h.1 c1
    refine lv_iload_n C.1 C.2.1 dX0_rowOf_12 rfl (lv_at hl 1 rfl) ?_
    refine lv_aload_n C.1 C.2.1 dX0_rowOf_13 rfl (lv_at hl 0 rfl) ?_
    refine fw_get (w := (kw G ad kt)) C in_X0 hK hG 4 kw_o0 rfl 2 (by decide) k19 rfl rfl dX0_rowOf_14 ?_
    obtain ⟨c2, h⟩ := h
    refine lv_idiv C.1 C.2.1 dX0_rowOf_17 c2 ?_
    exact fw_iret C hG ⟨h, rfl, rfl⟩ dX0_rowOf_18
  · have h := h.2 c1
    refine lv_iconst (v := 0) C.1 C.2.1 dX0_rowOf_8 (by decide) ?_
    refine lv_goto (tgt := 18) C.1 C.2.1 dX0_rowOf_9 (by decide) ?_
    exact fw_iret C hG ⟨h, rfl, rfl⟩ dX0_rowOf_18
/-! KnifeBoard$Board.columnOf(I)I -/
def rmX0_columnOf : Room := { frames := 0, cells := 0, slots := 0, locals := 0 }
def wpX0_columnOf (kt : kw_T) (iv : fw_F) (ar : fw_R) (x1 : Int32) (Q : Int32 → Prop) : Prop := (1 ≤ (iv 5) → (¬ (iv 5) = 0 ∧ (Q (x1 - x1 / (iv 5) * (iv 5))))) ∧ (¬ 1 ≤ (iv 5) → (Q 0))
set_option maxHeartbeats 4000000 in
set_option maxRecDepth 100000 in
theorem soX0_columnOf (l : Launch) (G : fw_G) (ad : Nat → Nat) (kt : kw_T) (iv : fw_F) (ar : fw_R) (x1 : Int32) (Q : Int32 → Prop)  (h : wpX0_columnOf kt iv ar x1 Q) : fw_M l G (kw G ad kt) yX0_columnOf wsX0_columnOf rmX0_columnOf [.ref (ad 4), .int x1] iv ar (fw_Qi G (kw G ad kt) (fun r iv1 ar1 => Q r ∧ iv = iv1 ∧ ar = ar1)) := by
  refine fw_start (cc := cX0_columnOf) (nL := 2) (rt := (some .int)) (by decide) rfl (Nat.le_of_ble_eq_true rfl) ?_
  intro p e s m below meth c A ls H locs C hK hG hl
  obtain ⟨args, ea⟩ : ∃ z : Array Value, z = ([.ref (ad 4), .int x1] : List Value).toArray := ⟨_, rfl⟩
  rw [← ea] at C ⊢
  have C : fw_C p s m args meth c cX0_columnOf 2 (some .int) wsX0_columnOf RX0 := C
  have hl : lv_has ls 2 [(0, .ref (ad 4)), (1, .int x1)] := hl
  unfold wpX0_columnOf at h
  have in_X0 : ∀ x ∈ wsX00, x ∈ wsX0_columnOf := by decide +kernel
  have k19 := C.2.2.2.2.1 (.fieldLink RX0 19 "KnifeBoard$Board" "wide" "I") (by decide +kernel)
  refine lv_aload_n C.1 C.2.1 dX0_columnOf_0 rfl (lv_at hl 0 rfl) ?_
  refine fw_get (w := (kw G ad kt)) C in_X0 hK hG 4 kw_o0 rfl 2 (by decide) k19 rfl rfl dX0_columnOf_1 ?_
  refine lv_iconst (v := 1) C.1 C.2.1 dX0_columnOf_4 (by decide) ?_
  refine lv_icmp_ge (tgt := 12) C.1 C.2.1 dX0_columnOf_5 (by decide) (fun c1 => ?_) (fun c1 => ?_)
  · have h := h.1 c1
    refine lv_iload_n C.1 C.2.1 dX0_columnOf_12 rfl (lv_at hl 1 rfl) ?_
    refine lv_aload_n C.1 C.2.1 dX0_columnOf_13 rfl (lv_at hl 0 rfl) ?_
    refine fw_get (w := (kw G ad kt)) C in_X0 hK hG 4 kw_o0 rfl 2 (by decide) k19 rfl rfl dX0_columnOf_14 ?_
    obtain ⟨c2, h⟩ := h
    refine lv_irem C.1 C.2.1 dX0_columnOf_17 c2 ?_
    exact fw_iret C hG ⟨h, rfl, rfl⟩ dX0_columnOf_18
  · have h := h.2 c1
    refine lv_iconst (v := 0) C.1 C.2.1 dX0_columnOf_8 (by decide) ?_
    refine lv_goto (tgt := 18) C.1 C.2.1 dX0_columnOf_9 (by decide) ?_
    exact fw_iret C hG ⟨h, rfl, rfl⟩ dX0_columnOf_18
/-! KnifeBoard$Board.letterAt(III)I -/
def rmX0_letterAt : Room := { frames := 2, cells := 0, slots := 0, locals := 43 }
def wpX0_letterAt_L39 (kt : kw_T) (x1 : Int32) (x2 : Int32) (x3 : Int32) (iv : fw_F) (ar : fw_R) (Q : Int32 → Prop) (K : Int32 → Int32 → Int32 → Prop) : Nat → Int32 → Int32 → Int32 → Prop
  | 0, _, _, _ => False
  | fu + 1, z4, z5, z6 => (x3 ≤ z6 → (K z4 z5 z6)) ∧ (¬ x3 ≤ z6 → (∀ y6 : Int32, y6 = ((iv 4) - 1) - z5 → (∀ y7 : Int32, y7 = z6 + 1 → (wpX0_letterAt_L39 kt x1 x2 x3 iv ar Q K fu y6 z4 y7))))
def wpX0_letterAt (kt : kw_T) (iv : fw_F) (ar : fw_R) (x1 : Int32) (x2 : Int32) (x3 : Int32) (Q : Int32 → Prop) : Prop := wpX9_within x1 0 ((iv 4) - 1) (fun (r1 : Int32) => (r1 = 0 → (Q (-1))) ∧ (¬ r1 = 0 → (wpX9_within x2 0 ((iv 5) - 1) (fun (r3 : Int32) => (¬ r3 = 0 → (∃ ku : Nat, wpX0_letterAt_L39 kt x1 x2 x3 iv ar Q (fun (w8 : Int32) (w9 : Int32) (w10 : Int32) => ∀ y11 : Int32, y11 = (w8 * (iv 5)) + w9 → (wpX0_knows kt iv ar y11 (fun (r12 : Int32) => (r12 = 0 → (Q (-1))) ∧ (¬ r12 = 0 → (vp_in y11 36 ∧ (Q ((ar 5) y11.toNatClampNeg))))))) ku x1 x2 0)) ∧ (r3 = 0 → (Q (-1)))))))
set_option maxHeartbeats 4000000 in
set_option maxRecDepth 100000 in
theorem soX0_letterAt_L39 {p : Program} {l : Launch} {e : Env} {s : State} {m : MethodId} {args : Array Value} {below : List Frame} {meth : Method} {c : Code} {A : Nat → Prop} {G : fw_G} {ad : Nat → Nat} {kt : kw_T} {x1 : Int32} {x2 : Int32} {x3 : Int32} {iv : fw_F} {ar : fw_R} {Q : Int32 → Prop} {K : Int32 → Int32 → Int32 → Prop} (C : fw_C p s m args meth c cX0_letterAt 8 (some .int) wsX0_letterAt RX0) (hK : fw_K G A s)  (hX : ∀ (z4 : Int32) (z5 : Int32) (z6 : Int32), K z4 z5 z6 → ∀ (H : Heap) (locs : List Loc), fw_H G ((kw G ad kt) iv ar) A s H locs → ∀ (ls : Array Slot), lv_has ls 8 [(6, .int z6), (5, .int z5), (4, .int z4), (0, .ref (ad 4)), (3, .int x3)] → W p l e rmX0_letterAt s m args below meth c H locs 0 0 (MQ below (fw_Qi G (kw G ad kt) (fun r iv1 ar1 => Q r ∧ iv = iv1 ∧ ar = ar1) A) args s 0 0 A) (F0 m 70 ls [])) : ∀ (fu : Nat) (z4 : Int32) (z5 : Int32) (z6 : Int32), wpX0_letterAt_L39 kt x1 x2 x3 iv ar Q K fu z4 z5 z6 → ∀ (H : Heap) (locs : List Loc), fw_H G ((kw G ad kt) iv ar) A s H locs → ∀ (ls : Array Slot), lv_has ls 8 [(6, .int z6), (5, .int z5), (4, .int z4), (0, .ref (ad 4)), (3, .int x3)] → W p l e rmX0_letterAt s m args below meth c H locs 0 0 (MQ below (fw_Qi G (kw G ad kt) (fun r iv1 ar1 => Q r ∧ iv = iv1 ∧ ar = ar1) A) args s 0 0 A) (F0 m 39 ls []) := by
  intro fu
  have in_X0 : ∀ x ∈ wsX00, x ∈ wsX0_letterAt := by decide +kernel
  have k15 := C.2.2.2.2.1 (.fieldLink RX0 15 "KnifeBoard$Board" "high" "I") (by decide +kernel)
  induction fu with
  | zero => intro z4 z5 z6 h; exact h.elim
  | succ fu ih =>
    intro z4 z5 z6 h H locs hG ls hl
    unfold wpX0_letterAt_L39 at h
    refine lv_iload C.1 C.2.1 dX0_letterAt_39 (lv_at hl 0 rfl) ?_
    refine lv_iload_n C.1 C.2.1 dX0_letterAt_41 rfl (lv_at hl 4 rfl) ?_
    refine lv_icmp_ge (tgt := 70) C.1 C.2.1 dX0_letterAt_42 (by decide) (fun c5 => ?_) (fun c5 => ?_)
    · have h := h.1 c5
      exact hX _ _ _ h _ _ hG ls (lv_sub hl [0, 1, 2, 3, 4] rfl)
    · have h := h.2 c5
      refine lv_iload C.1 C.2.1 dX0_letterAt_45 (lv_at hl 2 rfl) ?_
      refine lv_istore (lv' := [(7, .int z4), (6, .int z6), (5, .int z5), (4, .int z4), (0, .ref (ad 4)), (3, .int x3)]) C.1 C.2.1 dX0_letterAt_47 hl (by decide) rfl (fun ls hl => ?_)
      refine lv_aload_n C.1 C.2.1 dX0_letterAt_49 rfl (lv_at hl 4 rfl) ?_
      refine fw_get (w := (kw G ad kt)) C in_X0 hK hG 4 kw_o0 rfl 1 (by decide) k15 rfl rfl dX0_letterAt_50 ?_
      refine lv_iconst (v := 1) C.1 C.2.1 dX0_letterAt_53 (by decide) ?_
      refine lv_isub C.1 C.2.1 dX0_letterAt_54 ?_
      refine lv_iload C.1 C.2.1 dX0_letterAt_55 (lv_at hl 2 rfl) ?_
      refine lv_isub C.1 C.2.1 dX0_letterAt_57 ?_
      refine lv_topi (fun y6 ey6 => ?_)
      have h := h y6 ey6
      refine lv_istore (lv' := [(4, .int y6), (7, .int z4), (6, .int z6), (5, .int z5), (0, .ref (ad 4)), (3, .int x3)]) C.1 C.2.1 dX0_letterAt_58 hl (by decide) rfl (fun ls hl => ?_)
      refine lv_iload C.1 C.2.1 dX0_letterAt_60 (lv_at hl 1 rfl) ?_
      refine lv_istore (lv' := [(5, .int z4), (4, .int y6), (7, .int z4), (6, .int z6), (0, .ref (ad 4)), (3, .int x3)]) C.1 C.2.1 dX0_letterAt_62 hl (by decide) rfl (fun ls hl => ?_)
      obtain ⟨y7, ey7⟩ : ∃ z : Int32, z = z6 + 1 := ⟨_, rfl⟩
      have h := h y7 ey7
      refine lv_iinc (v := y7) (lv' := [(6, .int y7), (5, .int z4), (4, .int y6), (7, .int z4), (0, .ref (ad 4)), (3, .int x3)]) C.1 C.2.1 dX0_letterAt_64 hl (k := 3) rfl (by rw [ey7]; rfl) (by decide) rfl (fun ls hl => ?_)
      refine lv_goto (tgt := 39) C.1 C.2.1 dX0_letterAt_67 (by decide) ?_
      exact ih _ _ _ h _ _ hG ls (lv_sub hl [0, 1, 2, 4, 5] rfl)

set_option maxHeartbeats 4000000 in
set_option maxRecDepth 100000 in
theorem soX0_letterAt (l : Launch) (G : fw_G) (ad : Nat → Nat) (kt : kw_T) (iv : fw_F) (ar : fw_R) (x1 : Int32) (x2 : Int32) (x3 : Int32) (Q : Int32 → Prop)  (h : wpX0_letterAt kt iv ar x1 x2 x3 Q) : fw_M l G (kw G ad kt) yX0_letterAt wsX0_letterAt rmX0_letterAt [.ref (ad 4), .int x1, .int x2, .int x3] iv ar (fw_Qi G (kw G ad kt) (fun r iv1 ar1 => Q r ∧ iv = iv1 ∧ ar = ar1)) := by
  refine fw_start (cc := cX0_letterAt) (nL := 8) (rt := (some .int)) (by decide) rfl (Nat.le_of_ble_eq_true rfl) ?_
  intro p e s m below meth c A ls H locs C hK hG hl
  obtain ⟨args, ea⟩ : ∃ z : Array Value, z = ([.ref (ad 4), .int x1, .int x2, .int x3] : List Value).toArray := ⟨_, rfl⟩
  rw [← ea] at C ⊢
  have C : fw_C p s m args meth c cX0_letterAt 8 (some .int) wsX0_letterAt RX0 := C
  have hl : lv_has ls 8 [(0, .ref (ad 4)), (1, .int x1), (2, .int x2), (3, .int x3)] := hl
  unfold wpX0_letterAt at h
  have in_X0 : ∀ x ∈ wsX00, x ∈ wsX0_letterAt := by decide +kernel
  have k15 := C.2.2.2.2.1 (.fieldLink RX0 15 "KnifeBoard$Board" "high" "I") (by decide +kernel)
  have k19 := C.2.2.2.2.1 (.fieldLink RX0 19 "KnifeBoard$Board" "wide" "I") (by decide +kernel)
  have k9 := C.2.2.2.2.1 (.fieldLink RX0 9 "KnifeBoard$Board" "letters" "[I") (by decide +kernel)
  refine lv_iload_n C.1 C.2.1 dX0_letterAt_0 rfl (lv_at hl 1 rfl) ?_
  refine lv_iconst (v := 0) C.1 C.2.1 dX0_letterAt_1 (by decide) ?_
  refine lv_aload_n C.1 C.2.1 dX0_letterAt_2 rfl (lv_at hl 0 rfl) ?_
  refine fw_get (w := (kw G ad kt)) C in_X0 hK hG 4 kw_o0 rfl 1 (by decide) k15 rfl rfl dX0_letterAt_3 ?_
  refine lv_iconst (v := 1) C.1 C.2.1 dX0_letterAt_6 (by decide) ?_
  refine lv_isub C.1 C.2.1 dX0_letterAt_7 ?_
  refine fw_pcalli (va_runSN (As := [.int x1, .int 0, .int ((iv 4) - 1)]) (rest := []) ⟨C.1, C.2.1, C.2.2.2.2.2.2, C.2.2.2.2.2.1, C.2.2.2.2.1⟩ (soX9_within l x1 0 ((iv 4) - 1) _ h H.size) ⟨va_cnB 3 C.2.2.2.2.1 gX0_letterAt_X9_within_n26 rfl rfl rfl hK.2.1.1.2.2.1 (C.2.2.2.2.1 (.initialized RX9) (by decide +kernel)) (by decide +kernel) ⟨Nat.le_of_ble_eq_true rfl, Nat.le_of_ble_eq_true rfl⟩, C.2.2.2.2.1 (.static yX9_within) (by decide +kernel), trivial⟩ fw_ppre rfl rfl hl.1 rfl (lv_room (Nat.le_of_ble_eq_true rfl)) dX0_letterAt_8 ⟨Nat.zero_le _, Nat.zero_le _⟩) hG hK (fun r1  H locs h hG => ?_)
  refine lv_if_eq (tgt := 28) C.1 C.2.1 dX0_letterAt_11 (by decide) (fun c2 => ?_) (fun c2 => ?_)
  · have h := h.1 c2
    refine lv_iconst (v := (-1)) C.1 C.2.1 dX0_letterAt_28 (by decide) ?_
    exact fw_iret C hG ⟨h, rfl, rfl⟩ dX0_letterAt_29
  · have h := h.2 c2
    refine lv_iload_n C.1 C.2.1 dX0_letterAt_14 rfl (lv_at hl 2 rfl) ?_
    refine lv_iconst (v := 0) C.1 C.2.1 dX0_letterAt_15 (by decide) ?_
    refine lv_aload_n C.1 C.2.1 dX0_letterAt_16 rfl (lv_at hl 0 rfl) ?_
    refine fw_get (w := (kw G ad kt)) C in_X0 hK hG 4 kw_o0 rfl 2 (by decide) k19 rfl rfl dX0_letterAt_17 ?_
    refine lv_iconst (v := 1) C.1 C.2.1 dX0_letterAt_20 (by decide) ?_
    refine lv_isub C.1 C.2.1 dX0_letterAt_21 ?_
    refine fw_pcalli (va_runSN (As := [.int x2, .int 0, .int ((iv 5) - 1)]) (rest := []) ⟨C.1, C.2.1, C.2.2.2.2.2.2, C.2.2.2.2.2.1, C.2.2.2.2.1⟩ (soX9_within l x2 0 ((iv 5) - 1) _ h H.size) ⟨va_cnB 3 C.2.2.2.2.1 gX0_letterAt_X9_within_n26 rfl rfl rfl hK.2.1.1.2.2.1 (C.2.2.2.2.1 (.initialized RX9) (by decide +kernel)) (by decide +kernel) ⟨Nat.le_of_ble_eq_true rfl, Nat.le_of_ble_eq_true rfl⟩, C.2.2.2.2.1 (.static yX9_within) (by decide +kernel), trivial⟩ fw_ppre rfl rfl hl.1 rfl (lv_room (Nat.le_of_ble_eq_true rfl)) dX0_letterAt_22 ⟨Nat.zero_le _, Nat.zero_le _⟩) hG hK (fun r3  H locs h hG => ?_)
    refine lv_if_ne (tgt := 30) C.1 C.2.1 dX0_letterAt_25 (by decide) (fun c4 => ?_) (fun c4 => ?_)
    · have h := h.1 c4
      refine lv_iload_n C.1 C.2.1 dX0_letterAt_30 rfl (lv_at hl 1 rfl) ?_
      refine lv_istore (lv' := [(4, .int x1), (0, .ref (ad 4)), (1, .int x1), (2, .int x2), (3, .int x3)]) C.1 C.2.1 dX0_letterAt_31 hl (by decide) rfl (fun ls hl => ?_)
      refine lv_iload_n C.1 C.2.1 dX0_letterAt_33 rfl (lv_at hl 3 rfl) ?_
      refine lv_istore (lv' := [(5, .int x2), (4, .int x1), (0, .ref (ad 4)), (1, .int x1), (2, .int x2), (3, .int x3)]) C.1 C.2.1 dX0_letterAt_34 hl (by decide) rfl (fun ls hl => ?_)
      refine lv_iconst (v := 0) C.1 C.2.1 dX0_letterAt_36 (by decide) ?_
      refine lv_istore (lv' := [(6, .int 0), (5, .int x2), (4, .int x1), (0, .ref (ad 4)), (1, .int x1), (2, .int x2), (3, .int x3)]) C.1 C.2.1 dX0_letterAt_37 hl (by decide) rfl (fun ls hl => ?_)
      obtain ⟨ku, h⟩ := h
      refine soX0_letterAt_L39 C hK  ?_ ku _ _ _ h _ _ hG ls (lv_sub hl [0, 1, 2, 3, 6] rfl)
      intro w8 w9 w10 h H locs hG ls hl
      refine lv_iload C.1 C.2.1 dX0_letterAt_70 (lv_at hl 2 rfl) ?_
      refine lv_aload_n C.1 C.2.1 dX0_letterAt_72 rfl (lv_at hl 3 rfl) ?_
      refine fw_get (w := (kw G ad kt)) C in_X0 hK hG 4 kw_o0 rfl 2 (by decide) k19 rfl rfl dX0_letterAt_73 ?_
      refine lv_imul C.1 C.2.1 dX0_letterAt_76 ?_
      refine lv_iload C.1 C.2.1 dX0_letterAt_77 (lv_at hl 1 rfl) ?_
      refine lv_iadd C.1 C.2.1 dX0_letterAt_79 ?_
      refine lv_topi (fun y11 ey11 => ?_)
      have h := h y11 ey11
      refine lv_istore (lv' := [(6, .int y11), (5, .int w9), (4, .int w8), (0, .ref (ad 4)), (3, .int x3)]) C.1 C.2.1 dX0_letterAt_80 hl (by decide) rfl (fun ls hl => ?_)
      refine lv_aload_n C.1 C.2.1 dX0_letterAt_82 rfl (lv_at hl 3 rfl) ?_
      refine lv_iload C.1 C.2.1 dX0_letterAt_83 (lv_at hl 0 rfl) ?_
      refine fw_rcalli (va_runV (As := [.int y11]) (rest := []) ⟨C.1, C.2.1, C.2.2.2.2.2.2, C.2.2.2.2.2.1, C.2.2.2.2.1⟩ (soX0_knows l G ad kt iv ar y11 _  h H.size) (cwV 1 C.2.2.2.2.1 gX0_letterAt_X0_knows rfl rfl rfl (by decide +kernel) ⟨Nat.le_of_ble_eq_true rfl, Nat.le_of_ble_eq_true rfl⟩) (fw_preV hG hK (ci := 0) rfl kw_o0) rfl rfl hl.1 rfl (lv_room (Nat.le_of_ble_eq_true rfl)) dX0_letterAt_85 ⟨Nat.zero_le _, Nat.zero_le _⟩) hG hK (fun r12  H locs h hG => ?_)
      refine lv_if_eq (tgt := 101) C.1 C.2.1 dX0_letterAt_88 (by decide) (fun c13 => ?_) (fun c13 => ?_)
      · have h := h.1 c13
        refine lv_iconst (v := (-1)) C.1 C.2.1 dX0_letterAt_101 (by decide) ?_
        exact fw_iret C hG ⟨h, rfl, rfl⟩ dX0_letterAt_102
      · have h := h.2 c13
        refine lv_aload_n C.1 C.2.1 dX0_letterAt_91 rfl (lv_at hl 3 rfl) ?_
        refine fw_get (w := (kw G ad kt)) C in_X0 hK hG 4 kw_o0 rfl 0 (by decide) k9 rfl rfl dX0_letterAt_92 ?_
        refine lv_iload C.1 C.2.1 dX0_letterAt_95 (lv_at hl 0 rfl) ?_
        obtain ⟨c14, h⟩ := h
        refine fw_iald (w := (kw G ad kt)) C hK hG 5 kw_a5 c14 dX0_letterAt_97 ?_
        refine lv_goto (tgt := 102) C.1 C.2.1 dX0_letterAt_98 (by decide) ?_
        exact fw_iret C hG ⟨h, rfl, rfl⟩ dX0_letterAt_102
    · have h := h.2 c4
      refine lv_iconst (v := (-1)) C.1 C.2.1 dX0_letterAt_28 (by decide) ?_
      exact fw_iret C hG ⟨h, rfl, rfl⟩ dX0_letterAt_29
/-! KnifeBoard$Board.isOf(IIII)Z -/
def rmX0_isOf : Room := { frames := 3, cells := 0, slots := 0, locals := 70 }
def wpX0_isOf (kt : kw_T) (iv : fw_F) (ar : fw_R) (x1 : Int32) (x2 : Int32) (x3 : Int32) (x4 : Int32) (Q : Int32 → Prop) : Prop := wpX0_letterAt kt iv ar x2 x3 x4 (fun (r1 : Int32) => (r1 = (-1) → (Q 0)) ∧ (¬ r1 = (-1) → ((¬ ((x1 >>> ((r1 : Int32) &&& 31)) &&& 1) = 1 → (Q 0)) ∧ (((x1 >>> ((r1 : Int32) &&& 31)) &&& 1) = 1 → (Q 1)))))
set_option maxHeartbeats 4000000 in
set_option maxRecDepth 100000 in
theorem soX0_isOf (l : Launch) (G : fw_G) (ad : Nat → Nat) (kt : kw_T) (iv : fw_F) (ar : fw_R) (x1 : Int32) (x2 : Int32) (x3 : Int32) (x4 : Int32) (Q : Int32 → Prop)  (h : wpX0_isOf kt iv ar x1 x2 x3 x4 Q) : fw_M l G (kw G ad kt) yX0_isOf wsX0_isOf rmX0_isOf [.ref (ad 4), .int x1, .int x2, .int x3, .int x4] iv ar (fw_Qi G (kw G ad kt) (fun r iv1 ar1 => Q r ∧ iv = iv1 ∧ ar = ar1)) := by
  refine fw_start (cc := cX0_isOf) (nL := 6) (rt := (some .boolean)) (by decide) rfl (Nat.le_of_ble_eq_true rfl) ?_
  intro p e s m below meth c A ls H locs C hK hG hl
  obtain ⟨args, ea⟩ : ∃ z : Array Value, z = ([.ref (ad 4), .int x1, .int x2, .int x3, .int x4] : List Value).toArray := ⟨_, rfl⟩
  rw [← ea] at C ⊢
  have C : fw_C p s m args meth c cX0_isOf 6 (some .boolean) wsX0_isOf RX0 := C
  have hl : lv_has ls 6 [(0, .ref (ad 4)), (1, .int x1), (2, .int x2), (3, .int x3), (4, .int x4)] := hl
  unfold wpX0_isOf at h
  refine lv_aload_n C.1 C.2.1 dX0_isOf_0 rfl (lv_at hl 0 rfl) ?_
  refine lv_iload_n C.1 C.2.1 dX0_isOf_1 rfl (lv_at hl 2 rfl) ?_
  refine lv_iload_n C.1 C.2.1 dX0_isOf_2 rfl (lv_at hl 3 rfl) ?_
  refine lv_iload C.1 C.2.1 dX0_isOf_3 (lv_at hl 4 rfl) ?_
  refine fw_rcalli (va_runV (As := [.int x2, .int x3, .int x4]) (rest := []) ⟨C.1, C.2.1, C.2.2.2.2.2.2, C.2.2.2.2.2.1, C.2.2.2.2.1⟩ (soX0_letterAt l G ad kt iv ar x2 x3 x4 _  h H.size) (cwV 3 C.2.2.2.2.1 gX0_isOf_X0_letterAt rfl rfl rfl (by decide +kernel) ⟨Nat.le_of_ble_eq_true rfl, Nat.le_of_ble_eq_true rfl⟩) (fw_preV hG hK (ci := 0) rfl kw_o0) rfl rfl hl.1 rfl (lv_room (Nat.le_of_ble_eq_true rfl)) dX0_isOf_5 ⟨Nat.zero_le _, Nat.zero_le _⟩) hG hK (fun r1  H locs h hG => ?_)
  refine lv_istore (lv' := [(5, .int r1), (0, .ref (ad 4)), (1, .int x1), (2, .int x2), (3, .int x3), (4, .int x4)]) C.1 C.2.1 dX0_isOf_8 hl (by decide) rfl (fun ls hl => ?_)
  refine lv_iload C.1 C.2.1 dX0_isOf_10 (lv_at hl 0 rfl) ?_
  refine lv_iconst (v := (-1)) C.1 C.2.1 dX0_isOf_12 (by decide) ?_
  refine lv_icmp_eq (tgt := 30) C.1 C.2.1 dX0_isOf_13 (by decide) (fun c2 => ?_) (fun c2 => ?_)
  · have h := h.1 c2
    refine lv_iconst (v := 0) C.1 C.2.1 dX0_isOf_30 (by decide) ?_
    exact fw_zret C hG (by decide) ⟨h, rfl, rfl⟩ dX0_isOf_31
  · have h := h.2 c2
    refine lv_iload_n C.1 C.2.1 dX0_isOf_16 rfl (lv_at hl 2 rfl) ?_
    refine lv_iload C.1 C.2.1 dX0_isOf_17 (lv_at hl 0 rfl) ?_
    refine lv_ishr C.1 C.2.1 dX0_isOf_19 ?_
    refine lv_iconst (v := 1) C.1 C.2.1 dX0_isOf_20 (by decide) ?_
    refine lv_iand C.1 C.2.1 dX0_isOf_21 ?_
    refine lv_iconst (v := 1) C.1 C.2.1 dX0_isOf_22 (by decide) ?_
    refine lv_icmp_ne (tgt := 30) C.1 C.2.1 dX0_isOf_23 (by decide) (fun c3 => ?_) (fun c3 => ?_)
    · have h := h.1 c3
      refine lv_iconst (v := 0) C.1 C.2.1 dX0_isOf_30 (by decide) ?_
      exact fw_zret C hG (by decide) ⟨h, rfl, rfl⟩ dX0_isOf_31
    · have h := h.2 c3
      refine lv_iconst (v := 1) C.1 C.2.1 dX0_isOf_26 (by decide) ?_
      refine lv_goto (tgt := 31) C.1 C.2.1 dX0_isOf_27 (by decide) ?_
      exact fw_zret C hG (by decide) ⟨h, rfl, rfl⟩ dX0_isOf_31
/-! KnifeBoard$Board.hersAbout(I)I -/
def rmX0_hersAbout : Room := { frames := 4, cells := 0, slots := 0, locals := 95 }
def wpX0_hersAbout_L27 (kt : kw_T) (x1 : Int32) (z5 : Int32) (r2 : Int32) (r1 : Int32) (iv : fw_F) (ar : fw_R) (Q : Int32 → Prop) (K : Int32 → Int32 → Prop) : Nat → Int32 → Int32 → Prop
  | 0, _, _ => False
  | fu + 1, z4, z6 => (1 < z6 → (K z4 z6)) ∧ (¬ 1 < z6 → ((¬ z5 = 0 → (wpX0_isOf kt iv ar 12 (r1 + z5) (r2 + z6) 0 (fun (r7 : Int32) => (r7 = 0 → (∀ y9 : Int32, y9 = z6 + 1 → (wpX0_hersAbout_L27 kt x1 z5 r2 r1 iv ar Q K fu z4 y9))) ∧ (¬ r7 = 0 → (∀ y10 : Int32, y10 = z4 + 1 → (∀ y11 : Int32, y11 = z6 + 1 → (wpX0_hersAbout_L27 kt x1 z5 r2 r1 iv ar Q K fu y10 y11))))))) ∧ (z5 = 0 → ((¬ z6 = 0 → (wpX0_isOf kt iv ar 12 (r1 + z5) (r2 + z6) 0 (fun (r14 : Int32) => (r14 = 0 → (∀ y16 : Int32, y16 = z6 + 1 → (wpX0_hersAbout_L27 kt x1 z5 r2 r1 iv ar Q K fu z4 y16))) ∧ (¬ r14 = 0 → (∀ y17 : Int32, y17 = z4 + 1 → (∀ y18 : Int32, y18 = z6 + 1 → (wpX0_hersAbout_L27 kt x1 z5 r2 r1 iv ar Q K fu y17 y18))))))) ∧ (z6 = 0 → (∀ y20 : Int32, y20 = z6 + 1 → (wpX0_hersAbout_L27 kt x1 z5 r2 r1 iv ar Q K fu z4 y20)))))))
def wpX0_hersAbout_L18 (kt : kw_T) (x1 : Int32) (r2 : Int32) (r1 : Int32) (iv : fw_F) (ar : fw_R) (Q : Int32 → Prop) (K : Int32 → Int32 → Prop) : Nat → Int32 → Int32 → Prop
  | 0, _, _ => False
  | fu + 1, z4, z5 => (1 < z5 → (K z4 z5)) ∧ (¬ 1 < z5 → (∃ ku : Nat, wpX0_hersAbout_L27 kt x1 z5 r2 r1 iv ar Q (fun (w21 : Int32) (w22 : Int32) => ∀ y23 : Int32, y23 = z5 + 1 → (wpX0_hersAbout_L18 kt x1 r2 r1 iv ar Q K fu w21 y23)) ku z4 (-1)))
def wpX0_hersAbout (kt : kw_T) (iv : fw_F) (ar : fw_R) (x1 : Int32) (Q : Int32 → Prop) : Prop := wpX0_rowOf kt iv ar x1 (fun (r1 : Int32) => wpX0_columnOf kt iv ar x1 (fun (r2 : Int32) => ∃ ku : Nat, wpX0_hersAbout_L18 kt x1 r2 r1 iv ar Q (fun (w24 : Int32) (w25 : Int32) => Q w24) ku 0 (-1)))
set_option maxHeartbeats 4000000 in
set_option maxRecDepth 100000 in
theorem soX0_hersAbout_L27 {p : Program} {l : Launch} {e : Env} {s : State} {m : MethodId} {args : Array Value} {below : List Frame} {meth : Method} {c : Code} {A : Nat → Prop} {G : fw_G} {ad : Nat → Nat} {kt : kw_T} {x1 : Int32} {z5 : Int32} {r2 : Int32} {r1 : Int32} {iv : fw_F} {ar : fw_R} {Q : Int32 → Prop} {K : Int32 → Int32 → Prop} (C : fw_C p s m args meth c cX0_hersAbout 8 (some .int) wsX0_hersAbout RX0) (hK : fw_K G A s)  (hX : ∀ (z4 : Int32) (z6 : Int32), K z4 z6 → ∀ (H : Heap) (locs : List Loc), fw_H G ((kw G ad kt) iv ar) A s H locs → ∀ (ls : Array Slot), lv_has ls 8 [(6, .int z6), (5, .int z5), (4, .int z4), (3, .int r2), (2, .int r1), (0, .ref (ad 4))] → W p l e rmX0_hersAbout s m args below meth c H locs 0 0 (MQ below (fw_Qi G (kw G ad kt) (fun r iv1 ar1 => Q r ∧ iv = iv1 ∧ ar = ar1) A) args s 0 0 A) (F0 m 82 ls [])) : ∀ (fu : Nat) (z4 : Int32) (z6 : Int32), wpX0_hersAbout_L27 kt x1 z5 r2 r1 iv ar Q K fu z4 z6 → ∀ (H : Heap) (locs : List Loc), fw_H G ((kw G ad kt) iv ar) A s H locs → ∀ (ls : Array Slot), lv_has ls 8 [(6, .int z6), (5, .int z5), (4, .int z4), (3, .int r2), (2, .int r1), (0, .ref (ad 4))] → W p l e rmX0_hersAbout s m args below meth c H locs 0 0 (MQ below (fw_Qi G (kw G ad kt) (fun r iv1 ar1 => Q r ∧ iv = iv1 ∧ ar = ar1) A) args s 0 0 A) (F0 m 27 ls []) := by
  intro fu
  induction fu with
  | zero => intro z4 z6 h; exact h.elim
  | succ fu ih =>
    intro z4 z6 h H locs hG ls hl
    unfold wpX0_hersAbout_L27 at h
    refine lv_iload C.1 C.2.1 dX0_hersAbout_27 (lv_at hl 0 rfl) ?_
    refine lv_iconst (v := 1) C.1 C.2.1 dX0_hersAbout_29 (by decide) ?_
    refine lv_icmp_gt (tgt := 82) C.1 C.2.1 dX0_hersAbout_30 (by decide) (fun c4 => ?_) (fun c4 => ?_)
    · have h := h.1 c4
      exact hX _ _ h _ _ hG ls (lv_sub hl [0, 1, 2, 3, 4, 5] rfl)
    · have h := h.2 c4
      refine lv_iload C.1 C.2.1 dX0_hersAbout_33 (lv_at hl 1 rfl) ?_
      refine lv_if_ne (tgt := 47) C.1 C.2.1 dX0_hersAbout_35 (by decide) (fun c5 => ?_) (fun c5 => ?_)
      · have h := h.1 c5
        refine lv_iconst (v := 0) C.1 C.2.1 dX0_hersAbout_47 (by decide) ?_
        refine lv_istore (lv' := [(7, .int 0), (6, .int z6), (5, .int z5), (4, .int z4), (3, .int r2), (2, .int r1), (0, .ref (ad 4))]) C.1 C.2.1 dX0_hersAbout_48 hl (by decide) rfl (fun ls hl => ?_)
        refine lv_iload C.1 C.2.1 dX0_hersAbout_50 (lv_at hl 0 rfl) ?_
        refine lv_if_ne (tgt := 76) C.1 C.2.1 dX0_hersAbout_52 (by decide) (fun c6 => ?_) (fun c6 => ?_)
        · exact absurd c6 (by decide)
        · refine lv_aload_n C.1 C.2.1 dX0_hersAbout_55 rfl (lv_at hl 6 rfl) ?_
          refine lv_bipush (v := 12) C.1 C.2.1 dX0_hersAbout_56 (by decide) ?_
          refine lv_iload_n C.1 C.2.1 dX0_hersAbout_58 rfl (lv_at hl 5 rfl) ?_
          refine lv_iload C.1 C.2.1 dX0_hersAbout_59 (lv_at hl 2 rfl) ?_
          refine lv_iadd C.1 C.2.1 dX0_hersAbout_61 ?_
          refine lv_iload_n C.1 C.2.1 dX0_hersAbout_62 rfl (lv_at hl 4 rfl) ?_
          refine lv_iload C.1 C.2.1 dX0_hersAbout_63 (lv_at hl 1 rfl) ?_
          refine lv_iadd C.1 C.2.1 dX0_hersAbout_65 ?_
          refine lv_iconst (v := 0) C.1 C.2.1 dX0_hersAbout_66 (by decide) ?_
          refine fw_rcalli (va_runV (As := [.int 12, .int (r1 + z5), .int (r2 + z6), .int 0]) (rest := []) ⟨C.1, C.2.1, C.2.2.2.2.2.2, C.2.2.2.2.2.1, C.2.2.2.2.1⟩ (soX0_isOf l G ad kt iv ar 12 (r1 + z5) (r2 + z6) 0 _  h H.size) (cwV 4 C.2.2.2.2.1 gX0_hersAbout_X0_isOf rfl rfl rfl (by decide +kernel) ⟨Nat.le_of_ble_eq_true rfl, Nat.le_of_ble_eq_true rfl⟩) (fw_preV hG hK (ci := 0) rfl kw_o0) rfl rfl hl.1 rfl (lv_room (Nat.le_of_ble_eq_true rfl)) dX0_hersAbout_67 ⟨Nat.zero_le _, Nat.zero_le _⟩) hG hK (fun r7  H locs h hG => ?_)
          refine lv_if_eq (tgt := 76) C.1 C.2.1 dX0_hersAbout_70 (by decide) (fun c8 => ?_) (fun c8 => ?_)
          · have h := h.1 c8
            obtain ⟨y9, ey9⟩ : ∃ z : Int32, z = z6 + 1 := ⟨_, rfl⟩
            have h := h y9 ey9
            refine lv_iinc (v := y9) (lv' := [(6, .int y9), (7, .int 0), (5, .int z5), (4, .int z4), (3, .int r2), (2, .int r1), (0, .ref (ad 4))]) C.1 C.2.1 dX0_hersAbout_76 hl (k := 1) rfl (by rw [ey9]; rfl) (by decide) rfl (fun ls hl => ?_)
            refine lv_goto (tgt := 27) C.1 C.2.1 dX0_hersAbout_79 (by decide) ?_
            exact ih _ _ h _ _ hG ls (lv_sub hl [0, 2, 3, 4, 5, 6] rfl)
          · have h := h.2 c8
            obtain ⟨y10, ey10⟩ : ∃ z : Int32, z = z4 + 1 := ⟨_, rfl⟩
            have h := h y10 ey10
            refine lv_iinc (v := y10) (lv' := [(4, .int y10), (7, .int 0), (6, .int z6), (5, .int z5), (3, .int r2), (2, .int r1), (0, .ref (ad 4))]) C.1 C.2.1 dX0_hersAbout_73 hl (k := 3) rfl (by rw [ey10]; rfl) (by decide) rfl (fun ls hl => ?_)
            obtain ⟨y11, ey11⟩ : ∃ z : Int32, z = z6 + 1 := ⟨_, rfl⟩
            have h := h y11 ey11
            refine lv_iinc (v := y11) (lv' := [(6, .int y11), (4, .int y10), (7, .int 0), (5, .int z5), (3, .int r2), (2, .int r1), (0, .ref (ad 4))]) C.1 C.2.1 dX0_hersAbout_76 hl (k := 2) rfl (by rw [ey11]; rfl) (by decide) rfl (fun ls hl => ?_)
            refine lv_goto (tgt := 27) C.1 C.2.1 dX0_hersAbout_79 (by decide) ?_
            exact ih _ _ h _ _ hG ls (lv_sub hl [0, 3, 1, 4, 5, 6] rfl)
      · have h := h.2 c5
        refine lv_iload C.1 C.2.1 dX0_hersAbout_38 (lv_at hl 0 rfl) ?_
        refine lv_if_ne (tgt := 47) C.1 C.2.1 dX0_hersAbout_40 (by decide) (fun c12 => ?_) (fun c12 => ?_)
        · have h := h.1 c12
          refine lv_iconst (v := 0) C.1 C.2.1 dX0_hersAbout_47 (by decide) ?_
          refine lv_istore (lv' := [(7, .int 0), (6, .int z6), (5, .int z5), (4, .int z4), (3, .int r2), (2, .int r1), (0, .ref (ad 4))]) C.1 C.2.1 dX0_hersAbout_48 hl (by decide) rfl (fun ls hl => ?_)
          refine lv_iload C.1 C.2.1 dX0_hersAbout_50 (lv_at hl 0 rfl) ?_
          refine lv_if_ne (tgt := 76) C.1 C.2.1 dX0_hersAbout_52 (by decide) (fun c13 => ?_) (fun c13 => ?_)
          · exact absurd c13 (by decide)
          · refine lv_aload_n C.1 C.2.1 dX0_hersAbout_55 rfl (lv_at hl 6 rfl) ?_
            refine lv_bipush (v := 12) C.1 C.2.1 dX0_hersAbout_56 (by decide) ?_
            refine lv_iload_n C.1 C.2.1 dX0_hersAbout_58 rfl (lv_at hl 5 rfl) ?_
            refine lv_iload C.1 C.2.1 dX0_hersAbout_59 (lv_at hl 2 rfl) ?_
            refine lv_iadd C.1 C.2.1 dX0_hersAbout_61 ?_
            refine lv_iload_n C.1 C.2.1 dX0_hersAbout_62 rfl (lv_at hl 4 rfl) ?_
            refine lv_iload C.1 C.2.1 dX0_hersAbout_63 (lv_at hl 1 rfl) ?_
            refine lv_iadd C.1 C.2.1 dX0_hersAbout_65 ?_
            refine lv_iconst (v := 0) C.1 C.2.1 dX0_hersAbout_66 (by decide) ?_
            refine fw_rcalli (va_runV (As := [.int 12, .int (r1 + z5), .int (r2 + z6), .int 0]) (rest := []) ⟨C.1, C.2.1, C.2.2.2.2.2.2, C.2.2.2.2.2.1, C.2.2.2.2.1⟩ (soX0_isOf l G ad kt iv ar 12 (r1 + z5) (r2 + z6) 0 _  h H.size) (cwV 4 C.2.2.2.2.1 gX0_hersAbout_X0_isOf rfl rfl rfl (by decide +kernel) ⟨Nat.le_of_ble_eq_true rfl, Nat.le_of_ble_eq_true rfl⟩) (fw_preV hG hK (ci := 0) rfl kw_o0) rfl rfl hl.1 rfl (lv_room (Nat.le_of_ble_eq_true rfl)) dX0_hersAbout_67 ⟨Nat.zero_le _, Nat.zero_le _⟩) hG hK (fun r14  H locs h hG => ?_)
            refine lv_if_eq (tgt := 76) C.1 C.2.1 dX0_hersAbout_70 (by decide) (fun c15 => ?_) (fun c15 => ?_)
            · have h := h.1 c15
              obtain ⟨y16, ey16⟩ : ∃ z : Int32, z = z6 + 1 := ⟨_, rfl⟩
              have h := h y16 ey16
              refine lv_iinc (v := y16) (lv' := [(6, .int y16), (7, .int 0), (5, .int z5), (4, .int z4), (3, .int r2), (2, .int r1), (0, .ref (ad 4))]) C.1 C.2.1 dX0_hersAbout_76 hl (k := 1) rfl (by rw [ey16]; rfl) (by decide) rfl (fun ls hl => ?_)
              refine lv_goto (tgt := 27) C.1 C.2.1 dX0_hersAbout_79 (by decide) ?_
              exact ih _ _ h _ _ hG ls (lv_sub hl [0, 2, 3, 4, 5, 6] rfl)
            · have h := h.2 c15
              obtain ⟨y17, ey17⟩ : ∃ z : Int32, z = z4 + 1 := ⟨_, rfl⟩
              have h := h y17 ey17
              refine lv_iinc (v := y17) (lv' := [(4, .int y17), (7, .int 0), (6, .int z6), (5, .int z5), (3, .int r2), (2, .int r1), (0, .ref (ad 4))]) C.1 C.2.1 dX0_hersAbout_73 hl (k := 3) rfl (by rw [ey17]; rfl) (by decide) rfl (fun ls hl => ?_)
              obtain ⟨y18, ey18⟩ : ∃ z : Int32, z = z6 + 1 := ⟨_, rfl⟩
              have h := h y18 ey18
              refine lv_iinc (v := y18) (lv' := [(6, .int y18), (4, .int y17), (7, .int 0), (5, .int z5), (3, .int r2), (2, .int r1), (0, .ref (ad 4))]) C.1 C.2.1 dX0_hersAbout_76 hl (k := 2) rfl (by rw [ey18]; rfl) (by decide) rfl (fun ls hl => ?_)
              refine lv_goto (tgt := 27) C.1 C.2.1 dX0_hersAbout_79 (by decide) ?_
              exact ih _ _ h _ _ hG ls (lv_sub hl [0, 3, 1, 4, 5, 6] rfl)
        · have h := h.2 c12
          refine lv_iconst (v := 1) C.1 C.2.1 dX0_hersAbout_43 (by decide) ?_
          refine lv_goto (tgt := 48) C.1 C.2.1 dX0_hersAbout_44 (by decide) ?_
          refine lv_istore (lv' := [(7, .int 1), (6, .int z6), (5, .int z5), (4, .int z4), (3, .int r2), (2, .int r1), (0, .ref (ad 4))]) C.1 C.2.1 dX0_hersAbout_48 hl (by decide) rfl (fun ls hl => ?_)
          refine lv_iload C.1 C.2.1 dX0_hersAbout_50 (lv_at hl 0 rfl) ?_
          refine lv_if_ne (tgt := 76) C.1 C.2.1 dX0_hersAbout_52 (by decide) (fun c19 => ?_) (fun c19 => ?_)
          · obtain ⟨y20, ey20⟩ : ∃ z : Int32, z = z6 + 1 := ⟨_, rfl⟩
            have h := h y20 ey20
            refine lv_iinc (v := y20) (lv' := [(6, .int y20), (7, .int 1), (5, .int z5), (4, .int z4), (3, .int r2), (2, .int r1), (0, .ref (ad 4))]) C.1 C.2.1 dX0_hersAbout_76 hl (k := 1) rfl (by rw [ey20]; rfl) (by decide) rfl (fun ls hl => ?_)
            refine lv_goto (tgt := 27) C.1 C.2.1 dX0_hersAbout_79 (by decide) ?_
            exact ih _ _ h _ _ hG ls (lv_sub hl [0, 2, 3, 4, 5, 6] rfl)
          · exact absurd c19 (by decide)

set_option maxHeartbeats 4000000 in
set_option maxRecDepth 100000 in
theorem soX0_hersAbout_L18 {p : Program} {l : Launch} {e : Env} {s : State} {m : MethodId} {args : Array Value} {below : List Frame} {meth : Method} {c : Code} {A : Nat → Prop} {G : fw_G} {ad : Nat → Nat} {kt : kw_T} {x1 : Int32} {r2 : Int32} {r1 : Int32} {iv : fw_F} {ar : fw_R} {Q : Int32 → Prop} {K : Int32 → Int32 → Prop} (C : fw_C p s m args meth c cX0_hersAbout 8 (some .int) wsX0_hersAbout RX0) (hK : fw_K G A s)  (hX : ∀ (z4 : Int32) (z5 : Int32), K z4 z5 → ∀ (H : Heap) (locs : List Loc), fw_H G ((kw G ad kt) iv ar) A s H locs → ∀ (ls : Array Slot), lv_has ls 8 [(5, .int z5), (4, .int z4), (3, .int r2), (2, .int r1), (0, .ref (ad 4))] → W p l e rmX0_hersAbout s m args below meth c H locs 0 0 (MQ below (fw_Qi G (kw G ad kt) (fun r iv1 ar1 => Q r ∧ iv = iv1 ∧ ar = ar1) A) args s 0 0 A) (F0 m 88 ls [])) : ∀ (fu : Nat) (z4 : Int32) (z5 : Int32), wpX0_hersAbout_L18 kt x1 r2 r1 iv ar Q K fu z4 z5 → ∀ (H : Heap) (locs : List Loc), fw_H G ((kw G ad kt) iv ar) A s H locs → ∀ (ls : Array Slot), lv_has ls 8 [(5, .int z5), (4, .int z4), (3, .int r2), (2, .int r1), (0, .ref (ad 4))] → W p l e rmX0_hersAbout s m args below meth c H locs 0 0 (MQ below (fw_Qi G (kw G ad kt) (fun r iv1 ar1 => Q r ∧ iv = iv1 ∧ ar = ar1) A) args s 0 0 A) (F0 m 18 ls []) := by
  intro fu
  induction fu with
  | zero => intro z4 z5 h; exact h.elim
  | succ fu ih =>
    intro z4 z5 h H locs hG ls hl
    unfold wpX0_hersAbout_L18 at h
    refine lv_iload C.1 C.2.1 dX0_hersAbout_18 (lv_at hl 0 rfl) ?_
    refine lv_iconst (v := 1) C.1 C.2.1 dX0_hersAbout_20 (by decide) ?_
    refine lv_icmp_gt (tgt := 88) C.1 C.2.1 dX0_hersAbout_21 (by decide) (fun c3 => ?_) (fun c3 => ?_)
    · have h := h.1 c3
      exact hX _ _ h _ _ hG ls (lv_sub hl [0, 1, 2, 3, 4] rfl)
    · have h := h.2 c3
      refine lv_iconst (v := (-1)) C.1 C.2.1 dX0_hersAbout_24 (by decide) ?_
      refine lv_istore (lv' := [(6, .int (-1)), (5, .int z5), (4, .int z4), (3, .int r2), (2, .int r1), (0, .ref (ad 4))]) C.1 C.2.1 dX0_hersAbout_25 hl (by decide) rfl (fun ls hl => ?_)
      obtain ⟨ku, h⟩ := h
      refine soX0_hersAbout_L27 C hK  ?_ ku _ _ h _ _ hG ls (lv_sub hl [0, 1, 2, 3, 4, 5] rfl)
      intro w21 w22 h H locs hG ls hl
      obtain ⟨y23, ey23⟩ : ∃ z : Int32, z = z5 + 1 := ⟨_, rfl⟩
      have h := h y23 ey23
      refine lv_iinc (v := y23) (lv' := [(5, .int y23), (6, .int w22), (4, .int w21), (3, .int r2), (2, .int r1), (0, .ref (ad 4))]) C.1 C.2.1 dX0_hersAbout_82 hl (k := 1) rfl (by rw [ey23]; rfl) (by decide) rfl (fun ls hl => ?_)
      refine lv_goto (tgt := 18) C.1 C.2.1 dX0_hersAbout_85 (by decide) ?_
      exact ih _ _ h _ _ hG ls (lv_sub hl [0, 2, 3, 4, 5] rfl)

set_option maxHeartbeats 4000000 in
set_option maxRecDepth 100000 in
theorem soX0_hersAbout (l : Launch) (G : fw_G) (ad : Nat → Nat) (kt : kw_T) (iv : fw_F) (ar : fw_R) (x1 : Int32) (Q : Int32 → Prop)  (h : wpX0_hersAbout kt iv ar x1 Q) : fw_M l G (kw G ad kt) yX0_hersAbout wsX0_hersAbout rmX0_hersAbout [.ref (ad 4), .int x1] iv ar (fw_Qi G (kw G ad kt) (fun r iv1 ar1 => Q r ∧ iv = iv1 ∧ ar = ar1)) := by
  refine fw_start (cc := cX0_hersAbout) (nL := 8) (rt := (some .int)) (by decide) rfl (Nat.le_of_ble_eq_true rfl) ?_
  intro p e s m below meth c A ls H locs C hK hG hl
  obtain ⟨args, ea⟩ : ∃ z : Array Value, z = ([.ref (ad 4), .int x1] : List Value).toArray := ⟨_, rfl⟩
  rw [← ea] at C ⊢
  have C : fw_C p s m args meth c cX0_hersAbout 8 (some .int) wsX0_hersAbout RX0 := C
  have hl : lv_has ls 8 [(0, .ref (ad 4)), (1, .int x1)] := hl
  unfold wpX0_hersAbout at h
  refine lv_aload_n C.1 C.2.1 dX0_hersAbout_0 rfl (lv_at hl 0 rfl) ?_
  refine lv_iload_n C.1 C.2.1 dX0_hersAbout_1 rfl (lv_at hl 1 rfl) ?_
  refine fw_rcalli (va_runV (As := [.int x1]) (rest := []) ⟨C.1, C.2.1, C.2.2.2.2.2.2, C.2.2.2.2.2.1, C.2.2.2.2.1⟩ (soX0_rowOf l G ad kt iv ar x1 _  h H.size) (cwV 1 C.2.2.2.2.1 gX0_hersAbout_X0_rowOf rfl rfl rfl (by decide +kernel) ⟨Nat.le_of_ble_eq_true rfl, Nat.le_of_ble_eq_true rfl⟩) (fw_preV hG hK (ci := 0) rfl kw_o0) rfl rfl hl.1 rfl (lv_room (Nat.le_of_ble_eq_true rfl)) dX0_hersAbout_2 ⟨Nat.zero_le _, Nat.zero_le _⟩) hG hK (fun r1  H locs h hG => ?_)
  refine lv_istore_n (lv' := [(2, .int r1), (0, .ref (ad 4)), (1, .int x1)]) C.1 C.2.1 dX0_hersAbout_5 rfl hl (by decide) rfl (fun ls hl => ?_)
  refine lv_aload_n C.1 C.2.1 dX0_hersAbout_6 rfl (lv_at hl 1 rfl) ?_
  refine lv_iload_n C.1 C.2.1 dX0_hersAbout_7 rfl (lv_at hl 2 rfl) ?_
  refine fw_rcalli (va_runV (As := [.int x1]) (rest := []) ⟨C.1, C.2.1, C.2.2.2.2.2.2, C.2.2.2.2.2.1, C.2.2.2.2.1⟩ (soX0_columnOf l G ad kt iv ar x1 _  h H.size) (cwV 1 C.2.2.2.2.1 gX0_hersAbout_X0_columnOf rfl rfl rfl (by decide +kernel) ⟨Nat.le_of_ble_eq_true rfl, Nat.le_of_ble_eq_true rfl⟩) (fw_preV hG hK (ci := 0) rfl kw_o0) rfl rfl hl.1 rfl (lv_room (Nat.le_of_ble_eq_true rfl)) dX0_hersAbout_8 ⟨Nat.zero_le _, Nat.zero_le _⟩) hG hK (fun r2  H locs h hG => ?_)
  refine lv_istore_n (lv' := [(3, .int r2), (2, .int r1), (0, .ref (ad 4)), (1, .int x1)]) C.1 C.2.1 dX0_hersAbout_11 rfl hl (by decide) rfl (fun ls hl => ?_)
  refine lv_iconst (v := 0) C.1 C.2.1 dX0_hersAbout_12 (by decide) ?_
  refine lv_istore (lv' := [(4, .int 0), (3, .int r2), (2, .int r1), (0, .ref (ad 4)), (1, .int x1)]) C.1 C.2.1 dX0_hersAbout_13 hl (by decide) rfl (fun ls hl => ?_)
  refine lv_iconst (v := (-1)) C.1 C.2.1 dX0_hersAbout_15 (by decide) ?_
  refine lv_istore (lv' := [(5, .int (-1)), (4, .int 0), (3, .int r2), (2, .int r1), (0, .ref (ad 4)), (1, .int x1)]) C.1 C.2.1 dX0_hersAbout_16 hl (by decide) rfl (fun ls hl => ?_)
  obtain ⟨ku, h⟩ := h
  refine soX0_hersAbout_L18 C hK  ?_ ku _ _ h _ _ hG ls (lv_sub hl [0, 1, 2, 3, 4] rfl)
  intro w24 w25 h H locs hG ls hl
  refine lv_iload C.1 C.2.1 dX0_hersAbout_88 (lv_at hl 1 rfl) ?_
  exact fw_iret C hG ⟨h, rfl, rfl⟩ dX0_hersAbout_90
/-! KnifeBoard$Hand.areZeros([III)Z -/
def rmX1_areZeros : Room := { frames := 1, cells := 0, slots := 0, locals := 21 }
def wpX1_areZeros_L6 (kt : kw_T) (x1 : Int32) (x2 : Int32) (iv : fw_F) (ar : fw_R) (Q : Int32 → Prop) (K : Int32 → Prop) : Nat → Int32 → Prop
  | 0, _ => False
  | fu + 1, z3 => (x2 ≤ z3 → (K z3)) ∧ (¬ x2 ≤ z3 → ((80 ≤ z3 → (K z3)) ∧ (¬ 80 ≤ z3 → (vp_in z3 80 ∧ ((((ar 25) z3.toNatClampNeg) = 48 → (∀ y6 : Int32, y6 = z3 + 1 → (wpX1_areZeros_L6 kt x1 x2 iv ar Q K fu y6))) ∧ (¬ ((ar 25) z3.toNatClampNeg) = 48 → (Q 0)))))))
def wpX1_areZeros (kt : kw_T) (iv : fw_F) (ar : fw_R) (x1 : Int32) (x2 : Int32) (Q : Int32 → Prop) : Prop := ∀ y1 : Int32, y1 = (if 0 < x1 then x1 else 0) → (∃ ku : Nat, wpX1_areZeros_L6 kt x1 x2 iv ar Q (fun (w7 : Int32) => Q 1) ku y1)
set_option maxHeartbeats 4000000 in
set_option maxRecDepth 100000 in
theorem soX1_areZeros_L6 {p : Program} {l : Launch} {e : Env} {s : State} {m : MethodId} {args : Array Value} {below : List Frame} {meth : Method} {c : Code} {A : Nat → Prop} {G : fw_G} {ad : Nat → Nat} {kt : kw_T} {x1 : Int32} {x2 : Int32} {iv : fw_F} {ar : fw_R} {Q : Int32 → Prop} {K : Int32 → Prop} (C : fw_C p s m args meth c cX1_areZeros 4 (some .boolean) wsX1_areZeros RX1) (hK : fw_K G A s)  (hX : ∀ (z3 : Int32), K z3 → ∀ (H : Heap) (locs : List Loc), fw_H G ((kw G ad kt) iv ar) A s H locs → ∀ (ls : Array Slot), lv_has ls 4 [(3, .int z3), (0, .ref (ad 25)), (2, .int x2)] → W p l e rmX1_areZeros s m args below meth c H locs 0 0 (MQ below (fw_Qi G (kw G ad kt) (fun r iv1 ar1 => Q r ∧ iv = iv1 ∧ ar = ar1) A) args s 0 0 A) (F0 m 33 ls [])) : ∀ (fu : Nat) (z3 : Int32), wpX1_areZeros_L6 kt x1 x2 iv ar Q K fu z3 → ∀ (H : Heap) (locs : List Loc), fw_H G ((kw G ad kt) iv ar) A s H locs → ∀ (ls : Array Slot), lv_has ls 4 [(3, .int z3), (0, .ref (ad 25)), (2, .int x2)] → W p l e rmX1_areZeros s m args below meth c H locs 0 0 (MQ below (fw_Qi G (kw G ad kt) (fun r iv1 ar1 => Q r ∧ iv = iv1 ∧ ar = ar1) A) args s 0 0 A) (F0 m 6 ls []) := by
  intro fu
  induction fu with
  | zero => intro z3 h; exact h.elim
  | succ fu ih =>
    intro z3 h H locs hG ls hl
    unfold wpX1_areZeros_L6 at h
    refine lv_iload_n C.1 C.2.1 dX1_areZeros_6 rfl (lv_at hl 0 rfl) ?_
    refine lv_iload_n C.1 C.2.1 dX1_areZeros_7 rfl (lv_at hl 2 rfl) ?_
    refine lv_icmp_ge (tgt := 33) C.1 C.2.1 dX1_areZeros_8 (by decide) (fun c2 => ?_) (fun c2 => ?_)
    · have h := h.1 c2
      exact hX _ h _ _ hG ls (lv_sub hl [0, 1, 2] rfl)
    · have h := h.2 c2
      refine lv_iload_n C.1 C.2.1 dX1_areZeros_11 rfl (lv_at hl 0 rfl) ?_
      refine lv_aload_n C.1 C.2.1 dX1_areZeros_12 rfl (lv_at hl 1 rfl) ?_
      refine va_alen (v := 80) C.1 C.2.1 hK.1 hG.1 25 0 (kw_a25 : ((kw G ad kt) iv ar)[25]? = _) rfl rfl dX1_areZeros_13 ?_
      refine lv_icmp_ge (tgt := 33) C.1 C.2.1 dX1_areZeros_14 (by decide) (fun c3 => ?_) (fun c3 => ?_)
      · have h := h.1 c3
        exact hX _ h _ _ hG ls (lv_sub hl [0, 1, 2] rfl)
      · have h := h.2 c3
        refine lv_aload_n C.1 C.2.1 dX1_areZeros_17 rfl (lv_at hl 1 rfl) ?_
        refine lv_iload_n C.1 C.2.1 dX1_areZeros_18 rfl (lv_at hl 0 rfl) ?_
        obtain ⟨c4, h⟩ := h
        refine fw_iald (w := (kw G ad kt)) C hK hG 25 kw_a25 c4 dX1_areZeros_19 ?_
        refine lv_bipush (v := 48) C.1 C.2.1 dX1_areZeros_20 (by decide) ?_
        refine lv_icmp_eq (tgt := 27) C.1 C.2.1 dX1_areZeros_22 (by decide) (fun c5 => ?_) (fun c5 => ?_)
        · have h := h.1 c5
          obtain ⟨y6, ey6⟩ : ∃ z : Int32, z = z3 + 1 := ⟨_, rfl⟩
          have h := h y6 ey6
          refine lv_iinc (v := y6) (lv' := [(3, .int y6), (0, .ref (ad 25)), (2, .int x2)]) C.1 C.2.1 dX1_areZeros_27 hl (k := 0) rfl (by rw [ey6]; rfl) (by decide) rfl (fun ls hl => ?_)
          refine lv_goto (tgt := 6) C.1 C.2.1 dX1_areZeros_30 (by decide) ?_
          exact ih _ h _ _ hG ls (lv_sub hl [0, 1, 2] rfl)
        · have h := h.2 c5
          refine lv_iconst (v := 0) C.1 C.2.1 dX1_areZeros_25 (by decide) ?_
          exact fw_zret C hG (by decide) ⟨h, rfl, rfl⟩ dX1_areZeros_26

set_option maxHeartbeats 4000000 in
set_option maxRecDepth 100000 in
theorem soX1_areZeros (l : Launch) (G : fw_G) (ad : Nat → Nat) (kt : kw_T) (iv : fw_F) (ar : fw_R) (x1 : Int32) (x2 : Int32) (Q : Int32 → Prop)  (h : wpX1_areZeros kt iv ar x1 x2 Q) : fw_M l G (kw G ad kt) yX1_areZeros wsX1_areZeros rmX1_areZeros [.ref (ad 25), .int x1, .int x2] iv ar (fw_Qi G (kw G ad kt) (fun r iv1 ar1 => Q r ∧ iv = iv1 ∧ ar = ar1)) := by
  refine fw_start (cc := cX1_areZeros) (nL := 4) (rt := (some .boolean)) (by decide) rfl (Nat.le_of_ble_eq_true rfl) ?_
  intro p e s m below meth c A ls H locs C hK hG hl
  obtain ⟨args, ea⟩ : ∃ z : Array Value, z = ([.ref (ad 25), .int x1, .int x2] : List Value).toArray := ⟨_, rfl⟩
  rw [← ea] at C ⊢
  have C : fw_C p s m args meth c cX1_areZeros 4 (some .boolean) wsX1_areZeros RX1 := C
  have hl : lv_has ls 4 [(0, .ref (ad 25)), (1, .int x1), (2, .int x2)] := hl
  unfold wpX1_areZeros at h
  have m39 := C.2.2.2.2.1 (.methodLink RX1 39 Lib.Math.max.name) (by decide +kernel)
  have mc_max : (Cond.code Lib.Math.max.name Lib.Math.max.code 2 (some .int)).before args s = true := C.2.2.2.2.1 _ (by decide +kernel)
  have mi_ := C.2.2.2.2.1 (.initialized "java/lang/Math") (by decide +kernel)
  have ms_max := C.2.2.2.2.1 (.static Lib.Math.max.name) (by decide +kernel)
  refine lv_iconst (v := 0) C.1 C.2.1 dX1_areZeros_0 (by decide) ?_
  refine lv_iload_n C.1 C.2.1 dX1_areZeros_1 rfl (lv_at hl 1 rfl) ?_
  refine va_mmax C.1 C.2.1 (by rw [C.2.2.2.2.2.2]; exact hl.1.symm) C.2.2.2.2.2.1 m39 ms_max mi_ mc_max (Nat.le_of_ble_eq_true rfl) (Nat.le_of_ble_eq_true rfl) (Nat.zero_le _) (Nat.zero_le _) dX1_areZeros_2 ?_
  refine lv_topi (fun y1 ey1 => ?_)
  have h := h y1 ey1
  refine lv_istore_n (lv' := [(3, .int y1), (0, .ref (ad 25)), (1, .int x1), (2, .int x2)]) C.1 C.2.1 dX1_areZeros_5 rfl hl (by decide) rfl (fun ls hl => ?_)
  obtain ⟨ku, h⟩ := h
  refine soX1_areZeros_L6 C hK  ?_ ku _ h _ _ hG ls (lv_sub hl [0, 1, 3] rfl)
  intro w7 h H locs hG ls hl
  refine lv_iconst (v := 1) C.1 C.2.1 dX1_areZeros_33 (by decide) ?_
  exact fw_zret C hG (by decide) ⟨h, rfl, rfl⟩ dX1_areZeros_34
/-! KnifeBoard$Hand.goesOn([II)Z -/
def rmX1_goesOn : Room := { frames := 2, cells := 0, slots := 0, locals := 44 }
def wpX1_goesOn (kt : kw_T) (iv : fw_F) (ar : fw_R) (x1 : Int32) (Q : Int32 → Prop) : Prop := (23 ≤ x1 → (Q 0)) ∧ (¬ 23 ≤ x1 → ((x1 < 80 → (vp_in x1 80 ∧ (∀ y4 : Int32, y4 = (ar 25) x1.toNatClampNeg → (∀ y5 : Int32, y5 = x1 / 7 → (∀ y6 : Int32, y6 = x1 - x1 / 7 * 7 → ((¬ y6 = 0 → ((¬ y6 = 6 → ((¬ y5 = 3 → (wpX9_within y4 48 57 (fun (r10 : Int32) => (¬ r10 = 0 → ((y6 < 5 → (Q 1)) ∧ (¬ y6 < 5 → ((¬ y4 = 48 → (Q 1)) ∧ (y4 = 48 → (wpX1_areZeros kt iv ar (x1 - 4) x1 (fun (r14 : Int32) => (¬ r14 = 0 → (Q 0)) ∧ (r14 = 0 → (Q 1))))))))) ∧ (r10 = 0 → (Q 0))))) ∧ (y5 = 3 → (wpX9_within y4 49 57 (fun (r16 : Int32) => (r16 = 0 ∨ r16 = 1) ∧ Q r16))))) ∧ (y6 = 6 → ((¬ y4 = 59 → (Q 0)) ∧ (y4 = 59 → (Q 1)))))) ∧ (y6 = 0 → (vp_in y5 4 ∧ ((¬ y4 = (fw_LI y5.toNatClampNeg) → (Q 0)) ∧ (y4 = (fw_LI y5.toNatClampNeg) → (Q 1))))))))))) ∧ (¬ x1 < 80 → (Q 0))))
set_option maxHeartbeats 4000000 in
set_option maxRecDepth 100000 in
theorem soX1_goesOn (l : Launch) (G : fw_G) (ad : Nat → Nat) (kt : kw_T) (iv : fw_F) (ar : fw_R) (x1 : Int32) (Q : Int32 → Prop)  (h : wpX1_goesOn kt iv ar x1 Q) : fw_M l G (kw G ad kt) yX1_goesOn wsX1_goesOn rmX1_goesOn [.ref (ad 25), .int x1] iv ar (fw_Qi G (kw G ad kt) (fun r iv1 ar1 => Q r ∧ iv = iv1 ∧ ar = ar1)) := by
  refine fw_start (cc := cX1_goesOn) (nL := 5) (rt := (some .boolean)) (by decide) rfl (Nat.le_of_ble_eq_true rfl) ?_
  intro p e s m below meth c A ls H locs C hK hG hl
  obtain ⟨args, ea⟩ : ∃ z : Array Value, z = ([.ref (ad 25), .int x1] : List Value).toArray := ⟨_, rfl⟩
  rw [← ea] at C ⊢
  have C : fw_C p s m args meth c cX1_goesOn 5 (some .boolean) wsX1_goesOn RX1 := C
  have hl : lv_has ls 5 [(0, .ref (ad 25)), (1, .int x1)] := hl
  unfold wpX1_goesOn at h
  have k27 := C.2.2.2.2.1 (.fieldLink RX1 27 "KnifeBoard$Hand" "LETTERS" "[C") (by decide +kernel)
  refine lv_iload_n C.1 C.2.1 dX1_goesOn_0 rfl (lv_at hl 1 rfl) ?_
  refine lv_bipush (v := 23) C.1 C.2.1 dX1_goesOn_1 (by decide) ?_
  refine lv_icmp_ge (tgt := 12) C.1 C.2.1 dX1_goesOn_3 (by decide) (fun c1 => ?_) (fun c1 => ?_)
  · have h := h.1 c1
    refine lv_iconst (v := 0) C.1 C.2.1 dX1_goesOn_12 (by decide) ?_
    exact fw_zret C hG (by decide) ⟨h, rfl, rfl⟩ dX1_goesOn_13
  · have h := h.2 c1
    refine lv_iload_n C.1 C.2.1 dX1_goesOn_6 rfl (lv_at hl 1 rfl) ?_
    refine lv_aload_n C.1 C.2.1 dX1_goesOn_7 rfl (lv_at hl 0 rfl) ?_
    refine va_alen (v := 80) C.1 C.2.1 hK.1 hG.1 25 0 (kw_a25 : ((kw G ad kt) iv ar)[25]? = _) rfl rfl dX1_goesOn_8 ?_
    refine lv_icmp_lt (tgt := 14) C.1 C.2.1 dX1_goesOn_9 (by decide) (fun c2 => ?_) (fun c2 => ?_)
    · have h := h.1 c2
      refine lv_aload_n C.1 C.2.1 dX1_goesOn_14 rfl (lv_at hl 0 rfl) ?_
      refine lv_iload_n C.1 C.2.1 dX1_goesOn_15 rfl (lv_at hl 1 rfl) ?_
      obtain ⟨c3, h⟩ := h
      refine fw_iald (w := (kw G ad kt)) C hK hG 25 kw_a25 c3 dX1_goesOn_16 ?_
      refine lv_topi (fun y4 ey4 => ?_)
      have h := h y4 ey4
      refine lv_istore_n (lv' := [(2, .int y4), (0, .ref (ad 25)), (1, .int x1)]) C.1 C.2.1 dX1_goesOn_17 rfl hl (by decide) rfl (fun ls hl => ?_)
      refine lv_iload_n C.1 C.2.1 dX1_goesOn_18 rfl (lv_at hl 2 rfl) ?_
      refine lv_bipush (v := 7) C.1 C.2.1 dX1_goesOn_19 (by decide) ?_
      refine lv_idiv C.1 C.2.1 dX1_goesOn_21 (by decide) ?_
      refine lv_topi (fun y5 ey5 => ?_)
      have h := h y5 ey5
      refine lv_istore_n (lv' := [(3, .int y5), (2, .int y4), (0, .ref (ad 25)), (1, .int x1)]) C.1 C.2.1 dX1_goesOn_22 rfl hl (by decide) rfl (fun ls hl => ?_)
      refine lv_iload_n C.1 C.2.1 dX1_goesOn_23 rfl (lv_at hl 3 rfl) ?_
      refine lv_bipush (v := 7) C.1 C.2.1 dX1_goesOn_24 (by decide) ?_
      refine lv_irem C.1 C.2.1 dX1_goesOn_26 (by decide) ?_
      refine lv_topi (fun y6 ey6 => ?_)
      have h := h y6 ey6
      refine lv_istore (lv' := [(4, .int y6), (3, .int y5), (2, .int y4), (0, .ref (ad 25)), (1, .int x1)]) C.1 C.2.1 dX1_goesOn_27 hl (by decide) rfl (fun ls hl => ?_)
      refine lv_iload C.1 C.2.1 dX1_goesOn_29 (lv_at hl 0 rfl) ?_
      refine lv_if_ne (tgt := 49) C.1 C.2.1 dX1_goesOn_31 (by decide) (fun c7 => ?_) (fun c7 => ?_)
      · have h := h.1 c7
        refine lv_iload C.1 C.2.1 dX1_goesOn_49 (lv_at hl 0 rfl) ?_
        refine lv_bipush (v := 6) C.1 C.2.1 dX1_goesOn_51 (by decide) ?_
        refine lv_icmp_ne (tgt := 68) C.1 C.2.1 dX1_goesOn_53 (by decide) (fun c8 => ?_) (fun c8 => ?_)
        · have h := h.1 c8
          refine lv_iload_n C.1 C.2.1 dX1_goesOn_68 rfl (lv_at hl 1 rfl) ?_
          refine lv_iconst (v := 3) C.1 C.2.1 dX1_goesOn_69 (by decide) ?_
          refine lv_icmp_ne (tgt := 82) C.1 C.2.1 dX1_goesOn_70 (by decide) (fun c9 => ?_) (fun c9 => ?_)
          · have h := h.1 c9
            refine lv_iload_n C.1 C.2.1 dX1_goesOn_82 rfl (lv_at hl 2 rfl) ?_
            refine lv_bipush (v := 48) C.1 C.2.1 dX1_goesOn_83 (by decide) ?_
            refine lv_bipush (v := 57) C.1 C.2.1 dX1_goesOn_85 (by decide) ?_
            refine fw_pcalli (va_runSN (As := [.int y4, .int 48, .int 57]) (rest := []) ⟨C.1, C.2.1, C.2.2.2.2.2.2, C.2.2.2.2.2.1, C.2.2.2.2.1⟩ (soX9_within l y4 48 57 _ h H.size) ⟨va_cnB 3 C.2.2.2.2.1 gX1_goesOn_X9_within_n31 rfl rfl rfl hK.2.1.1.2.1 (C.2.2.2.2.1 (.initialized RX9) (by decide +kernel)) (by decide +kernel) ⟨Nat.le_of_ble_eq_true rfl, Nat.le_of_ble_eq_true rfl⟩, C.2.2.2.2.1 (.static yX9_within) (by decide +kernel), trivial⟩ fw_ppre rfl rfl hl.1 rfl (lv_room (Nat.le_of_ble_eq_true rfl)) dX1_goesOn_87 ⟨Nat.zero_le _, Nat.zero_le _⟩) hG hK (fun r10  H locs h hG => ?_)
            refine lv_if_ne (tgt := 95) C.1 C.2.1 dX1_goesOn_90 (by decide) (fun c11 => ?_) (fun c11 => ?_)
            · have h := h.1 c11
              refine lv_iload C.1 C.2.1 dX1_goesOn_95 (lv_at hl 0 rfl) ?_
              refine lv_iconst (v := 5) C.1 C.2.1 dX1_goesOn_97 (by decide) ?_
              refine lv_icmp_lt (tgt := 118) C.1 C.2.1 dX1_goesOn_98 (by decide) (fun c12 => ?_) (fun c12 => ?_)
              · have h := h.1 c12
                refine lv_iconst (v := 1) C.1 C.2.1 dX1_goesOn_118 (by decide) ?_
                refine lv_goto (tgt := 123) C.1 C.2.1 dX1_goesOn_119 (by decide) ?_
                exact fw_zret C hG (by decide) ⟨h, rfl, rfl⟩ dX1_goesOn_123
              · have h := h.2 c12
                refine lv_iload_n C.1 C.2.1 dX1_goesOn_101 rfl (lv_at hl 2 rfl) ?_
                refine lv_bipush (v := 48) C.1 C.2.1 dX1_goesOn_102 (by decide) ?_
                refine lv_icmp_ne (tgt := 118) C.1 C.2.1 dX1_goesOn_104 (by decide) (fun c13 => ?_) (fun c13 => ?_)
                · have h := h.1 c13
                  refine lv_iconst (v := 1) C.1 C.2.1 dX1_goesOn_118 (by decide) ?_
                  refine lv_goto (tgt := 123) C.1 C.2.1 dX1_goesOn_119 (by decide) ?_
                  exact fw_zret C hG (by decide) ⟨h, rfl, rfl⟩ dX1_goesOn_123
                · have h := h.2 c13
                  refine lv_aload_n C.1 C.2.1 dX1_goesOn_107 rfl (lv_at hl 3 rfl) ?_
                  refine lv_iload_n C.1 C.2.1 dX1_goesOn_108 rfl (lv_at hl 4 rfl) ?_
                  refine lv_iconst (v := 4) C.1 C.2.1 dX1_goesOn_109 (by decide) ?_
                  refine lv_isub C.1 C.2.1 dX1_goesOn_110 ?_
                  refine lv_iload_n C.1 C.2.1 dX1_goesOn_111 rfl (lv_at hl 4 rfl) ?_
                  refine fw_rcalli (va_runS (As := [.ref (ad 25), .int (x1 - 4), .int x1]) (rest := []) ⟨C.1, C.2.1, C.2.2.2.2.2.2, C.2.2.2.2.2.1, C.2.2.2.2.1⟩ (soX1_areZeros l G ad kt iv ar (x1 - 4) x1 _  h H.size) (va_cwS 3 C.2.2.2.2.1 gX1_goesOn_X1_areZeros rfl rfl rfl (by decide +kernel) ⟨Nat.le_of_ble_eq_true rfl, Nat.le_of_ble_eq_true rfl⟩) (fw_preS hG hK) rfl rfl hl.1 rfl (lv_room (Nat.le_of_ble_eq_true rfl)) dX1_goesOn_112 ⟨Nat.zero_le _, Nat.zero_le _⟩) hG hK (fun r14  H locs h hG => ?_)
                  refine lv_if_ne (tgt := 122) C.1 C.2.1 dX1_goesOn_115 (by decide) (fun c15 => ?_) (fun c15 => ?_)
                  · have h := h.1 c15
                    refine lv_iconst (v := 0) C.1 C.2.1 dX1_goesOn_122 (by decide) ?_
                    exact fw_zret C hG (by decide) ⟨h, rfl, rfl⟩ dX1_goesOn_123
                  · have h := h.2 c15
                    refine lv_iconst (v := 1) C.1 C.2.1 dX1_goesOn_118 (by decide) ?_
                    refine lv_goto (tgt := 123) C.1 C.2.1 dX1_goesOn_119 (by decide) ?_
                    exact fw_zret C hG (by decide) ⟨h, rfl, rfl⟩ dX1_goesOn_123
            · have h := h.2 c11
              refine lv_iconst (v := 0) C.1 C.2.1 dX1_goesOn_93 (by decide) ?_
              exact fw_zret C hG (by decide) ⟨h, rfl, rfl⟩ dX1_goesOn_94
          · have h := h.2 c9
            refine lv_iload_n C.1 C.2.1 dX1_goesOn_73 rfl (lv_at hl 2 rfl) ?_
            refine lv_bipush (v := 49) C.1 C.2.1 dX1_goesOn_74 (by decide) ?_
            refine lv_bipush (v := 57) C.1 C.2.1 dX1_goesOn_76 (by decide) ?_
            refine fw_pcalli (va_runSN (As := [.int y4, .int 49, .int 57]) (rest := []) ⟨C.1, C.2.1, C.2.2.2.2.2.2, C.2.2.2.2.2.1, C.2.2.2.2.1⟩ (soX9_within l y4 49 57 _ h H.size) ⟨va_cnB 3 C.2.2.2.2.1 gX1_goesOn_X9_within_n31 rfl rfl rfl hK.2.1.1.2.1 (C.2.2.2.2.1 (.initialized RX9) (by decide +kernel)) (by decide +kernel) ⟨Nat.le_of_ble_eq_true rfl, Nat.le_of_ble_eq_true rfl⟩, C.2.2.2.2.1 (.static yX9_within) (by decide +kernel), trivial⟩ fw_ppre rfl rfl hl.1 rfl (lv_room (Nat.le_of_ble_eq_true rfl)) dX1_goesOn_78 ⟨Nat.zero_le _, Nat.zero_le _⟩) hG hK (fun r16  H locs h hG => ?_)
            obtain ⟨cb, h⟩ := h
            exact fw_zret C hG (fw_nb cb) ⟨h, rfl, rfl⟩ dX1_goesOn_81
        · have h := h.2 c8
          refine lv_iload_n C.1 C.2.1 dX1_goesOn_56 rfl (lv_at hl 2 rfl) ?_
          refine lv_bipush (v := 59) C.1 C.2.1 dX1_goesOn_57 (by decide) ?_
          refine lv_icmp_ne (tgt := 66) C.1 C.2.1 dX1_goesOn_59 (by decide) (fun c17 => ?_) (fun c17 => ?_)
          · have h := h.1 c17
            refine lv_iconst (v := 0) C.1 C.2.1 dX1_goesOn_66 (by decide) ?_
            exact fw_zret C hG (by decide) ⟨h, rfl, rfl⟩ dX1_goesOn_67
          · have h := h.2 c17
            refine lv_iconst (v := 1) C.1 C.2.1 dX1_goesOn_62 (by decide) ?_
            refine lv_goto (tgt := 67) C.1 C.2.1 dX1_goesOn_63 (by decide) ?_
            exact fw_zret C hG (by decide) ⟨h, rfl, rfl⟩ dX1_goesOn_67
      · have h := h.2 c7
        refine lv_iload_n C.1 C.2.1 dX1_goesOn_34 rfl (lv_at hl 2 rfl) ?_
        refine va_gets C.1 C.2.1 hK.2.1.2.2.2.1 hG.2.2 C.2.2.2.2.2.1 k27 (fun _ z => z) dX1_goesOn_35 ?_
        refine lv_iload_n C.1 C.2.1 dX1_goesOn_38 rfl (lv_at hl 1 rfl) ?_
        obtain ⟨c18, h⟩ := h
        refine va_tc C.1 C.2.1 hK.2.1.2.2.2.2 hG.2.2 c18 (v := .int (fw_LI y5.toNatClampNeg)) rfl dX1_goesOn_39 ?_
        refine lv_icmp_ne (tgt := 47) C.1 C.2.1 dX1_goesOn_40 (by decide) (fun c19 => ?_) (fun c19 => ?_)
        · have h := h.1 c19
          refine lv_iconst (v := 0) C.1 C.2.1 dX1_goesOn_47 (by decide) ?_
          exact fw_zret C hG (by decide) ⟨h, rfl, rfl⟩ dX1_goesOn_48
        · have h := h.2 c19
          refine lv_iconst (v := 1) C.1 C.2.1 dX1_goesOn_43 (by decide) ?_
          refine lv_goto (tgt := 48) C.1 C.2.1 dX1_goesOn_44 (by decide) ?_
          exact fw_zret C hG (by decide) ⟨h, rfl, rfl⟩ dX1_goesOn_48
    · have h := h.2 c2
      refine lv_iconst (v := 0) C.1 C.2.1 dX1_goesOn_12 (by decide) ?_
      exact fw_zret C hG (by decide) ⟨h, rfl, rfl⟩ dX1_goesOn_13
/-! KnifeBoard$Hand.firstFault([II)I -/
def rmX1_firstFault : Room := { frames := 3, cells := 0, slots := 0, locals := 68 }
def wpX1_firstFault_L2 (kt : kw_T) (x1 : Int32) (iv : fw_F) (ar : fw_R) (Q : Int32 → Prop) (K : Int32 → Prop) : Nat → Int32 → Prop
  | 0, _ => False
  | fu + 1, z2 => (x1 ≤ z2 → (K z2)) ∧ (¬ x1 ≤ z2 → (wpX1_goesOn kt iv ar z2 (fun (r2 : Int32) => (¬ r2 = 0 → (∀ y4 : Int32, y4 = z2 + 1 → (wpX1_firstFault_L2 kt x1 iv ar Q K fu y4))) ∧ (r2 = 0 → (Q z2)))))
def wpX1_firstFault (kt : kw_T) (iv : fw_F) (ar : fw_R) (x1 : Int32) (Q : Int32 → Prop) : Prop := ∃ ku : Nat, wpX1_firstFault_L2 kt x1 iv ar Q (fun (w5 : Int32) => (x1 = 20 → (Q (-9))) ∧ (¬ x1 = 20 → ((¬ x1 = 23 → (Q x1)) ∧ (x1 = 23 → (Q (-9)))))) ku 0
set_option maxHeartbeats 4000000 in
set_option maxRecDepth 100000 in
theorem soX1_firstFault_L2 {p : Program} {l : Launch} {e : Env} {s : State} {m : MethodId} {args : Array Value} {below : List Frame} {meth : Method} {c : Code} {A : Nat → Prop} {G : fw_G} {ad : Nat → Nat} {kt : kw_T} {x1 : Int32} {iv : fw_F} {ar : fw_R} {Q : Int32 → Prop} {K : Int32 → Prop} (C : fw_C p s m args meth c cX1_firstFault 3 (some .int) wsX1_firstFault RX1) (hK : fw_K G A s)  (hX : ∀ (z2 : Int32), K z2 → ∀ (H : Heap) (locs : List Loc), fw_H G ((kw G ad kt) iv ar) A s H locs → ∀ (ls : Array Slot), lv_has ls 3 [(2, .int z2), (0, .ref (ad 25)), (1, .int x1)] → W p l e rmX1_firstFault s m args below meth c H locs 0 0 (MQ below (fw_Qi G (kw G ad kt) (fun r iv1 ar1 => Q r ∧ iv = iv1 ∧ ar = ar1) A) args s 0 0 A) (F0 m 23 ls [])) : ∀ (fu : Nat) (z2 : Int32), wpX1_firstFault_L2 kt x1 iv ar Q K fu z2 → ∀ (H : Heap) (locs : List Loc), fw_H G ((kw G ad kt) iv ar) A s H locs → ∀ (ls : Array Slot), lv_has ls 3 [(2, .int z2), (0, .ref (ad 25)), (1, .int x1)] → W p l e rmX1_firstFault s m args below meth c H locs 0 0 (MQ below (fw_Qi G (kw G ad kt) (fun r iv1 ar1 => Q r ∧ iv = iv1 ∧ ar = ar1) A) args s 0 0 A) (F0 m 2 ls []) := by
  intro fu
  induction fu with
  | zero => intro z2 h; exact h.elim
  | succ fu ih =>
    intro z2 h H locs hG ls hl
    unfold wpX1_firstFault_L2 at h
    refine lv_iload_n C.1 C.2.1 dX1_firstFault_2 rfl (lv_at hl 0 rfl) ?_
    refine lv_iload_n C.1 C.2.1 dX1_firstFault_3 rfl (lv_at hl 2 rfl) ?_
    refine lv_icmp_ge (tgt := 23) C.1 C.2.1 dX1_firstFault_4 (by decide) (fun c1 => ?_) (fun c1 => ?_)
    · have h := h.1 c1
      exact hX _ h _ _ hG ls (lv_sub hl [0, 1, 2] rfl)
    · have h := h.2 c1
      refine lv_aload_n C.1 C.2.1 dX1_firstFault_7 rfl (lv_at hl 1 rfl) ?_
      refine lv_iload_n C.1 C.2.1 dX1_firstFault_8 rfl (lv_at hl 0 rfl) ?_
      refine fw_rcalli (va_runS (As := [.ref (ad 25), .int z2]) (rest := []) ⟨C.1, C.2.1, C.2.2.2.2.2.2, C.2.2.2.2.2.1, C.2.2.2.2.1⟩ (soX1_goesOn l G ad kt iv ar z2 _  h H.size) (va_cwS 2 C.2.2.2.2.1 gX1_firstFault_X1_goesOn rfl rfl rfl (by decide +kernel) ⟨Nat.le_of_ble_eq_true rfl, Nat.le_of_ble_eq_true rfl⟩) (fw_preS hG hK) rfl rfl hl.1 rfl (lv_room (Nat.le_of_ble_eq_true rfl)) dX1_firstFault_9 ⟨Nat.zero_le _, Nat.zero_le _⟩) hG hK (fun r2  H locs h hG => ?_)
      refine lv_if_ne (tgt := 17) C.1 C.2.1 dX1_firstFault_12 (by decide) (fun c3 => ?_) (fun c3 => ?_)
      · have h := h.1 c3
        obtain ⟨y4, ey4⟩ : ∃ z : Int32, z = z2 + 1 := ⟨_, rfl⟩
        have h := h y4 ey4
        refine lv_iinc (v := y4) (lv' := [(2, .int y4), (0, .ref (ad 25)), (1, .int x1)]) C.1 C.2.1 dX1_firstFault_17 hl (k := 0) rfl (by rw [ey4]; rfl) (by decide) rfl (fun ls hl => ?_)
        refine lv_goto (tgt := 2) C.1 C.2.1 dX1_firstFault_20 (by decide) ?_
        exact ih _ h _ _ hG ls (lv_sub hl [0, 1, 2] rfl)
      · have h := h.2 c3
        refine lv_iload_n C.1 C.2.1 dX1_firstFault_15 rfl (lv_at hl 0 rfl) ?_
        exact fw_iret C hG ⟨h, rfl, rfl⟩ dX1_firstFault_16

set_option maxHeartbeats 4000000 in
set_option maxRecDepth 100000 in
theorem soX1_firstFault (l : Launch) (G : fw_G) (ad : Nat → Nat) (kt : kw_T) (iv : fw_F) (ar : fw_R) (x1 : Int32) (Q : Int32 → Prop)  (h : wpX1_firstFault kt iv ar x1 Q) : fw_M l G (kw G ad kt) yX1_firstFault wsX1_firstFault rmX1_firstFault [.ref (ad 25), .int x1] iv ar (fw_Qi G (kw G ad kt) (fun r iv1 ar1 => Q r ∧ iv = iv1 ∧ ar = ar1)) := by
  refine fw_start (cc := cX1_firstFault) (nL := 3) (rt := (some .int)) (by decide) rfl (Nat.le_of_ble_eq_true rfl) ?_
  intro p e s m below meth c A ls H locs C hK hG hl
  obtain ⟨args, ea⟩ : ∃ z : Array Value, z = ([.ref (ad 25), .int x1] : List Value).toArray := ⟨_, rfl⟩
  rw [← ea] at C ⊢
  have C : fw_C p s m args meth c cX1_firstFault 3 (some .int) wsX1_firstFault RX1 := C
  have hl : lv_has ls 3 [(0, .ref (ad 25)), (1, .int x1)] := hl
  unfold wpX1_firstFault at h
  refine lv_iconst (v := 0) C.1 C.2.1 dX1_firstFault_0 (by decide) ?_
  refine lv_istore_n (lv' := [(2, .int 0), (0, .ref (ad 25)), (1, .int x1)]) C.1 C.2.1 dX1_firstFault_1 rfl hl (by decide) rfl (fun ls hl => ?_)
  obtain ⟨ku, h⟩ := h
  refine soX1_firstFault_L2 C hK  ?_ ku _ h _ _ hG ls (lv_sub hl [0, 1, 2] rfl)
  intro w5 h H locs hG ls hl
  refine lv_iload_n C.1 C.2.1 dX1_firstFault_23 rfl (lv_at hl 2 rfl) ?_
  refine lv_bipush (v := 20) C.1 C.2.1 dX1_firstFault_24 (by decide) ?_
  refine lv_icmp_eq (tgt := 35) C.1 C.2.1 dX1_firstFault_26 (by decide) (fun c6 => ?_) (fun c6 => ?_)
  · have h := h.1 c6
    refine lv_bipush (v := (-9)) C.1 C.2.1 dX1_firstFault_35 (by decide) ?_
    refine lv_goto (tgt := 41) C.1 C.2.1 dX1_firstFault_37 (by decide) ?_
    exact fw_iret C hG ⟨h, rfl, rfl⟩ dX1_firstFault_41
  · have h := h.2 c6
    refine lv_iload_n C.1 C.2.1 dX1_firstFault_29 rfl (lv_at hl 2 rfl) ?_
    refine lv_bipush (v := 23) C.1 C.2.1 dX1_firstFault_30 (by decide) ?_
    refine lv_icmp_ne (tgt := 40) C.1 C.2.1 dX1_firstFault_32 (by decide) (fun c7 => ?_) (fun c7 => ?_)
    · have h := h.1 c7
      refine lv_iload_n C.1 C.2.1 dX1_firstFault_40 rfl (lv_at hl 2 rfl) ?_
      exact fw_iret C hG ⟨h, rfl, rfl⟩ dX1_firstFault_41
    · have h := h.2 c7
      refine lv_bipush (v := (-9)) C.1 C.2.1 dX1_firstFault_35 (by decide) ?_
      refine lv_goto (tgt := 41) C.1 C.2.1 dX1_firstFault_37 (by decide) ?_
      exact fw_iret C hG ⟨h, rfl, rfl⟩ dX1_firstFault_41
/-! KnifeBoard$Hand.read([II)V -/
def rmX1_read : Room := { frames := 0, cells := 0, slots := 0, locals := 0 }
def wpX1_read_L24 (kt : kw_T) (x2 : Int32) (z3 : Int32) (Q : fw_F → fw_R → Prop) (K : Int32 → fw_F → fw_R → Prop) : Nat → Int32 → fw_F → fw_R → Prop
  | 0, _, _, _ => False
  | fu + 1, z4, iv, ar => (5 ≤ z4 → (K z4 iv ar)) ∧ (¬ 5 ≤ z4 → (vp_in (((7 * z3) + 1) + z4) 80 ∧ (vp_in ((5 * z3) + z4) 15 ∧ (∀ ar7 : fw_R, ar7 = va_up ar 3 (upd (ar 3) ((5 * z3) + z4).toNatClampNeg (((ar 25) (((7 * z3) + 1) + z4).toNatClampNeg) - 48)) → (∀ y8 : Int32, y8 = z4 + 1 → (wpX1_read_L24 kt x2 z3 Q K fu y8 iv ar7))))))
def wpX1_read_L16 (kt : kw_T) (x2 : Int32) (Q : fw_F → fw_R → Prop) (K : Int32 → fw_F → fw_R → Prop) : Nat → Int32 → fw_F → fw_R → Prop
  | 0, _, _, _ => False
  | fu + 1, z3, iv, ar => (3 ≤ z3 → (K z3 iv ar)) ∧ (¬ 3 ≤ z3 → (∃ ku : Nat, wpX1_read_L24 kt x2 z3 Q (fun (w9 : Int32) (iv10 : fw_F) (ar11 : fw_R) => ∀ y12 : Int32, y12 = z3 + 1 → (wpX1_read_L16 kt x2 Q K fu y12 iv10 ar11)) ku 0 iv ar))
def wpX1_read (kt : kw_T) (iv : fw_F) (ar : fw_R) (x2 : Int32) (Q : fw_F → fw_R → Prop) : Prop := (x2 < 20 → (Q iv ar)) ∧ (¬ x2 < 20 → (∃ ku : Nat, wpX1_read_L16 kt x2 Q (fun (w13 : Int32) (iv14 : fw_F) (ar15 : fw_R) => (¬ x2 = 23 → (∀ iv17 : fw_F, iv17 = va_up iv14 3 0 → (∀ iv18 : fw_F, iv18 = va_up iv17 2 1 → (Q iv18 ar15)))) ∧ (x2 = 23 → (vp_in (22 : Int32) 80 ∧ (∀ iv20 : fw_F, iv20 = va_up iv14 3 (((ar15 25) (22 : Int32).toNatClampNeg) - 48) → (∀ iv21 : fw_F, iv21 = va_up iv20 2 1 → (Q iv21 ar15)))))) ku 0 iv ar))
set_option maxHeartbeats 4000000 in
set_option maxRecDepth 100000 in
theorem soX1_read_L24 {p : Program} {l : Launch} {e : Env} {s : State} {m : MethodId} {args : Array Value} {below : List Frame} {meth : Method} {c : Code} {A : Nat → Prop} {G : fw_G} {ad : Nat → Nat} {kt : kw_T} {x2 : Int32} {z3 : Int32} {Q : fw_F → fw_R → Prop} {K : Int32 → fw_F → fw_R → Prop} (C : fw_C p s m args meth c cX1_read 5 none wsX1_read RX1) (hK : fw_K G A s)  (hX : ∀ (z4 : Int32) (iv : fw_F) (ar : fw_R), K z4 iv ar → ∀ (H : Heap) (locs : List Loc), fw_H G ((kw G ad kt) iv ar) A s H locs → ∀ (ls : Array Slot), lv_has ls 5 [(4, .int z4), (3, .int z3), (0, .ref (ad 2)), (1, .ref (ad 25)), (2, .int x2)] → W p l e rmX1_read s m args below meth c H locs 0 0 (MQ below (fw_Qv G (kw G ad kt) Q A) args s 0 0 A) (F0 m 61 ls [])) : ∀ (fu : Nat) (z4 : Int32) (iv : fw_F) (ar : fw_R), wpX1_read_L24 kt x2 z3 Q K fu z4 iv ar → ∀ (H : Heap) (locs : List Loc), fw_H G ((kw G ad kt) iv ar) A s H locs → ∀ (ls : Array Slot), lv_has ls 5 [(4, .int z4), (3, .int z3), (0, .ref (ad 2)), (1, .ref (ad 25)), (2, .int x2)] → W p l e rmX1_read s m args below meth c H locs 0 0 (MQ below (fw_Qv G (kw G ad kt) Q A) args s 0 0 A) (F0 m 24 ls []) := by
  intro fu
  have in_X1 : ∀ x ∈ wsX10, x ∈ wsX1_read := by decide +kernel
  have k9 := C.2.2.2.2.1 (.fieldLink RX1 9 "KnifeBoard$Hand" "weights" "[I") (by decide +kernel)
  induction fu with
  | zero => intro z4 iv ar h; exact h.elim
  | succ fu ih =>
    intro z4 iv ar h H locs hG ls hl
    unfold wpX1_read_L24 at h
    refine lv_iload C.1 C.2.1 dX1_read_24 (lv_at hl 0 rfl) ?_
    refine lv_iconst (v := 5) C.1 C.2.1 dX1_read_26 (by decide) ?_
    refine lv_icmp_ge (tgt := 61) C.1 C.2.1 dX1_read_27 (by decide) (fun c4 => ?_) (fun c4 => ?_)
    · have h := h.1 c4
      exact hX _ _ _ h _ _ hG ls (lv_sub hl [0, 1, 2, 3, 4] rfl)
    · have h := h.2 c4
      refine lv_aload_n C.1 C.2.1 dX1_read_30 rfl (lv_at hl 2 rfl) ?_
      refine fw_get (w := (kw G ad kt)) C in_X1 hK hG 2 kw_o1 rfl 0 (by decide) k9 rfl rfl dX1_read_31 ?_
      refine lv_iconst (v := 5) C.1 C.2.1 dX1_read_34 (by decide) ?_
      refine lv_iload_n C.1 C.2.1 dX1_read_35 rfl (lv_at hl 1 rfl) ?_
      refine lv_imul C.1 C.2.1 dX1_read_36 ?_
      refine lv_iload C.1 C.2.1 dX1_read_37 (lv_at hl 0 rfl) ?_
      refine lv_iadd C.1 C.2.1 dX1_read_39 ?_
      refine lv_aload_n C.1 C.2.1 dX1_read_40 rfl (lv_at hl 3 rfl) ?_
      refine lv_bipush (v := 7) C.1 C.2.1 dX1_read_41 (by decide) ?_
      refine lv_iload_n C.1 C.2.1 dX1_read_43 rfl (lv_at hl 1 rfl) ?_
      refine lv_imul C.1 C.2.1 dX1_read_44 ?_
      refine lv_iconst (v := 1) C.1 C.2.1 dX1_read_45 (by decide) ?_
      refine lv_iadd C.1 C.2.1 dX1_read_46 ?_
      refine lv_iload C.1 C.2.1 dX1_read_47 (lv_at hl 0 rfl) ?_
      refine lv_iadd C.1 C.2.1 dX1_read_49 ?_
      obtain ⟨c5, h⟩ := h
      refine fw_iald (w := (kw G ad kt)) C hK hG 25 kw_a25 c5 dX1_read_50 ?_
      refine lv_bipush (v := 48) C.1 C.2.1 dX1_read_51 (by decide) ?_
      refine lv_isub C.1 C.2.1 dX1_read_53 ?_
      obtain ⟨c6, h⟩ := h
      obtain ⟨ar7, ear7⟩ : ∃ z : fw_R, z = va_up ar 3 (upd (ar 3) ((5 * z3) + z4).toNatClampNeg (((ar 25) (((7 * z3) + 1) + z4).toNatClampNeg) - 48)) := ⟨_, rfl⟩
      have h := h ar7 ear7
      refine fw_iast (w := (kw G ad kt)) C hK hG 3 kw_a3 c6 (ar1 := ar7) (by rw [ear7]; exact kw_s3) dX1_read_54 (fun H locs hG => ?_)
      obtain ⟨y8, ey8⟩ : ∃ z : Int32, z = z4 + 1 := ⟨_, rfl⟩
      have h := h y8 ey8
      refine lv_iinc (v := y8) (lv' := [(4, .int y8), (3, .int z3), (0, .ref (ad 2)), (1, .ref (ad 25)), (2, .int x2)]) C.1 C.2.1 dX1_read_55 hl (k := 0) rfl (by rw [ey8]; rfl) (by decide) rfl (fun ls hl => ?_)
      refine lv_goto (tgt := 24) C.1 C.2.1 dX1_read_58 (by decide) ?_
      exact ih _ _ _ h _ _ hG ls (lv_sub hl [0, 1, 2, 3, 4] rfl)

set_option maxHeartbeats 4000000 in
set_option maxRecDepth 100000 in
theorem soX1_read_L16 {p : Program} {l : Launch} {e : Env} {s : State} {m : MethodId} {args : Array Value} {below : List Frame} {meth : Method} {c : Code} {A : Nat → Prop} {G : fw_G} {ad : Nat → Nat} {kt : kw_T} {x2 : Int32} {Q : fw_F → fw_R → Prop} {K : Int32 → fw_F → fw_R → Prop} (C : fw_C p s m args meth c cX1_read 5 none wsX1_read RX1) (hK : fw_K G A s)  (hX : ∀ (z3 : Int32) (iv : fw_F) (ar : fw_R), K z3 iv ar → ∀ (H : Heap) (locs : List Loc), fw_H G ((kw G ad kt) iv ar) A s H locs → ∀ (ls : Array Slot), lv_has ls 5 [(3, .int z3), (0, .ref (ad 2)), (1, .ref (ad 25)), (2, .int x2)] → W p l e rmX1_read s m args below meth c H locs 0 0 (MQ below (fw_Qv G (kw G ad kt) Q A) args s 0 0 A) (F0 m 67 ls [])) : ∀ (fu : Nat) (z3 : Int32) (iv : fw_F) (ar : fw_R), wpX1_read_L16 kt x2 Q K fu z3 iv ar → ∀ (H : Heap) (locs : List Loc), fw_H G ((kw G ad kt) iv ar) A s H locs → ∀ (ls : Array Slot), lv_has ls 5 [(3, .int z3), (0, .ref (ad 2)), (1, .ref (ad 25)), (2, .int x2)] → W p l e rmX1_read s m args below meth c H locs 0 0 (MQ below (fw_Qv G (kw G ad kt) Q A) args s 0 0 A) (F0 m 16 ls []) := by
  intro fu
  induction fu with
  | zero => intro z3 iv ar h; exact h.elim
  | succ fu ih =>
    intro z3 iv ar h H locs hG ls hl
    unfold wpX1_read_L16 at h
    refine lv_iload_n C.1 C.2.1 dX1_read_16 rfl (lv_at hl 0 rfl) ?_
    refine lv_iconst (v := 3) C.1 C.2.1 dX1_read_17 (by decide) ?_
    refine lv_icmp_ge (tgt := 67) C.1 C.2.1 dX1_read_18 (by decide) (fun c3 => ?_) (fun c3 => ?_)
    · have h := h.1 c3
      exact hX _ _ _ h _ _ hG ls (lv_sub hl [0, 1, 2, 3] rfl)
    · have h := h.2 c3
      refine lv_iconst (v := 0) C.1 C.2.1 dX1_read_21 (by decide) ?_
      refine lv_istore (lv' := [(4, .int 0), (3, .int z3), (0, .ref (ad 2)), (1, .ref (ad 25)), (2, .int x2)]) C.1 C.2.1 dX1_read_22 hl (by decide) rfl (fun ls hl => ?_)
      obtain ⟨ku, h⟩ := h
      refine soX1_read_L24 C hK  ?_ ku _ _ _ h _ _ hG ls (lv_sub hl [0, 1, 2, 3, 4] rfl)
      intro w9 iv10 ar11 h H locs hG ls hl
      obtain ⟨y12, ey12⟩ : ∃ z : Int32, z = z3 + 1 := ⟨_, rfl⟩
      have h := h y12 ey12
      refine lv_iinc (v := y12) (lv' := [(3, .int y12), (4, .int w9), (0, .ref (ad 2)), (1, .ref (ad 25)), (2, .int x2)]) C.1 C.2.1 dX1_read_61 hl (k := 1) rfl (by rw [ey12]; rfl) (by decide) rfl (fun ls hl => ?_)
      refine lv_goto (tgt := 16) C.1 C.2.1 dX1_read_64 (by decide) ?_
      exact ih _ _ _ h _ _ hG ls (lv_sub hl [0, 2, 3, 4] rfl)

set_option maxHeartbeats 4000000 in
set_option maxRecDepth 100000 in
theorem soX1_read (l : Launch) (G : fw_G) (ad : Nat → Nat) (kt : kw_T) (iv : fw_F) (ar : fw_R) (x2 : Int32) (Q : fw_F → fw_R → Prop)  (h : wpX1_read kt iv ar x2 Q) : fw_M l G (kw G ad kt) yX1_read wsX1_read rmX1_read [.ref (ad 2), .ref (ad 25), .int x2] iv ar (fw_Qv G (kw G ad kt) Q) := by
  refine fw_start (cc := cX1_read) (nL := 5) (rt := none) (by decide) rfl (Nat.le_of_ble_eq_true rfl) ?_
  intro p e s m below meth c A ls H locs C hK hG hl
  obtain ⟨args, ea⟩ : ∃ z : Array Value, z = ([.ref (ad 2), .ref (ad 25), .int x2] : List Value).toArray := ⟨_, rfl⟩
  rw [← ea] at C ⊢
  have C : fw_C p s m args meth c cX1_read 5 none wsX1_read RX1 := C
  have hl : lv_has ls 5 [(0, .ref (ad 2)), (1, .ref (ad 25)), (2, .int x2)] := hl
  unfold wpX1_read at h
  have in_X1 : ∀ x ∈ wsX10, x ∈ wsX1_read := by decide +kernel
  have k15 := C.2.2.2.2.1 (.fieldLink RX1 15 "KnifeBoard$Hand" "told" "Z") (by decide +kernel)
  have k19 := C.2.2.2.2.1 (.fieldLink RX1 19 "KnifeBoard$Hand" "tires" "I") (by decide +kernel)
  refine lv_iload_n C.1 C.2.1 dX1_read_0 rfl (lv_at hl 2 rfl) ?_
  refine lv_bipush (v := 20) C.1 C.2.1 dX1_read_1 (by decide) ?_
  refine lv_icmp_lt (tgt := 13) C.1 C.2.1 dX1_read_3 (by decide) (fun c1 => ?_) (fun c1 => ?_)
  · have h := h.1 c1
    exact fw_vret C hG h dX1_read_13
  · have h := h.2 c1
    refine lv_aload_n C.1 C.2.1 dX1_read_6 rfl (lv_at hl 1 rfl) ?_
    refine va_alen (v := 80) C.1 C.2.1 hK.1 hG.1 25 0 (kw_a25 : ((kw G ad kt) iv ar)[25]? = _) rfl rfl dX1_read_7 ?_
    refine lv_bipush (v := 23) C.1 C.2.1 dX1_read_8 (by decide) ?_
    refine lv_icmp_ge (tgt := 14) C.1 C.2.1 dX1_read_10 (by decide) (fun c2 => ?_) (fun c2 => ?_)
    · refine lv_iconst (v := 0) C.1 C.2.1 dX1_read_14 (by decide) ?_
      refine lv_istore_n (lv' := [(3, .int 0), (0, .ref (ad 2)), (1, .ref (ad 25)), (2, .int x2)]) C.1 C.2.1 dX1_read_15 rfl hl (by decide) rfl (fun ls hl => ?_)
      obtain ⟨ku, h⟩ := h
      refine soX1_read_L16 C hK  ?_ ku _ _ _ h _ _ hG ls (lv_sub hl [0, 1, 2, 3] rfl)
      intro w13 iv14 ar15 h H locs hG ls hl
      refine lv_aload_n C.1 C.2.1 dX1_read_67 rfl (lv_at hl 1 rfl) ?_
      refine lv_iload_n C.1 C.2.1 dX1_read_68 rfl (lv_at hl 3 rfl) ?_
      refine lv_bipush (v := 23) C.1 C.2.1 dX1_read_69 (by decide) ?_
      refine lv_icmp_ne (tgt := 84) C.1 C.2.1 dX1_read_71 (by decide) (fun c16 => ?_) (fun c16 => ?_)
      · have h := h.1 c16
        refine lv_iconst (v := 0) C.1 C.2.1 dX1_read_84 (by decide) ?_
        obtain ⟨iv17, eiv17⟩ : ∃ z : fw_F, z = va_up iv14 3 0 := ⟨_, rfl⟩
        have h := h iv17 eiv17
        refine fw_put (w := (kw G ad kt)) C in_X1 tyX1 tyX1_ok nmX1 hK hG 2 kw_o1 rfl 2 (by decide) k19 rfl rfl (ty := .int) (v := .int 0) (by decide +kernel) rfl rfl (by first | decide | exact Nat.le_of_ble_eq_true rfl) (iv1 := iv17) (by rw [eiv17]; exact kw_p1_tires) dX1_read_85 (fun H locs hG => ?_)
        refine lv_aload_n C.1 C.2.1 dX1_read_88 rfl (lv_at hl 1 rfl) ?_
        refine lv_iconst (v := 1) C.1 C.2.1 dX1_read_89 (by decide) ?_
        obtain ⟨iv18, eiv18⟩ : ∃ z : fw_F, z = va_up iv17 2 1 := ⟨_, rfl⟩
        have h := h iv18 eiv18
        refine fw_put (w := (kw G ad kt)) C in_X1 tyX1 tyX1_ok nmX1 hK hG 2 kw_o1 rfl 1 (by decide) k15 rfl rfl (ty := .boolean) (v := .int 1) (by decide +kernel) (by decide) (by decide) (by first | decide | exact Nat.le_of_ble_eq_true rfl) (iv1 := iv18) (by rw [eiv18]; exact kw_p1_told) dX1_read_90 (fun H locs hG => ?_)
        exact fw_vret C hG h dX1_read_93
      · have h := h.2 c16
        refine lv_aload_n C.1 C.2.1 dX1_read_74 rfl (lv_at hl 2 rfl) ?_
        refine lv_bipush (v := 22) C.1 C.2.1 dX1_read_75 (by decide) ?_
        obtain ⟨c19, h⟩ := h
        refine fw_iald (w := (kw G ad kt)) C hK hG 25 kw_a25 c19 dX1_read_77 ?_
        refine lv_bipush (v := 48) C.1 C.2.1 dX1_read_78 (by decide) ?_
        refine lv_isub C.1 C.2.1 dX1_read_80 ?_
        refine lv_goto (tgt := 85) C.1 C.2.1 dX1_read_81 (by decide) ?_
        obtain ⟨iv20, eiv20⟩ : ∃ z : fw_F, z = va_up iv14 3 (((ar15 25) (22 : Int32).toNatClampNeg) - 48) := ⟨_, rfl⟩
        have h := h iv20 eiv20
        refine fw_put (w := (kw G ad kt)) C in_X1 tyX1 tyX1_ok nmX1 hK hG 2 kw_o1 rfl 2 (by decide) k19 rfl rfl (ty := .int) (v := .int (((ar15 25) (22 : Int32).toNatClampNeg) - 48)) (by decide +kernel) rfl rfl (by first | decide | exact Nat.le_of_ble_eq_true rfl) (iv1 := iv20) (by rw [eiv20]; exact kw_p1_tires) dX1_read_85 (fun H locs hG => ?_)
        refine lv_aload_n C.1 C.2.1 dX1_read_88 rfl (lv_at hl 1 rfl) ?_
        refine lv_iconst (v := 1) C.1 C.2.1 dX1_read_89 (by decide) ?_
        obtain ⟨iv21, eiv21⟩ : ∃ z : fw_F, z = va_up iv20 2 1 := ⟨_, rfl⟩
        have h := h iv21 eiv21
        refine fw_put (w := (kw G ad kt)) C in_X1 tyX1 tyX1_ok nmX1 hK hG 2 kw_o1 rfl 1 (by decide) k15 rfl rfl (ty := .boolean) (v := .int 1) (by decide +kernel) (by decide) (by decide) (by first | decide | exact Nat.le_of_ble_eq_true rfl) (iv1 := iv21) (by rw [eiv21]; exact kw_p1_told) dX1_read_90 (fun H locs hG => ?_)
        exact fw_vret C hG h dX1_read_93
    · exact absurd c2 (by decide)
/-! KnifeBoard$Hand.weighs(III)I -/
def rmX1_weighs : Room := { frames := 1, cells := 0, slots := 0, locals := 21 }
def wpX1_weighs (kt : kw_T) (iv : fw_F) (ar : fw_R) (x1 : Int32) (x2 : Int32) (x3 : Int32) (Q : Int32 → Prop) : Prop := vp_in (((5 * x1) + x2) + 2) 15 ∧ (∀ y2 : Int32, y2 = (ar 3) (((5 * x1) + x2) + 2).toNatClampNeg → ((¬ x2 = 0 → (Q (if (y2 + x3) < 9 then y2 + x3 else 9))) ∧ (x2 = 0 → (Q y2))))
set_option maxHeartbeats 4000000 in
set_option maxRecDepth 100000 in
theorem soX1_weighs (l : Launch) (G : fw_G) (ad : Nat → Nat) (kt : kw_T) (iv : fw_F) (ar : fw_R) (x1 : Int32) (x2 : Int32) (x3 : Int32) (Q : Int32 → Prop)  (h : wpX1_weighs kt iv ar x1 x2 x3 Q) : fw_M l G (kw G ad kt) yX1_weighs wsX1_weighs rmX1_weighs [.ref (ad 2), .int x1, .int x2, .int x3] iv ar (fw_Qi G (kw G ad kt) (fun r iv1 ar1 => Q r ∧ iv = iv1 ∧ ar = ar1)) := by
  refine fw_start (cc := cX1_weighs) (nL := 5) (rt := (some .int)) (by decide) rfl (Nat.le_of_ble_eq_true rfl) ?_
  intro p e s m below meth c A ls H locs C hK hG hl
  obtain ⟨args, ea⟩ : ∃ z : Array Value, z = ([.ref (ad 2), .int x1, .int x2, .int x3] : List Value).toArray := ⟨_, rfl⟩
  rw [← ea] at C ⊢
  have C : fw_C p s m args meth c cX1_weighs 5 (some .int) wsX1_weighs RX1 := C
  have hl : lv_has ls 5 [(0, .ref (ad 2)), (1, .int x1), (2, .int x2), (3, .int x3)] := hl
  unfold wpX1_weighs at h
  have in_X1 : ∀ x ∈ wsX10, x ∈ wsX1_weighs := by decide +kernel
  have k9 := C.2.2.2.2.1 (.fieldLink RX1 9 "KnifeBoard$Hand" "weights" "[I") (by decide +kernel)
  have m45 := C.2.2.2.2.1 (.methodLink RX1 45 Lib.Math.min.name) (by decide +kernel)
  have mc_min : (Cond.code Lib.Math.min.name Lib.Math.min.code 2 (some .int)).before args s = true := C.2.2.2.2.1 _ (by decide +kernel)
  have mi_ := C.2.2.2.2.1 (.initialized "java/lang/Math") (by decide +kernel)
  have ms_min := C.2.2.2.2.1 (.static Lib.Math.min.name) (by decide +kernel)
  refine lv_aload_n C.1 C.2.1 dX1_weighs_0 rfl (lv_at hl 0 rfl) ?_
  refine fw_get (w := (kw G ad kt)) C in_X1 hK hG 2 kw_o1 rfl 0 (by decide) k9 rfl rfl dX1_weighs_1 ?_
  refine lv_iconst (v := 5) C.1 C.2.1 dX1_weighs_4 (by decide) ?_
  refine lv_iload_n C.1 C.2.1 dX1_weighs_5 rfl (lv_at hl 1 rfl) ?_
  refine lv_imul C.1 C.2.1 dX1_weighs_6 ?_
  refine lv_iload_n C.1 C.2.1 dX1_weighs_7 rfl (lv_at hl 2 rfl) ?_
  refine lv_iadd C.1 C.2.1 dX1_weighs_8 ?_
  refine lv_iconst (v := 2) C.1 C.2.1 dX1_weighs_9 (by decide) ?_
  refine lv_iadd C.1 C.2.1 dX1_weighs_10 ?_
  obtain ⟨c1, h⟩ := h
  refine fw_iald (w := (kw G ad kt)) C hK hG 3 kw_a3 c1 dX1_weighs_11 ?_
  refine lv_topi (fun y2 ey2 => ?_)
  have h := h y2 ey2
  refine lv_istore (lv' := [(4, .int y2), (0, .ref (ad 2)), (1, .int x1), (2, .int x2), (3, .int x3)]) C.1 C.2.1 dX1_weighs_12 hl (by decide) rfl (fun ls hl => ?_)
  refine lv_iload_n C.1 C.2.1 dX1_weighs_14 rfl (lv_at hl 3 rfl) ?_
  refine lv_if_ne (tgt := 23) C.1 C.2.1 dX1_weighs_15 (by decide) (fun c3 => ?_) (fun c3 => ?_)
  · have h := h.1 c3
    refine lv_bipush (v := 9) C.1 C.2.1 dX1_weighs_23 (by decide) ?_
    refine lv_iload C.1 C.2.1 dX1_weighs_25 (lv_at hl 0 rfl) ?_
    refine lv_iload_n C.1 C.2.1 dX1_weighs_27 rfl (lv_at hl 4 rfl) ?_
    refine lv_iadd C.1 C.2.1 dX1_weighs_28 ?_
    refine va_mmin C.1 C.2.1 (by rw [C.2.2.2.2.2.2]; exact hl.1.symm) C.2.2.2.2.2.1 m45 ms_min mi_ mc_min (Nat.le_of_ble_eq_true rfl) (Nat.le_of_ble_eq_true rfl) (Nat.zero_le _) (Nat.zero_le _) dX1_weighs_29 ?_
    exact fw_iret C hG ⟨h, rfl, rfl⟩ dX1_weighs_32
  · have h := h.2 c3
    refine lv_iload C.1 C.2.1 dX1_weighs_18 (lv_at hl 0 rfl) ?_
    refine lv_goto (tgt := 32) C.1 C.2.1 dX1_weighs_20 (by decide) ?_
    exact fw_iret C hG ⟨h, rfl, rfl⟩ dX1_weighs_32
/-! KnifeBoard$Hand.sumOf(II)I -/
def rmX1_sumOf : Room := { frames := 2, cells := 0, slots := 0, locals := 45 }
def wpX1_sumOf_L6 (kt : kw_T) (x1 : Int32) (x2 : Int32) (iv : fw_F) (ar : fw_R) (Q : Int32 → Prop) (K : Int32 → Int32 → Prop) : Nat → Int32 → Int32 → Prop
  | 0, _, _ => False
  | fu + 1, z3, z4 => (2 < z4 → (K z3 z4)) ∧ (¬ 2 < z4 → (wpX1_weighs kt iv ar x1 z4 x2 (fun (r2 : Int32) => ∀ y3 : Int32, y3 = z3 + r2 → (∀ y4 : Int32, y4 = z4 + 1 → (wpX1_sumOf_L6 kt x1 x2 iv ar Q K fu y3 y4)))))
def wpX1_sumOf (kt : kw_T) (iv : fw_F) (ar : fw_R) (x1 : Int32) (x2 : Int32) (Q : Int32 → Prop) : Prop := ∃ ku : Nat, wpX1_sumOf_L6 kt x1 x2 iv ar Q (fun (w5 : Int32) (w6 : Int32) => Q w5) ku 0 (-2)
set_option maxHeartbeats 4000000 in
set_option maxRecDepth 100000 in
theorem soX1_sumOf_L6 {p : Program} {l : Launch} {e : Env} {s : State} {m : MethodId} {args : Array Value} {below : List Frame} {meth : Method} {c : Code} {A : Nat → Prop} {G : fw_G} {ad : Nat → Nat} {kt : kw_T} {x1 : Int32} {x2 : Int32} {iv : fw_F} {ar : fw_R} {Q : Int32 → Prop} {K : Int32 → Int32 → Prop} (C : fw_C p s m args meth c cX1_sumOf 5 (some .int) wsX1_sumOf RX1) (hK : fw_K G A s)  (hX : ∀ (z3 : Int32) (z4 : Int32), K z3 z4 → ∀ (H : Heap) (locs : List Loc), fw_H G ((kw G ad kt) iv ar) A s H locs → ∀ (ls : Array Slot), lv_has ls 5 [(4, .int z4), (3, .int z3), (0, .ref (ad 2)), (1, .int x1), (2, .int x2)] → W p l e rmX1_sumOf s m args below meth c H locs 0 0 (MQ below (fw_Qi G (kw G ad kt) (fun r iv1 ar1 => Q r ∧ iv = iv1 ∧ ar = ar1) A) args s 0 0 A) (F0 m 29 ls [])) : ∀ (fu : Nat) (z3 : Int32) (z4 : Int32), wpX1_sumOf_L6 kt x1 x2 iv ar Q K fu z3 z4 → ∀ (H : Heap) (locs : List Loc), fw_H G ((kw G ad kt) iv ar) A s H locs → ∀ (ls : Array Slot), lv_has ls 5 [(4, .int z4), (3, .int z3), (0, .ref (ad 2)), (1, .int x1), (2, .int x2)] → W p l e rmX1_sumOf s m args below meth c H locs 0 0 (MQ below (fw_Qi G (kw G ad kt) (fun r iv1 ar1 => Q r ∧ iv = iv1 ∧ ar = ar1) A) args s 0 0 A) (F0 m 6 ls []) := by
  intro fu
  induction fu with
  | zero => intro z3 z4 h; exact h.elim
  | succ fu ih =>
    intro z3 z4 h H locs hG ls hl
    unfold wpX1_sumOf_L6 at h
    refine lv_iload C.1 C.2.1 dX1_sumOf_6 (lv_at hl 0 rfl) ?_
    refine lv_iconst (v := 2) C.1 C.2.1 dX1_sumOf_8 (by decide) ?_
    refine lv_icmp_gt (tgt := 29) C.1 C.2.1 dX1_sumOf_9 (by decide) (fun c1 => ?_) (fun c1 => ?_)
    · have h := h.1 c1
      exact hX _ _ h _ _ hG ls (lv_sub hl [0, 1, 2, 3, 4] rfl)
    · have h := h.2 c1
      refine lv_iload_n C.1 C.2.1 dX1_sumOf_12 rfl (lv_at hl 1 rfl) ?_
      refine lv_aload_n C.1 C.2.1 dX1_sumOf_13 rfl (lv_at hl 2 rfl) ?_
      refine lv_iload_n C.1 C.2.1 dX1_sumOf_14 rfl (lv_at hl 3 rfl) ?_
      refine lv_iload C.1 C.2.1 dX1_sumOf_15 (lv_at hl 0 rfl) ?_
      refine lv_iload_n C.1 C.2.1 dX1_sumOf_17 rfl (lv_at hl 4 rfl) ?_
      refine fw_rcalli (va_runV (As := [.int x1, .int z4, .int x2]) (rest := [.int z3]) ⟨C.1, C.2.1, C.2.2.2.2.2.2, C.2.2.2.2.2.1, C.2.2.2.2.1⟩ (soX1_weighs l G ad kt iv ar x1 z4 x2 _  h H.size) (cwV 3 C.2.2.2.2.1 gX1_sumOf_X1_weighs rfl rfl rfl (by decide +kernel) ⟨Nat.le_of_ble_eq_true rfl, Nat.le_of_ble_eq_true rfl⟩) (fw_preV hG hK (ci := 1) rfl kw_o1) rfl rfl hl.1 rfl (lv_room (Nat.le_of_ble_eq_true rfl)) dX1_sumOf_18 ⟨Nat.zero_le _, Nat.zero_le _⟩) hG hK (fun r2  H locs h hG => ?_)
      refine lv_iadd C.1 C.2.1 dX1_sumOf_21 ?_
      refine lv_topi (fun y3 ey3 => ?_)
      have h := h y3 ey3
      refine lv_istore_n (lv' := [(3, .int y3), (4, .int z4), (0, .ref (ad 2)), (1, .int x1), (2, .int x2)]) C.1 C.2.1 dX1_sumOf_22 rfl hl (by decide) rfl (fun ls hl => ?_)
      obtain ⟨y4, ey4⟩ : ∃ z : Int32, z = z4 + 1 := ⟨_, rfl⟩
      have h := h y4 ey4
      refine lv_iinc (v := y4) (lv' := [(4, .int y4), (3, .int y3), (0, .ref (ad 2)), (1, .int x1), (2, .int x2)]) C.1 C.2.1 dX1_sumOf_23 hl (k := 1) rfl (by rw [ey4]; rfl) (by decide) rfl (fun ls hl => ?_)
      refine lv_goto (tgt := 6) C.1 C.2.1 dX1_sumOf_26 (by decide) ?_
      exact ih _ _ h _ _ hG ls (lv_sub hl [0, 1, 2, 3, 4] rfl)

set_option maxHeartbeats 4000000 in
set_option maxRecDepth 100000 in
theorem soX1_sumOf (l : Launch) (G : fw_G) (ad : Nat → Nat) (kt : kw_T) (iv : fw_F) (ar : fw_R) (x1 : Int32) (x2 : Int32) (Q : Int32 → Prop)  (h : wpX1_sumOf kt iv ar x1 x2 Q) : fw_M l G (kw G ad kt) yX1_sumOf wsX1_sumOf rmX1_sumOf [.ref (ad 2), .int x1, .int x2] iv ar (fw_Qi G (kw G ad kt) (fun r iv1 ar1 => Q r ∧ iv = iv1 ∧ ar = ar1)) := by
  refine fw_start (cc := cX1_sumOf) (nL := 5) (rt := (some .int)) (by decide) rfl (Nat.le_of_ble_eq_true rfl) ?_
  intro p e s m below meth c A ls H locs C hK hG hl
  obtain ⟨args, ea⟩ : ∃ z : Array Value, z = ([.ref (ad 2), .int x1, .int x2] : List Value).toArray := ⟨_, rfl⟩
  rw [← ea] at C ⊢
  have C : fw_C p s m args meth c cX1_sumOf 5 (some .int) wsX1_sumOf RX1 := C
  have hl : lv_has ls 5 [(0, .ref (ad 2)), (1, .int x1), (2, .int x2)] := hl
  unfold wpX1_sumOf at h
  refine lv_iconst (v := 0) C.1 C.2.1 dX1_sumOf_0 (by decide) ?_
  refine lv_istore_n (lv' := [(3, .int 0), (0, .ref (ad 2)), (1, .int x1), (2, .int x2)]) C.1 C.2.1 dX1_sumOf_1 rfl hl (by decide) rfl (fun ls hl => ?_)
  refine lv_bipush (v := (-2)) C.1 C.2.1 dX1_sumOf_2 (by decide) ?_
  refine lv_istore (lv' := [(4, .int (-2)), (3, .int 0), (0, .ref (ad 2)), (1, .int x1), (2, .int x2)]) C.1 C.2.1 dX1_sumOf_4 hl (by decide) rfl (fun ls hl => ?_)
  obtain ⟨ku, h⟩ := h
  refine soX1_sumOf_L6 C hK  ?_ ku _ _ h _ _ hG ls (lv_sub hl [0, 1, 2, 3, 4] rfl)
  intro w5 w6 h H locs hG ls hl
  refine lv_iload_n C.1 C.2.1 dX1_sumOf_29 rfl (lv_at hl 1 rfl) ?_
  exact fw_iret C hG ⟨h, rfl, rfl⟩ dX1_sumOf_30
/-! KnifeBoard$Hand.stageOf(I)I -/
def rmX1_stageOf : Room := { frames := 1, cells := 0, slots := 0, locals := 21 }
def wpX1_stageOf (kt : kw_T) (iv : fw_F) (ar : fw_R) (x1 : Int32) (Q : Int32 → Prop) : Prop := (1 ≤ (iv 3) → (¬ (iv 3) = 0 ∧ (Q (if (x1 / (iv 3)) < 9 then x1 / (iv 3) else 9)))) ∧ (¬ 1 ≤ (iv 3) → (Q 0))
set_option maxHeartbeats 4000000 in
set_option maxRecDepth 100000 in
theorem soX1_stageOf (l : Launch) (G : fw_G) (ad : Nat → Nat) (kt : kw_T) (iv : fw_F) (ar : fw_R) (x1 : Int32) (Q : Int32 → Prop)  (h : wpX1_stageOf kt iv ar x1 Q) : fw_M l G (kw G ad kt) yX1_stageOf wsX1_stageOf rmX1_stageOf [.ref (ad 2), .int x1] iv ar (fw_Qi G (kw G ad kt) (fun r iv1 ar1 => Q r ∧ iv = iv1 ∧ ar = ar1)) := by
  refine fw_start (cc := cX1_stageOf) (nL := 2) (rt := (some .int)) (by decide) rfl (Nat.le_of_ble_eq_true rfl) ?_
  intro p e s m below meth c A ls H locs C hK hG hl
  obtain ⟨args, ea⟩ : ∃ z : Array Value, z = ([.ref (ad 2), .int x1] : List Value).toArray := ⟨_, rfl⟩
  rw [← ea] at C ⊢
  have C : fw_C p s m args meth c cX1_stageOf 2 (some .int) wsX1_stageOf RX1 := C
  have hl : lv_has ls 2 [(0, .ref (ad 2)), (1, .int x1)] := hl
  unfold wpX1_stageOf at h
  have in_X1 : ∀ x ∈ wsX10, x ∈ wsX1_stageOf := by decide +kernel
  have k19 := C.2.2.2.2.1 (.fieldLink RX1 19 "KnifeBoard$Hand" "tires" "I") (by decide +kernel)
  have m45 := C.2.2.2.2.1 (.methodLink RX1 45 Lib.Math.min.name) (by decide +kernel)
  have mc_min : (Cond.code Lib.Math.min.name Lib.Math.min.code 2 (some .int)).before args s = true := C.2.2.2.2.1 _ (by decide +kernel)
  have mi_ := C.2.2.2.2.1 (.initialized "java/lang/Math") (by decide +kernel)
  have ms_min := C.2.2.2.2.1 (.static Lib.Math.min.name) (by decide +kernel)
  refine lv_aload_n C.1 C.2.1 dX1_stageOf_0 rfl (lv_at hl 0 rfl) ?_
  refine fw_get (w := (kw G ad kt)) C in_X1 hK hG 2 kw_o1 rfl 2 (by decide) k19 rfl rfl dX1_stageOf_1 ?_
  refine lv_iconst (v := 1) C.1 C.2.1 dX1_stageOf_4 (by decide) ?_
  refine lv_icmp_ge (tgt := 12) C.1 C.2.1 dX1_stageOf_5 (by decide) (fun c1 => ?_) (fun c1 => ?_)
  · have h := h.1 c1
    refine lv_bipush (v := 9) C.1 C.2.1 dX1_stageOf_12 (by decide) ?_
    refine lv_iload_n C.1 C.2.1 dX1_stageOf_14 rfl (lv_at hl 1 rfl) ?_
    refine lv_aload_n C.1 C.2.1 dX1_stageOf_15 rfl (lv_at hl 0 rfl) ?_
    refine fw_get (w := (kw G ad kt)) C in_X1 hK hG 2 kw_o1 rfl 2 (by decide) k19 rfl rfl dX1_stageOf_16 ?_
    obtain ⟨c2, h⟩ := h
    refine lv_idiv C.1 C.2.1 dX1_stageOf_19 c2 ?_
    refine va_mmin C.1 C.2.1 (by rw [C.2.2.2.2.2.2]; exact hl.1.symm) C.2.2.2.2.2.1 m45 ms_min mi_ mc_min (Nat.le_of_ble_eq_true rfl) (Nat.le_of_ble_eq_true rfl) (Nat.zero_le _) (Nat.zero_le _) dX1_stageOf_20 ?_
    exact fw_iret C hG ⟨h, rfl, rfl⟩ dX1_stageOf_23
  · have h := h.2 c1
    refine lv_iconst (v := 0) C.1 C.2.1 dX1_stageOf_8 (by decide) ?_
    refine lv_goto (tgt := 23) C.1 C.2.1 dX1_stageOf_9 (by decide) ?_
    exact fw_iret C hG ⟨h, rfl, rfl⟩ dX1_stageOf_23
/-! KnifeBoard$Hatchet.kindNumber()I -/
def rmX2_kindNumber : Room := { frames := 0, cells := 0, slots := 0, locals := 0 }
def wpX2_kindNumber (kt : kw_T) (iv : fw_F) (ar : fw_R) (i0 : Nat) (Q : Int32 → Prop) : Prop := Q 1
set_option maxHeartbeats 4000000 in
set_option maxRecDepth 100000 in
theorem soX2_kindNumber (l : Launch) (G : fw_G) (ad : Nat → Nat) (kt : kw_T) (iv : fw_F) (ar : fw_R) (i0 : Nat) (Q : Int32 → Prop) (hi0 : i0 < kt.1) (hk0 : ¬ kt.2.1 i0 = 0) (h : wpX2_kindNumber kt iv ar i0 Q) : fw_M l G (kw G ad kt) yX2_kindNumber wsX2_kindNumber rmX2_kindNumber [.ref (ad (28 + 2 * i0))] iv ar (fw_Qi G (kw G ad kt) (fun r iv1 ar1 => Q r ∧ iv = iv1 ∧ ar = ar1)) := by
  refine fw_start (cc := cX2_kindNumber) (nL := 1) (rt := (some .int)) (by decide) rfl (Nat.le_of_ble_eq_true rfl) ?_
  intro p e s m below meth c A ls H locs C hK hG hl
  obtain ⟨args, ea⟩ : ∃ z : Array Value, z = ([.ref (ad (28 + 2 * i0))] : List Value).toArray := ⟨_, rfl⟩
  rw [← ea] at C ⊢
  have C : fw_C p s m args meth c cX2_kindNumber 1 (some .int) wsX2_kindNumber RX2 := C
  have hl : lv_has ls 1 [(0, .ref (ad (28 + 2 * i0)))] := hl
  unfold wpX2_kindNumber at h
  refine lv_iconst (v := 1) C.1 C.2.1 dX2_kindNumber_0 (by decide) ?_
  exact fw_iret C hG ⟨h, rfl, rfl⟩ dX2_kindNumber_1
/-! KnifeBoard$Trace.leave(I)V -/
def rmX7_leave : Room := { frames := 0, cells := 0, slots := 0, locals := 0 }
def wpX7_leave (kt : kw_T) (iv : fw_F) (ar : fw_R) (x1 : Int32) (Q : fw_F → fw_R → Prop) : Prop := ∀ iv1 : fw_F, iv1 = va_up iv 21 ((31 * (iv 21)) + x1) → (Q iv1 ar)
set_option maxHeartbeats 4000000 in
set_option maxRecDepth 100000 in
theorem soX7_leave (l : Launch) (G : fw_G) (ad : Nat → Nat) (kt : kw_T) (iv : fw_F) (ar : fw_R) (x1 : Int32) (Q : fw_F → fw_R → Prop)  (h : wpX7_leave kt iv ar x1 Q) : fw_M l G (kw G ad kt) yX7_leave wsX7_leave rmX7_leave [.ref (ad 27), .int x1] iv ar (fw_Qv G (kw G ad kt) Q) := by
  refine fw_start (cc := cX7_leave) (nL := 2) (rt := none) (by decide) rfl (Nat.le_of_ble_eq_true rfl) ?_
  intro p e s m below meth c A ls H locs C hK hG hl
  obtain ⟨args, ea⟩ : ∃ z : Array Value, z = ([.ref (ad 27), .int x1] : List Value).toArray := ⟨_, rfl⟩
  rw [← ea] at C ⊢
  have C : fw_C p s m args meth c cX7_leave 2 none wsX7_leave RX7 := C
  have hl : lv_has ls 2 [(0, .ref (ad 27)), (1, .int x1)] := hl
  unfold wpX7_leave at h
  have in_X7 : ∀ x ∈ wsX70, x ∈ wsX7_leave := by decide +kernel
  have k7 := C.2.2.2.2.1 (.fieldLink RX7 7 "KnifeBoard$Trace" "value" "I") (by decide +kernel)
  refine lv_aload_n C.1 C.2.1 dX7_leave_0 rfl (lv_at hl 0 rfl) ?_
  refine lv_bipush (v := 31) C.1 C.2.1 dX7_leave_1 (by decide) ?_
  refine lv_aload_n C.1 C.2.1 dX7_leave_3 rfl (lv_at hl 0 rfl) ?_
  refine fw_get (w := (kw G ad kt)) C in_X7 hK hG 27 kw_o7 rfl 0 (by decide) k7 rfl rfl dX7_leave_4 ?_
  refine lv_imul C.1 C.2.1 dX7_leave_7 ?_
  refine lv_iload_n C.1 C.2.1 dX7_leave_8 rfl (lv_at hl 1 rfl) ?_
  refine lv_iadd C.1 C.2.1 dX7_leave_9 ?_
  obtain ⟨iv1, eiv1⟩ : ∃ z : fw_F, z = va_up iv 21 ((31 * (iv 21)) + x1) := ⟨_, rfl⟩
  have h := h iv1 eiv1
  refine fw_put (w := (kw G ad kt)) C in_X7 tyX7 tyX7_ok nmX7 hK hG 27 kw_o7 rfl 0 (by decide) k7 rfl rfl (ty := .int) (v := .int ((31 * (iv 21)) + x1)) (by decide +kernel) rfl rfl (by first | decide | exact Nat.le_of_ble_eq_true rfl) (iv1 := iv1) (by rw [eiv1]; exact kw_p7_value) dX7_leave_10 (fun H locs hG => ?_)
  exact fw_vret C hG h dX7_leave_13
/-! KnifeBoard$Knife.tellingOfKnife(LKnifeBoard$Trace;)I -/
def rmX3_tellingOfKnife : Room := { frames := 1, cells := 0, slots := 0, locals := 21 }
def wpX3_tellingOfKnife (kt : kw_T) (iv : fw_F) (ar : fw_R) (i0 : Nat) (Q : Int32 → fw_F → fw_R → Prop) : Prop := wpX7_leave kt iv ar 1 (fun (iv1 : fw_F) (ar2 : fw_R) => Q (kt.2.2.1 i0 1) iv1 ar2)
set_option maxHeartbeats 4000000 in
set_option maxRecDepth 100000 in
theorem soX3_tellingOfKnife (l : Launch) (G : fw_G) (ad : Nat → Nat) (kt : kw_T) (iv : fw_F) (ar : fw_R) (i0 : Nat) (Q : Int32 → fw_F → fw_R → Prop) (hi0 : i0 < kt.1) (h : wpX3_tellingOfKnife kt iv ar i0 Q) : fw_M l G (kw G ad kt) yX3_tellingOfKnife wsX3_tellingOfKnife rmX3_tellingOfKnife [.ref (ad (28 + 2 * i0)), .ref (ad 27)] iv ar (fw_Qi G (kw G ad kt) Q) := by
  refine fw_start (cc := cX3_tellingOfKnife) (nL := 2) (rt := (some .int)) (by decide) rfl (Nat.le_of_ble_eq_true rfl) ?_
  intro p e s m below meth c A ls H locs C hK hG hl
  obtain ⟨args, ea⟩ : ∃ z : Array Value, z = ([.ref (ad (28 + 2 * i0)), .ref (ad 27)] : List Value).toArray := ⟨_, rfl⟩
  rw [← ea] at C ⊢
  have C : fw_C p s m args meth c cX3_tellingOfKnife 2 (some .int) wsX3_tellingOfKnife RX3 := C
  have hl : lv_has ls 2 [(0, .ref (ad (28 + 2 * i0))), (1, .ref (ad 27))] := hl
  unfold wpX3_tellingOfKnife at h
  have in_X2 : ∀ x ∈ wsX20, x ∈ wsX3_tellingOfKnife := by decide +kernel
  have in_X3 : ∀ x ∈ wsX30, x ∈ wsX3_tellingOfKnife := by decide +kernel
  have in_X8 : ∀ x ∈ wsX80, x ∈ wsX3_tellingOfKnife := by decide +kernel
  have k28 := C.2.2.2.2.1 (.fieldLink RX3 28 "KnifeBoard$Knife" "pace" "I") (by decide +kernel)
  refine lv_aload_n C.1 C.2.1 dX3_tellingOfKnife_0 rfl (lv_at hl 1 rfl) ?_
  refine lv_iconst (v := 1) C.1 C.2.1 dX3_tellingOfKnife_1 (by decide) ?_
  refine fw_callv (va_runV (As := [.int 1]) (rest := []) ⟨C.1, C.2.1, C.2.2.2.2.2.2, C.2.2.2.2.2.1, C.2.2.2.2.1⟩ (soX7_leave l G ad kt iv ar 1 _  h H.size) (cwV 1 C.2.2.2.2.1 gX3_tellingOfKnife_X7_leave rfl rfl rfl (by decide +kernel) ⟨Nat.le_of_ble_eq_true rfl, Nat.le_of_ble_eq_true rfl⟩) (fw_preV hG hK (ci := 7) rfl kw_o7) rfl rfl hl.1 rfl (lv_room (Nat.le_of_ble_eq_true rfl)) dX3_tellingOfKnife_2 ⟨Nat.zero_le _, Nat.zero_le _⟩) hG hK (fun iv1 ar2 H locs h hG => ?_)
  refine lv_aload_n C.1 C.2.1 dX3_tellingOfKnife_5 rfl (lv_at hl 0 rfl) ?_
  refine kw_gK C in_X3 in_X2 in_X8 hK hG hi0 1 (by decide) k28 rfl rfl dX3_tellingOfKnife_6 ?_
  exact fw_iret C hG h dX3_tellingOfKnife_9
/-! KnifeBoard$Hatchet.telling(LKnifeBoard$Trace;)I -/
def rmX2_telling : Room := { frames := 2, cells := 0, slots := 0, locals := 42 }
def wpX2_telling (kt : kw_T) (iv : fw_F) (ar : fw_R) (i0 : Nat) (Q : Int32 → fw_F → fw_R → Prop) : Prop := wpX7_leave kt iv ar 2 (fun (iv1 : fw_F) (ar2 : fw_R) => wpX3_tellingOfKnife kt iv1 ar2 i0 (fun (r3 : Int32) (iv4 : fw_F) (ar5 : fw_R) => Q (r3 + 100) iv4 ar5))
set_option maxHeartbeats 4000000 in
set_option maxRecDepth 100000 in
theorem soX2_telling (l : Launch) (G : fw_G) (ad : Nat → Nat) (kt : kw_T) (iv : fw_F) (ar : fw_R) (i0 : Nat) (Q : Int32 → fw_F → fw_R → Prop) (hi0 : i0 < kt.1) (hk0 : ¬ kt.2.1 i0 = 0) (h : wpX2_telling kt iv ar i0 Q) : fw_M l G (kw G ad kt) yX2_telling wsX2_telling rmX2_telling [.ref (ad (28 + 2 * i0)), .ref (ad 27)] iv ar (fw_Qi G (kw G ad kt) Q) := by
  refine fw_start (cc := cX2_telling) (nL := 2) (rt := (some .int)) (by decide) rfl (Nat.le_of_ble_eq_true rfl) ?_
  intro p e s m below meth c A ls H locs C hK hG hl
  obtain ⟨args, ea⟩ : ∃ z : Array Value, z = ([.ref (ad (28 + 2 * i0)), .ref (ad 27)] : List Value).toArray := ⟨_, rfl⟩
  rw [← ea] at C ⊢
  have C : fw_C p s m args meth c cX2_telling 2 (some .int) wsX2_telling RX2 := C
  have hl : lv_has ls 2 [(0, .ref (ad (28 + 2 * i0))), (1, .ref (ad 27))] := hl
  unfold wpX2_telling at h
  refine lv_aload_n C.1 C.2.1 dX2_telling_0 rfl (lv_at hl 1 rfl) ?_
  refine lv_iconst (v := 2) C.1 C.2.1 dX2_telling_1 (by decide) ?_
  refine fw_callv (va_runV (As := [.int 2]) (rest := []) ⟨C.1, C.2.1, C.2.2.2.2.2.2, C.2.2.2.2.2.1, C.2.2.2.2.1⟩ (soX7_leave l G ad kt iv ar 2 _  h H.size) (cwV 1 C.2.2.2.2.1 gX2_telling_X7_leave rfl rfl rfl (by decide +kernel) ⟨Nat.le_of_ble_eq_true rfl, Nat.le_of_ble_eq_true rfl⟩) (fw_preV hG hK (ci := 7) rfl kw_o7) rfl rfl hl.1 rfl (lv_room (Nat.le_of_ble_eq_true rfl)) dX2_telling_2 ⟨Nat.zero_le _, Nat.zero_le _⟩) hG hK (fun iv1 ar2 H locs h hG => ?_)
  refine lv_aload_n C.1 C.2.1 dX2_telling_5 rfl (lv_at hl 0 rfl) ?_
  refine lv_aload_n C.1 C.2.1 dX2_telling_6 rfl (lv_at hl 1 rfl) ?_
  have rn : va_Run p l e rmX2_telling s m args below meth c H locs 0 0 0 0 (F0 m 7 ls (.ref (ad 27) :: .ref (ad (28 + 2 * i0)) :: [])) [] (fw_Qi G (kw G ad kt) (fun (r3 : Int32) (iv4 : fw_F) (ar5 : fw_R) => Q (r3 + 100) iv4 ar5) (va_A ((kw G ad kt) iv1 ar2) H.size) (.ref (ad (28 + 2 * i0)) :: [.ref (ad 27)]).toArray) (va_A ((kw G ad kt) iv1 ar2) H.size) := by
    by_cases e0 : kt.2.1 i0 = 0
    · exact absurd e0 hk0
    · by_cases e1 : kt.2.1 i0 = 1
      · exact va_runU (As := [.ref (ad 27)]) (rest := []) ⟨C.1, C.2.1, C.2.2.2.2.2.2, C.2.2.2.2.2.1, C.2.2.2.2.1⟩ (soX3_tellingOfKnife l G ad kt iv1 ar2 i0 _ hi0 h H.size) (va_cwU 1 C.2.2.2.2.1 gX2_telling_X3_tellingOfKnife_u13X2 rfl rfl rfl rfl (by decide +kernel) ⟨Nat.le_of_ble_eq_true rfl, Nat.le_of_ble_eq_true rfl⟩) (fw_preV hG hK (ci := 2) rfl (kw_oK2 hi0 (kw_d2 e0 e1))) rfl rfl hl.1 rfl (lv_room (Nat.le_of_ble_eq_true rfl)) dX2_telling_7 ⟨Nat.zero_le _, Nat.zero_le _⟩
      · exact va_runU (As := [.ref (ad 27)]) (rest := []) ⟨C.1, C.2.1, C.2.2.2.2.2.2, C.2.2.2.2.2.1, C.2.2.2.2.1⟩ (soX3_tellingOfKnife l G ad kt iv1 ar2 i0 _ hi0 h H.size) (va_cwU 1 C.2.2.2.2.1 gX2_telling_X3_tellingOfKnife_u13X8 rfl rfl rfl rfl (by decide +kernel) ⟨Nat.le_of_ble_eq_true rfl, Nat.le_of_ble_eq_true rfl⟩) (fw_preV hG hK (ci := 8) rfl (kw_oK8 hi0 (kw_d8 e0 e1))) rfl rfl hl.1 rfl (lv_room (Nat.le_of_ble_eq_true rfl)) dX2_telling_7 ⟨Nat.zero_le _, Nat.zero_le _⟩
  refine fw_calli (rn) hG hK (fun r3 iv4 ar5 H locs h hG => ?_)
  refine lv_bipush (v := 100) C.1 C.2.1 dX2_telling_10 (by decide) ?_
  refine lv_iadd C.1 C.2.1 dX2_telling_12 ?_
  exact fw_iret C hG h dX2_telling_13
/-! KnifeBoard$Knife.cameLying(III)I -/
def rmX3_cameLying : Room := { frames := 1, cells := 0, slots := 0, locals := 21 }
def wpX3_cameLying (x0 : Int32) (x1 : Int32) (x2 : Int32) (Q : Int32 → Prop) : Prop := ((x2 * x1) < (if ((24 * x1) - x0) < x0 then (24 * x1) - x0 else x0) → (((x2 * x1) < (if 0 ≤ (x0 - (12 * x1)) then x0 - (12 * x1) else 0 - (x0 - (12 * x1))) → (∀ y3 : Int32, y3 = (if (if 0 ≤ (x0 - (18 * x1)) then x0 - (18 * x1) else 0 - (x0 - (18 * x1))) < (if 0 ≤ (x0 - (6 * x1)) then x0 - (6 * x1) else 0 - (x0 - (6 * x1))) then (if 0 ≤ (x0 - (18 * x1)) then x0 - (18 * x1) else 0 - (x0 - (18 * x1))) else (if 0 ≤ (x0 - (6 * x1)) then x0 - (6 * x1) else 0 - (x0 - (6 * x1)))) → (((2 * x1) < y3 → (Q 3)) ∧ (¬ (2 * x1) < y3 → (Q 2))))) ∧ (¬ (x2 * x1) < (if 0 ≤ (x0 - (12 * x1)) then x0 - (12 * x1) else 0 - (x0 - (12 * x1))) → (Q 1)))) ∧ (¬ (x2 * x1) < (if ((24 * x1) - x0) < x0 then (24 * x1) - x0 else x0) → (Q 0))
set_option maxHeartbeats 4000000 in
set_option maxRecDepth 100000 in
theorem soX3_cameLying (l : Launch) (x0 : Int32) (x1 : Int32) (x2 : Int32) (Q : Int32 → Prop) (h : wpX3_cameLying x0 x1 x2 Q) : fw_pM l yX3_cameLying wsX3_cameLying rmX3_cameLying [.int x0, .int x1, .int x2] (fw_pQi Q) := by
  refine fw_pstart (cc := cX3_cameLying) (nL := 4) (rt := (some .int)) (by decide) rfl (Nat.le_of_ble_eq_true rfl) ?_
  intro p e s m below meth c A ls H locs C hA hS hl
  obtain ⟨args, ea⟩ : ∃ z : Array Value, z = ([.int x0, .int x1, .int x2] : List Value).toArray := ⟨_, rfl⟩
  rw [← ea] at C ⊢
  have C : fw_C p s m args meth c cX3_cameLying 4 (some .int) wsX3_cameLying RX3 := C
  have hl : lv_has ls 4 [(0, .int x0), (1, .int x1), (2, .int x2)] := hl
  unfold wpX3_cameLying at h
  have m19 := C.2.2.2.2.1 (.methodLink RX3 19 Lib.Math.min.name) (by decide +kernel)
  have m44 := C.2.2.2.2.1 (.methodLink RX3 44 Lib.Math.abs.name) (by decide +kernel)
  have mc_abs : (Cond.code Lib.Math.abs.name Lib.Math.abs.code 1 (some .int)).before args s = true := C.2.2.2.2.1 _ (by decide +kernel)
  have mc_min : (Cond.code Lib.Math.min.name Lib.Math.min.code 2 (some .int)).before args s = true := C.2.2.2.2.1 _ (by decide +kernel)
  have mi_ := C.2.2.2.2.1 (.initialized "java/lang/Math") (by decide +kernel)
  have ms_abs := C.2.2.2.2.1 (.static Lib.Math.abs.name) (by decide +kernel)
  have ms_min := C.2.2.2.2.1 (.static Lib.Math.min.name) (by decide +kernel)
  refine lv_iload_n C.1 C.2.1 dX3_cameLying_0 rfl (lv_at hl 0 rfl) ?_
  refine lv_bipush (v := 24) C.1 C.2.1 dX3_cameLying_1 (by decide) ?_
  refine lv_iload_n C.1 C.2.1 dX3_cameLying_3 rfl (lv_at hl 1 rfl) ?_
  refine lv_imul C.1 C.2.1 dX3_cameLying_4 ?_
  refine lv_iload_n C.1 C.2.1 dX3_cameLying_5 rfl (lv_at hl 0 rfl) ?_
  refine lv_isub C.1 C.2.1 dX3_cameLying_6 ?_
  refine va_mmin C.1 C.2.1 (by rw [C.2.2.2.2.2.2]; exact hl.1.symm) C.2.2.2.2.2.1 m19 ms_min mi_ mc_min (Nat.le_of_ble_eq_true rfl) (Nat.le_of_ble_eq_true rfl) (Nat.zero_le _) (Nat.zero_le _) dX3_cameLying_7 ?_
  refine lv_iload_n C.1 C.2.1 dX3_cameLying_10 rfl (lv_at hl 2 rfl) ?_
  refine lv_iload_n C.1 C.2.1 dX3_cameLying_11 rfl (lv_at hl 1 rfl) ?_
  refine lv_imul C.1 C.2.1 dX3_cameLying_12 ?_
  refine lv_icmp_gt (tgt := 18) C.1 C.2.1 dX3_cameLying_13 (by decide) (fun c1 => ?_) (fun c1 => ?_)
  · have h := h.1 c1
    refine lv_iload_n C.1 C.2.1 dX3_cameLying_18 rfl (lv_at hl 0 rfl) ?_
    refine lv_bipush (v := 12) C.1 C.2.1 dX3_cameLying_19 (by decide) ?_
    refine lv_iload_n C.1 C.2.1 dX3_cameLying_21 rfl (lv_at hl 1 rfl) ?_
    refine lv_imul C.1 C.2.1 dX3_cameLying_22 ?_
    refine lv_isub C.1 C.2.1 dX3_cameLying_23 ?_
    refine va_mabs C.1 C.2.1 (by rw [C.2.2.2.2.2.2]; exact hl.1.symm) C.2.2.2.2.2.1 m44 ms_abs mi_ mc_abs (Nat.le_of_ble_eq_true rfl) (Nat.le_of_ble_eq_true rfl) (Nat.zero_le _) (Nat.zero_le _) dX3_cameLying_24 ?_
    refine lv_iload_n C.1 C.2.1 dX3_cameLying_27 rfl (lv_at hl 2 rfl) ?_
    refine lv_iload_n C.1 C.2.1 dX3_cameLying_28 rfl (lv_at hl 1 rfl) ?_
    refine lv_imul C.1 C.2.1 dX3_cameLying_29 ?_
    refine lv_icmp_gt (tgt := 35) C.1 C.2.1 dX3_cameLying_30 (by decide) (fun c2 => ?_) (fun c2 => ?_)
    · have h := h.1 c2
      refine lv_iload_n C.1 C.2.1 dX3_cameLying_35 rfl (lv_at hl 0 rfl) ?_
      refine lv_bipush (v := 6) C.1 C.2.1 dX3_cameLying_36 (by decide) ?_
      refine lv_iload_n C.1 C.2.1 dX3_cameLying_38 rfl (lv_at hl 1 rfl) ?_
      refine lv_imul C.1 C.2.1 dX3_cameLying_39 ?_
      refine lv_isub C.1 C.2.1 dX3_cameLying_40 ?_
      refine va_mabs C.1 C.2.1 (by rw [C.2.2.2.2.2.2]; exact hl.1.symm) C.2.2.2.2.2.1 m44 ms_abs mi_ mc_abs (Nat.le_of_ble_eq_true rfl) (Nat.le_of_ble_eq_true rfl) (Nat.zero_le _) (Nat.zero_le _) dX3_cameLying_41 ?_
      refine lv_iload_n C.1 C.2.1 dX3_cameLying_44 rfl (lv_at hl 0 rfl) ?_
      refine lv_bipush (v := 18) C.1 C.2.1 dX3_cameLying_45 (by decide) ?_
      refine lv_iload_n C.1 C.2.1 dX3_cameLying_47 rfl (lv_at hl 1 rfl) ?_
      refine lv_imul C.1 C.2.1 dX3_cameLying_48 ?_
      refine lv_isub C.1 C.2.1 dX3_cameLying_49 ?_
      refine va_mabs C.1 C.2.1 (by rw [C.2.2.2.2.2.2]; exact hl.1.symm) C.2.2.2.2.2.1 m44 ms_abs mi_ mc_abs (Nat.le_of_ble_eq_true rfl) (Nat.le_of_ble_eq_true rfl) (Nat.zero_le _) (Nat.zero_le _) dX3_cameLying_50 ?_
      refine va_mmin C.1 C.2.1 (by rw [C.2.2.2.2.2.2]; exact hl.1.symm) C.2.2.2.2.2.1 m19 ms_min mi_ mc_min (Nat.le_of_ble_eq_true rfl) (Nat.le_of_ble_eq_true rfl) (Nat.zero_le _) (Nat.zero_le _) dX3_cameLying_53 ?_
      refine lv_topi (fun y3 ey3 => ?_)
      have h := h y3 ey3
      refine lv_istore_n (lv' := [(3, .int y3), (0, .int x0), (1, .int x1), (2, .int x2)]) C.1 C.2.1 dX3_cameLying_56 rfl hl (by decide) rfl (fun ls hl => ?_)
      refine lv_iload_n C.1 C.2.1 dX3_cameLying_57 rfl (lv_at hl 0 rfl) ?_
      refine lv_iconst (v := 2) C.1 C.2.1 dX3_cameLying_58 (by decide) ?_
      refine lv_iload_n C.1 C.2.1 dX3_cameLying_59 rfl (lv_at hl 2 rfl) ?_
      refine lv_imul C.1 C.2.1 dX3_cameLying_60 ?_
      refine lv_icmp_gt (tgt := 68) C.1 C.2.1 dX3_cameLying_61 (by decide) (fun c4 => ?_) (fun c4 => ?_)
      · have h := h.1 c4
        refine lv_iconst (v := 3) C.1 C.2.1 dX3_cameLying_68 (by decide) ?_
        exact fw_piret C hS h dX3_cameLying_69
      · have h := h.2 c4
        refine lv_iconst (v := 2) C.1 C.2.1 dX3_cameLying_64 (by decide) ?_
        refine lv_goto (tgt := 69) C.1 C.2.1 dX3_cameLying_65 (by decide) ?_
        exact fw_piret C hS h dX3_cameLying_69
    · have h := h.2 c2
      refine lv_iconst (v := 1) C.1 C.2.1 dX3_cameLying_33 (by decide) ?_
      exact fw_piret C hS h dX3_cameLying_34
  · have h := h.2 c1
    refine lv_iconst (v := 0) C.1 C.2.1 dX3_cameLying_16 (by decide) ?_
    exact fw_piret C hS h dX3_cameLying_17
/-! java/lang/Math.floorMod(II)I -/
def rmJ9_floorMod_7cf53 : Room := { frames := 0, cells := 0, slots := 0, locals := 0 }
def wpJ9_floorMod_7cf53 (x0 : Int32) (x1 : Int32) (Q : Int32 → Prop) : Prop := ¬ x1 = 0 ∧ (∀ y2 : Int32, y2 = x0 - x0 / x1 * x1 → ((0 ≤ (x0 ^^^ x1) → (Q y2)) ∧ (¬ 0 ≤ (x0 ^^^ x1) → ((y2 = 0 → (Q y2)) ∧ (¬ y2 = 0 → (Q (y2 + x1)))))))
set_option maxHeartbeats 4000000 in
set_option maxRecDepth 100000 in
theorem soJ9_floorMod_7cf53 (l : Launch) (x0 : Int32) (x1 : Int32) (Q : Int32 → Prop) (h : wpJ9_floorMod_7cf53 x0 x1 Q) : fw_pM l yJ9_floorMod_7cf53 wsJ9_floorMod_7cf53 rmJ9_floorMod_7cf53 [.int x0, .int x1] (fw_pQi Q) := by
  refine fw_fstart (cc := cJ9_floorMod_7cf53) (nL := 3) (rt := (some .int)) (by decide +kernel) rfl (Nat.le_of_ble_eq_true rfl) ?_
  intro p e s m below meth c A ls H locs C hA hS hl
  obtain ⟨args, ea⟩ : ∃ z : Array Value, z = ([.int x0, .int x1] : List Value).toArray := ⟨_, rfl⟩
  rw [← ea] at C ⊢
  have C : fw_C p s m args meth c cJ9_floorMod_7cf53 3 (some .int) wsJ9_floorMod_7cf53 RJ9 := C
  have hl : lv_has ls 3 [(0, .int x0), (1, .int x1)] := hl
  unfold wpJ9_floorMod_7cf53 at h
  refine lv_iload_n C.1 C.2.1 dJ9_floorMod_7cf53_0 rfl (lv_at hl 0 rfl) ?_
  refine lv_iload_n C.1 C.2.1 dJ9_floorMod_7cf53_1 rfl (lv_at hl 1 rfl) ?_
  obtain ⟨c1, h⟩ := h
  refine lv_irem C.1 C.2.1 dJ9_floorMod_7cf53_2 c1 ?_
  refine lv_topi (fun y2 ey2 => ?_)
  have h := h y2 ey2
  refine lv_istore_n (lv' := [(2, .int y2), (0, .int x0), (1, .int x1)]) C.1 C.2.1 dJ9_floorMod_7cf53_3 rfl hl (by decide) rfl (fun ls hl => ?_)
  refine lv_iload_n C.1 C.2.1 dJ9_floorMod_7cf53_4 rfl (lv_at hl 1 rfl) ?_
  refine lv_iload_n C.1 C.2.1 dJ9_floorMod_7cf53_5 rfl (lv_at hl 2 rfl) ?_
  refine lv_ixor C.1 C.2.1 dJ9_floorMod_7cf53_6 ?_
  refine lv_if_ge (tgt := 18) C.1 C.2.1 dJ9_floorMod_7cf53_7 (by decide) (fun c3 => ?_) (fun c3 => ?_)
  · have h := h.1 c3
    refine lv_iload_n C.1 C.2.1 dJ9_floorMod_7cf53_18 rfl (lv_at hl 0 rfl) ?_
    exact fw_piret C hS h dJ9_floorMod_7cf53_19
  · have h := h.2 c3
    refine lv_iload_n C.1 C.2.1 dJ9_floorMod_7cf53_10 rfl (lv_at hl 0 rfl) ?_
    refine lv_if_eq (tgt := 18) C.1 C.2.1 dJ9_floorMod_7cf53_11 (by decide) (fun c4 => ?_) (fun c4 => ?_)
    · have h := h.1 c4
      refine lv_iload_n C.1 C.2.1 dJ9_floorMod_7cf53_18 rfl (lv_at hl 0 rfl) ?_
      exact fw_piret C hS h dJ9_floorMod_7cf53_19
    · have h := h.2 c4
      refine lv_iload_n C.1 C.2.1 dJ9_floorMod_7cf53_14 rfl (lv_at hl 0 rfl) ?_
      refine lv_iload_n C.1 C.2.1 dJ9_floorMod_7cf53_15 rfl (lv_at hl 2 rfl) ?_
      refine lv_iadd C.1 C.2.1 dJ9_floorMod_7cf53_16 ?_
      exact fw_piret C hS h dJ9_floorMod_7cf53_17
/-! KnifeBoard$Knife.roundBy(III)I -/
def rmX3_roundBy : Room := { frames := 1, cells := 0, slots := 0, locals := 22 }
def wpX3_roundBy (kt : kw_T) (iv : fw_F) (ar : fw_R) (i0 : Nat) (x1 : Int32) (x2 : Int32) (x3 : Int32) (Q : Int32 → Prop) : Prop := wpJ9_floorMod_7cf53 ((x1 * (kt.2.2.1 i0 1)) + (x2 * x3)) (24 * (kt.2.2.1 i0 1)) (fun (r1 : Int32) => Q r1)
set_option maxHeartbeats 4000000 in
set_option maxRecDepth 100000 in
theorem soX3_roundBy (l : Launch) (G : fw_G) (ad : Nat → Nat) (kt : kw_T) (iv : fw_F) (ar : fw_R) (i0 : Nat) (x1 : Int32) (x2 : Int32) (x3 : Int32) (Q : Int32 → Prop) (hi0 : i0 < kt.1) (h : wpX3_roundBy kt iv ar i0 x1 x2 x3 Q) : fw_M l G (kw G ad kt) yX3_roundBy wsX3_roundBy rmX3_roundBy [.ref (ad (28 + 2 * i0)), .int x1, .int x2, .int x3] iv ar (fw_Qi G (kw G ad kt) (fun r iv1 ar1 => Q r ∧ iv = iv1 ∧ ar = ar1)) := by
  refine fw_start (cc := cX3_roundBy) (nL := 4) (rt := (some .int)) (by decide) rfl (Nat.le_of_ble_eq_true rfl) ?_
  intro p e s m below meth c A ls H locs C hK hG hl
  obtain ⟨args, ea⟩ : ∃ z : Array Value, z = ([.ref (ad (28 + 2 * i0)), .int x1, .int x2, .int x3] : List Value).toArray := ⟨_, rfl⟩
  rw [← ea] at C ⊢
  have C : fw_C p s m args meth c cX3_roundBy 4 (some .int) wsX3_roundBy RX3 := C
  have hl : lv_has ls 4 [(0, .ref (ad (28 + 2 * i0))), (1, .int x1), (2, .int x2), (3, .int x3)] := hl
  unfold wpX3_roundBy at h
  have in_X2 : ∀ x ∈ wsX20, x ∈ wsX3_roundBy := by decide +kernel
  have in_X3 : ∀ x ∈ wsX30, x ∈ wsX3_roundBy := by decide +kernel
  have in_X8 : ∀ x ∈ wsX80, x ∈ wsX3_roundBy := by decide +kernel
  have k28 := C.2.2.2.2.1 (.fieldLink RX3 28 "KnifeBoard$Knife" "pace" "I") (by decide +kernel)
  refine lv_iload_n C.1 C.2.1 dX3_roundBy_0 rfl (lv_at hl 1 rfl) ?_
  refine lv_aload_n C.1 C.2.1 dX3_roundBy_1 rfl (lv_at hl 0 rfl) ?_
  refine kw_gK C in_X3 in_X2 in_X8 hK hG hi0 1 (by decide) k28 rfl rfl dX3_roundBy_2 ?_
  refine lv_imul C.1 C.2.1 dX3_roundBy_5 ?_
  refine lv_iload_n C.1 C.2.1 dX3_roundBy_6 rfl (lv_at hl 2 rfl) ?_
  refine lv_iload_n C.1 C.2.1 dX3_roundBy_7 rfl (lv_at hl 3 rfl) ?_
  refine lv_imul C.1 C.2.1 dX3_roundBy_8 ?_
  refine lv_iadd C.1 C.2.1 dX3_roundBy_9 ?_
  refine lv_bipush (v := 24) C.1 C.2.1 dX3_roundBy_10 (by decide) ?_
  refine lv_aload_n C.1 C.2.1 dX3_roundBy_12 rfl (lv_at hl 0 rfl) ?_
  refine kw_gK C in_X3 in_X2 in_X8 hK hG hi0 1 (by decide) k28 rfl rfl dX3_roundBy_13 ?_
  refine lv_imul C.1 C.2.1 dX3_roundBy_16 ?_
  refine fw_pcalli (va_runS (As := [.int ((x1 * (kt.2.2.1 i0 1)) + (x2 * x3)), .int (24 * (kt.2.2.1 i0 1))]) (rest := []) ⟨C.1, C.2.1, C.2.2.2.2.2.2, C.2.2.2.2.2.1, C.2.2.2.2.1⟩ (soJ9_floorMod_7cf53 l ((x1 * (kt.2.2.1 i0 1)) + (x2 * x3)) (24 * (kt.2.2.1 i0 1)) _ h H.size) (va_cwS 2 C.2.2.2.2.1 gX3_roundBy_J9_floorMod_7cf53 rfl rfl rfl (by decide +kernel) ⟨Nat.le_of_ble_eq_true rfl, Nat.le_of_ble_eq_true rfl⟩) fw_ppre rfl rfl hl.1 rfl (lv_room (Nat.le_of_ble_eq_true rfl)) dX3_roundBy_17 ⟨Nat.zero_le _, Nat.zero_le _⟩) hG hK (fun r1  H locs h hG => ?_)
  exact fw_iret C hG ⟨h, rfl, rfl⟩ dX3_roundBy_20
/-! KnifeBoard$Knife.cameBy(III)I -/
def rmX3_cameBy : Room := { frames := 2, cells := 0, slots := 0, locals := 45 }
def wpX3_cameBy (kt : kw_T) (iv : fw_F) (ar : fw_R) (i0 : Nat) (x1 : Int32) (x2 : Int32) (x3 : Int32) (Q : Int32 → Prop) : Prop := wpX3_roundBy kt iv ar i0 x1 x2 x3 (fun (r1 : Int32) => vp_in r1 216 ∧ (Q ((kt.2.2.2 i0) r1.toNatClampNeg)))
set_option maxHeartbeats 4000000 in
set_option maxRecDepth 100000 in
theorem soX3_cameBy (l : Launch) (G : fw_G) (ad : Nat → Nat) (kt : kw_T) (iv : fw_F) (ar : fw_R) (i0 : Nat) (x1 : Int32) (x2 : Int32) (x3 : Int32) (Q : Int32 → Prop) (hi0 : i0 < kt.1) (h : wpX3_cameBy kt iv ar i0 x1 x2 x3 Q) : fw_M l G (kw G ad kt) yX3_cameBy wsX3_cameBy rmX3_cameBy [.ref (ad (28 + 2 * i0)), .int x1, .int x2, .int x3] iv ar (fw_Qi G (kw G ad kt) (fun r iv1 ar1 => Q r ∧ iv = iv1 ∧ ar = ar1)) := by
  refine fw_start (cc := cX3_cameBy) (nL := 4) (rt := (some .int)) (by decide) rfl (Nat.le_of_ble_eq_true rfl) ?_
  intro p e s m below meth c A ls H locs C hK hG hl
  obtain ⟨args, ea⟩ : ∃ z : Array Value, z = ([.ref (ad (28 + 2 * i0)), .int x1, .int x2, .int x3] : List Value).toArray := ⟨_, rfl⟩
  rw [← ea] at C ⊢
  have C : fw_C p s m args meth c cX3_cameBy 4 (some .int) wsX3_cameBy RX3 := C
  have hl : lv_has ls 4 [(0, .ref (ad (28 + 2 * i0))), (1, .int x1), (2, .int x2), (3, .int x3)] := hl
  unfold wpX3_cameBy at h
  have in_X2 : ∀ x ∈ wsX20, x ∈ wsX3_cameBy := by decide +kernel
  have in_X3 : ∀ x ∈ wsX30, x ∈ wsX3_cameBy := by decide +kernel
  have in_X8 : ∀ x ∈ wsX80, x ∈ wsX3_cameBy := by decide +kernel
  have k9 := C.2.2.2.2.1 (.fieldLink RX3 9 "KnifeBoard$Knife" "cameAt" "[I") (by decide +kernel)
  refine lv_aload_n C.1 C.2.1 dX3_cameBy_0 rfl (lv_at hl 0 rfl) ?_
  refine kw_gK C in_X3 in_X2 in_X8 hK hG hi0 5 (by decide) k9 rfl rfl dX3_cameBy_1 ?_
  refine lv_aload_n C.1 C.2.1 dX3_cameBy_4 rfl (lv_at hl 0 rfl) ?_
  refine lv_iload_n C.1 C.2.1 dX3_cameBy_5 rfl (lv_at hl 1 rfl) ?_
  refine lv_iload_n C.1 C.2.1 dX3_cameBy_6 rfl (lv_at hl 2 rfl) ?_
  refine lv_iload_n C.1 C.2.1 dX3_cameBy_7 rfl (lv_at hl 3 rfl) ?_
  have rn : va_Run p l e rmX3_cameBy s m args below meth c H locs 0 0 0 0 (F0 m 8 ls (.int x3 :: .int x2 :: .int x1 :: .ref (ad (28 + 2 * i0)) :: [.ref (ad (29 + 2 * i0))])) [.ref (ad (29 + 2 * i0))] (fw_Qi G (kw G ad kt) (fun r iv1 ar1 => (fun (r1 : Int32) => vp_in r1 216 ∧ (Q ((kt.2.2.2 i0) r1.toNatClampNeg))) r ∧ iv = iv1 ∧ ar = ar1) (va_A ((kw G ad kt) iv ar) H.size) (.ref (ad (28 + 2 * i0)) :: [.int x1, .int x2, .int x3]).toArray) (va_A ((kw G ad kt) iv ar) H.size) := by
    by_cases e0 : kt.2.1 i0 = 0
    · exact va_runV (As := [.int x1, .int x2, .int x3]) (rest := [.ref (ad (29 + 2 * i0))]) ⟨C.1, C.2.1, C.2.2.2.2.2.2, C.2.2.2.2.2.1, C.2.2.2.2.1⟩ (soX3_roundBy l G ad kt iv ar i0 x1 x2 x3 _ hi0 h H.size) (cwV 3 C.2.2.2.2.1 gX3_cameBy_X3_roundBy rfl rfl rfl (by decide +kernel) ⟨Nat.le_of_ble_eq_true rfl, Nat.le_of_ble_eq_true rfl⟩) (fw_preV hG hK (ci := 3) rfl (kw_oK3 hi0 (kw_d3 e0))) rfl rfl hl.1 rfl (lv_room (Nat.le_of_ble_eq_true rfl)) dX3_cameBy_8 ⟨Nat.zero_le _, Nat.zero_le _⟩
    · by_cases e1 : kt.2.1 i0 = 1
      · exact va_runU (As := [.int x1, .int x2, .int x3]) (rest := [.ref (ad (29 + 2 * i0))]) ⟨C.1, C.2.1, C.2.2.2.2.2.2, C.2.2.2.2.2.1, C.2.2.2.2.1⟩ (soX3_roundBy l G ad kt iv ar i0 x1 x2 x3 _ hi0 h H.size) (va_cwU 3 C.2.2.2.2.1 gX3_cameBy_X3_roundBy_u51X2 rfl rfl rfl rfl (by decide +kernel) ⟨Nat.le_of_ble_eq_true rfl, Nat.le_of_ble_eq_true rfl⟩) (fw_preV hG hK (ci := 2) rfl (kw_oK2 hi0 (kw_d2 e0 e1))) rfl rfl hl.1 rfl (lv_room (Nat.le_of_ble_eq_true rfl)) dX3_cameBy_8 ⟨Nat.zero_le _, Nat.zero_le _⟩
      · exact va_runU (As := [.int x1, .int x2, .int x3]) (rest := [.ref (ad (29 + 2 * i0))]) ⟨C.1, C.2.1, C.2.2.2.2.2.2, C.2.2.2.2.2.1, C.2.2.2.2.1⟩ (soX3_roundBy l G ad kt iv ar i0 x1 x2 x3 _ hi0 h H.size) (va_cwU 3 C.2.2.2.2.1 gX3_cameBy_X3_roundBy_u51X8 rfl rfl rfl rfl (by decide +kernel) ⟨Nat.le_of_ble_eq_true rfl, Nat.le_of_ble_eq_true rfl⟩) (fw_preV hG hK (ci := 8) rfl (kw_oK8 hi0 (kw_d8 e0 e1))) rfl rfl hl.1 rfl (lv_room (Nat.le_of_ble_eq_true rfl)) dX3_cameBy_8 ⟨Nat.zero_le _, Nat.zero_le _⟩
  refine fw_rcalli (rn) hG hK (fun r1  H locs h hG => ?_)
  obtain ⟨c2, h⟩ := h
  refine fw_iald (w := (kw G ad kt)) C hK hG (29 + 2 * i0) (kw_aK hi0) c2 dX3_cameBy_11 ?_
  exact fw_iret C hG ⟨h, rfl, rfl⟩ dX3_cameBy_12
/-! KnifeBoard$Knife.sticksSo(I)Z -/
def rmX3_sticksSo : Room := { frames := 0, cells := 0, slots := 0, locals := 0 }
def wpX3_sticksSo (kt : kw_T) (iv : fw_F) (ar : fw_R) (i0 : Nat) (x1 : Int32) (Q : Int32 → Prop) : Prop := (¬ x1 = 0 → (Q 0)) ∧ (x1 = 0 → (Q 1))
set_option maxHeartbeats 4000000 in
set_option maxRecDepth 100000 in
theorem soX3_sticksSo (l : Launch) (G : fw_G) (ad : Nat → Nat) (kt : kw_T) (iv : fw_F) (ar : fw_R) (i0 : Nat) (x1 : Int32) (Q : Int32 → Prop) (hi0 : i0 < kt.1) (h : wpX3_sticksSo kt iv ar i0 x1 Q) : fw_M l G (kw G ad kt) yX3_sticksSo wsX3_sticksSo rmX3_sticksSo [.ref (ad (28 + 2 * i0)), .int x1] iv ar (fw_Qi G (kw G ad kt) (fun r iv1 ar1 => Q r ∧ iv = iv1 ∧ ar = ar1)) := by
  refine fw_start (cc := cX3_sticksSo) (nL := 2) (rt := (some .boolean)) (by decide) rfl (Nat.le_of_ble_eq_true rfl) ?_
  intro p e s m below meth c A ls H locs C hK hG hl
  obtain ⟨args, ea⟩ : ∃ z : Array Value, z = ([.ref (ad (28 + 2 * i0)), .int x1] : List Value).toArray := ⟨_, rfl⟩
  rw [← ea] at C ⊢
  have C : fw_C p s m args meth c cX3_sticksSo 2 (some .boolean) wsX3_sticksSo RX3 := C
  have hl : lv_has ls 2 [(0, .ref (ad (28 + 2 * i0))), (1, .int x1)] := hl
  unfold wpX3_sticksSo at h
  refine lv_iload_n C.1 C.2.1 dX3_sticksSo_0 rfl (lv_at hl 1 rfl) ?_
  refine lv_if_ne (tgt := 8) C.1 C.2.1 dX3_sticksSo_1 (by decide) (fun c1 => ?_) (fun c1 => ?_)
  · have h := h.1 c1
    refine lv_iconst (v := 0) C.1 C.2.1 dX3_sticksSo_8 (by decide) ?_
    exact fw_zret C hG (by decide) ⟨h, rfl, rfl⟩ dX3_sticksSo_9
  · have h := h.2 c1
    refine lv_iconst (v := 1) C.1 C.2.1 dX3_sticksSo_4 (by decide) ?_
    refine lv_goto (tgt := 9) C.1 C.2.1 dX3_sticksSo_5 (by decide) ?_
    exact fw_zret C hG (by decide) ⟨h, rfl, rfl⟩ dX3_sticksSo_9
/-! KnifeBoard$Twin.sticksSo(I)Z -/
def rmX8_sticksSo : Room := { frames := 0, cells := 0, slots := 0, locals := 0 }
def wpX8_sticksSo (kt : kw_T) (iv : fw_F) (ar : fw_R) (i0 : Nat) (x1 : Int32) (Q : Int32 → Prop) : Prop := (x1 = 0 → (Q 1)) ∧ (¬ x1 = 0 → ((¬ x1 = 1 → (Q 0)) ∧ (x1 = 1 → (Q 1))))
set_option maxHeartbeats 4000000 in
set_option maxRecDepth 100000 in
theorem soX8_sticksSo (l : Launch) (G : fw_G) (ad : Nat → Nat) (kt : kw_T) (iv : fw_F) (ar : fw_R) (i0 : Nat) (x1 : Int32) (Q : Int32 → Prop) (hi0 : i0 < kt.1) (hk0 : ¬ kt.2.1 i0 = 0) (hk1 : ¬ kt.2.1 i0 = 1) (h : wpX8_sticksSo kt iv ar i0 x1 Q) : fw_M l G (kw G ad kt) yX8_sticksSo wsX8_sticksSo rmX8_sticksSo [.ref (ad (28 + 2 * i0)), .int x1] iv ar (fw_Qi G (kw G ad kt) (fun r iv1 ar1 => Q r ∧ iv = iv1 ∧ ar = ar1)) := by
  refine fw_start (cc := cX8_sticksSo) (nL := 2) (rt := (some .boolean)) (by decide) rfl (Nat.le_of_ble_eq_true rfl) ?_
  intro p e s m below meth c A ls H locs C hK hG hl
  obtain ⟨args, ea⟩ : ∃ z : Array Value, z = ([.ref (ad (28 + 2 * i0)), .int x1] : List Value).toArray := ⟨_, rfl⟩
  rw [← ea] at C ⊢
  have C : fw_C p s m args meth c cX8_sticksSo 2 (some .boolean) wsX8_sticksSo RX8 := C
  have hl : lv_has ls 2 [(0, .ref (ad (28 + 2 * i0))), (1, .int x1)] := hl
  unfold wpX8_sticksSo at h
  refine lv_iload_n C.1 C.2.1 dX8_sticksSo_0 rfl (lv_at hl 1 rfl) ?_
  refine lv_if_eq (tgt := 9) C.1 C.2.1 dX8_sticksSo_1 (by decide) (fun c1 => ?_) (fun c1 => ?_)
  · have h := h.1 c1
    refine lv_iconst (v := 1) C.1 C.2.1 dX8_sticksSo_9 (by decide) ?_
    refine lv_goto (tgt := 14) C.1 C.2.1 dX8_sticksSo_10 (by decide) ?_
    exact fw_zret C hG (by decide) ⟨h, rfl, rfl⟩ dX8_sticksSo_14
  · have h := h.2 c1
    refine lv_iload_n C.1 C.2.1 dX8_sticksSo_4 rfl (lv_at hl 1 rfl) ?_
    refine lv_iconst (v := 1) C.1 C.2.1 dX8_sticksSo_5 (by decide) ?_
    refine lv_icmp_ne (tgt := 13) C.1 C.2.1 dX8_sticksSo_6 (by decide) (fun c2 => ?_) (fun c2 => ?_)
    · have h := h.1 c2
      refine lv_iconst (v := 0) C.1 C.2.1 dX8_sticksSo_13 (by decide) ?_
      exact fw_zret C hG (by decide) ⟨h, rfl, rfl⟩ dX8_sticksSo_14
    · have h := h.2 c2
      refine lv_iconst (v := 1) C.1 C.2.1 dX8_sticksSo_9 (by decide) ?_
      refine lv_goto (tgt := 14) C.1 C.2.1 dX8_sticksSo_10 (by decide) ?_
      exact fw_zret C hG (by decide) ⟨h, rfl, rfl⟩ dX8_sticksSo_14
