/-! KnifeBoardModel.isChalk(II)Z -/
def rmX10_isChalk : Room := { frames := 1, cells := 0, slots := 0, locals := 22 }
def wpX10_isChalk_L2 (x1 : Int32) (x2 : Int32) (iv : fw_F) (ar : fw_R) (Q : Int32 → Prop) (K : Int32 → Prop) : Nat → Int32 → Prop
  | 0, _ => False
  | fu + 1, z3 => ((2 * x2) ≤ z3 → (K z3)) ∧ (¬ (2 * x2) ≤ z3 → (vp_in (x1 + z3) 320 ∧ (wpX10_within ((ar 4) (x1 + z3).toNatClampNeg) (-99) 99 (fun (r3 : Int32) => (¬ r3 = 0 → (∀ y5 : Int32, y5 = z3 + 1 → (wpX10_isChalk_L2 x1 x2 iv ar Q K fu y5))) ∧ (r3 = 0 → (Q 0))))))
def wpX10_isChalk (iv : fw_F) (ar : fw_R) (x1 : Int32) (x2 : Int32) (Q : Int32 → Prop) : Prop := ∃ ku : Nat, wpX10_isChalk_L2 x1 x2 iv ar Q (fun (w6 : Int32) => wpX10_within x2 1 40 (fun (r7 : Int32) => (r7 = 0 ∨ r7 = 1) ∧ Q r7)) ku 0
set_option maxHeartbeats 4000000 in
set_option maxRecDepth 100000 in
theorem soX10_isChalk_L2 {p : Program} {l : Launch} {e : Env} {s : State} {m : MethodId} {args : Array Value} {below : List Frame} {meth : Method} {c : Code} {A : Nat → Prop} {G : fw_G} {mh : Nat} {ad : Nat → Nat} {x1 : Int32} {x2 : Int32} {iv : fw_F} {ar : fw_R} {Q : Int32 → Prop} {K : Int32 → Prop} (C : fw_C p s m args meth c cX10_isChalk 4 (some .boolean) wsX10_isChalk RX10) (hK : fw_K G A s)  (hX : ∀ (z3 : Int32), K z3 → ∀ (H : Heap) (locs : List Loc), fw_H G ((mw G mh ad) iv ar) A s H locs → ∀ (ls : Array Slot), lv_has ls 4 [(3, .int z3), (0, .ref mh), (1, .int x1), (2, .int x2)] → W p l e rmX10_isChalk s m args below meth c H locs 0 0 (MQ below (fw_Qi G (mw G mh ad) (fun r iv1 ar1 => Q r ∧ iv = iv1 ∧ ar = ar1) A) args s 0 0 A) (F0 m 35 ls [])) : ∀ (fu : Nat) (z3 : Int32), wpX10_isChalk_L2 x1 x2 iv ar Q K fu z3 → ∀ (H : Heap) (locs : List Loc), fw_H G ((mw G mh ad) iv ar) A s H locs → ∀ (ls : Array Slot), lv_has ls 4 [(3, .int z3), (0, .ref mh), (1, .int x1), (2, .int x2)] → W p l e rmX10_isChalk s m args below meth c H locs 0 0 (MQ below (fw_Qi G (mw G mh ad) (fun r iv1 ar1 => Q r ∧ iv = iv1 ∧ ar = ar1) A) args s 0 0 A) (F0 m 2 ls []) := by
  intro fu
  have in_X10 : ∀ x ∈ wsX100, x ∈ wsX10_isChalk := by decide +kernel
  have k16 := C.2.2.2.2.1 (.fieldLink RX10 16 "KnifeBoardModel" "cells" "[I") (by decide +kernel)
  induction fu with
  | zero => intro z3 h; exact h.elim
  | succ fu ih =>
    intro z3 h H locs hG ls hl
    unfold wpX10_isChalk_L2 at h
    refine lv_iload_n C.1 C.2.1 dX10_isChalk_2 rfl (lv_at hl 0 rfl) ?_
    refine lv_iconst (v := 2) C.1 C.2.1 dX10_isChalk_3 (by decide) ?_
    refine lv_iload_n C.1 C.2.1 dX10_isChalk_4 rfl (lv_at hl 3 rfl) ?_
    refine lv_imul C.1 C.2.1 dX10_isChalk_5 ?_
    refine lv_icmp_ge (tgt := 35) C.1 C.2.1 dX10_isChalk_6 (by decide) (fun c1 => ?_) (fun c1 => ?_)
    · have h := h.1 c1
      exact hX _ h _ _ hG ls (lv_sub hl [0, 1, 2, 3] rfl)
    · have h := h.2 c1
      refine lv_aload_n C.1 C.2.1 dX10_isChalk_9 rfl (lv_at hl 1 rfl) ?_
      refine fw_get (w := (mw G mh ad)) C in_X10 hK hG 0 mw_o rfl 4 (by decide) k16 rfl rfl dX10_isChalk_10 ?_
      refine lv_iload_n C.1 C.2.1 dX10_isChalk_13 rfl (lv_at hl 2 rfl) ?_
      refine lv_iload_n C.1 C.2.1 dX10_isChalk_14 rfl (lv_at hl 0 rfl) ?_
      refine lv_iadd C.1 C.2.1 dX10_isChalk_15 ?_
      obtain ⟨c2, h⟩ := h
      refine fw_iald (w := (mw G mh ad)) C hK hG 3 mw_a4 c2 dX10_isChalk_16 ?_
      refine lv_bipush (v := (-99)) C.1 C.2.1 dX10_isChalk_17 (by decide) ?_
      refine lv_bipush (v := 99) C.1 C.2.1 dX10_isChalk_19 (by decide) ?_
      refine fw_pcalli (va_runS (As := [.int ((ar 4) (x1 + z3).toNatClampNeg), .int (-99), .int 99]) (rest := []) ⟨C.1, C.2.1, C.2.2.2.2.2.2, C.2.2.2.2.2.1, C.2.2.2.2.1⟩ (soX10_within l ((ar 4) (x1 + z3).toNatClampNeg) (-99) 99 _ h H.size) (va_cwS 3 C.2.2.2.2.1 gX10_isChalk_X10_within rfl rfl rfl (by decide +kernel) ⟨Nat.le_of_ble_eq_true rfl, Nat.le_of_ble_eq_true rfl⟩) fw_ppre rfl rfl hl.1 rfl (lv_room (Nat.le_of_ble_eq_true rfl)) dX10_isChalk_21 ⟨Nat.zero_le _, Nat.zero_le _⟩) hG hK (fun r3  H locs h hG => ?_)
      refine lv_if_ne (tgt := 29) C.1 C.2.1 dX10_isChalk_24 (by decide) (fun c4 => ?_) (fun c4 => ?_)
      · have h := h.1 c4
        obtain ⟨y5, ey5⟩ : ∃ z : Int32, z = z3 + 1 := ⟨_, rfl⟩
        have h := h y5 ey5
        refine lv_iinc (v := y5) (lv' := [(3, .int y5), (0, .ref mh), (1, .int x1), (2, .int x2)]) C.1 C.2.1 dX10_isChalk_29 hl (k := 0) rfl (by rw [ey5]; rfl) (by decide) rfl (fun ls hl => ?_)
        refine lv_goto (tgt := 2) C.1 C.2.1 dX10_isChalk_32 (by decide) ?_
        exact ih _ h _ _ hG ls (lv_sub hl [0, 1, 2, 3] rfl)
      · have h := h.2 c4
        refine lv_iconst (v := 0) C.1 C.2.1 dX10_isChalk_27 (by decide) ?_
        exact fw_zret C hG (by decide) ⟨h, rfl, rfl⟩ dX10_isChalk_28

set_option maxHeartbeats 4000000 in
set_option maxRecDepth 100000 in
theorem soX10_isChalk (l : Launch) (G : fw_G) (mh : Nat) (ad : Nat → Nat) (iv : fw_F) (ar : fw_R) (x1 : Int32) (x2 : Int32) (Q : Int32 → Prop)  (h : wpX10_isChalk iv ar x1 x2 Q) : fw_M l G (mw G mh ad) yX10_isChalk wsX10_isChalk rmX10_isChalk [.ref mh, .int x1, .int x2] iv ar (fw_Qi G (mw G mh ad) (fun r iv1 ar1 => Q r ∧ iv = iv1 ∧ ar = ar1)) := by
  refine fw_start (cc := cX10_isChalk) (nL := 4) (rt := (some .boolean)) (by decide) rfl (Nat.le_of_ble_eq_true rfl) ?_
  intro p e s m below meth c A ls H locs C hK hG hl
  obtain ⟨args, ea⟩ : ∃ z : Array Value, z = ([.ref mh, .int x1, .int x2] : List Value).toArray := ⟨_, rfl⟩
  rw [← ea] at C ⊢
  have C : fw_C p s m args meth c cX10_isChalk 4 (some .boolean) wsX10_isChalk RX10 := C
  have hl : lv_has ls 4 [(0, .ref mh), (1, .int x1), (2, .int x2)] := hl
  unfold wpX10_isChalk at h
  refine lv_iconst (v := 0) C.1 C.2.1 dX10_isChalk_0 (by decide) ?_
  refine lv_istore_n (lv' := [(3, .int 0), (0, .ref mh), (1, .int x1), (2, .int x2)]) C.1 C.2.1 dX10_isChalk_1 rfl hl (by decide) rfl (fun ls hl => ?_)
  obtain ⟨ku, h⟩ := h
  refine soX10_isChalk_L2 C hK  ?_ ku _ h _ _ hG ls (lv_sub hl [0, 1, 2, 3] rfl)
  intro w6 h H locs hG ls hl
  refine lv_iload_n C.1 C.2.1 dX10_isChalk_35 rfl (lv_at hl 3 rfl) ?_
  refine lv_iconst (v := 1) C.1 C.2.1 dX10_isChalk_36 (by decide) ?_
  refine lv_bipush (v := 40) C.1 C.2.1 dX10_isChalk_37 (by decide) ?_
  refine fw_pcalli (va_runS (As := [.int x2, .int 1, .int 40]) (rest := []) ⟨C.1, C.2.1, C.2.2.2.2.2.2, C.2.2.2.2.2.1, C.2.2.2.2.1⟩ (soX10_within l x2 1 40 _ h H.size) (va_cwS 3 C.2.2.2.2.1 gX10_isChalk_X10_within rfl rfl rfl (by decide +kernel) ⟨Nat.le_of_ble_eq_true rfl, Nat.le_of_ble_eq_true rfl⟩) fw_ppre rfl rfl hl.1 rfl (lv_room (Nat.le_of_ble_eq_true rfl)) dX10_isChalk_39 ⟨Nat.zero_le _, Nat.zero_le _⟩) hG hK (fun r7  H locs h hG => ?_)
  obtain ⟨cb, h⟩ := h
  exact fw_zret C hG (fw_nb cb) ⟨h, rfl, rfl⟩ dX10_isChalk_42
/-! KnifeBoardModel.chalk(IIIIII)J -/
def rmX10_chalk : Room := { frames := 2, cells := 0, slots := 0, locals := 55 }
def wpX10_chalk_L94 (x1 : Int32) (x2 : Int32) (x3 : Int32) (x4 : Int32) (x5 : Int32) (x6 : Int32) (y8 : Int32) (iv1 : fw_F) (ar : fw_R) (Q : Int64 → fw_F → fw_R → Prop) (K : Int32 → Int32 → Prop) : Nat → Int32 → Int32 → Prop
  | 0, _, _ => False
  | fu + 1, z9, z10 => (x4 ≤ z10 → (K z9 z10)) ∧ (¬ x4 ≤ z10 → (vp_in ((y8 + (2 * z10)) + (x5 - x5 / 2 * 2)) 320 ∧ (∀ y17 : Int32, y17 = (ar 4) ((y8 + (2 * z10)) + (x5 - x5 / 2 * 2)).toNatClampNeg → ((x5 ≤ 1 → (∀ y19 : Int32, y19 = z9 + y17 → (∀ y20 : Int32, y20 = z10 + 1 → (wpX10_chalk_L94 x1 x2 x3 x4 x5 x6 y8 iv1 ar Q K fu y19 y20)))) ∧ (¬ x5 ≤ 1 → ((0 ≤ y17 → (∀ y22 : Int32, y22 = z9 + y17 → (∀ y23 : Int32, y23 = z10 + 1 → (wpX10_chalk_L94 x1 x2 x3 x4 x5 x6 y8 iv1 ar Q K fu y22 y23)))) ∧ (¬ 0 ≤ y17 → (∀ y24 : Int32, y24 = z9 + (-y17) → (∀ y25 : Int32, y25 = z10 + 1 → (wpX10_chalk_L94 x1 x2 x3 x4 x5 x6 y8 iv1 ar Q K fu y24 y25))))))))))
def wpX10_chalk (iv : fw_F) (ar : fw_R) (x1 : Int32) (x2 : Int32) (x3 : Int32) (x4 : Int32) (x5 : Int32) (x6 : Int32) (Q : Int64 → fw_F → fw_R → Prop) : Prop := ∀ iv1 : fw_F, iv1 = va_up iv 0 0 → (wpX10_isSheet x1 (fun (r2 : Int32) => (r2 = 0 → (Q (-9223372036854775808) iv1 ar)) ∧ (¬ r2 = 0 → (wpX10_isSort x2 (fun (r4 : Int32) => (¬ r4 = 0 → (wpX10_against iv1 ar x1 x2 x3 x4 2 (fun (r6 : Int32) => (r6 = 0 → (∀ y8 : Int32, y8 = (80 * x1) + x3 → (wpX10_isChalk iv1 ar y8 x4 (fun (r9 : Int32) => (r9 = 0 → (Q (-9223372036854775808) iv1 ar)) ∧ (¬ r9 = 0 → (wpX10_within x5 0 3 (fun (r11 : Int32) => (r11 = 0 → (Q (-9223372036854775808) iv1 ar)) ∧ (¬ r11 = 0 → (wpX10_isWhich x6 (fun (r13 : Int32) => (¬ r13 = 0 → (∃ ku : Nat, wpX10_chalk_L94 x1 x2 x3 x4 x5 x6 y8 iv1 ar Q (fun (w26 : Int32) (w27 : Int32) => (2 ≤ x5 → ((¬ x6 = 0 → (Q 1 iv1 ar)) ∧ (x6 = 0 → (Q w26.toInt64 iv1 ar)))) ∧ (¬ 2 ≤ x5 → (wpX10_share w26.toInt64 x4.toInt64 x6 (fun (r30 : Int64) => Q r30 iv1 ar)))) ku 0 0)) ∧ (r13 = 0 → (Q (-9223372036854775808) iv1 ar)))))))))))) ∧ (¬ r6 = 0 → (wpX10_lost iv1 ar r6 (fun (r31 : Int64) (iv32 : fw_F) (ar33 : fw_R) => Q r31 iv32 ar33)))))) ∧ (r4 = 0 → (Q (-9223372036854775808) iv1 ar)))))))
set_option maxHeartbeats 4000000 in
set_option maxRecDepth 100000 in
theorem soX10_chalk_L94 {p : Program} {l : Launch} {e : Env} {s : State} {m : MethodId} {args : Array Value} {below : List Frame} {meth : Method} {c : Code} {A : Nat → Prop} {G : fw_G} {mh : Nat} {ad : Nat → Nat} {x1 : Int32} {x2 : Int32} {x3 : Int32} {x4 : Int32} {x5 : Int32} {x6 : Int32} {y8 : Int32} {iv1 : fw_F} {ar : fw_R} {Q : Int64 → fw_F → fw_R → Prop} {K : Int32 → Int32 → Prop} (C : fw_C p s m args meth c cX10_chalk 12 (some .long) wsX10_chalk RX10) (hK : fw_K G A s)  (hX : ∀ (z9 : Int32) (z10 : Int32), K z9 z10 → ∀ (H : Heap) (locs : List Loc), fw_H G ((mw G mh ad) iv1 ar) A s H locs → ∀ (ls : Array Slot), lv_has ls 12 [(10, .int z10), (9, .int z9), (8, .int y8), (0, .ref mh), (4, .int x4), (5, .int x5), (6, .int x6)] → W p l e rmX10_chalk s m args below meth c H locs 0 0 (MQ below (fw_Ql G (mw G mh ad) Q A) args s 0 0 A) (F0 m 150 ls [])) : ∀ (fu : Nat) (z9 : Int32) (z10 : Int32), wpX10_chalk_L94 x1 x2 x3 x4 x5 x6 y8 iv1 ar Q K fu z9 z10 → ∀ (H : Heap) (locs : List Loc), fw_H G ((mw G mh ad) iv1 ar) A s H locs → ∀ (ls : Array Slot), lv_has ls 12 [(10, .int z10), (9, .int z9), (8, .int y8), (0, .ref mh), (4, .int x4), (5, .int x5), (6, .int x6)] → W p l e rmX10_chalk s m args below meth c H locs 0 0 (MQ below (fw_Ql G (mw G mh ad) Q A) args s 0 0 A) (F0 m 94 ls []) := by
  intro fu
  have in_X10 : ∀ x ∈ wsX100, x ∈ wsX10_chalk := by decide +kernel
  have k16 := C.2.2.2.2.1 (.fieldLink RX10 16 "KnifeBoardModel" "cells" "[I") (by decide +kernel)
  induction fu with
  | zero => intro z9 z10 h; exact h.elim
  | succ fu ih =>
    intro z9 z10 h H locs hG ls hl
    unfold wpX10_chalk_L94 at h
    refine lv_iload C.1 C.2.1 dX10_chalk_94 (lv_at hl 0 rfl) ?_
    refine lv_iload C.1 C.2.1 dX10_chalk_96 (lv_at hl 4 rfl) ?_
    refine lv_icmp_ge (tgt := 150) C.1 C.2.1 dX10_chalk_98 (by decide) (fun c15 => ?_) (fun c15 => ?_)
    · have h := h.1 c15
      exact hX _ _ h _ _ hG ls (lv_sub hl [0, 1, 2, 3, 4, 5, 6] rfl)
    · have h := h.2 c15
      refine lv_aload_n C.1 C.2.1 dX10_chalk_101 rfl (lv_at hl 3 rfl) ?_
      refine fw_get (w := (mw G mh ad)) C in_X10 hK hG 0 mw_o rfl 4 (by decide) k16 rfl rfl dX10_chalk_102 ?_
      refine lv_iload C.1 C.2.1 dX10_chalk_105 (lv_at hl 2 rfl) ?_
      refine lv_iconst (v := 2) C.1 C.2.1 dX10_chalk_107 (by decide) ?_
      refine lv_iload C.1 C.2.1 dX10_chalk_108 (lv_at hl 0 rfl) ?_
      refine lv_imul C.1 C.2.1 dX10_chalk_110 ?_
      refine lv_iadd C.1 C.2.1 dX10_chalk_111 ?_
      refine lv_iload C.1 C.2.1 dX10_chalk_112 (lv_at hl 5 rfl) ?_
      refine lv_iconst (v := 2) C.1 C.2.1 dX10_chalk_114 (by decide) ?_
      refine lv_irem C.1 C.2.1 dX10_chalk_115 (by decide) ?_
      refine lv_iadd C.1 C.2.1 dX10_chalk_116 ?_
      obtain ⟨c16, h⟩ := h
      refine fw_iald (w := (mw G mh ad)) C hK hG 3 mw_a4 c16 dX10_chalk_117 ?_
      refine lv_topi (fun y17 ey17 => ?_)
      have h := h y17 ey17
      refine lv_istore (lv' := [(11, .int y17), (10, .int z10), (9, .int z9), (8, .int y8), (0, .ref mh), (4, .int x4), (5, .int x5), (6, .int x6)]) C.1 C.2.1 dX10_chalk_118 hl (by decide) rfl (fun ls hl => ?_)
      refine lv_iload C.1 C.2.1 dX10_chalk_120 (lv_at hl 2 rfl) ?_
      refine lv_iload C.1 C.2.1 dX10_chalk_122 (lv_at hl 6 rfl) ?_
      refine lv_iconst (v := 1) C.1 C.2.1 dX10_chalk_124 (by decide) ?_
      refine lv_icmp_le (tgt := 139) C.1 C.2.1 dX10_chalk_125 (by decide) (fun c18 => ?_) (fun c18 => ?_)
      · have h := h.1 c18
        refine lv_iload C.1 C.2.1 dX10_chalk_139 (lv_at hl 0 rfl) ?_
        refine lv_iadd C.1 C.2.1 dX10_chalk_141 ?_
        refine lv_topi (fun y19 ey19 => ?_)
        have h := h y19 ey19
        refine lv_istore (lv' := [(9, .int y19), (11, .int y17), (10, .int z10), (8, .int y8), (0, .ref mh), (4, .int x4), (5, .int x5), (6, .int x6)]) C.1 C.2.1 dX10_chalk_142 hl (by decide) rfl (fun ls hl => ?_)
        obtain ⟨y20, ey20⟩ : ∃ z : Int32, z = z10 + 1 := ⟨_, rfl⟩
        have h := h y20 ey20
        refine lv_iinc (v := y20) (lv' := [(10, .int y20), (9, .int y19), (11, .int y17), (8, .int y8), (0, .ref mh), (4, .int x4), (5, .int x5), (6, .int x6)]) C.1 C.2.1 dX10_chalk_144 hl (k := 2) rfl (by rw [ey20]; rfl) (by decide) rfl (fun ls hl => ?_)
        refine lv_goto (tgt := 94) C.1 C.2.1 dX10_chalk_147 (by decide) ?_
        exact ih _ _ h _ _ hG ls (lv_sub hl [0, 1, 3, 4, 5, 6, 7] rfl)
      · have h := h.2 c18
        refine lv_iload C.1 C.2.1 dX10_chalk_128 (lv_at hl 0 rfl) ?_
        refine lv_if_ge (tgt := 139) C.1 C.2.1 dX10_chalk_130 (by decide) (fun c21 => ?_) (fun c21 => ?_)
        · have h := h.1 c21
          refine lv_iload C.1 C.2.1 dX10_chalk_139 (lv_at hl 0 rfl) ?_
          refine lv_iadd C.1 C.2.1 dX10_chalk_141 ?_
          refine lv_topi (fun y22 ey22 => ?_)
          have h := h y22 ey22
          refine lv_istore (lv' := [(9, .int y22), (11, .int y17), (10, .int z10), (8, .int y8), (0, .ref mh), (4, .int x4), (5, .int x5), (6, .int x6)]) C.1 C.2.1 dX10_chalk_142 hl (by decide) rfl (fun ls hl => ?_)
          obtain ⟨y23, ey23⟩ : ∃ z : Int32, z = z10 + 1 := ⟨_, rfl⟩
          have h := h y23 ey23
          refine lv_iinc (v := y23) (lv' := [(10, .int y23), (9, .int y22), (11, .int y17), (8, .int y8), (0, .ref mh), (4, .int x4), (5, .int x5), (6, .int x6)]) C.1 C.2.1 dX10_chalk_144 hl (k := 2) rfl (by rw [ey23]; rfl) (by decide) rfl (fun ls hl => ?_)
          refine lv_goto (tgt := 94) C.1 C.2.1 dX10_chalk_147 (by decide) ?_
          exact ih _ _ h _ _ hG ls (lv_sub hl [0, 1, 3, 4, 5, 6, 7] rfl)
        · have h := h.2 c21
          refine lv_iload C.1 C.2.1 dX10_chalk_133 (lv_at hl 0 rfl) ?_
          refine lv_ineg C.1 C.2.1 dX10_chalk_135 ?_
          refine lv_goto (tgt := 141) C.1 C.2.1 dX10_chalk_136 (by decide) ?_
          refine lv_iadd C.1 C.2.1 dX10_chalk_141 ?_
          refine lv_topi (fun y24 ey24 => ?_)
          have h := h y24 ey24
          refine lv_istore (lv' := [(9, .int y24), (11, .int y17), (10, .int z10), (8, .int y8), (0, .ref mh), (4, .int x4), (5, .int x5), (6, .int x6)]) C.1 C.2.1 dX10_chalk_142 hl (by decide) rfl (fun ls hl => ?_)
          obtain ⟨y25, ey25⟩ : ∃ z : Int32, z = z10 + 1 := ⟨_, rfl⟩
          have h := h y25 ey25
          refine lv_iinc (v := y25) (lv' := [(10, .int y25), (9, .int y24), (11, .int y17), (8, .int y8), (0, .ref mh), (4, .int x4), (5, .int x5), (6, .int x6)]) C.1 C.2.1 dX10_chalk_144 hl (k := 2) rfl (by rw [ey25]; rfl) (by decide) rfl (fun ls hl => ?_)
          refine lv_goto (tgt := 94) C.1 C.2.1 dX10_chalk_147 (by decide) ?_
          exact ih _ _ h _ _ hG ls (lv_sub hl [0, 1, 3, 4, 5, 6, 7] rfl)

set_option maxHeartbeats 4000000 in
set_option maxRecDepth 100000 in
theorem soX10_chalk (l : Launch) (G : fw_G) (mh : Nat) (ad : Nat → Nat) (iv : fw_F) (ar : fw_R) (x1 : Int32) (x2 : Int32) (x3 : Int32) (x4 : Int32) (x5 : Int32) (x6 : Int32) (Q : Int64 → fw_F → fw_R → Prop)  (h : wpX10_chalk iv ar x1 x2 x3 x4 x5 x6 Q) : fw_M l G (mw G mh ad) yX10_chalk wsX10_chalk rmX10_chalk [.ref mh, .int x1, .int x2, .int x3, .int x4, .int x5, .int x6] iv ar (fw_Ql G (mw G mh ad) Q) := by
  refine fw_start (cc := cX10_chalk) (nL := 12) (rt := (some .long)) (by decide) rfl (Nat.le_of_ble_eq_true rfl) ?_
  intro p e s m below meth c A ls H locs C hK hG hl
  obtain ⟨args, ea⟩ : ∃ z : Array Value, z = ([.ref mh, .int x1, .int x2, .int x3, .int x4, .int x5, .int x6] : List Value).toArray := ⟨_, rfl⟩
  rw [← ea] at C ⊢
  have C : fw_C p s m args meth c cX10_chalk 12 (some .long) wsX10_chalk RX10 := C
  have hl : lv_has ls 12 [(0, .ref mh), (1, .int x1), (2, .int x2), (3, .int x3), (4, .int x4), (5, .int x5), (6, .int x6)] := hl
  unfold wpX10_chalk at h
  have in_X10 : ∀ x ∈ wsX100, x ∈ wsX10_chalk := by decide +kernel
  have k71 := C.2.2.2.2.1 (.fieldLink RX10 71 "KnifeBoardModel" "fault" "I") (by decide +kernel)
  have k75 := C.2.2.2.2.1 (.constantLong RX10 75 (-9223372036854775808)) (by decide +kernel)
  refine lv_aload_n C.1 C.2.1 dX10_chalk_0 rfl (lv_at hl 0 rfl) ?_
  refine lv_iconst (v := 0) C.1 C.2.1 dX10_chalk_1 (by decide) ?_
  obtain ⟨iv1, eiv1⟩ : ∃ z : fw_F, z = va_up iv 0 0 := ⟨_, rfl⟩
  have h := h iv1 eiv1
  refine fw_put (w := (mw G mh ad)) C in_X10 tyX10 tyX10_ok nmX10 hK hG 0 mw_o rfl 0 (by decide) k71 rfl rfl (ty := .int) (v := .int 0) (by decide +kernel) rfl rfl (by first | decide | exact Nat.le_of_ble_eq_true rfl) (iv1 := iv1) (by rw [eiv1]; exact mw_p0) dX10_chalk_2 (fun H locs hG => ?_)
  refine lv_iload_n C.1 C.2.1 dX10_chalk_5 rfl (lv_at hl 1 rfl) ?_
  refine fw_pcalli (va_runS (As := [.int x1]) (rest := []) ⟨C.1, C.2.1, C.2.2.2.2.2.2, C.2.2.2.2.2.1, C.2.2.2.2.1⟩ (soX10_isSheet l x1 _ h H.size) (va_cwS 1 C.2.2.2.2.1 gX10_chalk_X10_isSheet rfl rfl rfl (by decide +kernel) ⟨Nat.le_of_ble_eq_true rfl, Nat.le_of_ble_eq_true rfl⟩) fw_ppre rfl rfl hl.1 rfl (lv_room (Nat.le_of_ble_eq_true rfl)) dX10_chalk_6 ⟨Nat.zero_le _, Nat.zero_le _⟩) hG hK (fun r2  H locs h hG => ?_)
  refine lv_if_eq (tgt := 19) C.1 C.2.1 dX10_chalk_9 (by decide) (fun c3 => ?_) (fun c3 => ?_)
  · have h := h.1 c3
    refine lv_ldc2 C.1 C.2.1 C.2.2.2.2.2.1 k75 dX10_chalk_19 ?_
    exact fw_lret C hG h dX10_chalk_22
  · have h := h.2 c3
    refine lv_iload_n C.1 C.2.1 dX10_chalk_12 rfl (lv_at hl 2 rfl) ?_
    refine fw_pcalli (va_runS (As := [.int x2]) (rest := []) ⟨C.1, C.2.1, C.2.2.2.2.2.2, C.2.2.2.2.2.1, C.2.2.2.2.1⟩ (soX10_isSort l x2 _ h H.size) (va_cwS 1 C.2.2.2.2.1 gX10_chalk_X10_isSort rfl rfl rfl (by decide +kernel) ⟨Nat.le_of_ble_eq_true rfl, Nat.le_of_ble_eq_true rfl⟩) fw_ppre rfl rfl hl.1 rfl (lv_room (Nat.le_of_ble_eq_true rfl)) dX10_chalk_13 ⟨Nat.zero_le _, Nat.zero_le _⟩) hG hK (fun r4  H locs h hG => ?_)
    refine lv_if_ne (tgt := 23) C.1 C.2.1 dX10_chalk_16 (by decide) (fun c5 => ?_) (fun c5 => ?_)
    · have h := h.1 c5
      refine lv_aload_n C.1 C.2.1 dX10_chalk_23 rfl (lv_at hl 0 rfl) ?_
      refine lv_iload_n C.1 C.2.1 dX10_chalk_24 rfl (lv_at hl 1 rfl) ?_
      refine lv_iload_n C.1 C.2.1 dX10_chalk_25 rfl (lv_at hl 2 rfl) ?_
      refine lv_iload_n C.1 C.2.1 dX10_chalk_26 rfl (lv_at hl 3 rfl) ?_
      refine lv_iload C.1 C.2.1 dX10_chalk_27 (lv_at hl 4 rfl) ?_
      refine lv_iconst (v := 2) C.1 C.2.1 dX10_chalk_29 (by decide) ?_
      refine fw_rcalli (va_runV (As := [.int x1, .int x2, .int x3, .int x4, .int 2]) (rest := []) ⟨C.1, C.2.1, C.2.2.2.2.2.2, C.2.2.2.2.2.1, C.2.2.2.2.1⟩ (soX10_against l G mh ad iv1 ar x1 x2 x3 x4 2 _  h H.size) (cwV 5 C.2.2.2.2.1 gX10_chalk_X10_against rfl rfl rfl (by decide +kernel) ⟨Nat.le_of_ble_eq_true rfl, Nat.le_of_ble_eq_true rfl⟩) (fw_preV hG hK (ci := 10) rfl mw_o) rfl rfl hl.1 rfl (lv_room (Nat.le_of_ble_eq_true rfl)) dX10_chalk_30 ⟨Nat.zero_le _, Nat.zero_le _⟩) hG hK (fun r6  H locs h hG => ?_)
      refine lv_istore (lv' := [(7, .int r6), (0, .ref mh), (1, .int x1), (2, .int x2), (3, .int x3), (4, .int x4), (5, .int x5), (6, .int x6)]) C.1 C.2.1 dX10_chalk_33 hl (by decide) rfl (fun ls hl => ?_)
      refine lv_iload C.1 C.2.1 dX10_chalk_35 (lv_at hl 0 rfl) ?_
      refine lv_if_eq (tgt := 47) C.1 C.2.1 dX10_chalk_37 (by decide) (fun c7 => ?_) (fun c7 => ?_)
      · have h := h.1 c7
        refine lv_bipush (v := 80) C.1 C.2.1 dX10_chalk_47 (by decide) ?_
        refine lv_iload_n C.1 C.2.1 dX10_chalk_49 rfl (lv_at hl 2 rfl) ?_
        refine lv_imul C.1 C.2.1 dX10_chalk_50 ?_
        refine lv_iload_n C.1 C.2.1 dX10_chalk_51 rfl (lv_at hl 4 rfl) ?_
        refine lv_iadd C.1 C.2.1 dX10_chalk_52 ?_
        refine lv_topi (fun y8 ey8 => ?_)
        have h := h y8 ey8
        refine lv_istore (lv' := [(8, .int y8), (7, .int r6), (0, .ref mh), (1, .int x1), (2, .int x2), (3, .int x3), (4, .int x4), (5, .int x5), (6, .int x6)]) C.1 C.2.1 dX10_chalk_53 hl (by decide) rfl (fun ls hl => ?_)
        refine lv_aload_n C.1 C.2.1 dX10_chalk_55 rfl (lv_at hl 2 rfl) ?_
        refine lv_iload C.1 C.2.1 dX10_chalk_56 (lv_at hl 0 rfl) ?_
        refine lv_iload C.1 C.2.1 dX10_chalk_58 (lv_at hl 6 rfl) ?_
        refine fw_rcalli (va_runV (As := [.int y8, .int x4]) (rest := []) ⟨C.1, C.2.1, C.2.2.2.2.2.2, C.2.2.2.2.2.1, C.2.2.2.2.1⟩ (soX10_isChalk l G mh ad iv1 ar y8 x4 _  h H.size) (cwV 2 C.2.2.2.2.1 gX10_chalk_X10_isChalk rfl rfl rfl (by decide +kernel) ⟨Nat.le_of_ble_eq_true rfl, Nat.le_of_ble_eq_true rfl⟩) (fw_preV hG hK (ci := 10) rfl mw_o) rfl rfl hl.1 rfl (lv_room (Nat.le_of_ble_eq_true rfl)) dX10_chalk_60 ⟨Nat.zero_le _, Nat.zero_le _⟩) hG hK (fun r9  H locs h hG => ?_)
        refine lv_if_eq (tgt := 84) C.1 C.2.1 dX10_chalk_63 (by decide) (fun c10 => ?_) (fun c10 => ?_)
        · have h := h.1 c10
          refine lv_ldc2 C.1 C.2.1 C.2.2.2.2.2.1 k75 dX10_chalk_84 ?_
          exact fw_lret C hG h dX10_chalk_87
        · have h := h.2 c10
          refine lv_iload C.1 C.2.1 dX10_chalk_66 (lv_at hl 7 rfl) ?_
          refine lv_iconst (v := 0) C.1 C.2.1 dX10_chalk_68 (by decide) ?_
          refine lv_iconst (v := 3) C.1 C.2.1 dX10_chalk_69 (by decide) ?_
          refine fw_pcalli (va_runS (As := [.int x5, .int 0, .int 3]) (rest := []) ⟨C.1, C.2.1, C.2.2.2.2.2.2, C.2.2.2.2.2.1, C.2.2.2.2.1⟩ (soX10_within l x5 0 3 _ h H.size) (va_cwS 3 C.2.2.2.2.1 gX10_chalk_X10_within rfl rfl rfl (by decide +kernel) ⟨Nat.le_of_ble_eq_true rfl, Nat.le_of_ble_eq_true rfl⟩) fw_ppre rfl rfl hl.1 rfl (lv_room (Nat.le_of_ble_eq_true rfl)) dX10_chalk_70 ⟨Nat.zero_le _, Nat.zero_le _⟩) hG hK (fun r11  H locs h hG => ?_)
          refine lv_if_eq (tgt := 84) C.1 C.2.1 dX10_chalk_73 (by decide) (fun c12 => ?_) (fun c12 => ?_)
          · have h := h.1 c12
            refine lv_ldc2 C.1 C.2.1 C.2.2.2.2.2.1 k75 dX10_chalk_84 ?_
            exact fw_lret C hG h dX10_chalk_87
          · have h := h.2 c12
            refine lv_iload C.1 C.2.1 dX10_chalk_76 (lv_at hl 8 rfl) ?_
            refine fw_pcalli (va_runS (As := [.int x6]) (rest := []) ⟨C.1, C.2.1, C.2.2.2.2.2.2, C.2.2.2.2.2.1, C.2.2.2.2.1⟩ (soX10_isWhich l x6 _ h H.size) (va_cwS 1 C.2.2.2.2.1 gX10_chalk_X10_isWhich rfl rfl rfl (by decide +kernel) ⟨Nat.le_of_ble_eq_true rfl, Nat.le_of_ble_eq_true rfl⟩) fw_ppre rfl rfl hl.1 rfl (lv_room (Nat.le_of_ble_eq_true rfl)) dX10_chalk_78 ⟨Nat.zero_le _, Nat.zero_le _⟩) hG hK (fun r13  H locs h hG => ?_)
            refine lv_if_ne (tgt := 88) C.1 C.2.1 dX10_chalk_81 (by decide) (fun c14 => ?_) (fun c14 => ?_)
            · have h := h.1 c14
              refine lv_iconst (v := 0) C.1 C.2.1 dX10_chalk_88 (by decide) ?_
              refine lv_istore (lv' := [(9, .int 0), (8, .int y8), (7, .int r6), (0, .ref mh), (1, .int x1), (2, .int x2), (3, .int x3), (4, .int x4), (5, .int x5), (6, .int x6)]) C.1 C.2.1 dX10_chalk_89 hl (by decide) rfl (fun ls hl => ?_)
              refine lv_iconst (v := 0) C.1 C.2.1 dX10_chalk_91 (by decide) ?_
              refine lv_istore (lv' := [(10, .int 0), (9, .int 0), (8, .int y8), (7, .int r6), (0, .ref mh), (1, .int x1), (2, .int x2), (3, .int x3), (4, .int x4), (5, .int x5), (6, .int x6)]) C.1 C.2.1 dX10_chalk_92 hl (by decide) rfl (fun ls hl => ?_)
              obtain ⟨ku, h⟩ := h
              refine soX10_chalk_L94 C hK  ?_ ku _ _ h _ _ hG ls (lv_sub hl [0, 1, 2, 4, 8, 9, 10] rfl)
              intro w26 w27 h H locs hG ls hl
              refine lv_iload C.1 C.2.1 dX10_chalk_150 (lv_at hl 5 rfl) ?_
              refine lv_iconst (v := 2) C.1 C.2.1 dX10_chalk_152 (by decide) ?_
              refine lv_icmp_ge (tgt := 170) C.1 C.2.1 dX10_chalk_153 (by decide) (fun c28 => ?_) (fun c28 => ?_)
              · have h := h.1 c28
                refine lv_iload C.1 C.2.1 dX10_chalk_170 (lv_at hl 6 rfl) ?_
                refine lv_if_ne (tgt := 181) C.1 C.2.1 dX10_chalk_172 (by decide) (fun c29 => ?_) (fun c29 => ?_)
                · have h := h.1 c29
                  refine lv_lconst (v := 1) C.1 C.2.1 dX10_chalk_181 (by decide) ?_
                  exact fw_lret C hG h dX10_chalk_182
                · have h := h.2 c29
                  refine lv_iload C.1 C.2.1 dX10_chalk_175 (lv_at hl 1 rfl) ?_
                  refine lv_i2l C.1 C.2.1 dX10_chalk_177 rfl ?_
                  refine lv_goto (tgt := 182) C.1 C.2.1 dX10_chalk_178 (by decide) ?_
                  exact fw_lret C hG h dX10_chalk_182
              · have h := h.2 c28
                refine lv_iload C.1 C.2.1 dX10_chalk_156 (lv_at hl 1 rfl) ?_
                refine lv_i2l C.1 C.2.1 dX10_chalk_158 rfl ?_
                refine lv_iload C.1 C.2.1 dX10_chalk_159 (lv_at hl 4 rfl) ?_
                refine lv_i2l C.1 C.2.1 dX10_chalk_161 rfl ?_
                refine lv_iload C.1 C.2.1 dX10_chalk_162 (lv_at hl 6 rfl) ?_
                refine fw_pcalll (va_runS (As := [.long w26.toInt64, .long x4.toInt64, .int x6]) (rest := []) ⟨C.1, C.2.1, C.2.2.2.2.2.2, C.2.2.2.2.2.1, C.2.2.2.2.1⟩ (soX10_share l w26.toInt64 x4.toInt64 x6 _ h H.size) (va_cwS 3 C.2.2.2.2.1 gX10_chalk_X10_share rfl rfl rfl (by decide +kernel) ⟨Nat.le_of_ble_eq_true rfl, Nat.le_of_ble_eq_true rfl⟩) fw_ppre rfl rfl hl.1 rfl (lv_room (Nat.le_of_ble_eq_true rfl)) dX10_chalk_164 ⟨Nat.zero_le _, Nat.zero_le _⟩) hG hK (fun r30  H locs h hG => ?_)
                refine lv_goto (tgt := 182) C.1 C.2.1 dX10_chalk_167 (by decide) ?_
                exact fw_lret C hG h dX10_chalk_182
            · have h := h.2 c14
              refine lv_ldc2 C.1 C.2.1 C.2.2.2.2.2.1 k75 dX10_chalk_84 ?_
              exact fw_lret C hG h dX10_chalk_87
      · have h := h.2 c7
        refine lv_aload_n C.1 C.2.1 dX10_chalk_40 rfl (lv_at hl 1 rfl) ?_
        refine lv_iload C.1 C.2.1 dX10_chalk_41 (lv_at hl 0 rfl) ?_
        refine fw_calll (va_runV (As := [.int r6]) (rest := []) ⟨C.1, C.2.1, C.2.2.2.2.2.2, C.2.2.2.2.2.1, C.2.2.2.2.1⟩ (soX10_lost l G mh ad iv1 ar r6 _  h H.size) (cwV 1 C.2.2.2.2.1 gX10_chalk_X10_lost rfl rfl rfl (by decide +kernel) ⟨Nat.le_of_ble_eq_true rfl, Nat.le_of_ble_eq_true rfl⟩) (fw_preV hG hK (ci := 10) rfl mw_o) rfl rfl hl.1 rfl (lv_room (Nat.le_of_ble_eq_true rfl)) dX10_chalk_43 ⟨Nat.zero_le _, Nat.zero_le _⟩) hG hK (fun r31 iv32 ar33 H locs h hG => ?_)
        exact fw_lret C hG h dX10_chalk_46
    · have h := h.2 c5
      refine lv_ldc2 C.1 C.2.1 C.2.2.2.2.2.1 k75 dX10_chalk_19 ?_
      exact fw_lret C hG h dX10_chalk_22
/-! KnifeBoardModel.byChalk(IIIIII)J -/
def rmX10_byChalk : Room := { frames := 2, cells := 0, slots := 0, locals := 55 }
def wpX10_byChalk_L94 (x1 : Int32) (x2 : Int32) (x3 : Int32) (x4 : Int32) (x5 : Int32) (x6 : Int32) (y10 : Int32) (iv1 : fw_F) (ar : fw_R) (Q : Int64 → fw_F → fw_R → Prop) (K : Int32 → Int32 → Prop) : Nat → Int32 → Int32 → Prop
  | 0, _, _ => False
  | fu + 1, z9, z10 => (x5 ≤ z10 → (K z9 z10)) ∧ (¬ x5 ≤ z10 → (vp_in (y10 + (2 * z10)) 320 ∧ (vp_in ((y10 + (2 * z10)) + 1) 320 ∧ (wpX10_cellBy iv1 ar x1 ((ar 4) (y10 + (2 * z10)).toNatClampNeg) ((ar 4) ((y10 + (2 * z10)) + 1).toNatClampNeg) (fun (r18 : Int32) => (r18 = (-9) → (∀ y20 : Int32, y20 = z9 + 0 → (∀ y21 : Int32, y21 = z10 + 1 → (wpX10_byChalk_L94 x1 x2 x3 x4 x5 x6 y10 iv1 ar Q K fu y20 y21)))) ∧ (¬ r18 = (-9) → (vp_in r18 36 ∧ (wpX10_isHurt ((ar 18) r18.toNatClampNeg) 1 (fun (r23 : Int32) => (r23 = 0 → (∀ y25 : Int32, y25 = z9 + 0 → (∀ y26 : Int32, y26 = z10 + 1 → (wpX10_byChalk_L94 x1 x2 x3 x4 x5 x6 y10 iv1 ar Q K fu y25 y26)))) ∧ (¬ r23 = 0 → (∀ y27 : Int32, y27 = z9 + 1 → (∀ y28 : Int32, y28 = z10 + 1 → (wpX10_byChalk_L94 x1 x2 x3 x4 x5 x6 y10 iv1 ar Q K fu y27 y28)))))))))))))
def wpX10_byChalk (iv : fw_F) (ar : fw_R) (x1 : Int32) (x2 : Int32) (x3 : Int32) (x4 : Int32) (x5 : Int32) (x6 : Int32) (Q : Int64 → fw_F → fw_R → Prop) : Prop := ∀ iv1 : fw_F, iv1 = va_up iv 0 0 → (wpX10_isCell iv1 ar x1 (fun (r2 : Int32) => (r2 = 0 → (Q (-9223372036854775808) iv1 ar)) ∧ (¬ r2 = 0 → (wpX10_isSheet x2 (fun (r4 : Int32) => (r4 = 0 → (Q (-9223372036854775808) iv1 ar)) ∧ (¬ r4 = 0 → (wpX10_isSort x3 (fun (r6 : Int32) => (¬ r6 = 0 → (wpX10_against iv1 ar x2 x3 x4 x5 2 (fun (r8 : Int32) => (r8 = 0 → (∀ y10 : Int32, y10 = (80 * x2) + x4 → (wpX10_isChalk iv1 ar y10 x5 (fun (r11 : Int32) => (r11 = 0 → (Q (-9223372036854775808) iv1 ar)) ∧ (¬ r11 = 0 → (wpX10_isWhich x6 (fun (r13 : Int32) => (¬ r13 = 0 → (∃ ku : Nat, wpX10_byChalk_L94 x1 x2 x3 x4 x5 x6 y10 iv1 ar Q (fun (w29 : Int32) (w30 : Int32) => wpX10_share w29.toInt64 x5.toInt64 x6 (fun (r31 : Int64) => Q r31 iv1 ar)) ku 0 0)) ∧ (r13 = 0 → (Q (-9223372036854775808) iv1 ar))))))))) ∧ (¬ r8 = 0 → (wpX10_lost iv1 ar r8 (fun (r32 : Int64) (iv33 : fw_F) (ar34 : fw_R) => Q r32 iv33 ar34)))))) ∧ (r6 = 0 → (Q (-9223372036854775808) iv1 ar))))))))))
set_option maxHeartbeats 4000000 in
set_option maxRecDepth 100000 in
theorem soX10_byChalk_L94 {p : Program} {l : Launch} {e : Env} {s : State} {m : MethodId} {args : Array Value} {below : List Frame} {meth : Method} {c : Code} {A : Nat → Prop} {G : fw_G} {mh : Nat} {ad : Nat → Nat} {x1 : Int32} {x2 : Int32} {x3 : Int32} {x4 : Int32} {x5 : Int32} {x6 : Int32} {y10 : Int32} {iv1 : fw_F} {ar : fw_R} {Q : Int64 → fw_F → fw_R → Prop} {K : Int32 → Int32 → Prop} (C : fw_C p s m args meth c cX10_byChalk 12 (some .long) wsX10_byChalk RX10) (hK : fw_K G A s)  (hX : ∀ (z9 : Int32) (z10 : Int32), K z9 z10 → ∀ (H : Heap) (locs : List Loc), fw_H G ((mw G mh ad) iv1 ar) A s H locs → ∀ (ls : Array Slot), lv_has ls 12 [(10, .int z10), (9, .int z9), (8, .int y10), (0, .ref mh), (1, .int x1), (5, .int x5), (6, .int x6)] → W p l e rmX10_byChalk s m args below meth c H locs 0 0 (MQ below (fw_Ql G (mw G mh ad) Q A) args s 0 0 A) (F0 m 171 ls [])) : ∀ (fu : Nat) (z9 : Int32) (z10 : Int32), wpX10_byChalk_L94 x1 x2 x3 x4 x5 x6 y10 iv1 ar Q K fu z9 z10 → ∀ (H : Heap) (locs : List Loc), fw_H G ((mw G mh ad) iv1 ar) A s H locs → ∀ (ls : Array Slot), lv_has ls 12 [(10, .int z10), (9, .int z9), (8, .int y10), (0, .ref mh), (1, .int x1), (5, .int x5), (6, .int x6)] → W p l e rmX10_byChalk s m args below meth c H locs 0 0 (MQ below (fw_Ql G (mw G mh ad) Q A) args s 0 0 A) (F0 m 94 ls []) := by
  intro fu
  have in_X10 : ∀ x ∈ wsX100, x ∈ wsX10_byChalk := by decide +kernel
  have k16 := C.2.2.2.2.1 (.fieldLink RX10 16 "KnifeBoardModel" "cells" "[I") (by decide +kernel)
  have k37 := C.2.2.2.2.1 (.fieldLink RX10 37 "KnifeBoardModel" "wood" "[I") (by decide +kernel)
  induction fu with
  | zero => intro z9 z10 h; exact h.elim
  | succ fu ih =>
    intro z9 z10 h H locs hG ls hl
    unfold wpX10_byChalk_L94 at h
    refine lv_iload C.1 C.2.1 dX10_byChalk_94 (lv_at hl 0 rfl) ?_
    refine lv_iload C.1 C.2.1 dX10_byChalk_96 (lv_at hl 5 rfl) ?_
    refine lv_icmp_ge (tgt := 171) C.1 C.2.1 dX10_byChalk_98 (by decide) (fun c15 => ?_) (fun c15 => ?_)
    · have h := h.1 c15
      exact hX _ _ h _ _ hG ls (lv_sub hl [0, 1, 2, 3, 4, 5, 6] rfl)
    · have h := h.2 c15
      refine lv_aload_n C.1 C.2.1 dX10_byChalk_101 rfl (lv_at hl 3 rfl) ?_
      refine lv_iload_n C.1 C.2.1 dX10_byChalk_102 rfl (lv_at hl 4 rfl) ?_
      refine lv_aload_n C.1 C.2.1 dX10_byChalk_103 rfl (lv_at hl 3 rfl) ?_
      refine fw_get (w := (mw G mh ad)) C in_X10 hK hG 0 mw_o rfl 4 (by decide) k16 rfl rfl dX10_byChalk_104 ?_
      refine lv_iload C.1 C.2.1 dX10_byChalk_107 (lv_at hl 2 rfl) ?_
      refine lv_iconst (v := 2) C.1 C.2.1 dX10_byChalk_109 (by decide) ?_
      refine lv_iload C.1 C.2.1 dX10_byChalk_110 (lv_at hl 0 rfl) ?_
      refine lv_imul C.1 C.2.1 dX10_byChalk_112 ?_
      refine lv_iadd C.1 C.2.1 dX10_byChalk_113 ?_
      obtain ⟨c16, h⟩ := h
      refine fw_iald (w := (mw G mh ad)) C hK hG 3 mw_a4 c16 dX10_byChalk_114 ?_
      refine lv_aload_n C.1 C.2.1 dX10_byChalk_115 rfl (lv_at hl 3 rfl) ?_
      refine fw_get (w := (mw G mh ad)) C in_X10 hK hG 0 mw_o rfl 4 (by decide) k16 rfl rfl dX10_byChalk_116 ?_
      refine lv_iload C.1 C.2.1 dX10_byChalk_119 (lv_at hl 2 rfl) ?_
      refine lv_iconst (v := 2) C.1 C.2.1 dX10_byChalk_121 (by decide) ?_
      refine lv_iload C.1 C.2.1 dX10_byChalk_122 (lv_at hl 0 rfl) ?_
      refine lv_imul C.1 C.2.1 dX10_byChalk_124 ?_
      refine lv_iadd C.1 C.2.1 dX10_byChalk_125 ?_
      refine lv_iconst (v := 1) C.1 C.2.1 dX10_byChalk_126 (by decide) ?_
      refine lv_iadd C.1 C.2.1 dX10_byChalk_127 ?_
      obtain ⟨c17, h⟩ := h
      refine fw_iald (w := (mw G mh ad)) C hK hG 3 mw_a4 c17 dX10_byChalk_128 ?_
      refine fw_rcalli (va_runV (As := [.int x1, .int ((ar 4) (y10 + (2 * z10)).toNatClampNeg), .int ((ar 4) ((y10 + (2 * z10)) + 1).toNatClampNeg)]) (rest := []) ⟨C.1, C.2.1, C.2.2.2.2.2.2, C.2.2.2.2.2.1, C.2.2.2.2.1⟩ (soX10_cellBy l G mh ad iv1 ar x1 ((ar 4) (y10 + (2 * z10)).toNatClampNeg) ((ar 4) ((y10 + (2 * z10)) + 1).toNatClampNeg) _  h H.size) (cwV 3 C.2.2.2.2.1 gX10_byChalk_X10_cellBy rfl rfl rfl (by decide +kernel) ⟨Nat.le_of_ble_eq_true rfl, Nat.le_of_ble_eq_true rfl⟩) (fw_preV hG hK (ci := 10) rfl mw_o) rfl rfl hl.1 rfl (lv_room (Nat.le_of_ble_eq_true rfl)) dX10_byChalk_129 ⟨Nat.zero_le _, Nat.zero_le _⟩) hG hK (fun r18  H locs h hG => ?_)
      refine lv_istore (lv' := [(11, .int r18), (10, .int z10), (9, .int z9), (8, .int y10), (0, .ref mh), (1, .int x1), (5, .int x5), (6, .int x6)]) C.1 C.2.1 dX10_byChalk_132 hl (by decide) rfl (fun ls hl => ?_)
      refine lv_iload C.1 C.2.1 dX10_byChalk_134 (lv_at hl 2 rfl) ?_
      refine lv_iload C.1 C.2.1 dX10_byChalk_136 (lv_at hl 0 rfl) ?_
      refine lv_bipush (v := (-9)) C.1 C.2.1 dX10_byChalk_138 (by decide) ?_
      refine lv_icmp_eq (tgt := 161) C.1 C.2.1 dX10_byChalk_140 (by decide) (fun c19 => ?_) (fun c19 => ?_)
      · have h := h.1 c19
        refine lv_iconst (v := 0) C.1 C.2.1 dX10_byChalk_161 (by decide) ?_
        refine lv_iadd C.1 C.2.1 dX10_byChalk_162 ?_
        refine lv_topi (fun y20 ey20 => ?_)
        have h := h y20 ey20
        refine lv_istore (lv' := [(9, .int y20), (11, .int r18), (10, .int z10), (8, .int y10), (0, .ref mh), (1, .int x1), (5, .int x5), (6, .int x6)]) C.1 C.2.1 dX10_byChalk_163 hl (by decide) rfl (fun ls hl => ?_)
        obtain ⟨y21, ey21⟩ : ∃ z : Int32, z = z10 + 1 := ⟨_, rfl⟩
        have h := h y21 ey21
        refine lv_iinc (v := y21) (lv' := [(10, .int y21), (9, .int y20), (11, .int r18), (8, .int y10), (0, .ref mh), (1, .int x1), (5, .int x5), (6, .int x6)]) C.1 C.2.1 dX10_byChalk_165 hl (k := 2) rfl (by rw [ey21]; rfl) (by decide) rfl (fun ls hl => ?_)
        refine lv_goto (tgt := 94) C.1 C.2.1 dX10_byChalk_168 (by decide) ?_
        exact ih _ _ h _ _ hG ls (lv_sub hl [0, 1, 3, 4, 5, 6, 7] rfl)
      · have h := h.2 c19
        refine lv_aload_n C.1 C.2.1 dX10_byChalk_143 rfl (lv_at hl 4 rfl) ?_
        refine fw_get (w := (mw G mh ad)) C in_X10 hK hG 0 mw_o rfl 18 (by decide) k37 rfl rfl dX10_byChalk_144 ?_
        refine lv_iload C.1 C.2.1 dX10_byChalk_147 (lv_at hl 0 rfl) ?_
        obtain ⟨c22, h⟩ := h
        refine fw_iald (w := (mw G mh ad)) C hK hG 10 mw_a18 c22 dX10_byChalk_149 ?_
        refine lv_iconst (v := 1) C.1 C.2.1 dX10_byChalk_150 (by decide) ?_
        refine fw_pcalli (va_runS (As := [.int ((ar 18) r18.toNatClampNeg), .int 1]) (rest := [.int z9]) ⟨C.1, C.2.1, C.2.2.2.2.2.2, C.2.2.2.2.2.1, C.2.2.2.2.1⟩ (soX10_isHurt l ((ar 18) r18.toNatClampNeg) 1 _ h H.size) (va_cwS 2 C.2.2.2.2.1 gX10_byChalk_X10_isHurt rfl rfl rfl (by decide +kernel) ⟨Nat.le_of_ble_eq_true rfl, Nat.le_of_ble_eq_true rfl⟩) fw_ppre rfl rfl hl.1 rfl (lv_room (Nat.le_of_ble_eq_true rfl)) dX10_byChalk_151 ⟨Nat.zero_le _, Nat.zero_le _⟩) hG hK (fun r23  H locs h hG => ?_)
        refine lv_if_eq (tgt := 161) C.1 C.2.1 dX10_byChalk_154 (by decide) (fun c24 => ?_) (fun c24 => ?_)
        · have h := h.1 c24
          refine lv_iconst (v := 0) C.1 C.2.1 dX10_byChalk_161 (by decide) ?_
          refine lv_iadd C.1 C.2.1 dX10_byChalk_162 ?_
          refine lv_topi (fun y25 ey25 => ?_)
          have h := h y25 ey25
          refine lv_istore (lv' := [(9, .int y25), (11, .int r18), (10, .int z10), (8, .int y10), (0, .ref mh), (1, .int x1), (5, .int x5), (6, .int x6)]) C.1 C.2.1 dX10_byChalk_163 hl (by decide) rfl (fun ls hl => ?_)
          obtain ⟨y26, ey26⟩ : ∃ z : Int32, z = z10 + 1 := ⟨_, rfl⟩
          have h := h y26 ey26
          refine lv_iinc (v := y26) (lv' := [(10, .int y26), (9, .int y25), (11, .int r18), (8, .int y10), (0, .ref mh), (1, .int x1), (5, .int x5), (6, .int x6)]) C.1 C.2.1 dX10_byChalk_165 hl (k := 2) rfl (by rw [ey26]; rfl) (by decide) rfl (fun ls hl => ?_)
          refine lv_goto (tgt := 94) C.1 C.2.1 dX10_byChalk_168 (by decide) ?_
          exact ih _ _ h _ _ hG ls (lv_sub hl [0, 1, 3, 4, 5, 6, 7] rfl)
        · have h := h.2 c24
          refine lv_iconst (v := 1) C.1 C.2.1 dX10_byChalk_157 (by decide) ?_
          refine lv_goto (tgt := 162) C.1 C.2.1 dX10_byChalk_158 (by decide) ?_
          refine lv_iadd C.1 C.2.1 dX10_byChalk_162 ?_
          refine lv_topi (fun y27 ey27 => ?_)
          have h := h y27 ey27
          refine lv_istore (lv' := [(9, .int y27), (11, .int r18), (10, .int z10), (8, .int y10), (0, .ref mh), (1, .int x1), (5, .int x5), (6, .int x6)]) C.1 C.2.1 dX10_byChalk_163 hl (by decide) rfl (fun ls hl => ?_)
          obtain ⟨y28, ey28⟩ : ∃ z : Int32, z = z10 + 1 := ⟨_, rfl⟩
          have h := h y28 ey28
          refine lv_iinc (v := y28) (lv' := [(10, .int y28), (9, .int y27), (11, .int r18), (8, .int y10), (0, .ref mh), (1, .int x1), (5, .int x5), (6, .int x6)]) C.1 C.2.1 dX10_byChalk_165 hl (k := 2) rfl (by rw [ey28]; rfl) (by decide) rfl (fun ls hl => ?_)
          refine lv_goto (tgt := 94) C.1 C.2.1 dX10_byChalk_168 (by decide) ?_
          exact ih _ _ h _ _ hG ls (lv_sub hl [0, 1, 3, 4, 5, 6, 7] rfl)

set_option maxHeartbeats 4000000 in
set_option maxRecDepth 100000 in
theorem soX10_byChalk (l : Launch) (G : fw_G) (mh : Nat) (ad : Nat → Nat) (iv : fw_F) (ar : fw_R) (x1 : Int32) (x2 : Int32) (x3 : Int32) (x4 : Int32) (x5 : Int32) (x6 : Int32) (Q : Int64 → fw_F → fw_R → Prop)  (h : wpX10_byChalk iv ar x1 x2 x3 x4 x5 x6 Q) : fw_M l G (mw G mh ad) yX10_byChalk wsX10_byChalk rmX10_byChalk [.ref mh, .int x1, .int x2, .int x3, .int x4, .int x5, .int x6] iv ar (fw_Ql G (mw G mh ad) Q) := by
  refine fw_start (cc := cX10_byChalk) (nL := 12) (rt := (some .long)) (by decide) rfl (Nat.le_of_ble_eq_true rfl) ?_
  intro p e s m below meth c A ls H locs C hK hG hl
  obtain ⟨args, ea⟩ : ∃ z : Array Value, z = ([.ref mh, .int x1, .int x2, .int x3, .int x4, .int x5, .int x6] : List Value).toArray := ⟨_, rfl⟩
  rw [← ea] at C ⊢
  have C : fw_C p s m args meth c cX10_byChalk 12 (some .long) wsX10_byChalk RX10 := C
  have hl : lv_has ls 12 [(0, .ref mh), (1, .int x1), (2, .int x2), (3, .int x3), (4, .int x4), (5, .int x5), (6, .int x6)] := hl
  unfold wpX10_byChalk at h
  have in_X10 : ∀ x ∈ wsX100, x ∈ wsX10_byChalk := by decide +kernel
  have k71 := C.2.2.2.2.1 (.fieldLink RX10 71 "KnifeBoardModel" "fault" "I") (by decide +kernel)
  have k75 := C.2.2.2.2.1 (.constantLong RX10 75 (-9223372036854775808)) (by decide +kernel)
  refine lv_aload_n C.1 C.2.1 dX10_byChalk_0 rfl (lv_at hl 0 rfl) ?_
  refine lv_iconst (v := 0) C.1 C.2.1 dX10_byChalk_1 (by decide) ?_
  obtain ⟨iv1, eiv1⟩ : ∃ z : fw_F, z = va_up iv 0 0 := ⟨_, rfl⟩
  have h := h iv1 eiv1
  refine fw_put (w := (mw G mh ad)) C in_X10 tyX10 tyX10_ok nmX10 hK hG 0 mw_o rfl 0 (by decide) k71 rfl rfl (ty := .int) (v := .int 0) (by decide +kernel) rfl rfl (by first | decide | exact Nat.le_of_ble_eq_true rfl) (iv1 := iv1) (by rw [eiv1]; exact mw_p0) dX10_byChalk_2 (fun H locs hG => ?_)
  refine lv_aload_n C.1 C.2.1 dX10_byChalk_5 rfl (lv_at hl 0 rfl) ?_
  refine lv_iload_n C.1 C.2.1 dX10_byChalk_6 rfl (lv_at hl 1 rfl) ?_
  refine fw_rcalli (va_runV (As := [.int x1]) (rest := []) ⟨C.1, C.2.1, C.2.2.2.2.2.2, C.2.2.2.2.2.1, C.2.2.2.2.1⟩ (soX10_isCell l G mh ad iv1 ar x1 _  h H.size) (cwV 1 C.2.2.2.2.1 gX10_byChalk_X10_isCell rfl rfl rfl (by decide +kernel) ⟨Nat.le_of_ble_eq_true rfl, Nat.le_of_ble_eq_true rfl⟩) (fw_preV hG hK (ci := 10) rfl mw_o) rfl rfl hl.1 rfl (lv_room (Nat.le_of_ble_eq_true rfl)) dX10_byChalk_7 ⟨Nat.zero_le _, Nat.zero_le _⟩) hG hK (fun r2  H locs h hG => ?_)
  refine lv_if_eq (tgt := 27) C.1 C.2.1 dX10_byChalk_10 (by decide) (fun c3 => ?_) (fun c3 => ?_)
  · have h := h.1 c3
    refine lv_ldc2 C.1 C.2.1 C.2.2.2.2.2.1 k75 dX10_byChalk_27 ?_
    exact fw_lret C hG h dX10_byChalk_30
  · have h := h.2 c3
    refine lv_iload_n C.1 C.2.1 dX10_byChalk_13 rfl (lv_at hl 2 rfl) ?_
    refine fw_pcalli (va_runS (As := [.int x2]) (rest := []) ⟨C.1, C.2.1, C.2.2.2.2.2.2, C.2.2.2.2.2.1, C.2.2.2.2.1⟩ (soX10_isSheet l x2 _ h H.size) (va_cwS 1 C.2.2.2.2.1 gX10_byChalk_X10_isSheet rfl rfl rfl (by decide +kernel) ⟨Nat.le_of_ble_eq_true rfl, Nat.le_of_ble_eq_true rfl⟩) fw_ppre rfl rfl hl.1 rfl (lv_room (Nat.le_of_ble_eq_true rfl)) dX10_byChalk_14 ⟨Nat.zero_le _, Nat.zero_le _⟩) hG hK (fun r4  H locs h hG => ?_)
    refine lv_if_eq (tgt := 27) C.1 C.2.1 dX10_byChalk_17 (by decide) (fun c5 => ?_) (fun c5 => ?_)
    · have h := h.1 c5
      refine lv_ldc2 C.1 C.2.1 C.2.2.2.2.2.1 k75 dX10_byChalk_27 ?_
      exact fw_lret C hG h dX10_byChalk_30
    · have h := h.2 c5
      refine lv_iload_n C.1 C.2.1 dX10_byChalk_20 rfl (lv_at hl 3 rfl) ?_
      refine fw_pcalli (va_runS (As := [.int x3]) (rest := []) ⟨C.1, C.2.1, C.2.2.2.2.2.2, C.2.2.2.2.2.1, C.2.2.2.2.1⟩ (soX10_isSort l x3 _ h H.size) (va_cwS 1 C.2.2.2.2.1 gX10_byChalk_X10_isSort rfl rfl rfl (by decide +kernel) ⟨Nat.le_of_ble_eq_true rfl, Nat.le_of_ble_eq_true rfl⟩) fw_ppre rfl rfl hl.1 rfl (lv_room (Nat.le_of_ble_eq_true rfl)) dX10_byChalk_21 ⟨Nat.zero_le _, Nat.zero_le _⟩) hG hK (fun r6  H locs h hG => ?_)
      refine lv_if_ne (tgt := 31) C.1 C.2.1 dX10_byChalk_24 (by decide) (fun c7 => ?_) (fun c7 => ?_)
      · have h := h.1 c7
        refine lv_aload_n C.1 C.2.1 dX10_byChalk_31 rfl (lv_at hl 0 rfl) ?_
        refine lv_iload_n C.1 C.2.1 dX10_byChalk_32 rfl (lv_at hl 2 rfl) ?_
        refine lv_iload_n C.1 C.2.1 dX10_byChalk_33 rfl (lv_at hl 3 rfl) ?_
        refine lv_iload C.1 C.2.1 dX10_byChalk_34 (lv_at hl 4 rfl) ?_
        refine lv_iload C.1 C.2.1 dX10_byChalk_36 (lv_at hl 5 rfl) ?_
        refine lv_iconst (v := 2) C.1 C.2.1 dX10_byChalk_38 (by decide) ?_
        refine fw_rcalli (va_runV (As := [.int x2, .int x3, .int x4, .int x5, .int 2]) (rest := []) ⟨C.1, C.2.1, C.2.2.2.2.2.2, C.2.2.2.2.2.1, C.2.2.2.2.1⟩ (soX10_against l G mh ad iv1 ar x2 x3 x4 x5 2 _  h H.size) (cwV 5 C.2.2.2.2.1 gX10_byChalk_X10_against rfl rfl rfl (by decide +kernel) ⟨Nat.le_of_ble_eq_true rfl, Nat.le_of_ble_eq_true rfl⟩) (fw_preV hG hK (ci := 10) rfl mw_o) rfl rfl hl.1 rfl (lv_room (Nat.le_of_ble_eq_true rfl)) dX10_byChalk_39 ⟨Nat.zero_le _, Nat.zero_le _⟩) hG hK (fun r8  H locs h hG => ?_)
        refine lv_istore (lv' := [(7, .int r8), (0, .ref mh), (1, .int x1), (2, .int x2), (3, .int x3), (4, .int x4), (5, .int x5), (6, .int x6)]) C.1 C.2.1 dX10_byChalk_42 hl (by decide) rfl (fun ls hl => ?_)
        refine lv_iload C.1 C.2.1 dX10_byChalk_44 (lv_at hl 0 rfl) ?_
        refine lv_if_eq (tgt := 56) C.1 C.2.1 dX10_byChalk_46 (by decide) (fun c9 => ?_) (fun c9 => ?_)
        · have h := h.1 c9
          refine lv_bipush (v := 80) C.1 C.2.1 dX10_byChalk_56 (by decide) ?_
          refine lv_iload_n C.1 C.2.1 dX10_byChalk_58 rfl (lv_at hl 3 rfl) ?_
          refine lv_imul C.1 C.2.1 dX10_byChalk_59 ?_
          refine lv_iload C.1 C.2.1 dX10_byChalk_60 (lv_at hl 5 rfl) ?_
          refine lv_iadd C.1 C.2.1 dX10_byChalk_62 ?_
          refine lv_topi (fun y10 ey10 => ?_)
          have h := h y10 ey10
          refine lv_istore (lv' := [(8, .int y10), (7, .int r8), (0, .ref mh), (1, .int x1), (2, .int x2), (3, .int x3), (4, .int x4), (5, .int x5), (6, .int x6)]) C.1 C.2.1 dX10_byChalk_63 hl (by decide) rfl (fun ls hl => ?_)
          refine lv_aload_n C.1 C.2.1 dX10_byChalk_65 rfl (lv_at hl 2 rfl) ?_
          refine lv_iload C.1 C.2.1 dX10_byChalk_66 (lv_at hl 0 rfl) ?_
          refine lv_iload C.1 C.2.1 dX10_byChalk_68 (lv_at hl 7 rfl) ?_
          refine fw_rcalli (va_runV (As := [.int y10, .int x5]) (rest := []) ⟨C.1, C.2.1, C.2.2.2.2.2.2, C.2.2.2.2.2.1, C.2.2.2.2.1⟩ (soX10_isChalk l G mh ad iv1 ar y10 x5 _  h H.size) (cwV 2 C.2.2.2.2.1 gX10_byChalk_X10_isChalk rfl rfl rfl (by decide +kernel) ⟨Nat.le_of_ble_eq_true rfl, Nat.le_of_ble_eq_true rfl⟩) (fw_preV hG hK (ci := 10) rfl mw_o) rfl rfl hl.1 rfl (lv_room (Nat.le_of_ble_eq_true rfl)) dX10_byChalk_70 ⟨Nat.zero_le _, Nat.zero_le _⟩) hG hK (fun r11  H locs h hG => ?_)
          refine lv_if_eq (tgt := 84) C.1 C.2.1 dX10_byChalk_73 (by decide) (fun c12 => ?_) (fun c12 => ?_)
          · have h := h.1 c12
            refine lv_ldc2 C.1 C.2.1 C.2.2.2.2.2.1 k75 dX10_byChalk_84 ?_
            exact fw_lret C hG h dX10_byChalk_87
          · have h := h.2 c12
            refine lv_iload C.1 C.2.1 dX10_byChalk_76 (lv_at hl 8 rfl) ?_
            refine fw_pcalli (va_runS (As := [.int x6]) (rest := []) ⟨C.1, C.2.1, C.2.2.2.2.2.2, C.2.2.2.2.2.1, C.2.2.2.2.1⟩ (soX10_isWhich l x6 _ h H.size) (va_cwS 1 C.2.2.2.2.1 gX10_byChalk_X10_isWhich rfl rfl rfl (by decide +kernel) ⟨Nat.le_of_ble_eq_true rfl, Nat.le_of_ble_eq_true rfl⟩) fw_ppre rfl rfl hl.1 rfl (lv_room (Nat.le_of_ble_eq_true rfl)) dX10_byChalk_78 ⟨Nat.zero_le _, Nat.zero_le _⟩) hG hK (fun r13  H locs h hG => ?_)
            refine lv_if_ne (tgt := 88) C.1 C.2.1 dX10_byChalk_81 (by decide) (fun c14 => ?_) (fun c14 => ?_)
            · have h := h.1 c14
              refine lv_iconst (v := 0) C.1 C.2.1 dX10_byChalk_88 (by decide) ?_
              refine lv_istore (lv' := [(9, .int 0), (8, .int y10), (7, .int r8), (0, .ref mh), (1, .int x1), (2, .int x2), (3, .int x3), (4, .int x4), (5, .int x5), (6, .int x6)]) C.1 C.2.1 dX10_byChalk_89 hl (by decide) rfl (fun ls hl => ?_)
              refine lv_iconst (v := 0) C.1 C.2.1 dX10_byChalk_91 (by decide) ?_
              refine lv_istore (lv' := [(10, .int 0), (9, .int 0), (8, .int y10), (7, .int r8), (0, .ref mh), (1, .int x1), (2, .int x2), (3, .int x3), (4, .int x4), (5, .int x5), (6, .int x6)]) C.1 C.2.1 dX10_byChalk_92 hl (by decide) rfl (fun ls hl => ?_)
              obtain ⟨ku, h⟩ := h
              refine soX10_byChalk_L94 C hK  ?_ ku _ _ h _ _ hG ls (lv_sub hl [0, 1, 2, 4, 5, 9, 10] rfl)
              intro w29 w30 h H locs hG ls hl
              refine lv_iload C.1 C.2.1 dX10_byChalk_171 (lv_at hl 1 rfl) ?_
              refine lv_i2l C.1 C.2.1 dX10_byChalk_173 rfl ?_
              refine lv_iload C.1 C.2.1 dX10_byChalk_174 (lv_at hl 5 rfl) ?_
              refine lv_i2l C.1 C.2.1 dX10_byChalk_176 rfl ?_
              refine lv_iload C.1 C.2.1 dX10_byChalk_177 (lv_at hl 6 rfl) ?_
              refine fw_pcalll (va_runS (As := [.long w29.toInt64, .long x5.toInt64, .int x6]) (rest := []) ⟨C.1, C.2.1, C.2.2.2.2.2.2, C.2.2.2.2.2.1, C.2.2.2.2.1⟩ (soX10_share l w29.toInt64 x5.toInt64 x6 _ h H.size) (va_cwS 3 C.2.2.2.2.1 gX10_byChalk_X10_share rfl rfl rfl (by decide +kernel) ⟨Nat.le_of_ble_eq_true rfl, Nat.le_of_ble_eq_true rfl⟩) fw_ppre rfl rfl hl.1 rfl (lv_room (Nat.le_of_ble_eq_true rfl)) dX10_byChalk_179 ⟨Nat.zero_le _, Nat.zero_le _⟩) hG hK (fun r31  H locs h hG => ?_)
              exact fw_lret C hG h dX10_byChalk_182
            · have h := h.2 c14
              refine lv_ldc2 C.1 C.2.1 C.2.2.2.2.2.1 k75 dX10_byChalk_84 ?_
              exact fw_lret C hG h dX10_byChalk_87
        · have h := h.2 c9
          refine lv_aload_n C.1 C.2.1 dX10_byChalk_49 rfl (lv_at hl 1 rfl) ?_
          refine lv_iload C.1 C.2.1 dX10_byChalk_50 (lv_at hl 0 rfl) ?_
          refine fw_calll (va_runV (As := [.int r8]) (rest := []) ⟨C.1, C.2.1, C.2.2.2.2.2.2, C.2.2.2.2.2.1, C.2.2.2.2.1⟩ (soX10_lost l G mh ad iv1 ar r8 _  h H.size) (cwV 1 C.2.2.2.2.1 gX10_byChalk_X10_lost rfl rfl rfl (by decide +kernel) ⟨Nat.le_of_ble_eq_true rfl, Nat.le_of_ble_eq_true rfl⟩) (fw_preV hG hK (ci := 10) rfl mw_o) rfl rfl hl.1 rfl (lv_room (Nat.le_of_ble_eq_true rfl)) dX10_byChalk_52 ⟨Nat.zero_le _, Nat.zero_le _⟩) hG hK (fun r32 iv33 ar34 H locs h hG => ?_)
          exact fw_lret C hG h dX10_byChalk_55
      · have h := h.2 c7
        refine lv_ldc2 C.1 C.2.1 C.2.2.2.2.2.1 k75 dX10_byChalk_27 ?_
        exact fw_lret C hG h dX10_byChalk_30
/-! KnifeBoardModel.sheet(III)I -/
def rmX10_sheet : Room := { frames := 2, cells := 0, slots := 0, locals := 42 }
def wpX10_sheet_L57 (x1 : Int32) (x2 : Int32) (x3 : Int32) (Q : Int32 → fw_F → fw_R → Prop) (K : Int32 → fw_F → fw_R → Prop) : Nat → Int32 → fw_F → fw_R → Prop
  | 0, _, _, _ => False
  | fu + 1, z4, iv, ar => (80 ≤ z4 → (K z4 iv ar)) ∧ (¬ 80 ≤ z4 → (vp_in ((80 * x1) + z4) 320 ∧ (∀ ar14 : fw_R, ar14 = va_up ar 4 (upd (ar 4) ((80 * x1) + z4).toNatClampNeg 0) → (∀ y15 : Int32, y15 = z4 + 1 → (wpX10_sheet_L57 x1 x2 x3 Q K fu y15 iv ar14)))))
def wpX10_sheet (iv : fw_F) (ar : fw_R) (x1 : Int32) (x2 : Int32) (x3 : Int32) (Q : Int32 → fw_F → fw_R → Prop) : Prop := ∀ iv1 : fw_F, iv1 = va_up iv 0 0 → (wpX10_isSheet x1 (fun (r2 : Int32) => (¬ r2 = 0 → (wpX10_isSort x2 (fun (r4 : Int32) => (r4 = 0 → (Q (-2) iv1 ar)) ∧ (¬ r4 = 0 → ((x3 ≤ 80 → ((0 ≤ x3 → (vp_in x1 4 ∧ (∀ ar9 : fw_R, ar9 = va_up ar 2 (upd (ar 2) x1.toNatClampNeg x2) → (vp_in x1 4 ∧ (∀ ar11 : fw_R, ar11 = va_up ar9 3 (upd (ar9 3) x1.toNatClampNeg x3) → (∃ ku : Nat, wpX10_sheet_L57 x1 x2 x3 Q (fun (w16 : Int32) (iv17 : fw_F) (ar18 : fw_R) => Q 1 iv17 ar18) ku 0 iv1 ar11)))))) ∧ (¬ 0 ≤ x3 → (wpX10_fails iv1 ar 4 (fun (r19 : Int32) (iv20 : fw_F) (ar21 : fw_R) => Q r19 iv20 ar21))))) ∧ (¬ x3 ≤ 80 → (Q (-2) iv1 ar))))))) ∧ (r2 = 0 → (Q (-1) iv1 ar))))
set_option maxHeartbeats 4000000 in
set_option maxRecDepth 100000 in
theorem soX10_sheet_L57 {p : Program} {l : Launch} {e : Env} {s : State} {m : MethodId} {args : Array Value} {below : List Frame} {meth : Method} {c : Code} {A : Nat → Prop} {G : fw_G} {mh : Nat} {ad : Nat → Nat} {x1 : Int32} {x2 : Int32} {x3 : Int32} {Q : Int32 → fw_F → fw_R → Prop} {K : Int32 → fw_F → fw_R → Prop} (C : fw_C p s m args meth c cX10_sheet 5 (some .int) wsX10_sheet RX10) (hK : fw_K G A s)  (hX : ∀ (z4 : Int32) (iv : fw_F) (ar : fw_R), K z4 iv ar → ∀ (H : Heap) (locs : List Loc), fw_H G ((mw G mh ad) iv ar) A s H locs → ∀ (ls : Array Slot), lv_has ls 5 [(4, .int z4), (0, .ref mh), (1, .int x1)] → W p l e rmX10_sheet s m args below meth c H locs 0 0 (MQ below (fw_Qi G (mw G mh ad) Q A) args s 0 0 A) (F0 m 83 ls [])) : ∀ (fu : Nat) (z4 : Int32) (iv : fw_F) (ar : fw_R), wpX10_sheet_L57 x1 x2 x3 Q K fu z4 iv ar → ∀ (H : Heap) (locs : List Loc), fw_H G ((mw G mh ad) iv ar) A s H locs → ∀ (ls : Array Slot), lv_has ls 5 [(4, .int z4), (0, .ref mh), (1, .int x1)] → W p l e rmX10_sheet s m args below meth c H locs 0 0 (MQ below (fw_Qi G (mw G mh ad) Q A) args s 0 0 A) (F0 m 57 ls []) := by
  intro fu
  have in_X10 : ∀ x ∈ wsX100, x ∈ wsX10_sheet := by decide +kernel
  have k16 := C.2.2.2.2.1 (.fieldLink RX10 16 "KnifeBoardModel" "cells" "[I") (by decide +kernel)
  induction fu with
  | zero => intro z4 iv ar h; exact h.elim
  | succ fu ih =>
    intro z4 iv ar h H locs hG ls hl
    unfold wpX10_sheet_L57 at h
    refine lv_iload C.1 C.2.1 dX10_sheet_57 (lv_at hl 0 rfl) ?_
    refine lv_bipush (v := 80) C.1 C.2.1 dX10_sheet_59 (by decide) ?_
    refine lv_icmp_ge (tgt := 83) C.1 C.2.1 dX10_sheet_61 (by decide) (fun c12 => ?_) (fun c12 => ?_)
    · have h := h.1 c12
      exact hX _ _ _ h _ _ hG ls (lv_sub hl [0, 1, 2] rfl)
    · have h := h.2 c12
      refine lv_aload_n C.1 C.2.1 dX10_sheet_64 rfl (lv_at hl 1 rfl) ?_
      refine fw_get (w := (mw G mh ad)) C in_X10 hK hG 0 mw_o rfl 4 (by decide) k16 rfl rfl dX10_sheet_65 ?_
      refine lv_bipush (v := 80) C.1 C.2.1 dX10_sheet_68 (by decide) ?_
      refine lv_iload_n C.1 C.2.1 dX10_sheet_70 rfl (lv_at hl 2 rfl) ?_
      refine lv_imul C.1 C.2.1 dX10_sheet_71 ?_
      refine lv_iload C.1 C.2.1 dX10_sheet_72 (lv_at hl 0 rfl) ?_
      refine lv_iadd C.1 C.2.1 dX10_sheet_74 ?_
      refine lv_iconst (v := 0) C.1 C.2.1 dX10_sheet_75 (by decide) ?_
      obtain ⟨c13, h⟩ := h
      obtain ⟨ar14, ear14⟩ : ∃ z : fw_R, z = va_up ar 4 (upd (ar 4) ((80 * x1) + z4).toNatClampNeg 0) := ⟨_, rfl⟩
      have h := h ar14 ear14
      refine fw_iast (w := (mw G mh ad)) C hK hG 3 mw_a4 c13 (ar1 := ar14) (by rw [ear14]; exact mw_s4) dX10_sheet_76 (fun H locs hG => ?_)
      obtain ⟨y15, ey15⟩ : ∃ z : Int32, z = z4 + 1 := ⟨_, rfl⟩
      have h := h y15 ey15
      refine lv_iinc (v := y15) (lv' := [(4, .int y15), (0, .ref mh), (1, .int x1)]) C.1 C.2.1 dX10_sheet_77 hl (k := 0) rfl (by rw [ey15]; rfl) (by decide) rfl (fun ls hl => ?_)
      refine lv_goto (tgt := 57) C.1 C.2.1 dX10_sheet_80 (by decide) ?_
      exact ih _ _ _ h _ _ hG ls (lv_sub hl [0, 1, 2] rfl)

set_option maxHeartbeats 4000000 in
set_option maxRecDepth 100000 in
theorem soX10_sheet (l : Launch) (G : fw_G) (mh : Nat) (ad : Nat → Nat) (iv : fw_F) (ar : fw_R) (x1 : Int32) (x2 : Int32) (x3 : Int32) (Q : Int32 → fw_F → fw_R → Prop)  (h : wpX10_sheet iv ar x1 x2 x3 Q) : fw_M l G (mw G mh ad) yX10_sheet wsX10_sheet rmX10_sheet [.ref mh, .int x1, .int x2, .int x3] iv ar (fw_Qi G (mw G mh ad) Q) := by
  refine fw_start (cc := cX10_sheet) (nL := 5) (rt := (some .int)) (by decide) rfl (Nat.le_of_ble_eq_true rfl) ?_
  intro p e s m below meth c A ls H locs C hK hG hl
  obtain ⟨args, ea⟩ : ∃ z : Array Value, z = ([.ref mh, .int x1, .int x2, .int x3] : List Value).toArray := ⟨_, rfl⟩
  rw [← ea] at C ⊢
  have C : fw_C p s m args meth c cX10_sheet 5 (some .int) wsX10_sheet RX10 := C
  have hl : lv_has ls 5 [(0, .ref mh), (1, .int x1), (2, .int x2), (3, .int x3)] := hl
  unfold wpX10_sheet at h
  have in_X10 : ∀ x ∈ wsX100, x ∈ wsX10_sheet := by decide +kernel
  have k13 := C.2.2.2.2.1 (.fieldLink RX10 13 "KnifeBoardModel" "sheetLong" "[I") (by decide +kernel)
  have k71 := C.2.2.2.2.1 (.fieldLink RX10 71 "KnifeBoardModel" "fault" "I") (by decide +kernel)
  have k9 := C.2.2.2.2.1 (.fieldLink RX10 9 "KnifeBoardModel" "sorts" "[I") (by decide +kernel)
  refine lv_aload_n C.1 C.2.1 dX10_sheet_0 rfl (lv_at hl 0 rfl) ?_
  refine lv_iconst (v := 0) C.1 C.2.1 dX10_sheet_1 (by decide) ?_
  obtain ⟨iv1, eiv1⟩ : ∃ z : fw_F, z = va_up iv 0 0 := ⟨_, rfl⟩
  have h := h iv1 eiv1
  refine fw_put (w := (mw G mh ad)) C in_X10 tyX10 tyX10_ok nmX10 hK hG 0 mw_o rfl 0 (by decide) k71 rfl rfl (ty := .int) (v := .int 0) (by decide +kernel) rfl rfl (by first | decide | exact Nat.le_of_ble_eq_true rfl) (iv1 := iv1) (by rw [eiv1]; exact mw_p0) dX10_sheet_2 (fun H locs hG => ?_)
  refine lv_iload_n C.1 C.2.1 dX10_sheet_5 rfl (lv_at hl 1 rfl) ?_
  refine fw_pcalli (va_runS (As := [.int x1]) (rest := []) ⟨C.1, C.2.1, C.2.2.2.2.2.2, C.2.2.2.2.2.1, C.2.2.2.2.1⟩ (soX10_isSheet l x1 _ h H.size) (va_cwS 1 C.2.2.2.2.1 gX10_sheet_X10_isSheet rfl rfl rfl (by decide +kernel) ⟨Nat.le_of_ble_eq_true rfl, Nat.le_of_ble_eq_true rfl⟩) fw_ppre rfl rfl hl.1 rfl (lv_room (Nat.le_of_ble_eq_true rfl)) dX10_sheet_6 ⟨Nat.zero_le _, Nat.zero_le _⟩) hG hK (fun r2  H locs h hG => ?_)
  refine lv_if_ne (tgt := 14) C.1 C.2.1 dX10_sheet_9 (by decide) (fun c3 => ?_) (fun c3 => ?_)
  · have h := h.1 c3
    refine lv_iload_n C.1 C.2.1 dX10_sheet_14 rfl (lv_at hl 2 rfl) ?_
    refine fw_pcalli (va_runS (As := [.int x2]) (rest := []) ⟨C.1, C.2.1, C.2.2.2.2.2.2, C.2.2.2.2.2.1, C.2.2.2.2.1⟩ (soX10_isSort l x2 _ h H.size) (va_cwS 1 C.2.2.2.2.1 gX10_sheet_X10_isSort rfl rfl rfl (by decide +kernel) ⟨Nat.le_of_ble_eq_true rfl, Nat.le_of_ble_eq_true rfl⟩) fw_ppre rfl rfl hl.1 rfl (lv_room (Nat.le_of_ble_eq_true rfl)) dX10_sheet_15 ⟨Nat.zero_le _, Nat.zero_le _⟩) hG hK (fun r4  H locs h hG => ?_)
    refine lv_if_eq (tgt := 27) C.1 C.2.1 dX10_sheet_18 (by decide) (fun c5 => ?_) (fun c5 => ?_)
    · have h := h.1 c5
      refine lv_bipush (v := (-2)) C.1 C.2.1 dX10_sheet_27 (by decide) ?_
      exact fw_iret C hG h dX10_sheet_29
    · have h := h.2 c5
      refine lv_iload_n C.1 C.2.1 dX10_sheet_21 rfl (lv_at hl 3 rfl) ?_
      refine lv_bipush (v := 80) C.1 C.2.1 dX10_sheet_22 (by decide) ?_
      refine lv_icmp_le (tgt := 30) C.1 C.2.1 dX10_sheet_24 (by decide) (fun c6 => ?_) (fun c6 => ?_)
      · have h := h.1 c6
        refine lv_iload_n C.1 C.2.1 dX10_sheet_30 rfl (lv_at hl 3 rfl) ?_
        refine lv_if_ge (tgt := 40) C.1 C.2.1 dX10_sheet_31 (by decide) (fun c7 => ?_) (fun c7 => ?_)
        · have h := h.1 c7
          refine lv_aload_n C.1 C.2.1 dX10_sheet_40 rfl (lv_at hl 0 rfl) ?_
          refine fw_get (w := (mw G mh ad)) C in_X10 hK hG 0 mw_o rfl 2 (by decide) k9 rfl rfl dX10_sheet_41 ?_
          refine lv_iload_n C.1 C.2.1 dX10_sheet_44 rfl (lv_at hl 1 rfl) ?_
          refine lv_iload_n C.1 C.2.1 dX10_sheet_45 rfl (lv_at hl 2 rfl) ?_
          obtain ⟨c8, h⟩ := h
          obtain ⟨ar9, ear9⟩ : ∃ z : fw_R, z = va_up ar 2 (upd (ar 2) x1.toNatClampNeg x2) := ⟨_, rfl⟩
          have h := h ar9 ear9
          refine fw_iast (w := (mw G mh ad)) C hK hG 1 mw_a2 c8 (ar1 := ar9) (by rw [ear9]; exact mw_s2) dX10_sheet_46 (fun H locs hG => ?_)
          refine lv_aload_n C.1 C.2.1 dX10_sheet_47 rfl (lv_at hl 0 rfl) ?_
          refine fw_get (w := (mw G mh ad)) C in_X10 hK hG 0 mw_o rfl 3 (by decide) k13 rfl rfl dX10_sheet_48 ?_
          refine lv_iload_n C.1 C.2.1 dX10_sheet_51 rfl (lv_at hl 1 rfl) ?_
          refine lv_iload_n C.1 C.2.1 dX10_sheet_52 rfl (lv_at hl 3 rfl) ?_
          obtain ⟨c10, h⟩ := h
          obtain ⟨ar11, ear11⟩ : ∃ z : fw_R, z = va_up ar9 3 (upd (ar9 3) x1.toNatClampNeg x3) := ⟨_, rfl⟩
          have h := h ar11 ear11
          refine fw_iast (w := (mw G mh ad)) C hK hG 2 mw_a3 c10 (ar1 := ar11) (by rw [ear11]; exact mw_s3) dX10_sheet_53 (fun H locs hG => ?_)
          refine lv_iconst (v := 0) C.1 C.2.1 dX10_sheet_54 (by decide) ?_
          refine lv_istore (lv' := [(4, .int 0), (0, .ref mh), (1, .int x1), (2, .int x2), (3, .int x3)]) C.1 C.2.1 dX10_sheet_55 hl (by decide) rfl (fun ls hl => ?_)
          obtain ⟨ku, h⟩ := h
          refine soX10_sheet_L57 C hK  ?_ ku _ _ _ h _ _ hG ls (lv_sub hl [0, 1, 2] rfl)
          intro w16 iv17 ar18 h H locs hG ls hl
          refine lv_iconst (v := 1) C.1 C.2.1 dX10_sheet_83 (by decide) ?_
          exact fw_iret C hG h dX10_sheet_84
        · have h := h.2 c7
          refine lv_aload_n C.1 C.2.1 dX10_sheet_34 rfl (lv_at hl 0 rfl) ?_
          refine lv_iconst (v := 4) C.1 C.2.1 dX10_sheet_35 (by decide) ?_
          refine fw_calli (va_runV (As := [.int 4]) (rest := []) ⟨C.1, C.2.1, C.2.2.2.2.2.2, C.2.2.2.2.2.1, C.2.2.2.2.1⟩ (soX10_fails l G mh ad iv1 ar 4 _  h H.size) (cwV 1 C.2.2.2.2.1 gX10_sheet_X10_fails rfl rfl rfl (by decide +kernel) ⟨Nat.le_of_ble_eq_true rfl, Nat.le_of_ble_eq_true rfl⟩) (fw_preV hG hK (ci := 10) rfl mw_o) rfl rfl hl.1 rfl (lv_room (Nat.le_of_ble_eq_true rfl)) dX10_sheet_36 ⟨Nat.zero_le _, Nat.zero_le _⟩) hG hK (fun r19 iv20 ar21 H locs h hG => ?_)
          exact fw_iret C hG h dX10_sheet_39
      · have h := h.2 c6
        refine lv_bipush (v := (-2)) C.1 C.2.1 dX10_sheet_27 (by decide) ?_
        exact fw_iret C hG h dX10_sheet_29
  · have h := h.2 c3
    refine lv_iconst (v := (-1)) C.1 C.2.1 dX10_sheet_12 (by decide) ?_
    exact fw_iret C hG h dX10_sheet_13
/-! KnifeBoardModel.lose(I)I -/
def rmX10_lose : Room := { frames := 2, cells := 0, slots := 0, locals := 42 }
def wpX10_lose (iv : fw_F) (ar : fw_R) (x1 : Int32) (Q : Int32 → fw_F → fw_R → Prop) : Prop := wpX10_isSheet x1 (fun (r1 : Int32) => (¬ r1 = 0 → (vp_in x1 4 ∧ ((¬ ((ar 2) x1.toNatClampNeg) = (-9) → (vp_in x1 4 ∧ (∀ ar6 : fw_R, ar6 = va_up ar 2 (upd (ar 2) x1.toNatClampNeg (-9)) → (Q 1 iv ar6)))) ∧ (((ar 2) x1.toNatClampNeg) = (-9) → (vp_in x1 4 ∧ (∀ ar8 : fw_R, ar8 = va_up ar 2 (upd (ar 2) x1.toNatClampNeg (-9)) → (Q 0 iv ar8))))))) ∧ (r1 = 0 → (Q (-1) iv ar)))
set_option maxHeartbeats 4000000 in
set_option maxRecDepth 100000 in
theorem soX10_lose (l : Launch) (G : fw_G) (mh : Nat) (ad : Nat → Nat) (iv : fw_F) (ar : fw_R) (x1 : Int32) (Q : Int32 → fw_F → fw_R → Prop)  (h : wpX10_lose iv ar x1 Q) : fw_M l G (mw G mh ad) yX10_lose wsX10_lose rmX10_lose [.ref mh, .int x1] iv ar (fw_Qi G (mw G mh ad) Q) := by
  refine fw_start (cc := cX10_lose) (nL := 3) (rt := (some .int)) (by decide) rfl (Nat.le_of_ble_eq_true rfl) ?_
  intro p e s m below meth c A ls H locs C hK hG hl
  obtain ⟨args, ea⟩ : ∃ z : Array Value, z = ([.ref mh, .int x1] : List Value).toArray := ⟨_, rfl⟩
  rw [← ea] at C ⊢
  have C : fw_C p s m args meth c cX10_lose 3 (some .int) wsX10_lose RX10 := C
  have hl : lv_has ls 3 [(0, .ref mh), (1, .int x1)] := hl
  unfold wpX10_lose at h
  have in_X10 : ∀ x ∈ wsX100, x ∈ wsX10_lose := by decide +kernel
  have k9 := C.2.2.2.2.1 (.fieldLink RX10 9 "KnifeBoardModel" "sorts" "[I") (by decide +kernel)
  refine lv_iload_n C.1 C.2.1 dX10_lose_0 rfl (lv_at hl 1 rfl) ?_
  refine fw_pcalli (va_runS (As := [.int x1]) (rest := []) ⟨C.1, C.2.1, C.2.2.2.2.2.2, C.2.2.2.2.2.1, C.2.2.2.2.1⟩ (soX10_isSheet l x1 _ h H.size) (va_cwS 1 C.2.2.2.2.1 gX10_lose_X10_isSheet rfl rfl rfl (by decide +kernel) ⟨Nat.le_of_ble_eq_true rfl, Nat.le_of_ble_eq_true rfl⟩) fw_ppre rfl rfl hl.1 rfl (lv_room (Nat.le_of_ble_eq_true rfl)) dX10_lose_1 ⟨Nat.zero_le _, Nat.zero_le _⟩) hG hK (fun r1  H locs h hG => ?_)
  refine lv_if_ne (tgt := 9) C.1 C.2.1 dX10_lose_4 (by decide) (fun c2 => ?_) (fun c2 => ?_)
  · have h := h.1 c2
    refine lv_aload_n C.1 C.2.1 dX10_lose_9 rfl (lv_at hl 0 rfl) ?_
    refine fw_get (w := (mw G mh ad)) C in_X10 hK hG 0 mw_o rfl 2 (by decide) k9 rfl rfl dX10_lose_10 ?_
    refine lv_iload_n C.1 C.2.1 dX10_lose_13 rfl (lv_at hl 1 rfl) ?_
    obtain ⟨c3, h⟩ := h
    refine fw_iald (w := (mw G mh ad)) C hK hG 1 mw_a2 c3 dX10_lose_14 ?_
    refine lv_bipush (v := (-9)) C.1 C.2.1 dX10_lose_15 (by decide) ?_
    refine lv_icmp_ne (tgt := 24) C.1 C.2.1 dX10_lose_17 (by decide) (fun c4 => ?_) (fun c4 => ?_)
    · have h := h.1 c4
      refine lv_iconst (v := 1) C.1 C.2.1 dX10_lose_24 (by decide) ?_
      refine lv_istore_n (lv' := [(2, .int 1), (0, .ref mh), (1, .int x1)]) C.1 C.2.1 dX10_lose_25 rfl hl (by decide) rfl (fun ls hl => ?_)
      refine lv_aload_n C.1 C.2.1 dX10_lose_26 rfl (lv_at hl 1 rfl) ?_
      refine fw_get (w := (mw G mh ad)) C in_X10 hK hG 0 mw_o rfl 2 (by decide) k9 rfl rfl dX10_lose_27 ?_
      refine lv_iload_n C.1 C.2.1 dX10_lose_30 rfl (lv_at hl 2 rfl) ?_
      refine lv_bipush (v := (-9)) C.1 C.2.1 dX10_lose_31 (by decide) ?_
      obtain ⟨c5, h⟩ := h
      obtain ⟨ar6, ear6⟩ : ∃ z : fw_R, z = va_up ar 2 (upd (ar 2) x1.toNatClampNeg (-9)) := ⟨_, rfl⟩
      have h := h ar6 ear6
      refine fw_iast (w := (mw G mh ad)) C hK hG 1 mw_a2 c5 (ar1 := ar6) (by rw [ear6]; exact mw_s2) dX10_lose_33 (fun H locs hG => ?_)
      refine lv_iload_n C.1 C.2.1 dX10_lose_34 rfl (lv_at hl 0 rfl) ?_
      exact fw_iret C hG h dX10_lose_35
    · have h := h.2 c4
      refine lv_iconst (v := 0) C.1 C.2.1 dX10_lose_20 (by decide) ?_
      refine lv_goto (tgt := 25) C.1 C.2.1 dX10_lose_21 (by decide) ?_
      refine lv_istore_n (lv' := [(2, .int 0), (0, .ref mh), (1, .int x1)]) C.1 C.2.1 dX10_lose_25 rfl hl (by decide) rfl (fun ls hl => ?_)
      refine lv_aload_n C.1 C.2.1 dX10_lose_26 rfl (lv_at hl 1 rfl) ?_
      refine fw_get (w := (mw G mh ad)) C in_X10 hK hG 0 mw_o rfl 2 (by decide) k9 rfl rfl dX10_lose_27 ?_
      refine lv_iload_n C.1 C.2.1 dX10_lose_30 rfl (lv_at hl 2 rfl) ?_
      refine lv_bipush (v := (-9)) C.1 C.2.1 dX10_lose_31 (by decide) ?_
      obtain ⟨c7, h⟩ := h
      obtain ⟨ar8, ear8⟩ : ∃ z : fw_R, z = va_up ar 2 (upd (ar 2) x1.toNatClampNeg (-9)) := ⟨_, rfl⟩
      have h := h ar8 ear8
      refine fw_iast (w := (mw G mh ad)) C hK hG 1 mw_a2 c7 (ar1 := ar8) (by rw [ear8]; exact mw_s2) dX10_lose_33 (fun H locs hG => ?_)
      refine lv_iload_n C.1 C.2.1 dX10_lose_34 rfl (lv_at hl 0 rfl) ?_
      exact fw_iret C hG h dX10_lose_35
  · have h := h.2 c2
    refine lv_iconst (v := (-1)) C.1 C.2.1 dX10_lose_7 (by decide) ?_
    exact fw_iret C hG h dX10_lose_8
/-! KnifeBoardModel.put(III)I -/
def rmX10_put : Room := { frames := 2, cells := 0, slots := 0, locals := 42 }
def wpX10_put (iv : fw_F) (ar : fw_R) (x1 : Int32) (x2 : Int32) (x3 : Int32) (Q : Int32 → fw_F → fw_R → Prop) : Prop := ∀ iv1 : fw_F, iv1 = va_up iv 0 0 → (wpX10_isSheet x1 (fun (r2 : Int32) => (¬ r2 = 0 → (vp_in x1 4 ∧ ((¬ ((ar 2) x1.toNatClampNeg) = (-9) → (vp_in x1 4 ∧ (wpX10_within x2 0 (((ar 3) x1.toNatClampNeg) - 1) (fun (r7 : Int32) => (¬ r7 = 0 → (vp_in x1 4 ∧ ((¬ ((ar 2) x1.toNatClampNeg) = 0 → (vp_in x1 4 ∧ ((¬ ((ar 2) x1.toNatClampNeg) = 1 → (vp_in ((80 * x1) + x2) 320 ∧ (∀ ar14 : fw_R, ar14 = va_up ar 4 (upd (ar 4) ((80 * x1) + x2).toNatClampNeg x3) → (Q 1 iv1 ar14)))) ∧ (((ar 2) x1.toNatClampNeg) = 1 → (vp_in ((80 * x1) + x2) 320 ∧ (∀ ar16 : fw_R, ar16 = va_up ar 4 (upd (ar 4) ((80 * x1) + x2).toNatClampNeg x3.toInt16.toInt32) → (Q 1 iv1 ar16))))))) ∧ (((ar 2) x1.toNatClampNeg) = 0 → (vp_in ((80 * x1) + x2) 320 ∧ (∀ ar18 : fw_R, ar18 = va_up ar 4 (upd (ar 4) ((80 * x1) + x2).toNatClampNeg x3.toInt8.toInt32) → (Q 1 iv1 ar18))))))) ∧ (r7 = 0 → (wpX10_fails iv1 ar 3 (fun (r19 : Int32) (iv20 : fw_F) (ar21 : fw_R) => Q r19 iv20 ar21))))))) ∧ (((ar 2) x1.toNatClampNeg) = (-9) → (wpX10_fails iv1 ar 1 (fun (r22 : Int32) (iv23 : fw_F) (ar24 : fw_R) => Q r22 iv23 ar24)))))) ∧ (r2 = 0 → (Q (-1) iv1 ar))))
set_option maxHeartbeats 4000000 in
set_option maxRecDepth 100000 in
theorem soX10_put (l : Launch) (G : fw_G) (mh : Nat) (ad : Nat → Nat) (iv : fw_F) (ar : fw_R) (x1 : Int32) (x2 : Int32) (x3 : Int32) (Q : Int32 → fw_F → fw_R → Prop)  (h : wpX10_put iv ar x1 x2 x3 Q) : fw_M l G (mw G mh ad) yX10_put wsX10_put rmX10_put [.ref mh, .int x1, .int x2, .int x3] iv ar (fw_Qi G (mw G mh ad) Q) := by
  refine fw_start (cc := cX10_put) (nL := 4) (rt := (some .int)) (by decide) rfl (Nat.le_of_ble_eq_true rfl) ?_
  intro p e s m below meth c A ls H locs C hK hG hl
  obtain ⟨args, ea⟩ : ∃ z : Array Value, z = ([.ref mh, .int x1, .int x2, .int x3] : List Value).toArray := ⟨_, rfl⟩
  rw [← ea] at C ⊢
  have C : fw_C p s m args meth c cX10_put 4 (some .int) wsX10_put RX10 := C
  have hl : lv_has ls 4 [(0, .ref mh), (1, .int x1), (2, .int x2), (3, .int x3)] := hl
  unfold wpX10_put at h
  have in_X10 : ∀ x ∈ wsX100, x ∈ wsX10_put := by decide +kernel
  have k13 := C.2.2.2.2.1 (.fieldLink RX10 13 "KnifeBoardModel" "sheetLong" "[I") (by decide +kernel)
  have k16 := C.2.2.2.2.1 (.fieldLink RX10 16 "KnifeBoardModel" "cells" "[I") (by decide +kernel)
  have k71 := C.2.2.2.2.1 (.fieldLink RX10 71 "KnifeBoardModel" "fault" "I") (by decide +kernel)
  have k9 := C.2.2.2.2.1 (.fieldLink RX10 9 "KnifeBoardModel" "sorts" "[I") (by decide +kernel)
  refine lv_aload_n C.1 C.2.1 dX10_put_0 rfl (lv_at hl 0 rfl) ?_
  refine lv_iconst (v := 0) C.1 C.2.1 dX10_put_1 (by decide) ?_
  obtain ⟨iv1, eiv1⟩ : ∃ z : fw_F, z = va_up iv 0 0 := ⟨_, rfl⟩
  have h := h iv1 eiv1
  refine fw_put (w := (mw G mh ad)) C in_X10 tyX10 tyX10_ok nmX10 hK hG 0 mw_o rfl 0 (by decide) k71 rfl rfl (ty := .int) (v := .int 0) (by decide +kernel) rfl rfl (by first | decide | exact Nat.le_of_ble_eq_true rfl) (iv1 := iv1) (by rw [eiv1]; exact mw_p0) dX10_put_2 (fun H locs hG => ?_)
  refine lv_iload_n C.1 C.2.1 dX10_put_5 rfl (lv_at hl 1 rfl) ?_
  refine fw_pcalli (va_runS (As := [.int x1]) (rest := []) ⟨C.1, C.2.1, C.2.2.2.2.2.2, C.2.2.2.2.2.1, C.2.2.2.2.1⟩ (soX10_isSheet l x1 _ h H.size) (va_cwS 1 C.2.2.2.2.1 gX10_put_X10_isSheet rfl rfl rfl (by decide +kernel) ⟨Nat.le_of_ble_eq_true rfl, Nat.le_of_ble_eq_true rfl⟩) fw_ppre rfl rfl hl.1 rfl (lv_room (Nat.le_of_ble_eq_true rfl)) dX10_put_6 ⟨Nat.zero_le _, Nat.zero_le _⟩) hG hK (fun r2  H locs h hG => ?_)
  refine lv_if_ne (tgt := 14) C.1 C.2.1 dX10_put_9 (by decide) (fun c3 => ?_) (fun c3 => ?_)
  · have h := h.1 c3
    refine lv_aload_n C.1 C.2.1 dX10_put_14 rfl (lv_at hl 0 rfl) ?_
    refine fw_get (w := (mw G mh ad)) C in_X10 hK hG 0 mw_o rfl 2 (by decide) k9 rfl rfl dX10_put_15 ?_
    refine lv_iload_n C.1 C.2.1 dX10_put_18 rfl (lv_at hl 1 rfl) ?_
    obtain ⟨c4, h⟩ := h
    refine fw_iald (w := (mw G mh ad)) C hK hG 1 mw_a2 c4 dX10_put_19 ?_
    refine lv_bipush (v := (-9)) C.1 C.2.1 dX10_put_20 (by decide) ?_
    refine lv_icmp_ne (tgt := 31) C.1 C.2.1 dX10_put_22 (by decide) (fun c5 => ?_) (fun c5 => ?_)
    · have h := h.1 c5
      refine lv_iload_n C.1 C.2.1 dX10_put_31 rfl (lv_at hl 2 rfl) ?_
      refine lv_iconst (v := 0) C.1 C.2.1 dX10_put_32 (by decide) ?_
      refine lv_aload_n C.1 C.2.1 dX10_put_33 rfl (lv_at hl 0 rfl) ?_
      refine fw_get (w := (mw G mh ad)) C in_X10 hK hG 0 mw_o rfl 3 (by decide) k13 rfl rfl dX10_put_34 ?_
      refine lv_iload_n C.1 C.2.1 dX10_put_37 rfl (lv_at hl 1 rfl) ?_
      obtain ⟨c6, h⟩ := h
      refine fw_iald (w := (mw G mh ad)) C hK hG 2 mw_a3 c6 dX10_put_38 ?_
      refine lv_iconst (v := 1) C.1 C.2.1 dX10_put_39 (by decide) ?_
      refine lv_isub C.1 C.2.1 dX10_put_40 ?_
      refine fw_pcalli (va_runS (As := [.int x2, .int 0, .int (((ar 3) x1.toNatClampNeg) - 1)]) (rest := []) ⟨C.1, C.2.1, C.2.2.2.2.2.2, C.2.2.2.2.2.1, C.2.2.2.2.1⟩ (soX10_within l x2 0 (((ar 3) x1.toNatClampNeg) - 1) _ h H.size) (va_cwS 3 C.2.2.2.2.1 gX10_put_X10_within rfl rfl rfl (by decide +kernel) ⟨Nat.le_of_ble_eq_true rfl, Nat.le_of_ble_eq_true rfl⟩) fw_ppre rfl rfl hl.1 rfl (lv_room (Nat.le_of_ble_eq_true rfl)) dX10_put_41 ⟨Nat.zero_le _, Nat.zero_le _⟩) hG hK (fun r7  H locs h hG => ?_)
      refine lv_if_ne (tgt := 53) C.1 C.2.1 dX10_put_44 (by decide) (fun c8 => ?_) (fun c8 => ?_)
      · have h := h.1 c8
        refine lv_aload_n C.1 C.2.1 dX10_put_53 rfl (lv_at hl 0 rfl) ?_
        refine fw_get (w := (mw G mh ad)) C in_X10 hK hG 0 mw_o rfl 4 (by decide) k16 rfl rfl dX10_put_54 ?_
        refine lv_bipush (v := 80) C.1 C.2.1 dX10_put_57 (by decide) ?_
        refine lv_iload_n C.1 C.2.1 dX10_put_59 rfl (lv_at hl 1 rfl) ?_
        refine lv_imul C.1 C.2.1 dX10_put_60 ?_
        refine lv_iload_n C.1 C.2.1 dX10_put_61 rfl (lv_at hl 2 rfl) ?_
        refine lv_iadd C.1 C.2.1 dX10_put_62 ?_
        refine lv_aload_n C.1 C.2.1 dX10_put_63 rfl (lv_at hl 0 rfl) ?_
        refine fw_get (w := (mw G mh ad)) C in_X10 hK hG 0 mw_o rfl 2 (by decide) k9 rfl rfl dX10_put_64 ?_
        refine lv_iload_n C.1 C.2.1 dX10_put_67 rfl (lv_at hl 1 rfl) ?_
        obtain ⟨c9, h⟩ := h
        refine fw_iald (w := (mw G mh ad)) C hK hG 1 mw_a2 c9 dX10_put_68 ?_
        refine lv_if_ne (tgt := 77) C.1 C.2.1 dX10_put_69 (by decide) (fun c10 => ?_) (fun c10 => ?_)
        · have h := h.1 c10
          refine lv_aload_n C.1 C.2.1 dX10_put_77 rfl (lv_at hl 0 rfl) ?_
          refine fw_get (w := (mw G mh ad)) C in_X10 hK hG 0 mw_o rfl 2 (by decide) k9 rfl rfl dX10_put_78 ?_
          refine lv_iload_n C.1 C.2.1 dX10_put_81 rfl (lv_at hl 1 rfl) ?_
          obtain ⟨c11, h⟩ := h
          refine fw_iald (w := (mw G mh ad)) C hK hG 1 mw_a2 c11 dX10_put_82 ?_
          refine lv_iconst (v := 1) C.1 C.2.1 dX10_put_83 (by decide) ?_
          refine lv_icmp_ne (tgt := 92) C.1 C.2.1 dX10_put_84 (by decide) (fun c12 => ?_) (fun c12 => ?_)
          · have h := h.1 c12
            refine lv_iload_n C.1 C.2.1 dX10_put_92 rfl (lv_at hl 3 rfl) ?_
            obtain ⟨c13, h⟩ := h
            obtain ⟨ar14, ear14⟩ : ∃ z : fw_R, z = va_up ar 4 (upd (ar 4) ((80 * x1) + x2).toNatClampNeg x3) := ⟨_, rfl⟩
            have h := h ar14 ear14
            refine fw_iast (w := (mw G mh ad)) C hK hG 3 mw_a4 c13 (ar1 := ar14) (by rw [ear14]; exact mw_s4) dX10_put_93 (fun H locs hG => ?_)
            refine lv_iconst (v := 1) C.1 C.2.1 dX10_put_94 (by decide) ?_
            exact fw_iret C hG h dX10_put_95
          · have h := h.2 c12
            refine lv_iload_n C.1 C.2.1 dX10_put_87 rfl (lv_at hl 3 rfl) ?_
            refine lv_i2s C.1 C.2.1 dX10_put_88 rfl ?_
            refine lv_goto (tgt := 93) C.1 C.2.1 dX10_put_89 (by decide) ?_
            obtain ⟨c15, h⟩ := h
            obtain ⟨ar16, ear16⟩ : ∃ z : fw_R, z = va_up ar 4 (upd (ar 4) ((80 * x1) + x2).toNatClampNeg x3.toInt16.toInt32) := ⟨_, rfl⟩
            have h := h ar16 ear16
            refine fw_iast (w := (mw G mh ad)) C hK hG 3 mw_a4 c15 (ar1 := ar16) (by rw [ear16]; exact mw_s4) dX10_put_93 (fun H locs hG => ?_)
            refine lv_iconst (v := 1) C.1 C.2.1 dX10_put_94 (by decide) ?_
            exact fw_iret C hG h dX10_put_95
        · have h := h.2 c10
          refine lv_iload_n C.1 C.2.1 dX10_put_72 rfl (lv_at hl 3 rfl) ?_
          refine lv_i2b C.1 C.2.1 dX10_put_73 rfl ?_
          refine lv_goto (tgt := 93) C.1 C.2.1 dX10_put_74 (by decide) ?_
          obtain ⟨c17, h⟩ := h
          obtain ⟨ar18, ear18⟩ : ∃ z : fw_R, z = va_up ar 4 (upd (ar 4) ((80 * x1) + x2).toNatClampNeg x3.toInt8.toInt32) := ⟨_, rfl⟩
          have h := h ar18 ear18
          refine fw_iast (w := (mw G mh ad)) C hK hG 3 mw_a4 c17 (ar1 := ar18) (by rw [ear18]; exact mw_s4) dX10_put_93 (fun H locs hG => ?_)
          refine lv_iconst (v := 1) C.1 C.2.1 dX10_put_94 (by decide) ?_
          exact fw_iret C hG h dX10_put_95
      · have h := h.2 c8
        refine lv_aload_n C.1 C.2.1 dX10_put_47 rfl (lv_at hl 0 rfl) ?_
        refine lv_iconst (v := 3) C.1 C.2.1 dX10_put_48 (by decide) ?_
        refine fw_calli (va_runV (As := [.int 3]) (rest := []) ⟨C.1, C.2.1, C.2.2.2.2.2.2, C.2.2.2.2.2.1, C.2.2.2.2.1⟩ (soX10_fails l G mh ad iv1 ar 3 _  h H.size) (cwV 1 C.2.2.2.2.1 gX10_put_X10_fails rfl rfl rfl (by decide +kernel) ⟨Nat.le_of_ble_eq_true rfl, Nat.le_of_ble_eq_true rfl⟩) (fw_preV hG hK (ci := 10) rfl mw_o) rfl rfl hl.1 rfl (lv_room (Nat.le_of_ble_eq_true rfl)) dX10_put_49 ⟨Nat.zero_le _, Nat.zero_le _⟩) hG hK (fun r19 iv20 ar21 H locs h hG => ?_)
        exact fw_iret C hG h dX10_put_52
    · have h := h.2 c5
      refine lv_aload_n C.1 C.2.1 dX10_put_25 rfl (lv_at hl 0 rfl) ?_
      refine lv_iconst (v := 1) C.1 C.2.1 dX10_put_26 (by decide) ?_
      refine fw_calli (va_runV (As := [.int 1]) (rest := []) ⟨C.1, C.2.1, C.2.2.2.2.2.2, C.2.2.2.2.2.1, C.2.2.2.2.1⟩ (soX10_fails l G mh ad iv1 ar 1 _  h H.size) (cwV 1 C.2.2.2.2.1 gX10_put_X10_fails rfl rfl rfl (by decide +kernel) ⟨Nat.le_of_ble_eq_true rfl, Nat.le_of_ble_eq_true rfl⟩) (fw_preV hG hK (ci := 10) rfl mw_o) rfl rfl hl.1 rfl (lv_room (Nat.le_of_ble_eq_true rfl)) dX10_put_27 ⟨Nat.zero_le _, Nat.zero_le _⟩) hG hK (fun r22 iv23 ar24 H locs h hG => ?_)
      exact fw_iret C hG h dX10_put_30
  · have h := h.2 c3
    refine lv_iconst (v := (-1)) C.1 C.2.1 dX10_put_12 (by decide) ?_
    exact fw_iret C hG h dX10_put_13
/-! KnifeBoardModel.cell(III)J -/
def rmX10_cell : Room := { frames := 2, cells := 0, slots := 0, locals := 42 }
def wpX10_cell (iv : fw_F) (ar : fw_R) (x1 : Int32) (x2 : Int32) (x3 : Int32) (Q : Int64 → fw_F → fw_R → Prop) : Prop := ∀ iv1 : fw_F, iv1 = va_up iv 0 0 → (wpX10_isSheet x1 (fun (r2 : Int32) => (r2 = 0 → (Q (-9223372036854775808) iv1 ar)) ∧ (¬ r2 = 0 → (wpX10_isSort x3 (fun (r4 : Int32) => (¬ r4 = 0 → (vp_in x1 4 ∧ ((((ar 2) x1.toNatClampNeg) = (-9) → (vp_in x1 4 ∧ ((¬ ((ar 2) x1.toNatClampNeg) = (-9) → (vp_in x1 4 ∧ (wpX10_within x2 0 (((ar 3) x1.toNatClampNeg) - 1) (fun (r11 : Int32) => (¬ r11 = 0 → (vp_in ((80 * x1) + x2) 320 ∧ (Q (((ar 4) ((80 * x1) + x2).toNatClampNeg).toInt64) iv1 ar))) ∧ (r11 = 0 → (wpX10_lost iv1 ar 3 (fun (r14 : Int64) (iv15 : fw_F) (ar16 : fw_R) => Q r14 iv15 ar16))))))) ∧ (((ar 2) x1.toNatClampNeg) = (-9) → (wpX10_lost iv1 ar 1 (fun (r17 : Int64) (iv18 : fw_F) (ar19 : fw_R) => Q r17 iv18 ar19)))))) ∧ (¬ ((ar 2) x1.toNatClampNeg) = (-9) → (vp_in x1 4 ∧ ((((ar 2) x1.toNatClampNeg) = x3 → (vp_in x1 4 ∧ ((¬ ((ar 2) x1.toNatClampNeg) = (-9) → (vp_in x1 4 ∧ (wpX10_within x2 0 (((ar 3) x1.toNatClampNeg) - 1) (fun (r25 : Int32) => (¬ r25 = 0 → (vp_in ((80 * x1) + x2) 320 ∧ (Q (((ar 4) ((80 * x1) + x2).toNatClampNeg).toInt64) iv1 ar))) ∧ (r25 = 0 → (wpX10_lost iv1 ar 3 (fun (r28 : Int64) (iv29 : fw_F) (ar30 : fw_R) => Q r28 iv29 ar30))))))) ∧ (((ar 2) x1.toNatClampNeg) = (-9) → (wpX10_lost iv1 ar 1 (fun (r31 : Int64) (iv32 : fw_F) (ar33 : fw_R) => Q r31 iv32 ar33)))))) ∧ (¬ ((ar 2) x1.toNatClampNeg) = x3 → (wpX10_lost iv1 ar 2 (fun (r34 : Int64) (iv35 : fw_F) (ar36 : fw_R) => Q r34 iv35 ar36))))))))) ∧ (r4 = 0 → (Q (-9223372036854775808) iv1 ar)))))))
set_option maxHeartbeats 4000000 in
set_option maxRecDepth 100000 in
theorem soX10_cell (l : Launch) (G : fw_G) (mh : Nat) (ad : Nat → Nat) (iv : fw_F) (ar : fw_R) (x1 : Int32) (x2 : Int32) (x3 : Int32) (Q : Int64 → fw_F → fw_R → Prop)  (h : wpX10_cell iv ar x1 x2 x3 Q) : fw_M l G (mw G mh ad) yX10_cell wsX10_cell rmX10_cell [.ref mh, .int x1, .int x2, .int x3] iv ar (fw_Ql G (mw G mh ad) Q) := by
  refine fw_start (cc := cX10_cell) (nL := 4) (rt := (some .long)) (by decide) rfl (Nat.le_of_ble_eq_true rfl) ?_
  intro p e s m below meth c A ls H locs C hK hG hl
  obtain ⟨args, ea⟩ : ∃ z : Array Value, z = ([.ref mh, .int x1, .int x2, .int x3] : List Value).toArray := ⟨_, rfl⟩
  rw [← ea] at C ⊢
  have C : fw_C p s m args meth c cX10_cell 4 (some .long) wsX10_cell RX10 := C
  have hl : lv_has ls 4 [(0, .ref mh), (1, .int x1), (2, .int x2), (3, .int x3)] := hl
  unfold wpX10_cell at h
  have in_X10 : ∀ x ∈ wsX100, x ∈ wsX10_cell := by decide +kernel
  have k13 := C.2.2.2.2.1 (.fieldLink RX10 13 "KnifeBoardModel" "sheetLong" "[I") (by decide +kernel)
  have k16 := C.2.2.2.2.1 (.fieldLink RX10 16 "KnifeBoardModel" "cells" "[I") (by decide +kernel)
  have k71 := C.2.2.2.2.1 (.fieldLink RX10 71 "KnifeBoardModel" "fault" "I") (by decide +kernel)
  have k75 := C.2.2.2.2.1 (.constantLong RX10 75 (-9223372036854775808)) (by decide +kernel)
  have k9 := C.2.2.2.2.1 (.fieldLink RX10 9 "KnifeBoardModel" "sorts" "[I") (by decide +kernel)
  refine lv_aload_n C.1 C.2.1 dX10_cell_0 rfl (lv_at hl 0 rfl) ?_
  refine lv_iconst (v := 0) C.1 C.2.1 dX10_cell_1 (by decide) ?_
  obtain ⟨iv1, eiv1⟩ : ∃ z : fw_F, z = va_up iv 0 0 := ⟨_, rfl⟩
  have h := h iv1 eiv1
  refine fw_put (w := (mw G mh ad)) C in_X10 tyX10 tyX10_ok nmX10 hK hG 0 mw_o rfl 0 (by decide) k71 rfl rfl (ty := .int) (v := .int 0) (by decide +kernel) rfl rfl (by first | decide | exact Nat.le_of_ble_eq_true rfl) (iv1 := iv1) (by rw [eiv1]; exact mw_p0) dX10_cell_2 (fun H locs hG => ?_)
  refine lv_iload_n C.1 C.2.1 dX10_cell_5 rfl (lv_at hl 1 rfl) ?_
  refine fw_pcalli (va_runS (As := [.int x1]) (rest := []) ⟨C.1, C.2.1, C.2.2.2.2.2.2, C.2.2.2.2.2.1, C.2.2.2.2.1⟩ (soX10_isSheet l x1 _ h H.size) (va_cwS 1 C.2.2.2.2.1 gX10_cell_X10_isSheet rfl rfl rfl (by decide +kernel) ⟨Nat.le_of_ble_eq_true rfl, Nat.le_of_ble_eq_true rfl⟩) fw_ppre rfl rfl hl.1 rfl (lv_room (Nat.le_of_ble_eq_true rfl)) dX10_cell_6 ⟨Nat.zero_le _, Nat.zero_le _⟩) hG hK (fun r2  H locs h hG => ?_)
  refine lv_if_eq (tgt := 19) C.1 C.2.1 dX10_cell_9 (by decide) (fun c3 => ?_) (fun c3 => ?_)
  · have h := h.1 c3
    refine lv_ldc2 C.1 C.2.1 C.2.2.2.2.2.1 k75 dX10_cell_19 ?_
    exact fw_lret C hG h dX10_cell_22
  · have h := h.2 c3
    refine lv_iload_n C.1 C.2.1 dX10_cell_12 rfl (lv_at hl 3 rfl) ?_
    refine fw_pcalli (va_runS (As := [.int x3]) (rest := []) ⟨C.1, C.2.1, C.2.2.2.2.2.2, C.2.2.2.2.2.1, C.2.2.2.2.1⟩ (soX10_isSort l x3 _ h H.size) (va_cwS 1 C.2.2.2.2.1 gX10_cell_X10_isSort rfl rfl rfl (by decide +kernel) ⟨Nat.le_of_ble_eq_true rfl, Nat.le_of_ble_eq_true rfl⟩) fw_ppre rfl rfl hl.1 rfl (lv_room (Nat.le_of_ble_eq_true rfl)) dX10_cell_13 ⟨Nat.zero_le _, Nat.zero_le _⟩) hG hK (fun r4  H locs h hG => ?_)
    refine lv_if_ne (tgt := 23) C.1 C.2.1 dX10_cell_16 (by decide) (fun c5 => ?_) (fun c5 => ?_)
    · have h := h.1 c5
      refine lv_aload_n C.1 C.2.1 dX10_cell_23 rfl (lv_at hl 0 rfl) ?_
      refine fw_get (w := (mw G mh ad)) C in_X10 hK hG 0 mw_o rfl 2 (by decide) k9 rfl rfl dX10_cell_24 ?_
      refine lv_iload_n C.1 C.2.1 dX10_cell_27 rfl (lv_at hl 1 rfl) ?_
      obtain ⟨c6, h⟩ := h
      refine fw_iald (w := (mw G mh ad)) C hK hG 1 mw_a2 c6 dX10_cell_28 ?_
      refine lv_bipush (v := (-9)) C.1 C.2.1 dX10_cell_29 (by decide) ?_
      refine lv_icmp_eq (tgt := 50) C.1 C.2.1 dX10_cell_31 (by decide) (fun c7 => ?_) (fun c7 => ?_)
      · have h := h.1 c7
        refine lv_aload_n C.1 C.2.1 dX10_cell_50 rfl (lv_at hl 0 rfl) ?_
        refine fw_get (w := (mw G mh ad)) C in_X10 hK hG 0 mw_o rfl 2 (by decide) k9 rfl rfl dX10_cell_51 ?_
        refine lv_iload_n C.1 C.2.1 dX10_cell_54 rfl (lv_at hl 1 rfl) ?_
        obtain ⟨c8, h⟩ := h
        refine fw_iald (w := (mw G mh ad)) C hK hG 1 mw_a2 c8 dX10_cell_55 ?_
        refine lv_bipush (v := (-9)) C.1 C.2.1 dX10_cell_56 (by decide) ?_
        refine lv_icmp_ne (tgt := 67) C.1 C.2.1 dX10_cell_58 (by decide) (fun c9 => ?_) (fun c9 => ?_)
        · have h := h.1 c9
          refine lv_iload_n C.1 C.2.1 dX10_cell_67 rfl (lv_at hl 2 rfl) ?_
          refine lv_iconst (v := 0) C.1 C.2.1 dX10_cell_68 (by decide) ?_
          refine lv_aload_n C.1 C.2.1 dX10_cell_69 rfl (lv_at hl 0 rfl) ?_
          refine fw_get (w := (mw G mh ad)) C in_X10 hK hG 0 mw_o rfl 3 (by decide) k13 rfl rfl dX10_cell_70 ?_
          refine lv_iload_n C.1 C.2.1 dX10_cell_73 rfl (lv_at hl 1 rfl) ?_
          obtain ⟨c10, h⟩ := h
          refine fw_iald (w := (mw G mh ad)) C hK hG 2 mw_a3 c10 dX10_cell_74 ?_
          refine lv_iconst (v := 1) C.1 C.2.1 dX10_cell_75 (by decide) ?_
          refine lv_isub C.1 C.2.1 dX10_cell_76 ?_
          refine fw_pcalli (va_runS (As := [.int x2, .int 0, .int (((ar 3) x1.toNatClampNeg) - 1)]) (rest := []) ⟨C.1, C.2.1, C.2.2.2.2.2.2, C.2.2.2.2.2.1, C.2.2.2.2.1⟩ (soX10_within l x2 0 (((ar 3) x1.toNatClampNeg) - 1) _ h H.size) (va_cwS 3 C.2.2.2.2.1 gX10_cell_X10_within rfl rfl rfl (by decide +kernel) ⟨Nat.le_of_ble_eq_true rfl, Nat.le_of_ble_eq_true rfl⟩) fw_ppre rfl rfl hl.1 rfl (lv_room (Nat.le_of_ble_eq_true rfl)) dX10_cell_77 ⟨Nat.zero_le _, Nat.zero_le _⟩) hG hK (fun r11  H locs h hG => ?_)
          refine lv_if_ne (tgt := 89) C.1 C.2.1 dX10_cell_80 (by decide) (fun c12 => ?_) (fun c12 => ?_)
          · have h := h.1 c12
            refine lv_aload_n C.1 C.2.1 dX10_cell_89 rfl (lv_at hl 0 rfl) ?_
            refine fw_get (w := (mw G mh ad)) C in_X10 hK hG 0 mw_o rfl 4 (by decide) k16 rfl rfl dX10_cell_90 ?_
            refine lv_bipush (v := 80) C.1 C.2.1 dX10_cell_93 (by decide) ?_
            refine lv_iload_n C.1 C.2.1 dX10_cell_95 rfl (lv_at hl 1 rfl) ?_
            refine lv_imul C.1 C.2.1 dX10_cell_96 ?_
            refine lv_iload_n C.1 C.2.1 dX10_cell_97 rfl (lv_at hl 2 rfl) ?_
            refine lv_iadd C.1 C.2.1 dX10_cell_98 ?_
            obtain ⟨c13, h⟩ := h
            refine fw_iald (w := (mw G mh ad)) C hK hG 3 mw_a4 c13 dX10_cell_99 ?_
            refine lv_i2l C.1 C.2.1 dX10_cell_100 rfl ?_
            exact fw_lret C hG h dX10_cell_101
          · have h := h.2 c12
            refine lv_aload_n C.1 C.2.1 dX10_cell_83 rfl (lv_at hl 0 rfl) ?_
            refine lv_iconst (v := 3) C.1 C.2.1 dX10_cell_84 (by decide) ?_
            refine fw_calll (va_runV (As := [.int 3]) (rest := []) ⟨C.1, C.2.1, C.2.2.2.2.2.2, C.2.2.2.2.2.1, C.2.2.2.2.1⟩ (soX10_lost l G mh ad iv1 ar 3 _  h H.size) (cwV 1 C.2.2.2.2.1 gX10_cell_X10_lost rfl rfl rfl (by decide +kernel) ⟨Nat.le_of_ble_eq_true rfl, Nat.le_of_ble_eq_true rfl⟩) (fw_preV hG hK (ci := 10) rfl mw_o) rfl rfl hl.1 rfl (lv_room (Nat.le_of_ble_eq_true rfl)) dX10_cell_85 ⟨Nat.zero_le _, Nat.zero_le _⟩) hG hK (fun r14 iv15 ar16 H locs h hG => ?_)
            exact fw_lret C hG h dX10_cell_88
        · have h := h.2 c9
          refine lv_aload_n C.1 C.2.1 dX10_cell_61 rfl (lv_at hl 0 rfl) ?_
          refine lv_iconst (v := 1) C.1 C.2.1 dX10_cell_62 (by decide) ?_
          refine fw_calll (va_runV (As := [.int 1]) (rest := []) ⟨C.1, C.2.1, C.2.2.2.2.2.2, C.2.2.2.2.2.1, C.2.2.2.2.1⟩ (soX10_lost l G mh ad iv1 ar 1 _  h H.size) (cwV 1 C.2.2.2.2.1 gX10_cell_X10_lost rfl rfl rfl (by decide +kernel) ⟨Nat.le_of_ble_eq_true rfl, Nat.le_of_ble_eq_true rfl⟩) (fw_preV hG hK (ci := 10) rfl mw_o) rfl rfl hl.1 rfl (lv_room (Nat.le_of_ble_eq_true rfl)) dX10_cell_63 ⟨Nat.zero_le _, Nat.zero_le _⟩) hG hK (fun r17 iv18 ar19 H locs h hG => ?_)
          exact fw_lret C hG h dX10_cell_66
      · have h := h.2 c7
        refine lv_aload_n C.1 C.2.1 dX10_cell_34 rfl (lv_at hl 0 rfl) ?_
        refine fw_get (w := (mw G mh ad)) C in_X10 hK hG 0 mw_o rfl 2 (by decide) k9 rfl rfl dX10_cell_35 ?_
        refine lv_iload_n C.1 C.2.1 dX10_cell_38 rfl (lv_at hl 1 rfl) ?_
        obtain ⟨c20, h⟩ := h
        refine fw_iald (w := (mw G mh ad)) C hK hG 1 mw_a2 c20 dX10_cell_39 ?_
        refine lv_iload_n C.1 C.2.1 dX10_cell_40 rfl (lv_at hl 3 rfl) ?_
        refine lv_icmp_eq (tgt := 50) C.1 C.2.1 dX10_cell_41 (by decide) (fun c21 => ?_) (fun c21 => ?_)
        · have h := h.1 c21
          refine lv_aload_n C.1 C.2.1 dX10_cell_50 rfl (lv_at hl 0 rfl) ?_
          refine fw_get (w := (mw G mh ad)) C in_X10 hK hG 0 mw_o rfl 2 (by decide) k9 rfl rfl dX10_cell_51 ?_
          refine lv_iload_n C.1 C.2.1 dX10_cell_54 rfl (lv_at hl 1 rfl) ?_
          obtain ⟨c22, h⟩ := h
          refine fw_iald (w := (mw G mh ad)) C hK hG 1 mw_a2 c22 dX10_cell_55 ?_
          refine lv_bipush (v := (-9)) C.1 C.2.1 dX10_cell_56 (by decide) ?_
          refine lv_icmp_ne (tgt := 67) C.1 C.2.1 dX10_cell_58 (by decide) (fun c23 => ?_) (fun c23 => ?_)
          · have h := h.1 c23
            refine lv_iload_n C.1 C.2.1 dX10_cell_67 rfl (lv_at hl 2 rfl) ?_
            refine lv_iconst (v := 0) C.1 C.2.1 dX10_cell_68 (by decide) ?_
            refine lv_aload_n C.1 C.2.1 dX10_cell_69 rfl (lv_at hl 0 rfl) ?_
            refine fw_get (w := (mw G mh ad)) C in_X10 hK hG 0 mw_o rfl 3 (by decide) k13 rfl rfl dX10_cell_70 ?_
            refine lv_iload_n C.1 C.2.1 dX10_cell_73 rfl (lv_at hl 1 rfl) ?_
            obtain ⟨c24, h⟩ := h
            refine fw_iald (w := (mw G mh ad)) C hK hG 2 mw_a3 c24 dX10_cell_74 ?_
            refine lv_iconst (v := 1) C.1 C.2.1 dX10_cell_75 (by decide) ?_
            refine lv_isub C.1 C.2.1 dX10_cell_76 ?_
            refine fw_pcalli (va_runS (As := [.int x2, .int 0, .int (((ar 3) x1.toNatClampNeg) - 1)]) (rest := []) ⟨C.1, C.2.1, C.2.2.2.2.2.2, C.2.2.2.2.2.1, C.2.2.2.2.1⟩ (soX10_within l x2 0 (((ar 3) x1.toNatClampNeg) - 1) _ h H.size) (va_cwS 3 C.2.2.2.2.1 gX10_cell_X10_within rfl rfl rfl (by decide +kernel) ⟨Nat.le_of_ble_eq_true rfl, Nat.le_of_ble_eq_true rfl⟩) fw_ppre rfl rfl hl.1 rfl (lv_room (Nat.le_of_ble_eq_true rfl)) dX10_cell_77 ⟨Nat.zero_le _, Nat.zero_le _⟩) hG hK (fun r25  H locs h hG => ?_)
            refine lv_if_ne (tgt := 89) C.1 C.2.1 dX10_cell_80 (by decide) (fun c26 => ?_) (fun c26 => ?_)
            · have h := h.1 c26
              refine lv_aload_n C.1 C.2.1 dX10_cell_89 rfl (lv_at hl 0 rfl) ?_
              refine fw_get (w := (mw G mh ad)) C in_X10 hK hG 0 mw_o rfl 4 (by decide) k16 rfl rfl dX10_cell_90 ?_
              refine lv_bipush (v := 80) C.1 C.2.1 dX10_cell_93 (by decide) ?_
              refine lv_iload_n C.1 C.2.1 dX10_cell_95 rfl (lv_at hl 1 rfl) ?_
              refine lv_imul C.1 C.2.1 dX10_cell_96 ?_
              refine lv_iload_n C.1 C.2.1 dX10_cell_97 rfl (lv_at hl 2 rfl) ?_
              refine lv_iadd C.1 C.2.1 dX10_cell_98 ?_
              obtain ⟨c27, h⟩ := h
              refine fw_iald (w := (mw G mh ad)) C hK hG 3 mw_a4 c27 dX10_cell_99 ?_
              refine lv_i2l C.1 C.2.1 dX10_cell_100 rfl ?_
              exact fw_lret C hG h dX10_cell_101
            · have h := h.2 c26
              refine lv_aload_n C.1 C.2.1 dX10_cell_83 rfl (lv_at hl 0 rfl) ?_
              refine lv_iconst (v := 3) C.1 C.2.1 dX10_cell_84 (by decide) ?_
              refine fw_calll (va_runV (As := [.int 3]) (rest := []) ⟨C.1, C.2.1, C.2.2.2.2.2.2, C.2.2.2.2.2.1, C.2.2.2.2.1⟩ (soX10_lost l G mh ad iv1 ar 3 _  h H.size) (cwV 1 C.2.2.2.2.1 gX10_cell_X10_lost rfl rfl rfl (by decide +kernel) ⟨Nat.le_of_ble_eq_true rfl, Nat.le_of_ble_eq_true rfl⟩) (fw_preV hG hK (ci := 10) rfl mw_o) rfl rfl hl.1 rfl (lv_room (Nat.le_of_ble_eq_true rfl)) dX10_cell_85 ⟨Nat.zero_le _, Nat.zero_le _⟩) hG hK (fun r28 iv29 ar30 H locs h hG => ?_)
              exact fw_lret C hG h dX10_cell_88
          · have h := h.2 c23
            refine lv_aload_n C.1 C.2.1 dX10_cell_61 rfl (lv_at hl 0 rfl) ?_
            refine lv_iconst (v := 1) C.1 C.2.1 dX10_cell_62 (by decide) ?_
            refine fw_calll (va_runV (As := [.int 1]) (rest := []) ⟨C.1, C.2.1, C.2.2.2.2.2.2, C.2.2.2.2.2.1, C.2.2.2.2.1⟩ (soX10_lost l G mh ad iv1 ar 1 _  h H.size) (cwV 1 C.2.2.2.2.1 gX10_cell_X10_lost rfl rfl rfl (by decide +kernel) ⟨Nat.le_of_ble_eq_true rfl, Nat.le_of_ble_eq_true rfl⟩) (fw_preV hG hK (ci := 10) rfl mw_o) rfl rfl hl.1 rfl (lv_room (Nat.le_of_ble_eq_true rfl)) dX10_cell_63 ⟨Nat.zero_le _, Nat.zero_le _⟩) hG hK (fun r31 iv32 ar33 H locs h hG => ?_)
            exact fw_lret C hG h dX10_cell_66
        · have h := h.2 c21
          refine lv_aload_n C.1 C.2.1 dX10_cell_44 rfl (lv_at hl 0 rfl) ?_
          refine lv_iconst (v := 2) C.1 C.2.1 dX10_cell_45 (by decide) ?_
          refine fw_calll (va_runV (As := [.int 2]) (rest := []) ⟨C.1, C.2.1, C.2.2.2.2.2.2, C.2.2.2.2.2.1, C.2.2.2.2.1⟩ (soX10_lost l G mh ad iv1 ar 2 _  h H.size) (cwV 1 C.2.2.2.2.1 gX10_cell_X10_lost rfl rfl rfl (by decide +kernel) ⟨Nat.le_of_ble_eq_true rfl, Nat.le_of_ble_eq_true rfl⟩) (fw_preV hG hK (ci := 10) rfl mw_o) rfl rfl hl.1 rfl (lv_room (Nat.le_of_ble_eq_true rfl)) dX10_cell_46 ⟨Nat.zero_le _, Nat.zero_le _⟩) hG hK (fun r34 iv35 ar36 H locs h hG => ?_)
          exact fw_lret C hG h dX10_cell_49
    · have h := h.2 c5
      refine lv_ldc2 C.1 C.2.1 C.2.2.2.2.2.1 k75 dX10_cell_19 ?_
      exact fw_lret C hG h dX10_cell_22
/-! KnifeBoardModel.copy(IIIII)I -/
def rmX10_copy : Room := { frames := 2, cells := 0, slots := 0, locals := 42 }
def wpX10_copy_L166 (x1 : Int32) (x2 : Int32) (x3 : Int32) (x4 : Int32) (x5 : Int32) (Q : Int32 → fw_F → fw_R → Prop) (K : Int32 → fw_F → fw_R → Prop) : Nat → Int32 → fw_F → fw_R → Prop
  | 0, _, _, _ => False
  | fu + 1, z8, iv, ar => (x5 ≤ z8 → (K z8 iv ar)) ∧ (¬ x5 ≤ z8 → (vp_in (((80 * x1) + x2) + z8) 320 ∧ (vp_in (((80 * x3) + x4) + z8) 320 ∧ (∀ ar56 : fw_R, ar56 = va_up ar 4 (upd (ar 4) (((80 * x3) + x4) + z8).toNatClampNeg ((ar 4) (((80 * x1) + x2) + z8).toNatClampNeg)) → (∀ y57 : Int32, y57 = z8 + 1 → (wpX10_copy_L166 x1 x2 x3 x4 x5 Q K fu y57 iv ar56))))))
def wpX10_copy_L166_1 (x1 : Int32) (x2 : Int32) (x3 : Int32) (x4 : Int32) (x5 : Int32) (Q : Int32 → fw_F → fw_R → Prop) (K : Int32 → fw_F → fw_R → Prop) : Nat → Int32 → fw_F → fw_R → Prop
  | 0, _, _, _ => False
  | fu + 1, z8, iv, ar => (x5 ≤ z8 → (K z8 iv ar)) ∧ (¬ x5 ≤ z8 → (∀ y63 : Int32, y63 = (x5 - 1) - z8 → (vp_in (((80 * x1) + x2) + y63) 320 ∧ (vp_in (((80 * x3) + x4) + y63) 320 ∧ (∀ ar66 : fw_R, ar66 = va_up ar 4 (upd (ar 4) (((80 * x3) + x4) + y63).toNatClampNeg ((ar 4) (((80 * x1) + x2) + y63).toNatClampNeg)) → (∀ y67 : Int32, y67 = z8 + 1 → (wpX10_copy_L166_1 x1 x2 x3 x4 x5 Q K fu y67 iv ar66)))))))
def wpX10_copy (iv : fw_F) (ar : fw_R) (x1 : Int32) (x2 : Int32) (x3 : Int32) (x4 : Int32) (x5 : Int32) (Q : Int32 → fw_F → fw_R → Prop) : Prop := ∀ iv1 : fw_F, iv1 = va_up iv 0 0 → (wpX10_isSheet x1 (fun (r2 : Int32) => (r2 = 0 → (Q (-1) iv1 ar)) ∧ (¬ r2 = 0 → (wpX10_isSheet x3 (fun (r4 : Int32) => (¬ r4 = 0 → (vp_in x1 4 ∧ ((((ar 2) x1.toNatClampNeg) = (-9) → (wpX10_fails iv1 ar 1 (fun (r8 : Int32) (iv9 : fw_F) (ar10 : fw_R) => Q r8 iv9 ar10))) ∧ (¬ ((ar 2) x1.toNatClampNeg) = (-9) → (vp_in x3 4 ∧ ((¬ ((ar 2) x3.toNatClampNeg) = (-9) → (vp_in x1 4 ∧ (vp_in x3 4 ∧ ((((ar 2) x1.toNatClampNeg) = ((ar 2) x3.toNatClampNeg) → ((x2 < 0 → (wpX10_fails iv1 ar 3 (fun (r18 : Int32) (iv19 : fw_F) (ar20 : fw_R) => Q r18 iv19 ar20))) ∧ (¬ x2 < 0 → ((x4 < 0 → (wpX10_fails iv1 ar 3 (fun (r23 : Int32) (iv24 : fw_F) (ar25 : fw_R) => Q r23 iv24 ar25))) ∧ (¬ x4 < 0 → ((x5 < 0 → (wpX10_fails iv1 ar 3 (fun (r28 : Int32) (iv29 : fw_F) (ar30 : fw_R) => Q r28 iv29 ar30))) ∧ (¬ x5 < 0 → (vp_in x1 4 ∧ ((((ar 3) x1.toNatClampNeg) < x2 → (wpX10_fails iv1 ar 3 (fun (r34 : Int32) (iv35 : fw_F) (ar36 : fw_R) => Q r34 iv35 ar36))) ∧ (¬ ((ar 3) x1.toNatClampNeg) < x2 → (vp_in x3 4 ∧ ((((ar 3) x3.toNatClampNeg) < x4 → (wpX10_fails iv1 ar 3 (fun (r40 : Int32) (iv41 : fw_F) (ar42 : fw_R) => Q r40 iv41 ar42))) ∧ (¬ ((ar 3) x3.toNatClampNeg) < x4 → (vp_in x1 4 ∧ (((((ar 3) x1.toNatClampNeg) - x2) < x5 → (wpX10_fails iv1 ar 3 (fun (r46 : Int32) (iv47 : fw_F) (ar48 : fw_R) => Q r46 iv47 ar48))) ∧ (¬ (((ar 3) x1.toNatClampNeg) - x2) < x5 → (vp_in x3 4 ∧ ((x5 ≤ (((ar 3) x3.toNatClampNeg) - x4) → ((x4 ≤ x2 → (∃ ku : Nat, wpX10_copy_L166 x1 x2 x3 x4 x5 Q (fun (w58 : Int32) (iv59 : fw_F) (ar60 : fw_R) => Q x5 iv59 ar60) ku 0 iv1 ar)) ∧ (¬ x4 ≤ x2 → (∃ ku : Nat, wpX10_copy_L166_1 x1 x2 x3 x4 x5 Q (fun (w68 : Int32) (iv69 : fw_F) (ar70 : fw_R) => Q x5 iv69 ar70) ku 0 iv1 ar)))) ∧ (¬ x5 ≤ (((ar 3) x3.toNatClampNeg) - x4) → (wpX10_fails iv1 ar 3 (fun (r71 : Int32) (iv72 : fw_F) (ar73 : fw_R) => Q r71 iv72 ar73))))))))))))))))))))) ∧ (¬ ((ar 2) x1.toNatClampNeg) = ((ar 2) x3.toNatClampNeg) → (wpX10_fails iv1 ar 2 (fun (r74 : Int32) (iv75 : fw_F) (ar76 : fw_R) => Q r74 iv75 ar76))))))) ∧ (((ar 2) x3.toNatClampNeg) = (-9) → (wpX10_fails iv1 ar 1 (fun (r77 : Int32) (iv78 : fw_F) (ar79 : fw_R) => Q r77 iv78 ar79))))))))) ∧ (r4 = 0 → (Q (-1) iv1 ar)))))))
set_option maxHeartbeats 4000000 in
set_option maxRecDepth 100000 in
theorem soX10_copy_L166 {p : Program} {l : Launch} {e : Env} {s : State} {m : MethodId} {args : Array Value} {below : List Frame} {meth : Method} {c : Code} {A : Nat → Prop} {G : fw_G} {mh : Nat} {ad : Nat → Nat} {x1 : Int32} {x2 : Int32} {x3 : Int32} {x4 : Int32} {x5 : Int32} {Q : Int32 → fw_F → fw_R → Prop} {K : Int32 → fw_F → fw_R → Prop} (C : fw_C p s m args meth c cX10_copy 10 (some .int) wsX10_copy RX10) (hK : fw_K G A s)  (hX : ∀ (z8 : Int32) (iv : fw_F) (ar : fw_R), K z8 iv ar → ∀ (H : Heap) (locs : List Loc), fw_H G ((mw G mh ad) iv ar) A s H locs → ∀ (ls : Array Slot), lv_has ls 10 [(8, .int z8), (7, .int 0), (0, .ref mh), (1, .int x1), (2, .int x2), (3, .int x3), (4, .int x4), (5, .int x5)] → W p l e rmX10_copy s m args below meth c H locs 0 0 (MQ below (fw_Qi G (mw G mh ad) Q A) args s 0 0 A) (F0 m 227 ls [])) : ∀ (fu : Nat) (z8 : Int32) (iv : fw_F) (ar : fw_R), wpX10_copy_L166 x1 x2 x3 x4 x5 Q K fu z8 iv ar → ∀ (H : Heap) (locs : List Loc), fw_H G ((mw G mh ad) iv ar) A s H locs → ∀ (ls : Array Slot), lv_has ls 10 [(8, .int z8), (7, .int 0), (0, .ref mh), (1, .int x1), (2, .int x2), (3, .int x3), (4, .int x4), (5, .int x5)] → W p l e rmX10_copy s m args below meth c H locs 0 0 (MQ below (fw_Qi G (mw G mh ad) Q A) args s 0 0 A) (F0 m 166 ls []) := by
  intro fu
  have in_X10 : ∀ x ∈ wsX100, x ∈ wsX10_copy := by decide +kernel
  have k16 := C.2.2.2.2.1 (.fieldLink RX10 16 "KnifeBoardModel" "cells" "[I") (by decide +kernel)
  induction fu with
  | zero => intro z8 iv ar h; exact h.elim
  | succ fu ih =>
    intro z8 iv ar h H locs hG ls hl
    unfold wpX10_copy_L166 at h
    refine lv_iload C.1 C.2.1 dX10_copy_166 (lv_at hl 0 rfl) ?_
    refine lv_iload C.1 C.2.1 dX10_copy_168 (lv_at hl 7 rfl) ?_
    refine lv_icmp_ge (tgt := 227) C.1 C.2.1 dX10_copy_170 (by decide) (fun c52 => ?_) (fun c52 => ?_)
    · have h := h.1 c52
      exact hX _ _ _ h _ _ hG ls (lv_sub hl [0, 1, 2, 3, 4, 5, 6, 7] rfl)
    · have h := h.2 c52
      refine lv_iload C.1 C.2.1 dX10_copy_173 (lv_at hl 1 rfl) ?_
      refine lv_if_eq (tgt := 188) C.1 C.2.1 dX10_copy_175 (by decide) (fun c53 => ?_) (fun c53 => ?_)
      · refine lv_iload C.1 C.2.1 dX10_copy_188 (lv_at hl 0 rfl) ?_
        refine lv_istore (lv' := [(9, .int z8), (8, .int z8), (7, .int 0), (0, .ref mh), (1, .int x1), (2, .int x2), (3, .int x3), (4, .int x4), (5, .int x5)]) C.1 C.2.1 dX10_copy_190 hl (by decide) rfl (fun ls hl => ?_)
        refine lv_aload_n C.1 C.2.1 dX10_copy_192 rfl (lv_at hl 3 rfl) ?_
        refine fw_get (w := (mw G mh ad)) C in_X10 hK hG 0 mw_o rfl 4 (by decide) k16 rfl rfl dX10_copy_193 ?_
        refine lv_bipush (v := 80) C.1 C.2.1 dX10_copy_196 (by decide) ?_
        refine lv_iload_n C.1 C.2.1 dX10_copy_198 rfl (lv_at hl 6 rfl) ?_
        refine lv_imul C.1 C.2.1 dX10_copy_199 ?_
        refine lv_iload C.1 C.2.1 dX10_copy_200 (lv_at hl 7 rfl) ?_
        refine lv_iadd C.1 C.2.1 dX10_copy_202 ?_
        refine lv_iload C.1 C.2.1 dX10_copy_203 (lv_at hl 0 rfl) ?_
        refine lv_iadd C.1 C.2.1 dX10_copy_205 ?_
        refine lv_aload_n C.1 C.2.1 dX10_copy_206 rfl (lv_at hl 3 rfl) ?_
        refine fw_get (w := (mw G mh ad)) C in_X10 hK hG 0 mw_o rfl 4 (by decide) k16 rfl rfl dX10_copy_207 ?_
        refine lv_bipush (v := 80) C.1 C.2.1 dX10_copy_210 (by decide) ?_
        refine lv_iload_n C.1 C.2.1 dX10_copy_212 rfl (lv_at hl 4 rfl) ?_
        refine lv_imul C.1 C.2.1 dX10_copy_213 ?_
        refine lv_iload_n C.1 C.2.1 dX10_copy_214 rfl (lv_at hl 5 rfl) ?_
        refine lv_iadd C.1 C.2.1 dX10_copy_215 ?_
        refine lv_iload C.1 C.2.1 dX10_copy_216 (lv_at hl 0 rfl) ?_
        refine lv_iadd C.1 C.2.1 dX10_copy_218 ?_
        obtain ⟨c54, h⟩ := h
        refine fw_iald (w := (mw G mh ad)) C hK hG 3 mw_a4 c54 dX10_copy_219 ?_
        obtain ⟨c55, h⟩ := h
        obtain ⟨ar56, ear56⟩ : ∃ z : fw_R, z = va_up ar 4 (upd (ar 4) (((80 * x3) + x4) + z8).toNatClampNeg ((ar 4) (((80 * x1) + x2) + z8).toNatClampNeg)) := ⟨_, rfl⟩
        have h := h ar56 ear56
        refine fw_iast (w := (mw G mh ad)) C hK hG 3 mw_a4 c55 (ar1 := ar56) (by rw [ear56]; exact mw_s4) dX10_copy_220 (fun H locs hG => ?_)
        obtain ⟨y57, ey57⟩ : ∃ z : Int32, z = z8 + 1 := ⟨_, rfl⟩
        have h := h y57 ey57
        refine lv_iinc (v := y57) (lv' := [(8, .int y57), (9, .int z8), (7, .int 0), (0, .ref mh), (1, .int x1), (2, .int x2), (3, .int x3), (4, .int x4), (5, .int x5)]) C.1 C.2.1 dX10_copy_221 hl (k := 1) rfl (by rw [ey57]; rfl) (by decide) rfl (fun ls hl => ?_)
        refine lv_goto (tgt := 166) C.1 C.2.1 dX10_copy_224 (by decide) ?_
        exact ih _ _ _ h _ _ hG ls (lv_sub hl [0, 2, 3, 4, 5, 6, 7, 8] rfl)
      · exact absurd c53 (by decide)

set_option maxHeartbeats 4000000 in
set_option maxRecDepth 100000 in
theorem soX10_copy_L166_1 {p : Program} {l : Launch} {e : Env} {s : State} {m : MethodId} {args : Array Value} {below : List Frame} {meth : Method} {c : Code} {A : Nat → Prop} {G : fw_G} {mh : Nat} {ad : Nat → Nat} {x1 : Int32} {x2 : Int32} {x3 : Int32} {x4 : Int32} {x5 : Int32} {Q : Int32 → fw_F → fw_R → Prop} {K : Int32 → fw_F → fw_R → Prop} (C : fw_C p s m args meth c cX10_copy 10 (some .int) wsX10_copy RX10) (hK : fw_K G A s)  (hX : ∀ (z8 : Int32) (iv : fw_F) (ar : fw_R), K z8 iv ar → ∀ (H : Heap) (locs : List Loc), fw_H G ((mw G mh ad) iv ar) A s H locs → ∀ (ls : Array Slot), lv_has ls 10 [(8, .int z8), (7, .int 1), (0, .ref mh), (1, .int x1), (2, .int x2), (3, .int x3), (4, .int x4), (5, .int x5)] → W p l e rmX10_copy s m args below meth c H locs 0 0 (MQ below (fw_Qi G (mw G mh ad) Q A) args s 0 0 A) (F0 m 227 ls [])) : ∀ (fu : Nat) (z8 : Int32) (iv : fw_F) (ar : fw_R), wpX10_copy_L166_1 x1 x2 x3 x4 x5 Q K fu z8 iv ar → ∀ (H : Heap) (locs : List Loc), fw_H G ((mw G mh ad) iv ar) A s H locs → ∀ (ls : Array Slot), lv_has ls 10 [(8, .int z8), (7, .int 1), (0, .ref mh), (1, .int x1), (2, .int x2), (3, .int x3), (4, .int x4), (5, .int x5)] → W p l e rmX10_copy s m args below meth c H locs 0 0 (MQ below (fw_Qi G (mw G mh ad) Q A) args s 0 0 A) (F0 m 166 ls []) := by
  intro fu
  have in_X10 : ∀ x ∈ wsX100, x ∈ wsX10_copy := by decide +kernel
  have k16 := C.2.2.2.2.1 (.fieldLink RX10 16 "KnifeBoardModel" "cells" "[I") (by decide +kernel)
  induction fu with
  | zero => intro z8 iv ar h; exact h.elim
  | succ fu ih =>
    intro z8 iv ar h H locs hG ls hl
    unfold wpX10_copy_L166_1 at h
    refine lv_iload C.1 C.2.1 dX10_copy_166 (lv_at hl 0 rfl) ?_
    refine lv_iload C.1 C.2.1 dX10_copy_168 (lv_at hl 7 rfl) ?_
    refine lv_icmp_ge (tgt := 227) C.1 C.2.1 dX10_copy_170 (by decide) (fun c61 => ?_) (fun c61 => ?_)
    · have h := h.1 c61
      exact hX _ _ _ h _ _ hG ls (lv_sub hl [0, 1, 2, 3, 4, 5, 6, 7] rfl)
    · have h := h.2 c61
      refine lv_iload C.1 C.2.1 dX10_copy_173 (lv_at hl 1 rfl) ?_
      refine lv_if_eq (tgt := 188) C.1 C.2.1 dX10_copy_175 (by decide) (fun c62 => ?_) (fun c62 => ?_)
      · exact absurd c62 (by decide)
      · refine lv_iload C.1 C.2.1 dX10_copy_178 (lv_at hl 7 rfl) ?_
        refine lv_iconst (v := 1) C.1 C.2.1 dX10_copy_180 (by decide) ?_
        refine lv_isub C.1 C.2.1 dX10_copy_181 ?_
        refine lv_iload C.1 C.2.1 dX10_copy_182 (lv_at hl 0 rfl) ?_
        refine lv_isub C.1 C.2.1 dX10_copy_184 ?_
        refine lv_goto (tgt := 190) C.1 C.2.1 dX10_copy_185 (by decide) ?_
        refine lv_topi (fun y63 ey63 => ?_)
        have h := h y63 ey63
        refine lv_istore (lv' := [(9, .int y63), (8, .int z8), (7, .int 1), (0, .ref mh), (1, .int x1), (2, .int x2), (3, .int x3), (4, .int x4), (5, .int x5)]) C.1 C.2.1 dX10_copy_190 hl (by decide) rfl (fun ls hl => ?_)
        refine lv_aload_n C.1 C.2.1 dX10_copy_192 rfl (lv_at hl 3 rfl) ?_
        refine fw_get (w := (mw G mh ad)) C in_X10 hK hG 0 mw_o rfl 4 (by decide) k16 rfl rfl dX10_copy_193 ?_
        refine lv_bipush (v := 80) C.1 C.2.1 dX10_copy_196 (by decide) ?_
        refine lv_iload_n C.1 C.2.1 dX10_copy_198 rfl (lv_at hl 6 rfl) ?_
        refine lv_imul C.1 C.2.1 dX10_copy_199 ?_
        refine lv_iload C.1 C.2.1 dX10_copy_200 (lv_at hl 7 rfl) ?_
        refine lv_iadd C.1 C.2.1 dX10_copy_202 ?_
        refine lv_iload C.1 C.2.1 dX10_copy_203 (lv_at hl 0 rfl) ?_
        refine lv_iadd C.1 C.2.1 dX10_copy_205 ?_
        refine lv_aload_n C.1 C.2.1 dX10_copy_206 rfl (lv_at hl 3 rfl) ?_
        refine fw_get (w := (mw G mh ad)) C in_X10 hK hG 0 mw_o rfl 4 (by decide) k16 rfl rfl dX10_copy_207 ?_
        refine lv_bipush (v := 80) C.1 C.2.1 dX10_copy_210 (by decide) ?_
        refine lv_iload_n C.1 C.2.1 dX10_copy_212 rfl (lv_at hl 4 rfl) ?_
        refine lv_imul C.1 C.2.1 dX10_copy_213 ?_
        refine lv_iload_n C.1 C.2.1 dX10_copy_214 rfl (lv_at hl 5 rfl) ?_
        refine lv_iadd C.1 C.2.1 dX10_copy_215 ?_
        refine lv_iload C.1 C.2.1 dX10_copy_216 (lv_at hl 0 rfl) ?_
        refine lv_iadd C.1 C.2.1 dX10_copy_218 ?_
        obtain ⟨c64, h⟩ := h
        refine fw_iald (w := (mw G mh ad)) C hK hG 3 mw_a4 c64 dX10_copy_219 ?_
        obtain ⟨c65, h⟩ := h
        obtain ⟨ar66, ear66⟩ : ∃ z : fw_R, z = va_up ar 4 (upd (ar 4) (((80 * x3) + x4) + y63).toNatClampNeg ((ar 4) (((80 * x1) + x2) + y63).toNatClampNeg)) := ⟨_, rfl⟩
        have h := h ar66 ear66
        refine fw_iast (w := (mw G mh ad)) C hK hG 3 mw_a4 c65 (ar1 := ar66) (by rw [ear66]; exact mw_s4) dX10_copy_220 (fun H locs hG => ?_)
        obtain ⟨y67, ey67⟩ : ∃ z : Int32, z = z8 + 1 := ⟨_, rfl⟩
        have h := h y67 ey67
        refine lv_iinc (v := y67) (lv' := [(8, .int y67), (9, .int y63), (7, .int 1), (0, .ref mh), (1, .int x1), (2, .int x2), (3, .int x3), (4, .int x4), (5, .int x5)]) C.1 C.2.1 dX10_copy_221 hl (k := 1) rfl (by rw [ey67]; rfl) (by decide) rfl (fun ls hl => ?_)
        refine lv_goto (tgt := 166) C.1 C.2.1 dX10_copy_224 (by decide) ?_
        exact ih _ _ _ h _ _ hG ls (lv_sub hl [0, 2, 3, 4, 5, 6, 7, 8] rfl)

set_option maxHeartbeats 4000000 in
set_option maxRecDepth 100000 in
theorem soX10_copy (l : Launch) (G : fw_G) (mh : Nat) (ad : Nat → Nat) (iv : fw_F) (ar : fw_R) (x1 : Int32) (x2 : Int32) (x3 : Int32) (x4 : Int32) (x5 : Int32) (Q : Int32 → fw_F → fw_R → Prop)  (h : wpX10_copy iv ar x1 x2 x3 x4 x5 Q) : fw_M l G (mw G mh ad) yX10_copy wsX10_copy rmX10_copy [.ref mh, .int x1, .int x2, .int x3, .int x4, .int x5] iv ar (fw_Qi G (mw G mh ad) Q) := by
  refine fw_start (cc := cX10_copy) (nL := 10) (rt := (some .int)) (by decide) rfl (Nat.le_of_ble_eq_true rfl) ?_
  intro p e s m below meth c A ls H locs C hK hG hl
  obtain ⟨args, ea⟩ : ∃ z : Array Value, z = ([.ref mh, .int x1, .int x2, .int x3, .int x4, .int x5] : List Value).toArray := ⟨_, rfl⟩
  rw [← ea] at C ⊢
  have C : fw_C p s m args meth c cX10_copy 10 (some .int) wsX10_copy RX10 := C
  have hl : lv_has ls 10 [(0, .ref mh), (1, .int x1), (2, .int x2), (3, .int x3), (4, .int x4), (5, .int x5)] := hl
  unfold wpX10_copy at h
  have in_X10 : ∀ x ∈ wsX100, x ∈ wsX10_copy := by decide +kernel
  have k13 := C.2.2.2.2.1 (.fieldLink RX10 13 "KnifeBoardModel" "sheetLong" "[I") (by decide +kernel)
  have k71 := C.2.2.2.2.1 (.fieldLink RX10 71 "KnifeBoardModel" "fault" "I") (by decide +kernel)
  have k9 := C.2.2.2.2.1 (.fieldLink RX10 9 "KnifeBoardModel" "sorts" "[I") (by decide +kernel)
  refine lv_aload_n C.1 C.2.1 dX10_copy_0 rfl (lv_at hl 0 rfl) ?_
  refine lv_iconst (v := 0) C.1 C.2.1 dX10_copy_1 (by decide) ?_
  obtain ⟨iv1, eiv1⟩ : ∃ z : fw_F, z = va_up iv 0 0 := ⟨_, rfl⟩
  have h := h iv1 eiv1
  refine fw_put (w := (mw G mh ad)) C in_X10 tyX10 tyX10_ok nmX10 hK hG 0 mw_o rfl 0 (by decide) k71 rfl rfl (ty := .int) (v := .int 0) (by decide +kernel) rfl rfl (by first | decide | exact Nat.le_of_ble_eq_true rfl) (iv1 := iv1) (by rw [eiv1]; exact mw_p0) dX10_copy_2 (fun H locs hG => ?_)
  refine lv_iload_n C.1 C.2.1 dX10_copy_5 rfl (lv_at hl 1 rfl) ?_
  refine fw_pcalli (va_runS (As := [.int x1]) (rest := []) ⟨C.1, C.2.1, C.2.2.2.2.2.2, C.2.2.2.2.2.1, C.2.2.2.2.1⟩ (soX10_isSheet l x1 _ h H.size) (va_cwS 1 C.2.2.2.2.1 gX10_copy_X10_isSheet rfl rfl rfl (by decide +kernel) ⟨Nat.le_of_ble_eq_true rfl, Nat.le_of_ble_eq_true rfl⟩) fw_ppre rfl rfl hl.1 rfl (lv_room (Nat.le_of_ble_eq_true rfl)) dX10_copy_6 ⟨Nat.zero_le _, Nat.zero_le _⟩) hG hK (fun r2  H locs h hG => ?_)
  refine lv_if_eq (tgt := 19) C.1 C.2.1 dX10_copy_9 (by decide) (fun c3 => ?_) (fun c3 => ?_)
  · have h := h.1 c3
    refine lv_iconst (v := (-1)) C.1 C.2.1 dX10_copy_19 (by decide) ?_
    exact fw_iret C hG h dX10_copy_20
  · have h := h.2 c3
    refine lv_iload_n C.1 C.2.1 dX10_copy_12 rfl (lv_at hl 3 rfl) ?_
    refine fw_pcalli (va_runS (As := [.int x3]) (rest := []) ⟨C.1, C.2.1, C.2.2.2.2.2.2, C.2.2.2.2.2.1, C.2.2.2.2.1⟩ (soX10_isSheet l x3 _ h H.size) (va_cwS 1 C.2.2.2.2.1 gX10_copy_X10_isSheet rfl rfl rfl (by decide +kernel) ⟨Nat.le_of_ble_eq_true rfl, Nat.le_of_ble_eq_true rfl⟩) fw_ppre rfl rfl hl.1 rfl (lv_room (Nat.le_of_ble_eq_true rfl)) dX10_copy_13 ⟨Nat.zero_le _, Nat.zero_le _⟩) hG hK (fun r4  H locs h hG => ?_)
    refine lv_if_ne (tgt := 21) C.1 C.2.1 dX10_copy_16 (by decide) (fun c5 => ?_) (fun c5 => ?_)
    · have h := h.1 c5
      refine lv_aload_n C.1 C.2.1 dX10_copy_21 rfl (lv_at hl 0 rfl) ?_
      refine fw_get (w := (mw G mh ad)) C in_X10 hK hG 0 mw_o rfl 2 (by decide) k9 rfl rfl dX10_copy_22 ?_
      refine lv_iload_n C.1 C.2.1 dX10_copy_25 rfl (lv_at hl 1 rfl) ?_
      obtain ⟨c6, h⟩ := h
      refine fw_iald (w := (mw G mh ad)) C hK hG 1 mw_a2 c6 dX10_copy_26 ?_
      refine lv_bipush (v := (-9)) C.1 C.2.1 dX10_copy_27 (by decide) ?_
      refine lv_icmp_eq (tgt := 43) C.1 C.2.1 dX10_copy_29 (by decide) (fun c7 => ?_) (fun c7 => ?_)
      · have h := h.1 c7
        refine lv_aload_n C.1 C.2.1 dX10_copy_43 rfl (lv_at hl 0 rfl) ?_
        refine lv_iconst (v := 1) C.1 C.2.1 dX10_copy_44 (by decide) ?_
        refine fw_calli (va_runV (As := [.int 1]) (rest := []) ⟨C.1, C.2.1, C.2.2.2.2.2.2, C.2.2.2.2.2.1, C.2.2.2.2.1⟩ (soX10_fails l G mh ad iv1 ar 1 _  h H.size) (cwV 1 C.2.2.2.2.1 gX10_copy_X10_fails rfl rfl rfl (by decide +kernel) ⟨Nat.le_of_ble_eq_true rfl, Nat.le_of_ble_eq_true rfl⟩) (fw_preV hG hK (ci := 10) rfl mw_o) rfl rfl hl.1 rfl (lv_room (Nat.le_of_ble_eq_true rfl)) dX10_copy_45 ⟨Nat.zero_le _, Nat.zero_le _⟩) hG hK (fun r8 iv9 ar10 H locs h hG => ?_)
        exact fw_iret C hG h dX10_copy_48
      · have h := h.2 c7
        refine lv_aload_n C.1 C.2.1 dX10_copy_32 rfl (lv_at hl 0 rfl) ?_
        refine fw_get (w := (mw G mh ad)) C in_X10 hK hG 0 mw_o rfl 2 (by decide) k9 rfl rfl dX10_copy_33 ?_
        refine lv_iload_n C.1 C.2.1 dX10_copy_36 rfl (lv_at hl 3 rfl) ?_
        obtain ⟨c11, h⟩ := h
        refine fw_iald (w := (mw G mh ad)) C hK hG 1 mw_a2 c11 dX10_copy_37 ?_
        refine lv_bipush (v := (-9)) C.1 C.2.1 dX10_copy_38 (by decide) ?_
        refine lv_icmp_ne (tgt := 49) C.1 C.2.1 dX10_copy_40 (by decide) (fun c12 => ?_) (fun c12 => ?_)
        · have h := h.1 c12
          refine lv_aload_n C.1 C.2.1 dX10_copy_49 rfl (lv_at hl 0 rfl) ?_
          refine fw_get (w := (mw G mh ad)) C in_X10 hK hG 0 mw_o rfl 2 (by decide) k9 rfl rfl dX10_copy_50 ?_
          refine lv_iload_n C.1 C.2.1 dX10_copy_53 rfl (lv_at hl 1 rfl) ?_
          obtain ⟨c13, h⟩ := h
          refine fw_iald (w := (mw G mh ad)) C hK hG 1 mw_a2 c13 dX10_copy_54 ?_
          refine lv_aload_n C.1 C.2.1 dX10_copy_55 rfl (lv_at hl 0 rfl) ?_
          refine fw_get (w := (mw G mh ad)) C in_X10 hK hG 0 mw_o rfl 2 (by decide) k9 rfl rfl dX10_copy_56 ?_
          refine lv_iload_n C.1 C.2.1 dX10_copy_59 rfl (lv_at hl 3 rfl) ?_
          obtain ⟨c14, h⟩ := h
          refine fw_iald (w := (mw G mh ad)) C hK hG 1 mw_a2 c14 dX10_copy_60 ?_
          refine lv_icmp_eq (tgt := 70) C.1 C.2.1 dX10_copy_61 (by decide) (fun c15 => ?_) (fun c15 => ?_)
          · have h := h.1 c15
            refine lv_iload_n C.1 C.2.1 dX10_copy_70 rfl (lv_at hl 2 rfl) ?_
            refine lv_if_lt (tgt := 109) C.1 C.2.1 dX10_copy_71 (by decide) (fun c16 => ?_) (fun c16 => ?_)
            · have h := h.1 c16
              refine lv_iconst (v := 0) C.1 C.2.1 dX10_copy_109 (by decide) ?_
              refine lv_istore (lv' := [(6, .int 0), (0, .ref mh), (1, .int x1), (2, .int x2), (3, .int x3), (4, .int x4), (5, .int x5)]) C.1 C.2.1 dX10_copy_110 hl (by decide) rfl (fun ls hl => ?_)
              refine lv_iload C.1 C.2.1 dX10_copy_112 (lv_at hl 0 rfl) ?_
              refine lv_if_eq (tgt := 144) C.1 C.2.1 dX10_copy_114 (by decide) (fun c17 => ?_) (fun c17 => ?_)
              · refine lv_aload_n C.1 C.2.1 dX10_copy_144 rfl (lv_at hl 1 rfl) ?_
                refine lv_iconst (v := 3) C.1 C.2.1 dX10_copy_145 (by decide) ?_
                refine fw_calli (va_runV (As := [.int 3]) (rest := []) ⟨C.1, C.2.1, C.2.2.2.2.2.2, C.2.2.2.2.2.1, C.2.2.2.2.1⟩ (soX10_fails l G mh ad iv1 ar 3 _  h H.size) (cwV 1 C.2.2.2.2.1 gX10_copy_X10_fails rfl rfl rfl (by decide +kernel) ⟨Nat.le_of_ble_eq_true rfl, Nat.le_of_ble_eq_true rfl⟩) (fw_preV hG hK (ci := 10) rfl mw_o) rfl rfl hl.1 rfl (lv_room (Nat.le_of_ble_eq_true rfl)) dX10_copy_146 ⟨Nat.zero_le _, Nat.zero_le _⟩) hG hK (fun r18 iv19 ar20 H locs h hG => ?_)
                exact fw_iret C hG h dX10_copy_149
              · exact absurd c17 (by decide)
            · have h := h.2 c16
              refine lv_iload C.1 C.2.1 dX10_copy_74 (lv_at hl 4 rfl) ?_
              refine lv_if_lt (tgt := 109) C.1 C.2.1 dX10_copy_76 (by decide) (fun c21 => ?_) (fun c21 => ?_)
              · have h := h.1 c21
                refine lv_iconst (v := 0) C.1 C.2.1 dX10_copy_109 (by decide) ?_
                refine lv_istore (lv' := [(6, .int 0), (0, .ref mh), (1, .int x1), (2, .int x2), (3, .int x3), (4, .int x4), (5, .int x5)]) C.1 C.2.1 dX10_copy_110 hl (by decide) rfl (fun ls hl => ?_)
                refine lv_iload C.1 C.2.1 dX10_copy_112 (lv_at hl 0 rfl) ?_
                refine lv_if_eq (tgt := 144) C.1 C.2.1 dX10_copy_114 (by decide) (fun c22 => ?_) (fun c22 => ?_)
                · refine lv_aload_n C.1 C.2.1 dX10_copy_144 rfl (lv_at hl 1 rfl) ?_
                  refine lv_iconst (v := 3) C.1 C.2.1 dX10_copy_145 (by decide) ?_
                  refine fw_calli (va_runV (As := [.int 3]) (rest := []) ⟨C.1, C.2.1, C.2.2.2.2.2.2, C.2.2.2.2.2.1, C.2.2.2.2.1⟩ (soX10_fails l G mh ad iv1 ar 3 _  h H.size) (cwV 1 C.2.2.2.2.1 gX10_copy_X10_fails rfl rfl rfl (by decide +kernel) ⟨Nat.le_of_ble_eq_true rfl, Nat.le_of_ble_eq_true rfl⟩) (fw_preV hG hK (ci := 10) rfl mw_o) rfl rfl hl.1 rfl (lv_room (Nat.le_of_ble_eq_true rfl)) dX10_copy_146 ⟨Nat.zero_le _, Nat.zero_le _⟩) hG hK (fun r23 iv24 ar25 H locs h hG => ?_)
                  exact fw_iret C hG h dX10_copy_149
                · exact absurd c22 (by decide)
              · have h := h.2 c21
                refine lv_iload C.1 C.2.1 dX10_copy_79 (lv_at hl 5 rfl) ?_
                refine lv_if_lt (tgt := 109) C.1 C.2.1 dX10_copy_81 (by decide) (fun c26 => ?_) (fun c26 => ?_)
                · have h := h.1 c26
                  refine lv_iconst (v := 0) C.1 C.2.1 dX10_copy_109 (by decide) ?_
                  refine lv_istore (lv' := [(6, .int 0), (0, .ref mh), (1, .int x1), (2, .int x2), (3, .int x3), (4, .int x4), (5, .int x5)]) C.1 C.2.1 dX10_copy_110 hl (by decide) rfl (fun ls hl => ?_)
                  refine lv_iload C.1 C.2.1 dX10_copy_112 (lv_at hl 0 rfl) ?_
                  refine lv_if_eq (tgt := 144) C.1 C.2.1 dX10_copy_114 (by decide) (fun c27 => ?_) (fun c27 => ?_)
                  · refine lv_aload_n C.1 C.2.1 dX10_copy_144 rfl (lv_at hl 1 rfl) ?_
                    refine lv_iconst (v := 3) C.1 C.2.1 dX10_copy_145 (by decide) ?_
                    refine fw_calli (va_runV (As := [.int 3]) (rest := []) ⟨C.1, C.2.1, C.2.2.2.2.2.2, C.2.2.2.2.2.1, C.2.2.2.2.1⟩ (soX10_fails l G mh ad iv1 ar 3 _  h H.size) (cwV 1 C.2.2.2.2.1 gX10_copy_X10_fails rfl rfl rfl (by decide +kernel) ⟨Nat.le_of_ble_eq_true rfl, Nat.le_of_ble_eq_true rfl⟩) (fw_preV hG hK (ci := 10) rfl mw_o) rfl rfl hl.1 rfl (lv_room (Nat.le_of_ble_eq_true rfl)) dX10_copy_146 ⟨Nat.zero_le _, Nat.zero_le _⟩) hG hK (fun r28 iv29 ar30 H locs h hG => ?_)
                    exact fw_iret C hG h dX10_copy_149
                  · exact absurd c27 (by decide)
                · have h := h.2 c26
                  refine lv_iload_n C.1 C.2.1 dX10_copy_84 rfl (lv_at hl 2 rfl) ?_
                  refine lv_aload_n C.1 C.2.1 dX10_copy_85 rfl (lv_at hl 0 rfl) ?_
                  refine fw_get (w := (mw G mh ad)) C in_X10 hK hG 0 mw_o rfl 3 (by decide) k13 rfl rfl dX10_copy_86 ?_
                  refine lv_iload_n C.1 C.2.1 dX10_copy_89 rfl (lv_at hl 1 rfl) ?_
                  obtain ⟨c31, h⟩ := h
                  refine fw_iald (w := (mw G mh ad)) C hK hG 2 mw_a3 c31 dX10_copy_90 ?_
                  refine lv_icmp_gt (tgt := 109) C.1 C.2.1 dX10_copy_91 (by decide) (fun c32 => ?_) (fun c32 => ?_)
                  · have h := h.1 c32
                    refine lv_iconst (v := 0) C.1 C.2.1 dX10_copy_109 (by decide) ?_
                    refine lv_istore (lv' := [(6, .int 0), (0, .ref mh), (1, .int x1), (2, .int x2), (3, .int x3), (4, .int x4), (5, .int x5)]) C.1 C.2.1 dX10_copy_110 hl (by decide) rfl (fun ls hl => ?_)
                    refine lv_iload C.1 C.2.1 dX10_copy_112 (lv_at hl 0 rfl) ?_
                    refine lv_if_eq (tgt := 144) C.1 C.2.1 dX10_copy_114 (by decide) (fun c33 => ?_) (fun c33 => ?_)
                    · refine lv_aload_n C.1 C.2.1 dX10_copy_144 rfl (lv_at hl 1 rfl) ?_
                      refine lv_iconst (v := 3) C.1 C.2.1 dX10_copy_145 (by decide) ?_
                      refine fw_calli (va_runV (As := [.int 3]) (rest := []) ⟨C.1, C.2.1, C.2.2.2.2.2.2, C.2.2.2.2.2.1, C.2.2.2.2.1⟩ (soX10_fails l G mh ad iv1 ar 3 _  h H.size) (cwV 1 C.2.2.2.2.1 gX10_copy_X10_fails rfl rfl rfl (by decide +kernel) ⟨Nat.le_of_ble_eq_true rfl, Nat.le_of_ble_eq_true rfl⟩) (fw_preV hG hK (ci := 10) rfl mw_o) rfl rfl hl.1 rfl (lv_room (Nat.le_of_ble_eq_true rfl)) dX10_copy_146 ⟨Nat.zero_le _, Nat.zero_le _⟩) hG hK (fun r34 iv35 ar36 H locs h hG => ?_)
                      exact fw_iret C hG h dX10_copy_149
                    · exact absurd c33 (by decide)
                  · have h := h.2 c32
                    refine lv_iload C.1 C.2.1 dX10_copy_94 (lv_at hl 4 rfl) ?_
                    refine lv_aload_n C.1 C.2.1 dX10_copy_96 rfl (lv_at hl 0 rfl) ?_
                    refine fw_get (w := (mw G mh ad)) C in_X10 hK hG 0 mw_o rfl 3 (by decide) k13 rfl rfl dX10_copy_97 ?_
                    refine lv_iload_n C.1 C.2.1 dX10_copy_100 rfl (lv_at hl 3 rfl) ?_
                    obtain ⟨c37, h⟩ := h
                    refine fw_iald (w := (mw G mh ad)) C hK hG 2 mw_a3 c37 dX10_copy_101 ?_
                    refine lv_icmp_gt (tgt := 109) C.1 C.2.1 dX10_copy_102 (by decide) (fun c38 => ?_) (fun c38 => ?_)
                    · have h := h.1 c38
                      refine lv_iconst (v := 0) C.1 C.2.1 dX10_copy_109 (by decide) ?_
                      refine lv_istore (lv' := [(6, .int 0), (0, .ref mh), (1, .int x1), (2, .int x2), (3, .int x3), (4, .int x4), (5, .int x5)]) C.1 C.2.1 dX10_copy_110 hl (by decide) rfl (fun ls hl => ?_)
                      refine lv_iload C.1 C.2.1 dX10_copy_112 (lv_at hl 0 rfl) ?_
                      refine lv_if_eq (tgt := 144) C.1 C.2.1 dX10_copy_114 (by decide) (fun c39 => ?_) (fun c39 => ?_)
                      · refine lv_aload_n C.1 C.2.1 dX10_copy_144 rfl (lv_at hl 1 rfl) ?_
                        refine lv_iconst (v := 3) C.1 C.2.1 dX10_copy_145 (by decide) ?_
                        refine fw_calli (va_runV (As := [.int 3]) (rest := []) ⟨C.1, C.2.1, C.2.2.2.2.2.2, C.2.2.2.2.2.1, C.2.2.2.2.1⟩ (soX10_fails l G mh ad iv1 ar 3 _  h H.size) (cwV 1 C.2.2.2.2.1 gX10_copy_X10_fails rfl rfl rfl (by decide +kernel) ⟨Nat.le_of_ble_eq_true rfl, Nat.le_of_ble_eq_true rfl⟩) (fw_preV hG hK (ci := 10) rfl mw_o) rfl rfl hl.1 rfl (lv_room (Nat.le_of_ble_eq_true rfl)) dX10_copy_146 ⟨Nat.zero_le _, Nat.zero_le _⟩) hG hK (fun r40 iv41 ar42 H locs h hG => ?_)
                        exact fw_iret C hG h dX10_copy_149
                      · exact absurd c39 (by decide)
                    · have h := h.2 c38
                      refine lv_iconst (v := 1) C.1 C.2.1 dX10_copy_105 (by decide) ?_
                      refine lv_goto (tgt := 110) C.1 C.2.1 dX10_copy_106 (by decide) ?_
                      refine lv_istore (lv' := [(6, .int 1), (0, .ref mh), (1, .int x1), (2, .int x2), (3, .int x3), (4, .int x4), (5, .int x5)]) C.1 C.2.1 dX10_copy_110 hl (by decide) rfl (fun ls hl => ?_)
                      refine lv_iload C.1 C.2.1 dX10_copy_112 (lv_at hl 0 rfl) ?_
                      refine lv_if_eq (tgt := 144) C.1 C.2.1 dX10_copy_114 (by decide) (fun c43 => ?_) (fun c43 => ?_)
                      · exact absurd c43 (by decide)
                      · refine lv_iload C.1 C.2.1 dX10_copy_117 (lv_at hl 6 rfl) ?_
                        refine lv_aload_n C.1 C.2.1 dX10_copy_119 rfl (lv_at hl 1 rfl) ?_
                        refine fw_get (w := (mw G mh ad)) C in_X10 hK hG 0 mw_o rfl 3 (by decide) k13 rfl rfl dX10_copy_120 ?_
                        refine lv_iload_n C.1 C.2.1 dX10_copy_123 rfl (lv_at hl 2 rfl) ?_
                        obtain ⟨c44, h⟩ := h
                        refine fw_iald (w := (mw G mh ad)) C hK hG 2 mw_a3 c44 dX10_copy_124 ?_
                        refine lv_iload_n C.1 C.2.1 dX10_copy_125 rfl (lv_at hl 3 rfl) ?_
                        refine lv_isub C.1 C.2.1 dX10_copy_126 ?_
                        refine lv_icmp_gt (tgt := 144) C.1 C.2.1 dX10_copy_127 (by decide) (fun c45 => ?_) (fun c45 => ?_)
                        · have h := h.1 c45
                          refine lv_aload_n C.1 C.2.1 dX10_copy_144 rfl (lv_at hl 1 rfl) ?_
                          refine lv_iconst (v := 3) C.1 C.2.1 dX10_copy_145 (by decide) ?_
                          refine fw_calli (va_runV (As := [.int 3]) (rest := []) ⟨C.1, C.2.1, C.2.2.2.2.2.2, C.2.2.2.2.2.1, C.2.2.2.2.1⟩ (soX10_fails l G mh ad iv1 ar 3 _  h H.size) (cwV 1 C.2.2.2.2.1 gX10_copy_X10_fails rfl rfl rfl (by decide +kernel) ⟨Nat.le_of_ble_eq_true rfl, Nat.le_of_ble_eq_true rfl⟩) (fw_preV hG hK (ci := 10) rfl mw_o) rfl rfl hl.1 rfl (lv_room (Nat.le_of_ble_eq_true rfl)) dX10_copy_146 ⟨Nat.zero_le _, Nat.zero_le _⟩) hG hK (fun r46 iv47 ar48 H locs h hG => ?_)
                          exact fw_iret C hG h dX10_copy_149
                        · have h := h.2 c45
                          refine lv_iload C.1 C.2.1 dX10_copy_130 (lv_at hl 6 rfl) ?_
                          refine lv_aload_n C.1 C.2.1 dX10_copy_132 rfl (lv_at hl 1 rfl) ?_
                          refine fw_get (w := (mw G mh ad)) C in_X10 hK hG 0 mw_o rfl 3 (by decide) k13 rfl rfl dX10_copy_133 ?_
                          refine lv_iload_n C.1 C.2.1 dX10_copy_136 rfl (lv_at hl 4 rfl) ?_
                          obtain ⟨c49, h⟩ := h
                          refine fw_iald (w := (mw G mh ad)) C hK hG 2 mw_a3 c49 dX10_copy_137 ?_
                          refine lv_iload C.1 C.2.1 dX10_copy_138 (lv_at hl 5 rfl) ?_
                          refine lv_isub C.1 C.2.1 dX10_copy_140 ?_
                          refine lv_icmp_le (tgt := 150) C.1 C.2.1 dX10_copy_141 (by decide) (fun c50 => ?_) (fun c50 => ?_)
                          · have h := h.1 c50
                            refine lv_iload_n C.1 C.2.1 dX10_copy_150 rfl (lv_at hl 3 rfl) ?_
                            refine lv_iload C.1 C.2.1 dX10_copy_151 (lv_at hl 5 rfl) ?_
                            refine lv_icmp_ge (tgt := 160) C.1 C.2.1 dX10_copy_153 (by decide) (fun c51 => ?_) (fun c51 => ?_)
                            · have h := h.1 c51
                              refine lv_iconst (v := 0) C.1 C.2.1 dX10_copy_160 (by decide) ?_
                              refine lv_istore (lv' := [(7, .int 0), (6, .int 1), (0, .ref mh), (1, .int x1), (2, .int x2), (3, .int x3), (4, .int x4), (5, .int x5)]) C.1 C.2.1 dX10_copy_161 hl (by decide) rfl (fun ls hl => ?_)
                              refine lv_iconst (v := 0) C.1 C.2.1 dX10_copy_163 (by decide) ?_
                              refine lv_istore (lv' := [(8, .int 0), (7, .int 0), (6, .int 1), (0, .ref mh), (1, .int x1), (2, .int x2), (3, .int x3), (4, .int x4), (5, .int x5)]) C.1 C.2.1 dX10_copy_164 hl (by decide) rfl (fun ls hl => ?_)
                              obtain ⟨ku, h⟩ := h
                              refine soX10_copy_L166 C hK  ?_ ku _ _ _ h _ _ hG ls (lv_sub hl [0, 1, 3, 4, 5, 6, 7, 8] rfl)
                              intro w58 iv59 ar60 h H locs hG ls hl
                              refine lv_iload C.1 C.2.1 dX10_copy_227 (lv_at hl 7 rfl) ?_
                              exact fw_iret C hG h dX10_copy_229
                            · have h := h.2 c51
                              refine lv_iconst (v := 1) C.1 C.2.1 dX10_copy_156 (by decide) ?_
                              refine lv_goto (tgt := 161) C.1 C.2.1 dX10_copy_157 (by decide) ?_
                              refine lv_istore (lv' := [(7, .int 1), (6, .int 1), (0, .ref mh), (1, .int x1), (2, .int x2), (3, .int x3), (4, .int x4), (5, .int x5)]) C.1 C.2.1 dX10_copy_161 hl (by decide) rfl (fun ls hl => ?_)
                              refine lv_iconst (v := 0) C.1 C.2.1 dX10_copy_163 (by decide) ?_
                              refine lv_istore (lv' := [(8, .int 0), (7, .int 1), (6, .int 1), (0, .ref mh), (1, .int x1), (2, .int x2), (3, .int x3), (4, .int x4), (5, .int x5)]) C.1 C.2.1 dX10_copy_164 hl (by decide) rfl (fun ls hl => ?_)
                              obtain ⟨ku, h⟩ := h
                              refine soX10_copy_L166_1 C hK  ?_ ku _ _ _ h _ _ hG ls (lv_sub hl [0, 1, 3, 4, 5, 6, 7, 8] rfl)
                              intro w68 iv69 ar70 h H locs hG ls hl
                              refine lv_iload C.1 C.2.1 dX10_copy_227 (lv_at hl 7 rfl) ?_
                              exact fw_iret C hG h dX10_copy_229
                          · have h := h.2 c50
                            refine lv_aload_n C.1 C.2.1 dX10_copy_144 rfl (lv_at hl 1 rfl) ?_
                            refine lv_iconst (v := 3) C.1 C.2.1 dX10_copy_145 (by decide) ?_
                            refine fw_calli (va_runV (As := [.int 3]) (rest := []) ⟨C.1, C.2.1, C.2.2.2.2.2.2, C.2.2.2.2.2.1, C.2.2.2.2.1⟩ (soX10_fails l G mh ad iv1 ar 3 _  h H.size) (cwV 1 C.2.2.2.2.1 gX10_copy_X10_fails rfl rfl rfl (by decide +kernel) ⟨Nat.le_of_ble_eq_true rfl, Nat.le_of_ble_eq_true rfl⟩) (fw_preV hG hK (ci := 10) rfl mw_o) rfl rfl hl.1 rfl (lv_room (Nat.le_of_ble_eq_true rfl)) dX10_copy_146 ⟨Nat.zero_le _, Nat.zero_le _⟩) hG hK (fun r71 iv72 ar73 H locs h hG => ?_)
                            exact fw_iret C hG h dX10_copy_149
          · have h := h.2 c15
            refine lv_aload_n C.1 C.2.1 dX10_copy_64 rfl (lv_at hl 0 rfl) ?_
            refine lv_iconst (v := 2) C.1 C.2.1 dX10_copy_65 (by decide) ?_
            refine fw_calli (va_runV (As := [.int 2]) (rest := []) ⟨C.1, C.2.1, C.2.2.2.2.2.2, C.2.2.2.2.2.1, C.2.2.2.2.1⟩ (soX10_fails l G mh ad iv1 ar 2 _  h H.size) (cwV 1 C.2.2.2.2.1 gX10_copy_X10_fails rfl rfl rfl (by decide +kernel) ⟨Nat.le_of_ble_eq_true rfl, Nat.le_of_ble_eq_true rfl⟩) (fw_preV hG hK (ci := 10) rfl mw_o) rfl rfl hl.1 rfl (lv_room (Nat.le_of_ble_eq_true rfl)) dX10_copy_66 ⟨Nat.zero_le _, Nat.zero_le _⟩) hG hK (fun r74 iv75 ar76 H locs h hG => ?_)
            exact fw_iret C hG h dX10_copy_69
        · have h := h.2 c12
          refine lv_aload_n C.1 C.2.1 dX10_copy_43 rfl (lv_at hl 0 rfl) ?_
          refine lv_iconst (v := 1) C.1 C.2.1 dX10_copy_44 (by decide) ?_
          refine fw_calli (va_runV (As := [.int 1]) (rest := []) ⟨C.1, C.2.1, C.2.2.2.2.2.2, C.2.2.2.2.2.1, C.2.2.2.2.1⟩ (soX10_fails l G mh ad iv1 ar 1 _  h H.size) (cwV 1 C.2.2.2.2.1 gX10_copy_X10_fails rfl rfl rfl (by decide +kernel) ⟨Nat.le_of_ble_eq_true rfl, Nat.le_of_ble_eq_true rfl⟩) (fw_preV hG hK (ci := 10) rfl mw_o) rfl rfl hl.1 rfl (lv_room (Nat.le_of_ble_eq_true rfl)) dX10_copy_45 ⟨Nat.zero_le _, Nat.zero_le _⟩) hG hK (fun r77 iv78 ar79 H locs h hG => ?_)
          exact fw_iret C hG h dX10_copy_48
    · have h := h.2 c5
      refine lv_iconst (v := (-1)) C.1 C.2.1 dX10_copy_19 (by decide) ?_
      exact fw_iret C hG h dX10_copy_20
/-! KnifeBoardModel.begins(I)V -/
def rmX10_begins : Room := { frames := 0, cells := 0, slots := 0, locals := 0 }
def wpX10_begins (iv : fw_F) (ar : fw_R) (x1 : Int32) (Q : fw_F → fw_R → Prop) : Prop := ∀ iv1 : fw_F, iv1 = va_up iv 1 ((31 * (iv 1)) + x1) → (Q iv1 ar)
set_option maxHeartbeats 4000000 in
set_option maxRecDepth 100000 in
theorem soX10_begins (l : Launch) (G : fw_G) (mh : Nat) (ad : Nat → Nat) (iv : fw_F) (ar : fw_R) (x1 : Int32) (Q : fw_F → fw_R → Prop)  (h : wpX10_begins iv ar x1 Q) : fw_M l G (mw G mh ad) yX10_begins wsX10_begins rmX10_begins [.ref mh, .int x1] iv ar (fw_Qv G (mw G mh ad) Q) := by
  refine fw_start (cc := cX10_begins) (nL := 2) (rt := none) (by decide) rfl (Nat.le_of_ble_eq_true rfl) ?_
  intro p e s m below meth c A ls H locs C hK hG hl
  obtain ⟨args, ea⟩ : ∃ z : Array Value, z = ([.ref mh, .int x1] : List Value).toArray := ⟨_, rfl⟩
  rw [← ea] at C ⊢
  have C : fw_C p s m args meth c cX10_begins 2 none wsX10_begins RX10 := C
  have hl : lv_has ls 2 [(0, .ref mh), (1, .int x1)] := hl
  unfold wpX10_begins at h
  have in_X10 : ∀ x ∈ wsX100, x ∈ wsX10_begins := by decide +kernel
  have k288 := C.2.2.2.2.1 (.fieldLink RX10 288 "KnifeBoardModel" "trace" "I") (by decide +kernel)
  refine lv_aload_n C.1 C.2.1 dX10_begins_0 rfl (lv_at hl 0 rfl) ?_
  refine lv_bipush (v := 31) C.1 C.2.1 dX10_begins_1 (by decide) ?_
  refine lv_aload_n C.1 C.2.1 dX10_begins_3 rfl (lv_at hl 0 rfl) ?_
  refine fw_get (w := (mw G mh ad)) C in_X10 hK hG 0 mw_o rfl 1 (by decide) k288 rfl rfl dX10_begins_4 ?_
  refine lv_imul C.1 C.2.1 dX10_begins_7 ?_
  refine lv_iload_n C.1 C.2.1 dX10_begins_8 rfl (lv_at hl 1 rfl) ?_
  refine lv_iadd C.1 C.2.1 dX10_begins_9 ?_
  obtain ⟨iv1, eiv1⟩ : ∃ z : fw_F, z = va_up iv 1 ((31 * (iv 1)) + x1) := ⟨_, rfl⟩
  have h := h iv1 eiv1
  refine fw_put (w := (mw G mh ad)) C in_X10 tyX10 tyX10_ok nmX10 hK hG 0 mw_o rfl 1 (by decide) k288 rfl rfl (ty := .int) (v := .int ((31 * (iv 1)) + x1)) (by decide +kernel) rfl rfl (by first | decide | exact Nat.le_of_ble_eq_true rfl) (iv1 := iv1) (by rw [eiv1]; exact mw_p1) dX10_begins_10 (fun H locs hG => ?_)
  exact fw_vret C hG h dX10_begins_13
/-! KnifeBoardModel.tell(I)I -/
def rmX10_tell : Room := { frames := 1, cells := 0, slots := 0, locals := 21 }
def wpX10_tell (iv : fw_F) (ar : fw_R) (x1 : Int32) (Q : Int32 → fw_F → fw_R → Prop) : Prop := wpX10_isKnife iv ar x1 (fun (r1 : Int32) => (¬ r1 = 0 → (vp_in x1 6 ∧ (∀ y4 : Int32, y4 = (ar 7) x1.toNatClampNeg → (vp_in x1 6 ∧ (∀ y6 : Int32, y6 = (ar 6) x1.toNatClampNeg → ((y6 = 1 → (wpX10_begins iv ar 2 (fun (iv8 : fw_F) (ar9 : fw_R) => wpX10_begins iv8 ar9 1 (fun (iv10 : fw_F) (ar11 : fw_R) => Q (y4 + 100) iv10 ar11)))) ∧ (y6 = 2 → (wpX10_begins iv ar 3 (fun (iv13 : fw_F) (ar14 : fw_R) => wpX10_begins iv13 ar14 2 (fun (iv15 : fw_F) (ar16 : fw_R) => wpX10_begins iv15 ar16 1 (fun (iv17 : fw_F) (ar18 : fw_R) => wpX10_begins iv17 ar18 1 (fun (iv19 : fw_F) (ar20 : fw_R) => Q ((2 * y4) + 100) iv19 ar20)))))) ∧ (¬ y6 = 1 → (¬ y6 = 2 → (wpX10_begins iv ar 1 (fun (iv21 : fw_F) (ar22 : fw_R) => Q y4 iv21 ar22)))))))))) ∧ (r1 = 0 → (Q (-1) iv ar)))
set_option maxHeartbeats 4000000 in
set_option maxRecDepth 100000 in
theorem soX10_tell (l : Launch) (G : fw_G) (mh : Nat) (ad : Nat → Nat) (iv : fw_F) (ar : fw_R) (x1 : Int32) (Q : Int32 → fw_F → fw_R → Prop)  (h : wpX10_tell iv ar x1 Q) : fw_M l G (mw G mh ad) yX10_tell wsX10_tell rmX10_tell [.ref mh, .int x1] iv ar (fw_Qi G (mw G mh ad) Q) := by
  refine fw_start (cc := cX10_tell) (nL := 3) (rt := (some .int)) (by decide) rfl (Nat.le_of_ble_eq_true rfl) ?_
  intro p e s m below meth c A ls H locs C hK hG hl
  obtain ⟨args, ea⟩ : ∃ z : Array Value, z = ([.ref mh, .int x1] : List Value).toArray := ⟨_, rfl⟩
  rw [← ea] at C ⊢
  have C : fw_C p s m args meth c cX10_tell 3 (some .int) wsX10_tell RX10 := C
  have hl : lv_has ls 3 [(0, .ref mh), (1, .int x1)] := hl
  unfold wpX10_tell at h
  have in_X10 : ∀ x ∈ wsX100, x ∈ wsX10_tell := by decide +kernel
  have k19 := C.2.2.2.2.1 (.fieldLink RX10 19 "KnifeBoardModel" "kind" "[I") (by decide +kernel)
  have k22 := C.2.2.2.2.1 (.fieldLink RX10 22 "KnifeBoardModel" "pace" "[I") (by decide +kernel)
  refine lv_aload_n C.1 C.2.1 dX10_tell_0 rfl (lv_at hl 0 rfl) ?_
  refine lv_iload_n C.1 C.2.1 dX10_tell_1 rfl (lv_at hl 1 rfl) ?_
  refine fw_rcalli (va_runV (As := [.int x1]) (rest := []) ⟨C.1, C.2.1, C.2.2.2.2.2.2, C.2.2.2.2.2.1, C.2.2.2.2.1⟩ (soX10_isKnife l G mh ad iv ar x1 _  h H.size) (cwV 1 C.2.2.2.2.1 gX10_tell_X10_isKnife rfl rfl rfl (by decide +kernel) ⟨Nat.le_of_ble_eq_true rfl, Nat.le_of_ble_eq_true rfl⟩) (fw_preV hG hK (ci := 10) rfl mw_o) rfl rfl hl.1 rfl (lv_room (Nat.le_of_ble_eq_true rfl)) dX10_tell_2 ⟨Nat.zero_le _, Nat.zero_le _⟩) hG hK (fun r1  H locs h hG => ?_)
  refine lv_if_ne (tgt := 10) C.1 C.2.1 dX10_tell_5 (by decide) (fun c2 => ?_) (fun c2 => ?_)
  · have h := h.1 c2
    refine lv_aload_n C.1 C.2.1 dX10_tell_10 rfl (lv_at hl 0 rfl) ?_
    refine fw_get (w := (mw G mh ad)) C in_X10 hK hG 0 mw_o rfl 7 (by decide) k22 rfl rfl dX10_tell_11 ?_
    refine lv_iload_n C.1 C.2.1 dX10_tell_14 rfl (lv_at hl 1 rfl) ?_
    obtain ⟨c3, h⟩ := h
    refine fw_iald (w := (mw G mh ad)) C hK hG 5 mw_a7 c3 dX10_tell_15 ?_
    refine lv_topi (fun y4 ey4 => ?_)
    have h := h y4 ey4
    refine lv_istore_n (lv' := [(2, .int y4), (0, .ref mh), (1, .int x1)]) C.1 C.2.1 dX10_tell_16 rfl hl (by decide) rfl (fun ls hl => ?_)
    refine lv_aload_n C.1 C.2.1 dX10_tell_17 rfl (lv_at hl 1 rfl) ?_
    refine fw_get (w := (mw G mh ad)) C in_X10 hK hG 0 mw_o rfl 6 (by decide) k19 rfl rfl dX10_tell_18 ?_
    refine lv_iload_n C.1 C.2.1 dX10_tell_21 rfl (lv_at hl 2 rfl) ?_
    obtain ⟨c5, h⟩ := h
    refine fw_iald (w := (mw G mh ad)) C hK hG 4 mw_a6 c5 dX10_tell_22 ?_
    refine lv_topi (fun y6 ey6 => ?_)
    have h := h y6 ey6
    by_cases c7 : y6 = 1
    · have h := h.1 c7
      refine W.eq (g2 := F0 m 23 ls (.int 1 :: [])) (by rw [c7]) ?_
      refine lv_lookup (off := 25) (tgt := 48) C.1 C.2.1 dX10_tell_23 (by decide) (by decide) (by decide) ?_
      refine lv_aload_n C.1 C.2.1 dX10_tell_48 rfl (lv_at hl 1 rfl) ?_
      refine lv_iconst (v := 2) C.1 C.2.1 dX10_tell_49 (by decide) ?_
      refine fw_callv (va_runV (As := [.int 2]) (rest := []) ⟨C.1, C.2.1, C.2.2.2.2.2.2, C.2.2.2.2.2.1, C.2.2.2.2.1⟩ (soX10_begins l G mh ad iv ar 2 _  h H.size) (cwV 1 C.2.2.2.2.1 gX10_tell_X10_begins rfl rfl rfl (by decide +kernel) ⟨Nat.le_of_ble_eq_true rfl, Nat.le_of_ble_eq_true rfl⟩) (fw_preV hG hK (ci := 10) rfl mw_o) rfl rfl hl.1 rfl (lv_room (Nat.le_of_ble_eq_true rfl)) dX10_tell_50 ⟨Nat.zero_le _, Nat.zero_le _⟩) hG hK (fun iv8 ar9 H locs h hG => ?_)
      refine lv_aload_n C.1 C.2.1 dX10_tell_53 rfl (lv_at hl 1 rfl) ?_
      refine lv_iconst (v := 1) C.1 C.2.1 dX10_tell_54 (by decide) ?_
      refine fw_callv (va_runV (As := [.int 1]) (rest := []) ⟨C.1, C.2.1, C.2.2.2.2.2.2, C.2.2.2.2.2.1, C.2.2.2.2.1⟩ (soX10_begins l G mh ad iv8 ar9 1 _  h H.size) (cwV 1 C.2.2.2.2.1 gX10_tell_X10_begins rfl rfl rfl (by decide +kernel) ⟨Nat.le_of_ble_eq_true rfl, Nat.le_of_ble_eq_true rfl⟩) (fw_preV hG hK (ci := 10) rfl mw_o) rfl rfl hl.1 rfl (lv_room (Nat.le_of_ble_eq_true rfl)) dX10_tell_55 ⟨Nat.zero_le _, Nat.zero_le _⟩) hG hK (fun iv10 ar11 H locs h hG => ?_)
      refine lv_iload_n C.1 C.2.1 dX10_tell_58 rfl (lv_at hl 0 rfl) ?_
      refine lv_bipush (v := 100) C.1 C.2.1 dX10_tell_59 (by decide) ?_
      refine lv_iadd C.1 C.2.1 dX10_tell_61 ?_
      exact fw_iret C hG h dX10_tell_62
    have h := h.2
    by_cases c12 : y6 = 2
    · have h := h.1 c12
      refine W.eq (g2 := F0 m 23 ls (.int 2 :: [])) (by rw [c12]) ?_
      refine lv_lookup (off := 40) (tgt := 63) C.1 C.2.1 dX10_tell_23 (by decide) (by decide) (by decide) ?_
      refine lv_aload_n C.1 C.2.1 dX10_tell_63 rfl (lv_at hl 1 rfl) ?_
      refine lv_iconst (v := 3) C.1 C.2.1 dX10_tell_64 (by decide) ?_
      refine fw_callv (va_runV (As := [.int 3]) (rest := []) ⟨C.1, C.2.1, C.2.2.2.2.2.2, C.2.2.2.2.2.1, C.2.2.2.2.1⟩ (soX10_begins l G mh ad iv ar 3 _  h H.size) (cwV 1 C.2.2.2.2.1 gX10_tell_X10_begins rfl rfl rfl (by decide +kernel) ⟨Nat.le_of_ble_eq_true rfl, Nat.le_of_ble_eq_true rfl⟩) (fw_preV hG hK (ci := 10) rfl mw_o) rfl rfl hl.1 rfl (lv_room (Nat.le_of_ble_eq_true rfl)) dX10_tell_65 ⟨Nat.zero_le _, Nat.zero_le _⟩) hG hK (fun iv13 ar14 H locs h hG => ?_)
      refine lv_aload_n C.1 C.2.1 dX10_tell_68 rfl (lv_at hl 1 rfl) ?_
      refine lv_iconst (v := 2) C.1 C.2.1 dX10_tell_69 (by decide) ?_
      refine fw_callv (va_runV (As := [.int 2]) (rest := []) ⟨C.1, C.2.1, C.2.2.2.2.2.2, C.2.2.2.2.2.1, C.2.2.2.2.1⟩ (soX10_begins l G mh ad iv13 ar14 2 _  h H.size) (cwV 1 C.2.2.2.2.1 gX10_tell_X10_begins rfl rfl rfl (by decide +kernel) ⟨Nat.le_of_ble_eq_true rfl, Nat.le_of_ble_eq_true rfl⟩) (fw_preV hG hK (ci := 10) rfl mw_o) rfl rfl hl.1 rfl (lv_room (Nat.le_of_ble_eq_true rfl)) dX10_tell_70 ⟨Nat.zero_le _, Nat.zero_le _⟩) hG hK (fun iv15 ar16 H locs h hG => ?_)
      refine lv_aload_n C.1 C.2.1 dX10_tell_73 rfl (lv_at hl 1 rfl) ?_
      refine lv_iconst (v := 1) C.1 C.2.1 dX10_tell_74 (by decide) ?_
      refine fw_callv (va_runV (As := [.int 1]) (rest := []) ⟨C.1, C.2.1, C.2.2.2.2.2.2, C.2.2.2.2.2.1, C.2.2.2.2.1⟩ (soX10_begins l G mh ad iv15 ar16 1 _  h H.size) (cwV 1 C.2.2.2.2.1 gX10_tell_X10_begins rfl rfl rfl (by decide +kernel) ⟨Nat.le_of_ble_eq_true rfl, Nat.le_of_ble_eq_true rfl⟩) (fw_preV hG hK (ci := 10) rfl mw_o) rfl rfl hl.1 rfl (lv_room (Nat.le_of_ble_eq_true rfl)) dX10_tell_75 ⟨Nat.zero_le _, Nat.zero_le _⟩) hG hK (fun iv17 ar18 H locs h hG => ?_)
      refine lv_aload_n C.1 C.2.1 dX10_tell_78 rfl (lv_at hl 1 rfl) ?_
      refine lv_iconst (v := 1) C.1 C.2.1 dX10_tell_79 (by decide) ?_
      refine fw_callv (va_runV (As := [.int 1]) (rest := []) ⟨C.1, C.2.1, C.2.2.2.2.2.2, C.2.2.2.2.2.1, C.2.2.2.2.1⟩ (soX10_begins l G mh ad iv17 ar18 1 _  h H.size) (cwV 1 C.2.2.2.2.1 gX10_tell_X10_begins rfl rfl rfl (by decide +kernel) ⟨Nat.le_of_ble_eq_true rfl, Nat.le_of_ble_eq_true rfl⟩) (fw_preV hG hK (ci := 10) rfl mw_o) rfl rfl hl.1 rfl (lv_room (Nat.le_of_ble_eq_true rfl)) dX10_tell_80 ⟨Nat.zero_le _, Nat.zero_le _⟩) hG hK (fun iv19 ar20 H locs h hG => ?_)
      refine lv_iconst (v := 2) C.1 C.2.1 dX10_tell_83 (by decide) ?_
      refine lv_iload_n C.1 C.2.1 dX10_tell_84 rfl (lv_at hl 0 rfl) ?_
      refine lv_imul C.1 C.2.1 dX10_tell_85 ?_
      refine lv_bipush (v := 100) C.1 C.2.1 dX10_tell_86 (by decide) ?_
      refine lv_iadd C.1 C.2.1 dX10_tell_88 ?_
      exact fw_iret C hG h dX10_tell_89
    have h := h.2
    have h := h c7
    have h := h c12
    have nc7 : y6.toInt ≠ 1 := fun z => c7 (Int32.toInt_inj.mp (z.trans (by decide)))
    have nc12 : y6.toInt ≠ 2 := fun z => c12 (Int32.toInt_inj.mp (z.trans (by decide)))
    refine lv_lookup (off := 67) (tgt := 90) C.1 C.2.1 dX10_tell_23 (by decide) (by simp [Op.lookupswitch.offset, nc7, Ne.symm nc7, nc12, Ne.symm nc12]) (by decide) ?_
    refine lv_aload_n C.1 C.2.1 dX10_tell_90 rfl (lv_at hl 1 rfl) ?_
    refine lv_iconst (v := 1) C.1 C.2.1 dX10_tell_91 (by decide) ?_
    refine fw_callv (va_runV (As := [.int 1]) (rest := []) ⟨C.1, C.2.1, C.2.2.2.2.2.2, C.2.2.2.2.2.1, C.2.2.2.2.1⟩ (soX10_begins l G mh ad iv ar 1 _  h H.size) (cwV 1 C.2.2.2.2.1 gX10_tell_X10_begins rfl rfl rfl (by decide +kernel) ⟨Nat.le_of_ble_eq_true rfl, Nat.le_of_ble_eq_true rfl⟩) (fw_preV hG hK (ci := 10) rfl mw_o) rfl rfl hl.1 rfl (lv_room (Nat.le_of_ble_eq_true rfl)) dX10_tell_92 ⟨Nat.zero_le _, Nat.zero_le _⟩) hG hK (fun iv21 ar22 H locs h hG => ?_)
    refine lv_iload_n C.1 C.2.1 dX10_tell_95 rfl (lv_at hl 0 rfl) ?_
    exact fw_iret C hG h dX10_tell_96
  · have h := h.2 c2
    refine lv_iconst (v := (-1)) C.1 C.2.1 dX10_tell_8 (by decide) ?_
    exact fw_iret C hG h dX10_tell_9
/-! KnifeBoardModel.whet(I)I -/
def rmX10_whet : Room := { frames := 1, cells := 0, slots := 0, locals := 21 }
def wpX10_whet (iv : fw_F) (ar : fw_R) (x1 : Int32) (Q : Int32 → fw_F → fw_R → Prop) : Prop := wpX10_isKnife iv ar x1 (fun (r1 : Int32) => (¬ r1 = 0 → (vp_in x1 6 ∧ ((¬ ((ar 6) x1.toNatClampNeg) = 2 → (wpX10_begins iv ar 4 (fun (iv5 : fw_F) (ar6 : fw_R) => vp_in x1 6 ∧ ((¬ ((ar6 6) x1.toNatClampNeg) = 2 → (Q x1 iv5 ar6)) ∧ (((ar6 6) x1.toNatClampNeg) = 2 → (Q 20 iv5 ar6)))))) ∧ (((ar 6) x1.toNatClampNeg) = 2 → (wpX10_begins iv ar 5 (fun (iv9 : fw_F) (ar10 : fw_R) => vp_in x1 6 ∧ ((¬ ((ar10 6) x1.toNatClampNeg) = 2 → (Q x1 iv9 ar10)) ∧ (((ar10 6) x1.toNatClampNeg) = 2 → (Q 20 iv9 ar10))))))))) ∧ (r1 = 0 → (Q (-1) iv ar)))
set_option maxHeartbeats 4000000 in
set_option maxRecDepth 100000 in
theorem soX10_whet (l : Launch) (G : fw_G) (mh : Nat) (ad : Nat → Nat) (iv : fw_F) (ar : fw_R) (x1 : Int32) (Q : Int32 → fw_F → fw_R → Prop)  (h : wpX10_whet iv ar x1 Q) : fw_M l G (mw G mh ad) yX10_whet wsX10_whet rmX10_whet [.ref mh, .int x1] iv ar (fw_Qi G (mw G mh ad) Q) := by
  refine fw_start (cc := cX10_whet) (nL := 2) (rt := (some .int)) (by decide) rfl (Nat.le_of_ble_eq_true rfl) ?_
  intro p e s m below meth c A ls H locs C hK hG hl
  obtain ⟨args, ea⟩ : ∃ z : Array Value, z = ([.ref mh, .int x1] : List Value).toArray := ⟨_, rfl⟩
  rw [← ea] at C ⊢
  have C : fw_C p s m args meth c cX10_whet 2 (some .int) wsX10_whet RX10 := C
  have hl : lv_has ls 2 [(0, .ref mh), (1, .int x1)] := hl
  unfold wpX10_whet at h
  have in_X10 : ∀ x ∈ wsX100, x ∈ wsX10_whet := by decide +kernel
  have k19 := C.2.2.2.2.1 (.fieldLink RX10 19 "KnifeBoardModel" "kind" "[I") (by decide +kernel)
  refine lv_aload_n C.1 C.2.1 dX10_whet_0 rfl (lv_at hl 0 rfl) ?_
  refine lv_iload_n C.1 C.2.1 dX10_whet_1 rfl (lv_at hl 1 rfl) ?_
  refine fw_rcalli (va_runV (As := [.int x1]) (rest := []) ⟨C.1, C.2.1, C.2.2.2.2.2.2, C.2.2.2.2.2.1, C.2.2.2.2.1⟩ (soX10_isKnife l G mh ad iv ar x1 _  h H.size) (cwV 1 C.2.2.2.2.1 gX10_whet_X10_isKnife rfl rfl rfl (by decide +kernel) ⟨Nat.le_of_ble_eq_true rfl, Nat.le_of_ble_eq_true rfl⟩) (fw_preV hG hK (ci := 10) rfl mw_o) rfl rfl hl.1 rfl (lv_room (Nat.le_of_ble_eq_true rfl)) dX10_whet_2 ⟨Nat.zero_le _, Nat.zero_le _⟩) hG hK (fun r1  H locs h hG => ?_)
  refine lv_if_ne (tgt := 10) C.1 C.2.1 dX10_whet_5 (by decide) (fun c2 => ?_) (fun c2 => ?_)
  · have h := h.1 c2
    refine lv_aload_n C.1 C.2.1 dX10_whet_10 rfl (lv_at hl 0 rfl) ?_
    refine lv_aload_n C.1 C.2.1 dX10_whet_11 rfl (lv_at hl 0 rfl) ?_
    refine fw_get (w := (mw G mh ad)) C in_X10 hK hG 0 mw_o rfl 6 (by decide) k19 rfl rfl dX10_whet_12 ?_
    refine lv_iload_n C.1 C.2.1 dX10_whet_15 rfl (lv_at hl 1 rfl) ?_
    obtain ⟨c3, h⟩ := h
    refine fw_iald (w := (mw G mh ad)) C hK hG 4 mw_a6 c3 dX10_whet_16 ?_
    refine lv_iconst (v := 2) C.1 C.2.1 dX10_whet_17 (by decide) ?_
    refine lv_icmp_ne (tgt := 25) C.1 C.2.1 dX10_whet_18 (by decide) (fun c4 => ?_) (fun c4 => ?_)
    · have h := h.1 c4
      refine lv_iconst (v := 4) C.1 C.2.1 dX10_whet_25 (by decide) ?_
      refine fw_callv (va_runV (As := [.int 4]) (rest := []) ⟨C.1, C.2.1, C.2.2.2.2.2.2, C.2.2.2.2.2.1, C.2.2.2.2.1⟩ (soX10_begins l G mh ad iv ar 4 _  h H.size) (cwV 1 C.2.2.2.2.1 gX10_whet_X10_begins rfl rfl rfl (by decide +kernel) ⟨Nat.le_of_ble_eq_true rfl, Nat.le_of_ble_eq_true rfl⟩) (fw_preV hG hK (ci := 10) rfl mw_o) rfl rfl hl.1 rfl (lv_room (Nat.le_of_ble_eq_true rfl)) dX10_whet_26 ⟨Nat.zero_le _, Nat.zero_le _⟩) hG hK (fun iv5 ar6 H locs h hG => ?_)
      refine lv_aload_n C.1 C.2.1 dX10_whet_29 rfl (lv_at hl 0 rfl) ?_
      refine fw_get (w := (mw G mh ad)) C in_X10 hK hG 0 mw_o rfl 6 (by decide) k19 rfl rfl dX10_whet_30 ?_
      refine lv_iload_n C.1 C.2.1 dX10_whet_33 rfl (lv_at hl 1 rfl) ?_
      obtain ⟨c7, h⟩ := h
      refine fw_iald (w := (mw G mh ad)) C hK hG 4 mw_a6 c7 dX10_whet_34 ?_
      refine lv_iconst (v := 2) C.1 C.2.1 dX10_whet_35 (by decide) ?_
      refine lv_icmp_ne (tgt := 44) C.1 C.2.1 dX10_whet_36 (by decide) (fun c8 => ?_) (fun c8 => ?_)
      · have h := h.1 c8
        refine lv_iload_n C.1 C.2.1 dX10_whet_44 rfl (lv_at hl 1 rfl) ?_
        exact fw_iret C hG h dX10_whet_45
      · have h := h.2 c8
        refine lv_bipush (v := 20) C.1 C.2.1 dX10_whet_39 (by decide) ?_
        refine lv_goto (tgt := 45) C.1 C.2.1 dX10_whet_41 (by decide) ?_
        exact fw_iret C hG h dX10_whet_45
    · have h := h.2 c4
      refine lv_iconst (v := 5) C.1 C.2.1 dX10_whet_21 (by decide) ?_
      refine lv_goto (tgt := 26) C.1 C.2.1 dX10_whet_22 (by decide) ?_
      refine fw_callv (va_runV (As := [.int 5]) (rest := []) ⟨C.1, C.2.1, C.2.2.2.2.2.2, C.2.2.2.2.2.1, C.2.2.2.2.1⟩ (soX10_begins l G mh ad iv ar 5 _  h H.size) (cwV 1 C.2.2.2.2.1 gX10_whet_X10_begins rfl rfl rfl (by decide +kernel) ⟨Nat.le_of_ble_eq_true rfl, Nat.le_of_ble_eq_true rfl⟩) (fw_preV hG hK (ci := 10) rfl mw_o) rfl rfl hl.1 rfl (lv_room (Nat.le_of_ble_eq_true rfl)) dX10_whet_26 ⟨Nat.zero_le _, Nat.zero_le _⟩) hG hK (fun iv9 ar10 H locs h hG => ?_)
      refine lv_aload_n C.1 C.2.1 dX10_whet_29 rfl (lv_at hl 0 rfl) ?_
      refine fw_get (w := (mw G mh ad)) C in_X10 hK hG 0 mw_o rfl 6 (by decide) k19 rfl rfl dX10_whet_30 ?_
      refine lv_iload_n C.1 C.2.1 dX10_whet_33 rfl (lv_at hl 1 rfl) ?_
      obtain ⟨c11, h⟩ := h
      refine fw_iald (w := (mw G mh ad)) C hK hG 4 mw_a6 c11 dX10_whet_34 ?_
      refine lv_iconst (v := 2) C.1 C.2.1 dX10_whet_35 (by decide) ?_
      refine lv_icmp_ne (tgt := 44) C.1 C.2.1 dX10_whet_36 (by decide) (fun c12 => ?_) (fun c12 => ?_)
      · have h := h.1 c12
        refine lv_iload_n C.1 C.2.1 dX10_whet_44 rfl (lv_at hl 1 rfl) ?_
        exact fw_iret C hG h dX10_whet_45
      · have h := h.2 c12
        refine lv_bipush (v := 20) C.1 C.2.1 dX10_whet_39 (by decide) ?_
        refine lv_goto (tgt := 45) C.1 C.2.1 dX10_whet_41 (by decide) ?_
        exact fw_iret C hG h dX10_whet_45
  · have h := h.2 c2
    refine lv_iconst (v := (-1)) C.1 C.2.1 dX10_whet_8 (by decide) ?_
    exact fw_iret C hG h dX10_whet_9
/-! KnifeBoardModel.as(II)I -/
def rmX10_as : Room := { frames := 1, cells := 0, slots := 0, locals := 22 }
def wpX10_as (iv : fw_F) (ar : fw_R) (x1 : Int32) (x2 : Int32) (Q : Int32 → fw_F → fw_R → Prop) : Prop := ∀ iv1 : fw_F, iv1 = va_up iv 0 0 → (wpX10_isKnife iv1 ar x1 (fun (r2 : Int32) => (¬ r2 = 0 → (wpX10_within x2 0 2 (fun (r4 : Int32) => (¬ r4 = 0 → (vp_in x1 6 ∧ ((((ar 6) x1.toNatClampNeg) < x2 → (wpX10_fails iv1 ar 2 (fun (r8 : Int32) (iv9 : fw_F) (ar10 : fw_R) => Q r8 iv9 ar10))) ∧ (¬ ((ar 6) x1.toNatClampNeg) < x2 → (Q 1 iv1 ar))))) ∧ (r4 = 0 → (Q (-2) iv1 ar))))) ∧ (r2 = 0 → (Q (-1) iv1 ar))))
set_option maxHeartbeats 4000000 in
set_option maxRecDepth 100000 in
theorem soX10_as (l : Launch) (G : fw_G) (mh : Nat) (ad : Nat → Nat) (iv : fw_F) (ar : fw_R) (x1 : Int32) (x2 : Int32) (Q : Int32 → fw_F → fw_R → Prop)  (h : wpX10_as iv ar x1 x2 Q) : fw_M l G (mw G mh ad) yX10_as wsX10_as rmX10_as [.ref mh, .int x1, .int x2] iv ar (fw_Qi G (mw G mh ad) Q) := by
  refine fw_start (cc := cX10_as) (nL := 3) (rt := (some .int)) (by decide) rfl (Nat.le_of_ble_eq_true rfl) ?_
  intro p e s m below meth c A ls H locs C hK hG hl
  obtain ⟨args, ea⟩ : ∃ z : Array Value, z = ([.ref mh, .int x1, .int x2] : List Value).toArray := ⟨_, rfl⟩
  rw [← ea] at C ⊢
  have C : fw_C p s m args meth c cX10_as 3 (some .int) wsX10_as RX10 := C
  have hl : lv_has ls 3 [(0, .ref mh), (1, .int x1), (2, .int x2)] := hl
  unfold wpX10_as at h
  have in_X10 : ∀ x ∈ wsX100, x ∈ wsX10_as := by decide +kernel
  have k19 := C.2.2.2.2.1 (.fieldLink RX10 19 "KnifeBoardModel" "kind" "[I") (by decide +kernel)
  have k71 := C.2.2.2.2.1 (.fieldLink RX10 71 "KnifeBoardModel" "fault" "I") (by decide +kernel)
  refine lv_aload_n C.1 C.2.1 dX10_as_0 rfl (lv_at hl 0 rfl) ?_
  refine lv_iconst (v := 0) C.1 C.2.1 dX10_as_1 (by decide) ?_
  obtain ⟨iv1, eiv1⟩ : ∃ z : fw_F, z = va_up iv 0 0 := ⟨_, rfl⟩
  have h := h iv1 eiv1
  refine fw_put (w := (mw G mh ad)) C in_X10 tyX10 tyX10_ok nmX10 hK hG 0 mw_o rfl 0 (by decide) k71 rfl rfl (ty := .int) (v := .int 0) (by decide +kernel) rfl rfl (by first | decide | exact Nat.le_of_ble_eq_true rfl) (iv1 := iv1) (by rw [eiv1]; exact mw_p0) dX10_as_2 (fun H locs hG => ?_)
  refine lv_aload_n C.1 C.2.1 dX10_as_5 rfl (lv_at hl 0 rfl) ?_
  refine lv_iload_n C.1 C.2.1 dX10_as_6 rfl (lv_at hl 1 rfl) ?_
  refine fw_rcalli (va_runV (As := [.int x1]) (rest := []) ⟨C.1, C.2.1, C.2.2.2.2.2.2, C.2.2.2.2.2.1, C.2.2.2.2.1⟩ (soX10_isKnife l G mh ad iv1 ar x1 _  h H.size) (cwV 1 C.2.2.2.2.1 gX10_as_X10_isKnife rfl rfl rfl (by decide +kernel) ⟨Nat.le_of_ble_eq_true rfl, Nat.le_of_ble_eq_true rfl⟩) (fw_preV hG hK (ci := 10) rfl mw_o) rfl rfl hl.1 rfl (lv_room (Nat.le_of_ble_eq_true rfl)) dX10_as_7 ⟨Nat.zero_le _, Nat.zero_le _⟩) hG hK (fun r2  H locs h hG => ?_)
  refine lv_if_ne (tgt := 15) C.1 C.2.1 dX10_as_10 (by decide) (fun c3 => ?_) (fun c3 => ?_)
  · have h := h.1 c3
    refine lv_iload_n C.1 C.2.1 dX10_as_15 rfl (lv_at hl 2 rfl) ?_
    refine lv_iconst (v := 0) C.1 C.2.1 dX10_as_16 (by decide) ?_
    refine lv_iconst (v := 2) C.1 C.2.1 dX10_as_17 (by decide) ?_
    refine fw_pcalli (va_runS (As := [.int x2, .int 0, .int 2]) (rest := []) ⟨C.1, C.2.1, C.2.2.2.2.2.2, C.2.2.2.2.2.1, C.2.2.2.2.1⟩ (soX10_within l x2 0 2 _ h H.size) (va_cwS 3 C.2.2.2.2.1 gX10_as_X10_within rfl rfl rfl (by decide +kernel) ⟨Nat.le_of_ble_eq_true rfl, Nat.le_of_ble_eq_true rfl⟩) fw_ppre rfl rfl hl.1 rfl (lv_room (Nat.le_of_ble_eq_true rfl)) dX10_as_18 ⟨Nat.zero_le _, Nat.zero_le _⟩) hG hK (fun r4  H locs h hG => ?_)
    refine lv_if_ne (tgt := 27) C.1 C.2.1 dX10_as_21 (by decide) (fun c5 => ?_) (fun c5 => ?_)
    · have h := h.1 c5
      refine lv_aload_n C.1 C.2.1 dX10_as_27 rfl (lv_at hl 0 rfl) ?_
      refine fw_get (w := (mw G mh ad)) C in_X10 hK hG 0 mw_o rfl 6 (by decide) k19 rfl rfl dX10_as_28 ?_
      refine lv_iload_n C.1 C.2.1 dX10_as_31 rfl (lv_at hl 1 rfl) ?_
      obtain ⟨c6, h⟩ := h
      refine fw_iald (w := (mw G mh ad)) C hK hG 4 mw_a6 c6 dX10_as_32 ?_
      refine lv_iload_n C.1 C.2.1 dX10_as_33 rfl (lv_at hl 2 rfl) ?_
      refine lv_icmp_lt (tgt := 41) C.1 C.2.1 dX10_as_34 (by decide) (fun c7 => ?_) (fun c7 => ?_)
      · have h := h.1 c7
        refine lv_aload_n C.1 C.2.1 dX10_as_41 rfl (lv_at hl 0 rfl) ?_
        refine lv_iconst (v := 2) C.1 C.2.1 dX10_as_42 (by decide) ?_
        refine fw_calli (va_runV (As := [.int 2]) (rest := []) ⟨C.1, C.2.1, C.2.2.2.2.2.2, C.2.2.2.2.2.1, C.2.2.2.2.1⟩ (soX10_fails l G mh ad iv1 ar 2 _  h H.size) (cwV 1 C.2.2.2.2.1 gX10_as_X10_fails rfl rfl rfl (by decide +kernel) ⟨Nat.le_of_ble_eq_true rfl, Nat.le_of_ble_eq_true rfl⟩) (fw_preV hG hK (ci := 10) rfl mw_o) rfl rfl hl.1 rfl (lv_room (Nat.le_of_ble_eq_true rfl)) dX10_as_43 ⟨Nat.zero_le _, Nat.zero_le _⟩) hG hK (fun r8 iv9 ar10 H locs h hG => ?_)
        exact fw_iret C hG h dX10_as_46
      · have h := h.2 c7
        refine lv_iconst (v := 1) C.1 C.2.1 dX10_as_37 (by decide) ?_
        refine lv_goto (tgt := 46) C.1 C.2.1 dX10_as_38 (by decide) ?_
        exact fw_iret C hG h dX10_as_46
    · have h := h.2 c5
      refine lv_bipush (v := (-2)) C.1 C.2.1 dX10_as_24 (by decide) ?_
      exact fw_iret C hG h dX10_as_26
  · have h := h.2 c3
    refine lv_iconst (v := (-1)) C.1 C.2.1 dX10_as_13 (by decide) ?_
    exact fw_iret C hG h dX10_as_14
/-! KnifeBoardModel.trace()I -/
def rmX10_trace : Room := { frames := 0, cells := 0, slots := 0, locals := 0 }
def wpX10_trace (iv : fw_F) (ar : fw_R)  (Q : Int32 → Prop) : Prop := Q (iv 1)
set_option maxHeartbeats 4000000 in
set_option maxRecDepth 100000 in
theorem soX10_trace (l : Launch) (G : fw_G) (mh : Nat) (ad : Nat → Nat) (iv : fw_F) (ar : fw_R)  (Q : Int32 → Prop)  (h : wpX10_trace iv ar  Q) : fw_M l G (mw G mh ad) yX10_trace wsX10_trace rmX10_trace [.ref mh] iv ar (fw_Qi G (mw G mh ad) (fun r iv1 ar1 => Q r ∧ iv = iv1 ∧ ar = ar1)) := by
  refine fw_start (cc := cX10_trace) (nL := 1) (rt := (some .int)) (by decide) rfl (Nat.le_of_ble_eq_true rfl) ?_
  intro p e s m below meth c A ls H locs C hK hG hl
  obtain ⟨args, ea⟩ : ∃ z : Array Value, z = ([.ref mh] : List Value).toArray := ⟨_, rfl⟩
  rw [← ea] at C ⊢
  have C : fw_C p s m args meth c cX10_trace 1 (some .int) wsX10_trace RX10 := C
  have hl : lv_has ls 1 [(0, .ref mh)] := hl
  unfold wpX10_trace at h
  have in_X10 : ∀ x ∈ wsX100, x ∈ wsX10_trace := by decide +kernel
  have k288 := C.2.2.2.2.1 (.fieldLink RX10 288 "KnifeBoardModel" "trace" "I") (by decide +kernel)
  refine lv_aload_n C.1 C.2.1 dX10_trace_0 rfl (lv_at hl 0 rfl) ?_
  refine fw_get (w := (mw G mh ad)) C in_X10 hK hG 0 mw_o rfl 1 (by decide) k288 rfl rfl dX10_trace_1 ?_
  exact fw_iret C hG ⟨h, rfl, rfl⟩ dX10_trace_4
/-! KnifeBoardModel.fault()I -/
def rmX10_fault : Room := { frames := 0, cells := 0, slots := 0, locals := 0 }
def wpX10_fault (iv : fw_F) (ar : fw_R)  (Q : Int32 → Prop) : Prop := Q (iv 0)
set_option maxHeartbeats 4000000 in
set_option maxRecDepth 100000 in
theorem soX10_fault (l : Launch) (G : fw_G) (mh : Nat) (ad : Nat → Nat) (iv : fw_F) (ar : fw_R)  (Q : Int32 → Prop)  (h : wpX10_fault iv ar  Q) : fw_M l G (mw G mh ad) yX10_fault wsX10_fault rmX10_fault [.ref mh] iv ar (fw_Qi G (mw G mh ad) (fun r iv1 ar1 => Q r ∧ iv = iv1 ∧ ar = ar1)) := by
  refine fw_start (cc := cX10_fault) (nL := 1) (rt := (some .int)) (by decide) rfl (Nat.le_of_ble_eq_true rfl) ?_
  intro p e s m below meth c A ls H locs C hK hG hl
  obtain ⟨args, ea⟩ : ∃ z : Array Value, z = ([.ref mh] : List Value).toArray := ⟨_, rfl⟩
  rw [← ea] at C ⊢
  have C : fw_C p s m args meth c cX10_fault 1 (some .int) wsX10_fault RX10 := C
  have hl : lv_has ls 1 [(0, .ref mh)] := hl
  unfold wpX10_fault at h
  have in_X10 : ∀ x ∈ wsX100, x ∈ wsX10_fault := by decide +kernel
  have k71 := C.2.2.2.2.1 (.fieldLink RX10 71 "KnifeBoardModel" "fault" "I") (by decide +kernel)
  refine lv_aload_n C.1 C.2.1 dX10_fault_0 rfl (lv_at hl 0 rfl) ?_
  refine fw_get (w := (mw G mh ad)) C in_X10 hK hG 0 mw_o rfl 0 (by decide) k71 rfl rfl dX10_fault_1 ?_
  exact fw_iret C hG ⟨h, rfl, rfl⟩ dX10_fault_4
/-! KnifeBoardModel.many(I)I -/
def rmX10_many : Room := { frames := 0, cells := 0, slots := 0, locals := 0 }
def wpX10_many (iv : fw_F) (ar : fw_R) (x1 : Int32) (Q : Int32 → Prop) : Prop := (x1 = 0 → (Q (iv 5))) ∧ (x1 = 1 → (Q ((iv 16) * (iv 17)))) ∧ (x1 = 2 → (Q (iv 16))) ∧ (x1 = 3 → (Q (iv 17))) ∧ (x1 = 4 → (Q (iv 28))) ∧ (x1 = 5 → (Q (iv 11))) ∧ (¬ x1 = 0 → (¬ x1 = 1 → (¬ x1 = 2 → (¬ x1 = 3 → (¬ x1 = 4 → (¬ x1 = 5 → (Q (-2))))))))
set_option maxHeartbeats 4000000 in
set_option maxRecDepth 100000 in
theorem soX10_many (l : Launch) (G : fw_G) (mh : Nat) (ad : Nat → Nat) (iv : fw_F) (ar : fw_R) (x1 : Int32) (Q : Int32 → Prop)  (h : wpX10_many iv ar x1 Q) : fw_M l G (mw G mh ad) yX10_many wsX10_many rmX10_many [.ref mh, .int x1] iv ar (fw_Qi G (mw G mh ad) (fun r iv1 ar1 => Q r ∧ iv = iv1 ∧ ar = ar1)) := by
  refine fw_start (cc := cX10_many) (nL := 2) (rt := (some .int)) (by decide) rfl (Nat.le_of_ble_eq_true rfl) ?_
  intro p e s m below meth c A ls H locs C hK hG hl
  obtain ⟨args, ea⟩ : ∃ z : Array Value, z = ([.ref mh, .int x1] : List Value).toArray := ⟨_, rfl⟩
  rw [← ea] at C ⊢
  have C : fw_C p s m args meth c cX10_many 2 (some .int) wsX10_many RX10 := C
  have hl : lv_has ls 2 [(0, .ref mh), (1, .int x1)] := hl
  unfold wpX10_many at h
  have in_X10 : ∀ x ∈ wsX100, x ∈ wsX10_many := by decide +kernel
  have k153 := C.2.2.2.2.1 (.fieldLink RX10 153 "KnifeBoardModel" "tires" "I") (by decide +kernel)
  have k182 := C.2.2.2.2.1 (.fieldLink RX10 182 "KnifeBoardModel" "high" "I") (by decide +kernel)
  have k185 := C.2.2.2.2.1 (.fieldLink RX10 185 "KnifeBoardModel" "wide" "I") (by decide +kernel)
  have k269 := C.2.2.2.2.1 (.fieldLink RX10 269 "KnifeBoardModel" "marks" "I") (by decide +kernel)
  have k85 := C.2.2.2.2.1 (.fieldLink RX10 85 "KnifeBoardModel" "knives" "I") (by decide +kernel)
  refine lv_iload_n C.1 C.2.1 dX10_many_0 rfl (lv_at hl 1 rfl) ?_
  by_cases c1 : x1 = 0
  · have h := h.1 c1
    refine W.eq (g2 := F0 m 1 ls (.int 0 :: [])) (by rw [c1]) ?_
    refine lv_tableIn (tgt := 40) C.1 C.2.1 dX10_many_1 (by decide) (by decide) rfl (by decide) ?_
    refine lv_aload_n C.1 C.2.1 dX10_many_40 rfl (lv_at hl 0 rfl) ?_
    refine fw_get (w := (mw G mh ad)) C in_X10 hK hG 0 mw_o rfl 5 (by decide) k85 rfl rfl dX10_many_41 ?_
    exact fw_iret C hG ⟨h, rfl, rfl⟩ dX10_many_44
  have h := h.2
  by_cases c2 : x1 = 1
  · have h := h.1 c2
    refine W.eq (g2 := F0 m 1 ls (.int 1 :: [])) (by rw [c2]) ?_
    refine lv_tableIn (tgt := 45) C.1 C.2.1 dX10_many_1 (by decide) (by decide) rfl (by decide) ?_
    refine lv_aload_n C.1 C.2.1 dX10_many_45 rfl (lv_at hl 0 rfl) ?_
    refine fw_get (w := (mw G mh ad)) C in_X10 hK hG 0 mw_o rfl 16 (by decide) k182 rfl rfl dX10_many_46 ?_
    refine lv_aload_n C.1 C.2.1 dX10_many_49 rfl (lv_at hl 0 rfl) ?_
    refine fw_get (w := (mw G mh ad)) C in_X10 hK hG 0 mw_o rfl 17 (by decide) k185 rfl rfl dX10_many_50 ?_
    refine lv_imul C.1 C.2.1 dX10_many_53 ?_
    exact fw_iret C hG ⟨h, rfl, rfl⟩ dX10_many_54
  have h := h.2
  by_cases c3 : x1 = 2
  · have h := h.1 c3
    refine W.eq (g2 := F0 m 1 ls (.int 2 :: [])) (by rw [c3]) ?_
    refine lv_tableIn (tgt := 55) C.1 C.2.1 dX10_many_1 (by decide) (by decide) rfl (by decide) ?_
    refine lv_aload_n C.1 C.2.1 dX10_many_55 rfl (lv_at hl 0 rfl) ?_
    refine fw_get (w := (mw G mh ad)) C in_X10 hK hG 0 mw_o rfl 16 (by decide) k182 rfl rfl dX10_many_56 ?_
    exact fw_iret C hG ⟨h, rfl, rfl⟩ dX10_many_59
  have h := h.2
  by_cases c4 : x1 = 3
  · have h := h.1 c4
    refine W.eq (g2 := F0 m 1 ls (.int 3 :: [])) (by rw [c4]) ?_
    refine lv_tableIn (tgt := 60) C.1 C.2.1 dX10_many_1 (by decide) (by decide) rfl (by decide) ?_
    refine lv_aload_n C.1 C.2.1 dX10_many_60 rfl (lv_at hl 0 rfl) ?_
    refine fw_get (w := (mw G mh ad)) C in_X10 hK hG 0 mw_o rfl 17 (by decide) k185 rfl rfl dX10_many_61 ?_
    exact fw_iret C hG ⟨h, rfl, rfl⟩ dX10_many_64
  have h := h.2
  by_cases c5 : x1 = 4
  · have h := h.1 c5
    refine W.eq (g2 := F0 m 1 ls (.int 4 :: [])) (by rw [c5]) ?_
    refine lv_tableIn (tgt := 65) C.1 C.2.1 dX10_many_1 (by decide) (by decide) rfl (by decide) ?_
    refine lv_aload_n C.1 C.2.1 dX10_many_65 rfl (lv_at hl 0 rfl) ?_
    refine fw_get (w := (mw G mh ad)) C in_X10 hK hG 0 mw_o rfl 28 (by decide) k269 rfl rfl dX10_many_66 ?_
    exact fw_iret C hG ⟨h, rfl, rfl⟩ dX10_many_69
  have h := h.2
  by_cases c6 : x1 = 5
  · have h := h.1 c6
    refine W.eq (g2 := F0 m 1 ls (.int 5 :: [])) (by rw [c6]) ?_
    refine lv_tableIn (tgt := 70) C.1 C.2.1 dX10_many_1 (by decide) (by decide) rfl (by decide) ?_
    refine lv_aload_n C.1 C.2.1 dX10_many_70 rfl (lv_at hl 0 rfl) ?_
    refine fw_get (w := (mw G mh ad)) C in_X10 hK hG 0 mw_o rfl 11 (by decide) k153 rfl rfl dX10_many_71 ?_
    exact fw_iret C hG ⟨h, rfl, rfl⟩ dX10_many_74
  have h := h.2
  have h := h c1
  have h := h c2
  have h := h c3
  have h := h c4
  have h := h c5
  have h := h c6
  have dn : x1.toInt < 0 ∨ 5 < x1.toInt := by
    have nc1 : x1.toInt ≠ 0 := fun z => c1 (Int32.toInt_inj.mp (z.trans (by decide)))
    have nc2 : x1.toInt ≠ 1 := fun z => c2 (Int32.toInt_inj.mp (z.trans (by decide)))
    have nc3 : x1.toInt ≠ 2 := fun z => c3 (Int32.toInt_inj.mp (z.trans (by decide)))
    have nc4 : x1.toInt ≠ 3 := fun z => c4 (Int32.toInt_inj.mp (z.trans (by decide)))
    have nc5 : x1.toInt ≠ 4 := fun z => c5 (Int32.toInt_inj.mp (z.trans (by decide)))
    have nc6 : x1.toInt ≠ 5 := fun z => c6 (Int32.toInt_inj.mp (z.trans (by decide)))
    omega
  refine lv_tableOut (tgt := 75) C.1 C.2.1 dX10_many_1 dn (by decide) ?_
  refine lv_bipush (v := (-2)) C.1 C.2.1 dX10_many_75 (by decide) ?_
  exact fw_iret C hG ⟨h, rfl, rfl⟩ dX10_many_77
