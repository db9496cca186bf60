/-! KnifeBoardModel.fails(I)I -/
def rmX10_fails : Room := { frames := 0, cells := 0, slots := 0, locals := 0 }
def wpX10_fails (iv : fw_F) (ar : fw_R) (x1 : Int32) (Q : Int32 → fw_F → fw_R → Prop) : Prop := ∀ iv1 : fw_F, iv1 = va_up iv 0 x1 → (Q ((-10) - x1) iv1 ar)
set_option maxHeartbeats 4000000 in
set_option maxRecDepth 100000 in
theorem soX10_fails (l : Launch) (G : fw_G) (mh : Nat) (ad : Nat → Nat) (iv : fw_F) (ar : fw_R) (x1 : Int32) (Q : Int32 → fw_F → fw_R → Prop)  (h : wpX10_fails iv ar x1 Q) : fw_M l G (mw G mh ad) yX10_fails wsX10_fails rmX10_fails [.ref mh, .int x1] iv ar (fw_Qi G (mw G mh ad) Q) := by
  refine fw_start (cc := cX10_fails) (nL := 2) (rt := (some .int)) (by decide) rfl (Nat.le_of_ble_eq_true rfl) ?_
  intro p e s m below meth c A ls H locs C hK hG hl
  obtain ⟨args, ea⟩ : ∃ z : Array Value, z = ([.ref mh, .int x1] : List Value).toArray := ⟨_, rfl⟩
  rw [← ea] at C ⊢
  have C : fw_C p s m args meth c cX10_fails 2 (some .int) wsX10_fails RX10 := C
  have hl : lv_has ls 2 [(0, .ref mh), (1, .int x1)] := hl
  unfold wpX10_fails at h
  have in_X10 : ∀ x ∈ wsX100, x ∈ wsX10_fails := by decide +kernel
  have k71 := C.2.2.2.2.1 (.fieldLink RX10 71 "KnifeBoardModel" "fault" "I") (by decide +kernel)
  refine lv_aload_n C.1 C.2.1 dX10_fails_0 rfl (lv_at hl 0 rfl) ?_
  refine lv_iload_n C.1 C.2.1 dX10_fails_1 rfl (lv_at hl 1 rfl) ?_
  obtain ⟨iv1, eiv1⟩ : ∃ z : fw_F, z = va_up iv 0 x1 := ⟨_, rfl⟩
  have h := h iv1 eiv1
  refine fw_put (w := (mw G mh ad)) C in_X10 tyX10 tyX10_ok nmX10 hK hG 0 mw_o rfl 0 (by decide) k71 rfl rfl (ty := .int) (v := .int x1) (by decide +kernel) rfl rfl (by first | decide | exact Nat.le_of_ble_eq_true rfl) (iv1 := iv1) (by rw [eiv1]; exact mw_p0) dX10_fails_2 (fun H locs hG => ?_)
  refine lv_bipush (v := (-10)) C.1 C.2.1 dX10_fails_5 (by decide) ?_
  refine lv_iload_n C.1 C.2.1 dX10_fails_7 rfl (lv_at hl 1 rfl) ?_
  refine lv_isub C.1 C.2.1 dX10_fails_8 ?_
  exact fw_iret C hG h dX10_fails_9
/-! KnifeBoardModel.lost(I)J -/
def rmX10_lost : Room := { frames := 0, cells := 0, slots := 0, locals := 0 }
def wpX10_lost (iv : fw_F) (ar : fw_R) (x1 : Int32) (Q : Int64 → fw_F → fw_R → Prop) : Prop := ∀ iv1 : fw_F, iv1 = va_up iv 0 x1 → (Q (-9223372036854775808) iv1 ar)
set_option maxHeartbeats 4000000 in
set_option maxRecDepth 100000 in
theorem soX10_lost (l : Launch) (G : fw_G) (mh : Nat) (ad : Nat → Nat) (iv : fw_F) (ar : fw_R) (x1 : Int32) (Q : Int64 → fw_F → fw_R → Prop)  (h : wpX10_lost iv ar x1 Q) : fw_M l G (mw G mh ad) yX10_lost wsX10_lost rmX10_lost [.ref mh, .int x1] iv ar (fw_Ql G (mw G mh ad) Q) := by
  refine fw_start (cc := cX10_lost) (nL := 2) (rt := (some .long)) (by decide) rfl (Nat.le_of_ble_eq_true rfl) ?_
  intro p e s m below meth c A ls H locs C hK hG hl
  obtain ⟨args, ea⟩ : ∃ z : Array Value, z = ([.ref mh, .int x1] : List Value).toArray := ⟨_, rfl⟩
  rw [← ea] at C ⊢
  have C : fw_C p s m args meth c cX10_lost 2 (some .long) wsX10_lost RX10 := C
  have hl : lv_has ls 2 [(0, .ref mh), (1, .int x1)] := hl
  unfold wpX10_lost at h
  have in_X10 : ∀ x ∈ wsX100, x ∈ wsX10_lost := by decide +kernel
  have k71 := C.2.2.2.2.1 (.fieldLink RX10 71 "KnifeBoardModel" "fault" "I") (by decide +kernel)
  have k75 := C.2.2.2.2.1 (.constantLong RX10 75 (-9223372036854775808)) (by decide +kernel)
  refine lv_aload_n C.1 C.2.1 dX10_lost_0 rfl (lv_at hl 0 rfl) ?_
  refine lv_iload_n C.1 C.2.1 dX10_lost_1 rfl (lv_at hl 1 rfl) ?_
  obtain ⟨iv1, eiv1⟩ : ∃ z : fw_F, z = va_up iv 0 x1 := ⟨_, rfl⟩
  have h := h iv1 eiv1
  refine fw_put (w := (mw G mh ad)) C in_X10 tyX10 tyX10_ok nmX10 hK hG 0 mw_o rfl 0 (by decide) k71 rfl rfl (ty := .int) (v := .int x1) (by decide +kernel) rfl rfl (by first | decide | exact Nat.le_of_ble_eq_true rfl) (iv1 := iv1) (by rw [eiv1]; exact mw_p0) dX10_lost_2 (fun H locs hG => ?_)
  refine lv_ldc2 C.1 C.2.1 C.2.2.2.2.2.1 k75 dX10_lost_5 ?_
  exact fw_lret C hG h dX10_lost_8
/-! KnifeBoardModel.within(III)Z -/
def rmX10_within : Room := { frames := 0, cells := 0, slots := 0, locals := 0 }
def wpX10_within (x0 : Int32) (x1 : Int32) (x2 : Int32) (Q : Int32 → Prop) : Prop := (x0 < x1 → (Q 0)) ∧ (¬ x0 < x1 → ((x2 < x0 → (Q 0)) ∧ (¬ x2 < x0 → (Q 1))))
set_option maxHeartbeats 4000000 in
set_option maxRecDepth 100000 in
theorem soX10_within (l : Launch) (x0 : Int32) (x1 : Int32) (x2 : Int32) (Q : Int32 → Prop) (h : wpX10_within x0 x1 x2 Q) : fw_pM l yX10_within wsX10_within rmX10_within [.int x0, .int x1, .int x2] (fw_pQi Q) := by
  refine fw_pstart (cc := cX10_within) (nL := 3) (rt := (some .boolean)) (by decide) rfl (Nat.le_of_ble_eq_true rfl) ?_
  intro p e s m below meth c A ls H locs C hA hS hl
  obtain ⟨args, ea⟩ : ∃ z : Array Value, z = ([.int x0, .int x1, .int x2] : List Value).toArray := ⟨_, rfl⟩
  rw [← ea] at C ⊢
  have C : fw_C p s m args meth c cX10_within 3 (some .boolean) wsX10_within RX10 := C
  have hl : lv_has ls 3 [(0, .int x0), (1, .int x1), (2, .int x2)] := hl
  unfold wpX10_within at h
  refine lv_iload_n C.1 C.2.1 dX10_within_0 rfl (lv_at hl 0 rfl) ?_
  refine lv_iload_n C.1 C.2.1 dX10_within_1 rfl (lv_at hl 1 rfl) ?_
  refine lv_icmp_lt (tgt := 14) C.1 C.2.1 dX10_within_2 (by decide) (fun c1 => ?_) (fun c1 => ?_)
  · have h := h.1 c1
    refine lv_iconst (v := 0) C.1 C.2.1 dX10_within_14 (by decide) ?_
    exact fw_pzret C hS (by decide) h dX10_within_15
  · have h := h.2 c1
    refine lv_iload_n C.1 C.2.1 dX10_within_5 rfl (lv_at hl 0 rfl) ?_
    refine lv_iload_n C.1 C.2.1 dX10_within_6 rfl (lv_at hl 2 rfl) ?_
    refine lv_icmp_gt (tgt := 14) C.1 C.2.1 dX10_within_7 (by decide) (fun c2 => ?_) (fun c2 => ?_)
    · have h := h.1 c2
      refine lv_iconst (v := 0) C.1 C.2.1 dX10_within_14 (by decide) ?_
      exact fw_pzret C hS (by decide) h dX10_within_15
    · have h := h.2 c2
      refine lv_iconst (v := 1) C.1 C.2.1 dX10_within_10 (by decide) ?_
      refine lv_goto (tgt := 15) C.1 C.2.1 dX10_within_11 (by decide) ?_
      exact fw_pzret C hS (by decide) h dX10_within_15
/-! KnifeBoardModel.common(JJ)J -/
def rmX10_common : Room := { frames := 0, cells := 0, slots := 0, locals := 0 }
def wpX10_common_L17 (x0 : Int64) (x2 : Int64) (Q : Int64 → Prop) (K : Int64 → Int64 → Prop) : Nat → Int64 → Int64 → Prop
  | 0, _, _ => False
  | fu + 1, z4, z6 => ((lg_cmp z6 0) = 0 → (K z4 z6)) ∧ (¬ (lg_cmp z6 0) = 0 → (¬ z6 = 0 ∧ (∀ y4 : Int64, y4 = z4 - z4 / z6 * z6 → (wpX10_common_L17 x0 x2 Q K fu z6 y4))))
def wpX10_common (x0 : Int64) (x2 : Int64) (Q : Int64 → Prop) : Prop := (0 ≤ (lg_cmp x0 0) → (∃ ku : Nat, wpX10_common_L17 x0 x2 Q (fun (w5 : Int64) (w6 : Int64) => Q w5) ku x0 x2)) ∧ (¬ 0 ≤ (lg_cmp x0 0) → (∀ y7 : Int64, y7 = -x0 → (∃ ku : Nat, wpX10_common_L17 x0 x2 Q (fun (w8 : Int64) (w9 : Int64) => Q w8) ku y7 x2)))
set_option maxHeartbeats 4000000 in
set_option maxRecDepth 100000 in
theorem soX10_common_L17 {p : Program} {l : Launch} {e : Env} {s : State} {m : MethodId} {args : Array Value} {below : List Frame} {meth : Method} {c : Code} {A : Nat → Prop} {x0 : Int64} {x2 : Int64} {Q : Int64 → Prop} {K : Int64 → Int64 → Prop} (C : fw_C p s m args meth c cX10_common 10 (some .long) wsX10_common RX10) (hA : ∀ q : Nat, s.heap.size ≤ q → A q)  (hX : ∀ (z4 : Int64) (z6 : Int64), K z4 z6 → ∀ (H : Heap) (locs : List Loc), va_S A s.heap H locs → ∀ (ls : Array Slot), lv_has ls 10 [(6, .long z6), (4, .long z4)] → W p l e rmX10_common s m args below meth c H locs 0 0 (MQ below (fw_pQl Q A) args s 0 0 A) (F0 m 42 ls [])) : ∀ (fu : Nat) (z4 : Int64) (z6 : Int64), wpX10_common_L17 x0 x2 Q K fu z4 z6 → ∀ (H : Heap) (locs : List Loc), va_S A s.heap H locs → ∀ (ls : Array Slot), lv_has ls 10 [(6, .long z6), (4, .long z4)] → W p l e rmX10_common s m args below meth c H locs 0 0 (MQ below (fw_pQl Q A) args s 0 0 A) (F0 m 17 ls []) := by
  intro fu
  induction fu with
  | zero => intro z4 z6 h; exact h.elim
  | succ fu ih =>
    intro z4 z6 h H locs hS ls hl
    unfold wpX10_common_L17 at h
    refine lv_lload C.1 C.2.1 dX10_common_17 (lv_at hl 0 rfl) ?_
    refine lv_lconst (v := 0) C.1 C.2.1 dX10_common_19 (by decide) ?_
    refine W.lcmp C.1 C.2.1 dX10_common_20 ?_
    refine lv_if_eq (tgt := 42) C.1 C.2.1 dX10_common_21 (by decide) (fun c2 => ?_) (fun c2 => ?_)
    · have h := h.1 c2
      exact hX _ _ h _ _ hS ls (lv_sub hl [0, 1] rfl)
    · have h := h.2 c2
      refine lv_lload C.1 C.2.1 dX10_common_24 (lv_at hl 1 rfl) ?_
      refine lv_lload C.1 C.2.1 dX10_common_26 (lv_at hl 0 rfl) ?_
      obtain ⟨c3, h⟩ := h
      refine lv_lrem C.1 C.2.1 dX10_common_28 c3 ?_
      refine lv_topl (fun y4 ey4 => ?_)
      have h := h y4 ey4
      refine lv_lstore (lv' := [(8, .long y4), (6, .long z6), (4, .long z4)]) C.1 C.2.1 dX10_common_29 hl (by decide) rfl (fun ls hl => ?_)
      refine lv_lload C.1 C.2.1 dX10_common_31 (lv_at hl 1 rfl) ?_
      refine lv_lstore (lv' := [(4, .long z6), (8, .long y4), (6, .long z6)]) C.1 C.2.1 dX10_common_33 hl (by decide) rfl (fun ls hl => ?_)
      refine lv_lload C.1 C.2.1 dX10_common_35 (lv_at hl 1 rfl) ?_
      refine lv_lstore (lv' := [(6, .long y4), (4, .long z6), (8, .long y4)]) C.1 C.2.1 dX10_common_37 hl (by decide) rfl (fun ls hl => ?_)
      refine lv_goto (tgt := 17) C.1 C.2.1 dX10_common_39 (by decide) ?_
      exact ih _ _ h _ _ hS ls (lv_sub hl [0, 1] rfl)

set_option maxHeartbeats 4000000 in
set_option maxRecDepth 100000 in
theorem soX10_common (l : Launch) (x0 : Int64) (x2 : Int64) (Q : Int64 → Prop) (h : wpX10_common x0 x2 Q) : fw_pM l yX10_common wsX10_common rmX10_common [.long x0, .long x2] (fw_pQl Q) := by
  refine fw_pstart (cc := cX10_common) (nL := 10) (rt := (some .long)) (by decide) rfl (Nat.le_of_ble_eq_true rfl) ?_
  intro p e s m below meth c A ls H locs C hA hS hl
  obtain ⟨args, ea⟩ : ∃ z : Array Value, z = ([.long x0, .long x2] : List Value).toArray := ⟨_, rfl⟩
  rw [← ea] at C ⊢
  have C : fw_C p s m args meth c cX10_common 10 (some .long) wsX10_common RX10 := C
  have hl : lv_has ls 10 [(0, .long x0), (2, .long x2)] := hl
  unfold wpX10_common at h
  refine lv_lload_n C.1 C.2.1 dX10_common_0 rfl (lv_at hl 0 rfl) ?_
  refine lv_lconst (v := 0) C.1 C.2.1 dX10_common_1 (by decide) ?_
  refine W.lcmp C.1 C.2.1 dX10_common_2 ?_
  refine lv_if_ge (tgt := 11) C.1 C.2.1 dX10_common_3 (by decide) (fun c1 => ?_) (fun c1 => ?_)
  · have h := h.1 c1
    refine lv_lload_n C.1 C.2.1 dX10_common_11 rfl (lv_at hl 0 rfl) ?_
    refine lv_lstore (lv' := [(4, .long x0), (0, .long x0), (2, .long x2)]) C.1 C.2.1 dX10_common_12 hl (by decide) rfl (fun ls hl => ?_)
    refine lv_lload_n C.1 C.2.1 dX10_common_14 rfl (lv_at hl 2 rfl) ?_
    refine lv_lstore (lv' := [(6, .long x2), (4, .long x0), (0, .long x0), (2, .long x2)]) C.1 C.2.1 dX10_common_15 hl (by decide) rfl (fun ls hl => ?_)
    obtain ⟨ku, h⟩ := h
    refine soX10_common_L17 C hA  ?_ ku _ _ h _ _ hS ls (lv_sub hl [0, 1] rfl)
    intro w5 w6 h H locs hS ls hl
    refine lv_lload C.1 C.2.1 dX10_common_42 (lv_at hl 1 rfl) ?_
    exact fw_plret C hS h dX10_common_44
  · have h := h.2 c1
    refine lv_lload_n C.1 C.2.1 dX10_common_6 rfl (lv_at hl 0 rfl) ?_
    refine lv_lneg C.1 C.2.1 dX10_common_7 ?_
    refine lv_goto (tgt := 12) C.1 C.2.1 dX10_common_8 (by decide) ?_
    refine lv_topl (fun y7 ey7 => ?_)
    have h := h y7 ey7
    refine lv_lstore (lv' := [(4, .long y7), (0, .long x0), (2, .long x2)]) C.1 C.2.1 dX10_common_12 hl (by decide) rfl (fun ls hl => ?_)
    refine lv_lload_n C.1 C.2.1 dX10_common_14 rfl (lv_at hl 2 rfl) ?_
    refine lv_lstore (lv' := [(6, .long x2), (4, .long y7), (0, .long x0), (2, .long x2)]) C.1 C.2.1 dX10_common_15 hl (by decide) rfl (fun ls hl => ?_)
    obtain ⟨ku, h⟩ := h
    refine soX10_common_L17 C hA  ?_ ku _ _ h _ _ hS ls (lv_sub hl [0, 1] rfl)
    intro w8 w9 h H locs hS ls hl
    refine lv_lload C.1 C.2.1 dX10_common_42 (lv_at hl 1 rfl) ?_
    exact fw_plret C hS h dX10_common_44
/-! KnifeBoardModel.share(JJI)J -/
def rmX10_share : Room := { frames := 1, cells := 0, slots := 0, locals := 29 }
def wpX10_share (x0 : Int64) (x2 : Int64) (x4 : Int32) (Q : Int64 → Prop) : Prop := wpX10_common x0 x2 (fun (r1 : Int64) => (¬ x4 = 0 → (¬ r1 = 0 ∧ (Q (x2 / r1)))) ∧ (x4 = 0 → (¬ r1 = 0 ∧ (Q (x0 / r1)))))
set_option maxHeartbeats 4000000 in
set_option maxRecDepth 100000 in
theorem soX10_share (l : Launch) (x0 : Int64) (x2 : Int64) (x4 : Int32) (Q : Int64 → Prop) (h : wpX10_share x0 x2 x4 Q) : fw_pM l yX10_share wsX10_share rmX10_share [.long x0, .long x2, .int x4] (fw_pQl Q) := by
  refine fw_pstart (cc := cX10_share) (nL := 7) (rt := (some .long)) (by decide) rfl (Nat.le_of_ble_eq_true rfl) ?_
  intro p e s m below meth c A ls H locs C hA hS hl
  obtain ⟨args, ea⟩ : ∃ z : Array Value, z = ([.long x0, .long x2, .int x4] : List Value).toArray := ⟨_, rfl⟩
  rw [← ea] at C ⊢
  have C : fw_C p s m args meth c cX10_share 7 (some .long) wsX10_share RX10 := C
  have hl : lv_has ls 7 [(0, .long x0), (2, .long x2), (4, .int x4)] := hl
  unfold wpX10_share at h
  refine lv_lload_n C.1 C.2.1 dX10_share_0 rfl (lv_at hl 0 rfl) ?_
  refine lv_lload_n C.1 C.2.1 dX10_share_1 rfl (lv_at hl 1 rfl) ?_
  refine fw_ppcalll (va_runS (As := [.long x0, .long x2]) (rest := []) ⟨C.1, C.2.1, C.2.2.2.2.2.2, C.2.2.2.2.2.1, C.2.2.2.2.1⟩ (soX10_common l x0 x2 _ h H.size) (va_cwS 2 C.2.2.2.2.1 gX10_share_X10_common rfl rfl rfl (by decide +kernel) ⟨Nat.le_of_ble_eq_true rfl, Nat.le_of_ble_eq_true rfl⟩) fw_ppre rfl rfl hl.1 rfl (lv_room (Nat.le_of_ble_eq_true rfl)) dX10_share_2 ⟨Nat.zero_le _, Nat.zero_le _⟩) hS hA (fun r1  H locs h hS => ?_)
  refine lv_lstore (lv' := [(5, .long r1), (0, .long x0), (2, .long x2), (4, .int x4)]) C.1 C.2.1 dX10_share_5 hl (by decide) rfl (fun ls hl => ?_)
  refine lv_iload C.1 C.2.1 dX10_share_7 (lv_at hl 3 rfl) ?_
  refine lv_if_ne (tgt := 19) C.1 C.2.1 dX10_share_9 (by decide) (fun c2 => ?_) (fun c2 => ?_)
  · have h := h.1 c2
    refine lv_lload_n C.1 C.2.1 dX10_share_19 rfl (lv_at hl 2 rfl) ?_
    refine lv_lload C.1 C.2.1 dX10_share_20 (lv_at hl 0 rfl) ?_
    obtain ⟨c3, h⟩ := h
    refine lv_ldiv C.1 C.2.1 dX10_share_22 c3 ?_
    exact fw_plret C hS h dX10_share_23
  · have h := h.2 c2
    refine lv_lload_n C.1 C.2.1 dX10_share_12 rfl (lv_at hl 1 rfl) ?_
    refine lv_lload C.1 C.2.1 dX10_share_13 (lv_at hl 0 rfl) ?_
    obtain ⟨c4, h⟩ := h
    refine lv_ldiv C.1 C.2.1 dX10_share_15 c4 ?_
    refine lv_goto (tgt := 23) C.1 C.2.1 dX10_share_16 (by decide) ?_
    exact fw_plret C hS h dX10_share_23
/-! KnifeBoardModel.isWhich(I)Z -/
def rmX10_isWhich : Room := { frames := 1, cells := 0, slots := 0, locals := 22 }
def wpX10_isWhich (x0 : Int32) (Q : Int32 → Prop) : Prop := wpX10_within x0 0 1 (fun (r1 : Int32) => (r1 = 0 ∨ r1 = 1) ∧ Q r1)
set_option maxHeartbeats 4000000 in
set_option maxRecDepth 100000 in
theorem soX10_isWhich (l : Launch) (x0 : Int32) (Q : Int32 → Prop) (h : wpX10_isWhich x0 Q) : fw_pM l yX10_isWhich wsX10_isWhich rmX10_isWhich [.int x0] (fw_pQi Q) := by
  refine fw_pstart (cc := cX10_isWhich) (nL := 1) (rt := (some .boolean)) (by decide) rfl (Nat.le_of_ble_eq_true rfl) ?_
  intro p e s m below meth c A ls H locs C hA hS hl
  obtain ⟨args, ea⟩ : ∃ z : Array Value, z = ([.int x0] : List Value).toArray := ⟨_, rfl⟩
  rw [← ea] at C ⊢
  have C : fw_C p s m args meth c cX10_isWhich 1 (some .boolean) wsX10_isWhich RX10 := C
  have hl : lv_has ls 1 [(0, .int x0)] := hl
  unfold wpX10_isWhich at h
  refine lv_iload_n C.1 C.2.1 dX10_isWhich_0 rfl (lv_at hl 0 rfl) ?_
  refine lv_iconst (v := 0) C.1 C.2.1 dX10_isWhich_1 (by decide) ?_
  refine lv_iconst (v := 1) C.1 C.2.1 dX10_isWhich_2 (by decide) ?_
  refine fw_ppcalli (va_runS (As := [.int x0, .int 0, .int 1]) (rest := []) ⟨C.1, C.2.1, C.2.2.2.2.2.2, C.2.2.2.2.2.1, C.2.2.2.2.1⟩ (soX10_within l x0 0 1 _ h H.size) (va_cwS 3 C.2.2.2.2.1 gX10_isWhich_X10_within rfl rfl rfl (by decide +kernel) ⟨Nat.le_of_ble_eq_true rfl, Nat.le_of_ble_eq_true rfl⟩) fw_ppre rfl rfl hl.1 rfl (lv_room (Nat.le_of_ble_eq_true rfl)) dX10_isWhich_3 ⟨Nat.zero_le _, Nat.zero_le _⟩) hS hA (fun r1  H locs h hS => ?_)
  obtain ⟨cb, h⟩ := h
  exact fw_pzret C hS (fw_nb cb) h dX10_isWhich_6
/-! KnifeBoardModel.isSheet(I)Z -/
def rmX10_isSheet : Room := { frames := 1, cells := 0, slots := 0, locals := 22 }
def wpX10_isSheet (x0 : Int32) (Q : Int32 → Prop) : Prop := wpX10_within x0 0 3 (fun (r1 : Int32) => (r1 = 0 ∨ r1 = 1) ∧ Q r1)
set_option maxHeartbeats 4000000 in
set_option maxRecDepth 100000 in
theorem soX10_isSheet (l : Launch) (x0 : Int32) (Q : Int32 → Prop) (h : wpX10_isSheet x0 Q) : fw_pM l yX10_isSheet wsX10_isSheet rmX10_isSheet [.int x0] (fw_pQi Q) := by
  refine fw_pstart (cc := cX10_isSheet) (nL := 1) (rt := (some .boolean)) (by decide) rfl (Nat.le_of_ble_eq_true rfl) ?_
  intro p e s m below meth c A ls H locs C hA hS hl
  obtain ⟨args, ea⟩ : ∃ z : Array Value, z = ([.int x0] : List Value).toArray := ⟨_, rfl⟩
  rw [← ea] at C ⊢
  have C : fw_C p s m args meth c cX10_isSheet 1 (some .boolean) wsX10_isSheet RX10 := C
  have hl : lv_has ls 1 [(0, .int x0)] := hl
  unfold wpX10_isSheet at h
  refine lv_iload_n C.1 C.2.1 dX10_isSheet_0 rfl (lv_at hl 0 rfl) ?_
  refine lv_iconst (v := 0) C.1 C.2.1 dX10_isSheet_1 (by decide) ?_
  refine lv_iconst (v := 3) C.1 C.2.1 dX10_isSheet_2 (by decide) ?_
  refine fw_ppcalli (va_runS (As := [.int x0, .int 0, .int 3]) (rest := []) ⟨C.1, C.2.1, C.2.2.2.2.2.2, C.2.2.2.2.2.1, C.2.2.2.2.1⟩ (soX10_within l x0 0 3 _ h H.size) (va_cwS 3 C.2.2.2.2.1 gX10_isSheet_X10_within rfl rfl rfl (by decide +kernel) ⟨Nat.le_of_ble_eq_true rfl, Nat.le_of_ble_eq_true rfl⟩) fw_ppre rfl rfl hl.1 rfl (lv_room (Nat.le_of_ble_eq_true rfl)) dX10_isSheet_3 ⟨Nat.zero_le _, Nat.zero_le _⟩) hS hA (fun r1  H locs h hS => ?_)
  obtain ⟨cb, h⟩ := h
  exact fw_pzret C hS (fw_nb cb) h dX10_isSheet_6
/-! KnifeBoardModel.isSort(I)Z -/
def rmX10_isSort : Room := { frames := 1, cells := 0, slots := 0, locals := 22 }
def wpX10_isSort (x0 : Int32) (Q : Int32 → Prop) : Prop := wpX10_within x0 0 2 (fun (r1 : Int32) => (r1 = 0 ∨ r1 = 1) ∧ Q r1)
set_option maxHeartbeats 4000000 in
set_option maxRecDepth 100000 in
theorem soX10_isSort (l : Launch) (x0 : Int32) (Q : Int32 → Prop) (h : wpX10_isSort x0 Q) : fw_pM l yX10_isSort wsX10_isSort rmX10_isSort [.int x0] (fw_pQi Q) := by
  refine fw_pstart (cc := cX10_isSort) (nL := 1) (rt := (some .boolean)) (by decide) rfl (Nat.le_of_ble_eq_true rfl) ?_
  intro p e s m below meth c A ls H locs C hA hS hl
  obtain ⟨args, ea⟩ : ∃ z : Array Value, z = ([.int x0] : List Value).toArray := ⟨_, rfl⟩
  rw [← ea] at C ⊢
  have C : fw_C p s m args meth c cX10_isSort 1 (some .boolean) wsX10_isSort RX10 := C
  have hl : lv_has ls 1 [(0, .int x0)] := hl
  unfold wpX10_isSort at h
  refine lv_iload_n C.1 C.2.1 dX10_isSort_0 rfl (lv_at hl 0 rfl) ?_
  refine lv_iconst (v := 0) C.1 C.2.1 dX10_isSort_1 (by decide) ?_
  refine lv_iconst (v := 2) C.1 C.2.1 dX10_isSort_2 (by decide) ?_
  refine fw_ppcalli (va_runS (As := [.int x0, .int 0, .int 2]) (rest := []) ⟨C.1, C.2.1, C.2.2.2.2.2.2, C.2.2.2.2.2.1, C.2.2.2.2.1⟩ (soX10_within l x0 0 2 _ h H.size) (va_cwS 3 C.2.2.2.2.1 gX10_isSort_X10_within rfl rfl rfl (by decide +kernel) ⟨Nat.le_of_ble_eq_true rfl, Nat.le_of_ble_eq_true rfl⟩) fw_ppre rfl rfl hl.1 rfl (lv_room (Nat.le_of_ble_eq_true rfl)) dX10_isSort_3 ⟨Nat.zero_le _, Nat.zero_le _⟩) hS hA (fun r1  H locs h hS => ?_)
  obtain ⟨cb, h⟩ := h
  exact fw_pzret C hS (fw_nb cb) h dX10_isSort_6
/-! KnifeBoardModel.against(IIIII)I -/
def rmX10_against : Room := { frames := 0, cells := 0, slots := 0, locals := 0 }
def wpX10_against (iv : fw_F) (ar : fw_R) (x1 : Int32) (x2 : Int32) (x3 : Int32) (x4 : Int32) (x5 : Int32) (Q : Int32 → Prop) : Prop := vp_in x1 4 ∧ ((((ar 2) x1.toNatClampNeg) = (-9) → (vp_in x1 4 ∧ ((¬ ((ar 2) x1.toNatClampNeg) = (-9) → ((0 ≤ x4 → ((x3 < 0 → (Q 3)) ∧ (¬ x3 < 0 → (vp_in x1 4 ∧ ((((ar 3) x1.toNatClampNeg) < x3 → (Q 3)) ∧ (¬ ((ar 3) x1.toNatClampNeg) < x3 → (vp_in x1 4 ∧ (¬ x5 = 0 ∧ ((x4 ≤ ((((ar 3) x1.toNatClampNeg) - x3) / x5) → (Q 0)) ∧ (¬ x4 ≤ ((((ar 3) x1.toNatClampNeg) - x3) / x5) → (Q 3))))))))))) ∧ (¬ 0 ≤ x4 → (Q 4)))) ∧ (((ar 2) x1.toNatClampNeg) = (-9) → (Q 1))))) ∧ (¬ ((ar 2) x1.toNatClampNeg) = (-9) → (vp_in x1 4 ∧ ((((ar 2) x1.toNatClampNeg) = x2 → (vp_in x1 4 ∧ ((¬ ((ar 2) x1.toNatClampNeg) = (-9) → ((0 ≤ x4 → ((x3 < 0 → (Q 3)) ∧ (¬ x3 < 0 → (vp_in x1 4 ∧ ((((ar 3) x1.toNatClampNeg) < x3 → (Q 3)) ∧ (¬ ((ar 3) x1.toNatClampNeg) < x3 → (vp_in x1 4 ∧ (¬ x5 = 0 ∧ ((x4 ≤ ((((ar 3) x1.toNatClampNeg) - x3) / x5) → (Q 0)) ∧ (¬ x4 ≤ ((((ar 3) x1.toNatClampNeg) - x3) / x5) → (Q 3))))))))))) ∧ (¬ 0 ≤ x4 → (Q 4)))) ∧ (((ar 2) x1.toNatClampNeg) = (-9) → (Q 1))))) ∧ (¬ ((ar 2) x1.toNatClampNeg) = x2 → (Q 2))))))
set_option maxHeartbeats 4000000 in
set_option maxRecDepth 100000 in
theorem soX10_against (l : Launch) (G : fw_G) (mh : Nat) (ad : Nat → Nat) (iv : fw_F) (ar : fw_R) (x1 : Int32) (x2 : Int32) (x3 : Int32) (x4 : Int32) (x5 : Int32) (Q : Int32 → Prop)  (h : wpX10_against iv ar x1 x2 x3 x4 x5 Q) : fw_M l G (mw G mh ad) yX10_against wsX10_against rmX10_against [.ref mh, .int x1, .int x2, .int x3, .int x4, .int x5] iv ar (fw_Qi G (mw G mh ad) (fun r iv1 ar1 => Q r ∧ iv = iv1 ∧ ar = ar1)) := by
  refine fw_start (cc := cX10_against) (nL := 6) (rt := (some .int)) (by decide) rfl (Nat.le_of_ble_eq_true rfl) ?_
  intro p e s m below meth c A ls H locs C hK hG hl
  obtain ⟨args, ea⟩ : ∃ z : Array Value, z = ([.ref mh, .int x1, .int x2, .int x3, .int x4, .int x5] : List Value).toArray := ⟨_, rfl⟩
  rw [← ea] at C ⊢
  have C : fw_C p s m args meth c cX10_against 6 (some .int) wsX10_against RX10 := C
  have hl : lv_has ls 6 [(0, .ref mh), (1, .int x1), (2, .int x2), (3, .int x3), (4, .int x4), (5, .int x5)] := hl
  unfold wpX10_against at h
  have in_X10 : ∀ x ∈ wsX100, x ∈ wsX10_against := by decide +kernel
  have k13 := C.2.2.2.2.1 (.fieldLink RX10 13 "KnifeBoardModel" "sheetLong" "[I") (by decide +kernel)
  have k9 := C.2.2.2.2.1 (.fieldLink RX10 9 "KnifeBoardModel" "sorts" "[I") (by decide +kernel)
  refine lv_aload_n C.1 C.2.1 dX10_against_0 rfl (lv_at hl 0 rfl) ?_
  refine fw_get (w := (mw G mh ad)) C in_X10 hK hG 0 mw_o rfl 2 (by decide) k9 rfl rfl dX10_against_1 ?_
  refine lv_iload_n C.1 C.2.1 dX10_against_4 rfl (lv_at hl 1 rfl) ?_
  obtain ⟨c1, h⟩ := h
  refine fw_iald (w := (mw G mh ad)) C hK hG 1 mw_a2 c1 dX10_against_5 ?_
  refine lv_bipush (v := (-9)) C.1 C.2.1 dX10_against_6 (by decide) ?_
  refine lv_icmp_eq (tgt := 23) C.1 C.2.1 dX10_against_8 (by decide) (fun c2 => ?_) (fun c2 => ?_)
  · have h := h.1 c2
    refine lv_aload_n C.1 C.2.1 dX10_against_23 rfl (lv_at hl 0 rfl) ?_
    refine fw_get (w := (mw G mh ad)) C in_X10 hK hG 0 mw_o rfl 2 (by decide) k9 rfl rfl dX10_against_24 ?_
    refine lv_iload_n C.1 C.2.1 dX10_against_27 rfl (lv_at hl 1 rfl) ?_
    obtain ⟨c3, h⟩ := h
    refine fw_iald (w := (mw G mh ad)) C hK hG 1 mw_a2 c3 dX10_against_28 ?_
    refine lv_bipush (v := (-9)) C.1 C.2.1 dX10_against_29 (by decide) ?_
    refine lv_icmp_ne (tgt := 36) C.1 C.2.1 dX10_against_31 (by decide) (fun c4 => ?_) (fun c4 => ?_)
    · have h := h.1 c4
      refine lv_iload C.1 C.2.1 dX10_against_36 (lv_at hl 4 rfl) ?_
      refine lv_if_ge (tgt := 43) C.1 C.2.1 dX10_against_38 (by decide) (fun c5 => ?_) (fun c5 => ?_)
      · have h := h.1 c5
        refine lv_iload_n C.1 C.2.1 dX10_against_43 rfl (lv_at hl 3 rfl) ?_
        refine lv_if_lt (tgt := 73) C.1 C.2.1 dX10_against_44 (by decide) (fun c6 => ?_) (fun c6 => ?_)
        · have h := h.1 c6
          refine lv_iconst (v := 3) C.1 C.2.1 dX10_against_73 (by decide) ?_
          refine lv_goto (tgt := 78) C.1 C.2.1 dX10_against_74 (by decide) ?_
          exact fw_iret C hG ⟨h, rfl, rfl⟩ dX10_against_78
        · have h := h.2 c6
          refine lv_iload_n C.1 C.2.1 dX10_against_47 rfl (lv_at hl 3 rfl) ?_
          refine lv_aload_n C.1 C.2.1 dX10_against_48 rfl (lv_at hl 0 rfl) ?_
          refine fw_get (w := (mw G mh ad)) C in_X10 hK hG 0 mw_o rfl 3 (by decide) k13 rfl rfl dX10_against_49 ?_
          refine lv_iload_n C.1 C.2.1 dX10_against_52 rfl (lv_at hl 1 rfl) ?_
          obtain ⟨c7, h⟩ := h
          refine fw_iald (w := (mw G mh ad)) C hK hG 2 mw_a3 c7 dX10_against_53 ?_
          refine lv_icmp_gt (tgt := 73) C.1 C.2.1 dX10_against_54 (by decide) (fun c8 => ?_) (fun c8 => ?_)
          · have h := h.1 c8
            refine lv_iconst (v := 3) C.1 C.2.1 dX10_against_73 (by decide) ?_
            refine lv_goto (tgt := 78) C.1 C.2.1 dX10_against_74 (by decide) ?_
            exact fw_iret C hG ⟨h, rfl, rfl⟩ dX10_against_78
          · have h := h.2 c8
            refine lv_iload C.1 C.2.1 dX10_against_57 (lv_at hl 4 rfl) ?_
            refine lv_aload_n C.1 C.2.1 dX10_against_59 rfl (lv_at hl 0 rfl) ?_
            refine fw_get (w := (mw G mh ad)) C in_X10 hK hG 0 mw_o rfl 3 (by decide) k13 rfl rfl dX10_against_60 ?_
            refine lv_iload_n C.1 C.2.1 dX10_against_63 rfl (lv_at hl 1 rfl) ?_
            obtain ⟨c9, h⟩ := h
            refine fw_iald (w := (mw G mh ad)) C hK hG 2 mw_a3 c9 dX10_against_64 ?_
            refine lv_iload_n C.1 C.2.1 dX10_against_65 rfl (lv_at hl 3 rfl) ?_
            refine lv_isub C.1 C.2.1 dX10_against_66 ?_
            refine lv_iload C.1 C.2.1 dX10_against_67 (lv_at hl 5 rfl) ?_
            obtain ⟨c10, h⟩ := h
            refine lv_idiv C.1 C.2.1 dX10_against_69 c10 ?_
            refine lv_icmp_le (tgt := 77) C.1 C.2.1 dX10_against_70 (by decide) (fun c11 => ?_) (fun c11 => ?_)
            · have h := h.1 c11
              refine lv_iconst (v := 0) C.1 C.2.1 dX10_against_77 (by decide) ?_
              exact fw_iret C hG ⟨h, rfl, rfl⟩ dX10_against_78
            · have h := h.2 c11
              refine lv_iconst (v := 3) C.1 C.2.1 dX10_against_73 (by decide) ?_
              refine lv_goto (tgt := 78) C.1 C.2.1 dX10_against_74 (by decide) ?_
              exact fw_iret C hG ⟨h, rfl, rfl⟩ dX10_against_78
      · have h := h.2 c5
        refine lv_iconst (v := 4) C.1 C.2.1 dX10_against_41 (by decide) ?_
        exact fw_iret C hG ⟨h, rfl, rfl⟩ dX10_against_42
    · have h := h.2 c4
      refine lv_iconst (v := 1) C.1 C.2.1 dX10_against_34 (by decide) ?_
      exact fw_iret C hG ⟨h, rfl, rfl⟩ dX10_against_35
  · have h := h.2 c2
    refine lv_aload_n C.1 C.2.1 dX10_against_11 rfl (lv_at hl 0 rfl) ?_
    refine fw_get (w := (mw G mh ad)) C in_X10 hK hG 0 mw_o rfl 2 (by decide) k9 rfl rfl dX10_against_12 ?_
    refine lv_iload_n C.1 C.2.1 dX10_against_15 rfl (lv_at hl 1 rfl) ?_
    obtain ⟨c12, h⟩ := h
    refine fw_iald (w := (mw G mh ad)) C hK hG 1 mw_a2 c12 dX10_against_16 ?_
    refine lv_iload_n C.1 C.2.1 dX10_against_17 rfl (lv_at hl 2 rfl) ?_
    refine lv_icmp_eq (tgt := 23) C.1 C.2.1 dX10_against_18 (by decide) (fun c13 => ?_) (fun c13 => ?_)
    · have h := h.1 c13
      refine lv_aload_n C.1 C.2.1 dX10_against_23 rfl (lv_at hl 0 rfl) ?_
      refine fw_get (w := (mw G mh ad)) C in_X10 hK hG 0 mw_o rfl 2 (by decide) k9 rfl rfl dX10_against_24 ?_
      refine lv_iload_n C.1 C.2.1 dX10_against_27 rfl (lv_at hl 1 rfl) ?_
      obtain ⟨c14, h⟩ := h
      refine fw_iald (w := (mw G mh ad)) C hK hG 1 mw_a2 c14 dX10_against_28 ?_
      refine lv_bipush (v := (-9)) C.1 C.2.1 dX10_against_29 (by decide) ?_
      refine lv_icmp_ne (tgt := 36) C.1 C.2.1 dX10_against_31 (by decide) (fun c15 => ?_) (fun c15 => ?_)
      · have h := h.1 c15
        refine lv_iload C.1 C.2.1 dX10_against_36 (lv_at hl 4 rfl) ?_
        refine lv_if_ge (tgt := 43) C.1 C.2.1 dX10_against_38 (by decide) (fun c16 => ?_) (fun c16 => ?_)
        · have h := h.1 c16
          refine lv_iload_n C.1 C.2.1 dX10_against_43 rfl (lv_at hl 3 rfl) ?_
          refine lv_if_lt (tgt := 73) C.1 C.2.1 dX10_against_44 (by decide) (fun c17 => ?_) (fun c17 => ?_)
          · have h := h.1 c17
            refine lv_iconst (v := 3) C.1 C.2.1 dX10_against_73 (by decide) ?_
            refine lv_goto (tgt := 78) C.1 C.2.1 dX10_against_74 (by decide) ?_
            exact fw_iret C hG ⟨h, rfl, rfl⟩ dX10_against_78
          · have h := h.2 c17
            refine lv_iload_n C.1 C.2.1 dX10_against_47 rfl (lv_at hl 3 rfl) ?_
            refine lv_aload_n C.1 C.2.1 dX10_against_48 rfl (lv_at hl 0 rfl) ?_
            refine fw_get (w := (mw G mh ad)) C in_X10 hK hG 0 mw_o rfl 3 (by decide) k13 rfl rfl dX10_against_49 ?_
            refine lv_iload_n C.1 C.2.1 dX10_against_52 rfl (lv_at hl 1 rfl) ?_
            obtain ⟨c18, h⟩ := h
            refine fw_iald (w := (mw G mh ad)) C hK hG 2 mw_a3 c18 dX10_against_53 ?_
            refine lv_icmp_gt (tgt := 73) C.1 C.2.1 dX10_against_54 (by decide) (fun c19 => ?_) (fun c19 => ?_)
            · have h := h.1 c19
              refine lv_iconst (v := 3) C.1 C.2.1 dX10_against_73 (by decide) ?_
              refine lv_goto (tgt := 78) C.1 C.2.1 dX10_against_74 (by decide) ?_
              exact fw_iret C hG ⟨h, rfl, rfl⟩ dX10_against_78
            · have h := h.2 c19
              refine lv_iload C.1 C.2.1 dX10_against_57 (lv_at hl 4 rfl) ?_
              refine lv_aload_n C.1 C.2.1 dX10_against_59 rfl (lv_at hl 0 rfl) ?_
              refine fw_get (w := (mw G mh ad)) C in_X10 hK hG 0 mw_o rfl 3 (by decide) k13 rfl rfl dX10_against_60 ?_
              refine lv_iload_n C.1 C.2.1 dX10_against_63 rfl (lv_at hl 1 rfl) ?_
              obtain ⟨c20, h⟩ := h
              refine fw_iald (w := (mw G mh ad)) C hK hG 2 mw_a3 c20 dX10_against_64 ?_
              refine lv_iload_n C.1 C.2.1 dX10_against_65 rfl (lv_at hl 3 rfl) ?_
              refine lv_isub C.1 C.2.1 dX10_against_66 ?_
              refine lv_iload C.1 C.2.1 dX10_against_67 (lv_at hl 5 rfl) ?_
              obtain ⟨c21, h⟩ := h
              refine lv_idiv C.1 C.2.1 dX10_against_69 c21 ?_
              refine lv_icmp_le (tgt := 77) C.1 C.2.1 dX10_against_70 (by decide) (fun c22 => ?_) (fun c22 => ?_)
              · have h := h.1 c22
                refine lv_iconst (v := 0) C.1 C.2.1 dX10_against_77 (by decide) ?_
                exact fw_iret C hG ⟨h, rfl, rfl⟩ dX10_against_78
              · have h := h.2 c22
                refine lv_iconst (v := 3) C.1 C.2.1 dX10_against_73 (by decide) ?_
                refine lv_goto (tgt := 78) C.1 C.2.1 dX10_against_74 (by decide) ?_
                exact fw_iret C hG ⟨h, rfl, rfl⟩ dX10_against_78
        · have h := h.2 c16
          refine lv_iconst (v := 4) C.1 C.2.1 dX10_against_41 (by decide) ?_
          exact fw_iret C hG ⟨h, rfl, rfl⟩ dX10_against_42
      · have h := h.2 c15
        refine lv_iconst (v := 1) C.1 C.2.1 dX10_against_34 (by decide) ?_
        exact fw_iret C hG ⟨h, rfl, rfl⟩ dX10_against_35
    · have h := h.2 c13
      refine lv_iconst (v := 2) C.1 C.2.1 dX10_against_21 (by decide) ?_
      exact fw_iret C hG ⟨h, rfl, rfl⟩ dX10_against_22
/-! KnifeBoardModel.isKnife(I)Z -/
def rmX10_isKnife : Room := { frames := 0, cells := 0, slots := 0, locals := 0 }
def wpX10_isKnife (iv : fw_F) (ar : fw_R) (x1 : Int32) (Q : Int32 → Prop) : Prop := (x1 < 0 → (Q 0)) ∧ (¬ x1 < 0 → (((iv 5) ≤ x1 → (Q 0)) ∧ (¬ (iv 5) ≤ x1 → (Q 1))))
set_option maxHeartbeats 4000000 in
set_option maxRecDepth 100000 in
theorem soX10_isKnife (l : Launch) (G : fw_G) (mh : Nat) (ad : Nat → Nat) (iv : fw_F) (ar : fw_R) (x1 : Int32) (Q : Int32 → Prop)  (h : wpX10_isKnife iv ar x1 Q) : fw_M l G (mw G mh ad) yX10_isKnife wsX10_isKnife rmX10_isKnife [.ref mh, .int x1] iv ar (fw_Qi G (mw G mh ad) (fun r iv1 ar1 => Q r ∧ iv = iv1 ∧ ar = ar1)) := by
  refine fw_start (cc := cX10_isKnife) (nL := 2) (rt := (some .boolean)) (by decide) rfl (Nat.le_of_ble_eq_true rfl) ?_
  intro p e s m below meth c A ls H locs C hK hG hl
  obtain ⟨args, ea⟩ : ∃ z : Array Value, z = ([.ref mh, .int x1] : List Value).toArray := ⟨_, rfl⟩
  rw [← ea] at C ⊢
  have C : fw_C p s m args meth c cX10_isKnife 2 (some .boolean) wsX10_isKnife RX10 := C
  have hl : lv_has ls 2 [(0, .ref mh), (1, .int x1)] := hl
  unfold wpX10_isKnife at h
  have in_X10 : ∀ x ∈ wsX100, x ∈ wsX10_isKnife := by decide +kernel
  have k85 := C.2.2.2.2.1 (.fieldLink RX10 85 "KnifeBoardModel" "knives" "I") (by decide +kernel)
  refine lv_iload_n C.1 C.2.1 dX10_isKnife_0 rfl (lv_at hl 1 rfl) ?_
  refine lv_if_lt (tgt := 16) C.1 C.2.1 dX10_isKnife_1 (by decide) (fun c1 => ?_) (fun c1 => ?_)
  · have h := h.1 c1
    refine lv_iconst (v := 0) C.1 C.2.1 dX10_isKnife_16 (by decide) ?_
    exact fw_zret C hG (by decide) ⟨h, rfl, rfl⟩ dX10_isKnife_17
  · have h := h.2 c1
    refine lv_iload_n C.1 C.2.1 dX10_isKnife_4 rfl (lv_at hl 1 rfl) ?_
    refine lv_aload_n C.1 C.2.1 dX10_isKnife_5 rfl (lv_at hl 0 rfl) ?_
    refine fw_get (w := (mw G mh ad)) C in_X10 hK hG 0 mw_o rfl 5 (by decide) k85 rfl rfl dX10_isKnife_6 ?_
    refine lv_icmp_ge (tgt := 16) C.1 C.2.1 dX10_isKnife_9 (by decide) (fun c2 => ?_) (fun c2 => ?_)
    · have h := h.1 c2
      refine lv_iconst (v := 0) C.1 C.2.1 dX10_isKnife_16 (by decide) ?_
      exact fw_zret C hG (by decide) ⟨h, rfl, rfl⟩ dX10_isKnife_17
    · have h := h.2 c2
      refine lv_iconst (v := 1) C.1 C.2.1 dX10_isKnife_12 (by decide) ?_
      refine lv_goto (tgt := 17) C.1 C.2.1 dX10_isKnife_13 (by decide) ?_
      exact fw_zret C hG (by decide) ⟨h, rfl, rfl⟩ dX10_isKnife_17
/-! KnifeBoardModel.knife(IIII)I -/
def rmX10_knife : Room := { frames := 1, cells := 0, slots := 0, locals := 22 }
def wpX10_knife (iv : fw_F) (ar : fw_R) (x1 : Int32) (x2 : Int32) (x3 : Int32) (x4 : Int32) (Q : Int32 → fw_F → fw_R → Prop) : Prop := wpX10_within x1 0 2 (fun (r1 : Int32) => (r1 = 0 → (Q (-2) iv ar)) ∧ (¬ r1 = 0 → (wpX10_within x2 1 9 (fun (r3 : Int32) => (r3 = 0 → (Q (-2) iv ar)) ∧ (¬ r3 = 0 → (wpX10_within x3 1 24 (fun (r5 : Int32) => (r5 = 0 → (Q (-2) iv ar)) ∧ (¬ r5 = 0 → (wpX10_within x4 0 5 (fun (r7 : Int32) => (¬ r7 = 0 → ((¬ (iv 5) = 6 → (vp_in (iv 5) 6 ∧ (∀ ar11 : fw_R, ar11 = va_up ar 6 (upd (ar 6) (iv 5).toNatClampNeg x1) → (vp_in (iv 5) 6 ∧ (∀ ar13 : fw_R, ar13 = va_up ar11 7 (upd (ar11 7) (iv 5).toNatClampNeg x2) → (vp_in (iv 5) 6 ∧ (∀ ar15 : fw_R, ar15 = va_up ar13 8 (upd (ar13 8) (iv 5).toNatClampNeg x3) → (vp_in (iv 5) 6 ∧ (∀ ar17 : fw_R, ar17 = va_up ar15 9 (upd (ar15 9) (iv 5).toNatClampNeg x4) → (∀ iv18 : fw_F, iv18 = va_up iv 5 ((iv 5) + 1) → (Q ((iv18 5) - 1) iv18 ar17))))))))))) ∧ ((iv 5) = 6 → (Q (-4) iv ar)))) ∧ (r7 = 0 → (Q (-2) iv ar))))))))))))
set_option maxHeartbeats 4000000 in
set_option maxRecDepth 100000 in
theorem soX10_knife (l : Launch) (G : fw_G) (mh : Nat) (ad : Nat → Nat) (iv : fw_F) (ar : fw_R) (x1 : Int32) (x2 : Int32) (x3 : Int32) (x4 : Int32) (Q : Int32 → fw_F → fw_R → Prop)  (h : wpX10_knife iv ar x1 x2 x3 x4 Q) : fw_M l G (mw G mh ad) yX10_knife wsX10_knife rmX10_knife [.ref mh, .int x1, .int x2, .int x3, .int x4] iv ar (fw_Qi G (mw G mh ad) Q) := by
  refine fw_start (cc := cX10_knife) (nL := 5) (rt := (some .int)) (by decide) rfl (Nat.le_of_ble_eq_true rfl) ?_
  intro p e s m below meth c A ls H locs C hK hG hl
  obtain ⟨args, ea⟩ : ∃ z : Array Value, z = ([.ref mh, .int x1, .int x2, .int x3, .int x4] : List Value).toArray := ⟨_, rfl⟩
  rw [← ea] at C ⊢
  have C : fw_C p s m args meth c cX10_knife 5 (some .int) wsX10_knife RX10 := C
  have hl : lv_has ls 5 [(0, .ref mh), (1, .int x1), (2, .int x2), (3, .int x3), (4, .int x4)] := hl
  unfold wpX10_knife at h
  have in_X10 : ∀ x ∈ wsX100, x ∈ wsX10_knife := by decide +kernel
  have k19 := C.2.2.2.2.1 (.fieldLink RX10 19 "KnifeBoardModel" "kind" "[I") (by decide +kernel)
  have k22 := C.2.2.2.2.1 (.fieldLink RX10 22 "KnifeBoardModel" "pace" "[I") (by decide +kernel)
  have k25 := C.2.2.2.2.1 (.fieldLink RX10 25 "KnifeBoardModel" "turn" "[I") (by decide +kernel)
  have k28 := C.2.2.2.2.1 (.fieldLink RX10 28 "KnifeBoardModel" "band" "[I") (by decide +kernel)
  have k85 := C.2.2.2.2.1 (.fieldLink RX10 85 "KnifeBoardModel" "knives" "I") (by decide +kernel)
  refine lv_iload_n C.1 C.2.1 dX10_knife_0 rfl (lv_at hl 1 rfl) ?_
  refine lv_iconst (v := 0) C.1 C.2.1 dX10_knife_1 (by decide) ?_
  refine lv_iconst (v := 2) C.1 C.2.1 dX10_knife_2 (by decide) ?_
  refine fw_pcalli (va_runS (As := [.int x1, .int 0, .int 2]) (rest := []) ⟨C.1, C.2.1, C.2.2.2.2.2.2, C.2.2.2.2.2.1, C.2.2.2.2.1⟩ (soX10_within l x1 0 2 _ h H.size) (va_cwS 3 C.2.2.2.2.1 gX10_knife_X10_within rfl rfl rfl (by decide +kernel) ⟨Nat.le_of_ble_eq_true rfl, Nat.le_of_ble_eq_true rfl⟩) fw_ppre rfl rfl hl.1 rfl (lv_room (Nat.le_of_ble_eq_true rfl)) dX10_knife_3 ⟨Nat.zero_le _, Nat.zero_le _⟩) hG hK (fun r1  H locs h hG => ?_)
  refine lv_if_eq (tgt := 39) C.1 C.2.1 dX10_knife_6 (by decide) (fun c2 => ?_) (fun c2 => ?_)
  · have h := h.1 c2
    refine lv_bipush (v := (-2)) C.1 C.2.1 dX10_knife_39 (by decide) ?_
    exact fw_iret C hG h dX10_knife_41
  · have h := h.2 c2
    refine lv_iload_n C.1 C.2.1 dX10_knife_9 rfl (lv_at hl 2 rfl) ?_
    refine lv_iconst (v := 1) C.1 C.2.1 dX10_knife_10 (by decide) ?_
    refine lv_bipush (v := 9) C.1 C.2.1 dX10_knife_11 (by decide) ?_
    refine fw_pcalli (va_runS (As := [.int x2, .int 1, .int 9]) (rest := []) ⟨C.1, C.2.1, C.2.2.2.2.2.2, C.2.2.2.2.2.1, C.2.2.2.2.1⟩ (soX10_within l x2 1 9 _ h H.size) (va_cwS 3 C.2.2.2.2.1 gX10_knife_X10_within rfl rfl rfl (by decide +kernel) ⟨Nat.le_of_ble_eq_true rfl, Nat.le_of_ble_eq_true rfl⟩) fw_ppre rfl rfl hl.1 rfl (lv_room (Nat.le_of_ble_eq_true rfl)) dX10_knife_13 ⟨Nat.zero_le _, Nat.zero_le _⟩) hG hK (fun r3  H locs h hG => ?_)
    refine lv_if_eq (tgt := 39) C.1 C.2.1 dX10_knife_16 (by decide) (fun c4 => ?_) (fun c4 => ?_)
    · have h := h.1 c4
      refine lv_bipush (v := (-2)) C.1 C.2.1 dX10_knife_39 (by decide) ?_
      exact fw_iret C hG h dX10_knife_41
    · have h := h.2 c4
      refine lv_iload_n C.1 C.2.1 dX10_knife_19 rfl (lv_at hl 3 rfl) ?_
      refine lv_iconst (v := 1) C.1 C.2.1 dX10_knife_20 (by decide) ?_
      refine lv_bipush (v := 24) C.1 C.2.1 dX10_knife_21 (by decide) ?_
      refine fw_pcalli (va_runS (As := [.int x3, .int 1, .int 24]) (rest := []) ⟨C.1, C.2.1, C.2.2.2.2.2.2, C.2.2.2.2.2.1, C.2.2.2.2.1⟩ (soX10_within l x3 1 24 _ h H.size) (va_cwS 3 C.2.2.2.2.1 gX10_knife_X10_within rfl rfl rfl (by decide +kernel) ⟨Nat.le_of_ble_eq_true rfl, Nat.le_of_ble_eq_true rfl⟩) fw_ppre rfl rfl hl.1 rfl (lv_room (Nat.le_of_ble_eq_true rfl)) dX10_knife_23 ⟨Nat.zero_le _, Nat.zero_le _⟩) hG hK (fun r5  H locs h hG => ?_)
      refine lv_if_eq (tgt := 39) C.1 C.2.1 dX10_knife_26 (by decide) (fun c6 => ?_) (fun c6 => ?_)
      · have h := h.1 c6
        refine lv_bipush (v := (-2)) C.1 C.2.1 dX10_knife_39 (by decide) ?_
        exact fw_iret C hG h dX10_knife_41
      · have h := h.2 c6
        refine lv_iload C.1 C.2.1 dX10_knife_29 (lv_at hl 4 rfl) ?_
        refine lv_iconst (v := 0) C.1 C.2.1 dX10_knife_31 (by decide) ?_
        refine lv_iconst (v := 5) C.1 C.2.1 dX10_knife_32 (by decide) ?_
        refine fw_pcalli (va_runS (As := [.int x4, .int 0, .int 5]) (rest := []) ⟨C.1, C.2.1, C.2.2.2.2.2.2, C.2.2.2.2.2.1, C.2.2.2.2.1⟩ (soX10_within l x4 0 5 _ h H.size) (va_cwS 3 C.2.2.2.2.1 gX10_knife_X10_within rfl rfl rfl (by decide +kernel) ⟨Nat.le_of_ble_eq_true rfl, Nat.le_of_ble_eq_true rfl⟩) fw_ppre rfl rfl hl.1 rfl (lv_room (Nat.le_of_ble_eq_true rfl)) dX10_knife_33 ⟨Nat.zero_le _, Nat.zero_le _⟩) hG hK (fun r7  H locs h hG => ?_)
        refine lv_if_ne (tgt := 42) C.1 C.2.1 dX10_knife_36 (by decide) (fun c8 => ?_) (fun c8 => ?_)
        · have h := h.1 c8
          refine lv_aload_n C.1 C.2.1 dX10_knife_42 rfl (lv_at hl 0 rfl) ?_
          refine fw_get (w := (mw G mh ad)) C in_X10 hK hG 0 mw_o rfl 5 (by decide) k85 rfl rfl dX10_knife_43 ?_
          refine lv_bipush (v := 6) C.1 C.2.1 dX10_knife_46 (by decide) ?_
          refine lv_icmp_ne (tgt := 54) C.1 C.2.1 dX10_knife_48 (by decide) (fun c9 => ?_) (fun c9 => ?_)
          · have h := h.1 c9
            refine lv_aload_n C.1 C.2.1 dX10_knife_54 rfl (lv_at hl 0 rfl) ?_
            refine fw_get (w := (mw G mh ad)) C in_X10 hK hG 0 mw_o rfl 6 (by decide) k19 rfl rfl dX10_knife_55 ?_
            refine lv_aload_n C.1 C.2.1 dX10_knife_58 rfl (lv_at hl 0 rfl) ?_
            refine fw_get (w := (mw G mh ad)) C in_X10 hK hG 0 mw_o rfl 5 (by decide) k85 rfl rfl dX10_knife_59 ?_
            refine lv_iload_n C.1 C.2.1 dX10_knife_62 rfl (lv_at hl 1 rfl) ?_
            obtain ⟨c10, h⟩ := h
            obtain ⟨ar11, ear11⟩ : ∃ z : fw_R, z = va_up ar 6 (upd (ar 6) (iv 5).toNatClampNeg x1) := ⟨_, rfl⟩
            have h := h ar11 ear11
            refine fw_iast (w := (mw G mh ad)) C hK hG 4 mw_a6 c10 (ar1 := ar11) (by rw [ear11]; exact mw_s6) dX10_knife_63 (fun H locs hG => ?_)
            refine lv_aload_n C.1 C.2.1 dX10_knife_64 rfl (lv_at hl 0 rfl) ?_
            refine fw_get (w := (mw G mh ad)) C in_X10 hK hG 0 mw_o rfl 7 (by decide) k22 rfl rfl dX10_knife_65 ?_
            refine lv_aload_n C.1 C.2.1 dX10_knife_68 rfl (lv_at hl 0 rfl) ?_
            refine fw_get (w := (mw G mh ad)) C in_X10 hK hG 0 mw_o rfl 5 (by decide) k85 rfl rfl dX10_knife_69 ?_
            refine lv_iload_n C.1 C.2.1 dX10_knife_72 rfl (lv_at hl 2 rfl) ?_
            obtain ⟨c12, h⟩ := h
            obtain ⟨ar13, ear13⟩ : ∃ z : fw_R, z = va_up ar11 7 (upd (ar11 7) (iv 5).toNatClampNeg x2) := ⟨_, rfl⟩
            have h := h ar13 ear13
            refine fw_iast (w := (mw G mh ad)) C hK hG 5 mw_a7 c12 (ar1 := ar13) (by rw [ear13]; exact mw_s7) dX10_knife_73 (fun H locs hG => ?_)
            refine lv_aload_n C.1 C.2.1 dX10_knife_74 rfl (lv_at hl 0 rfl) ?_
            refine fw_get (w := (mw G mh ad)) C in_X10 hK hG 0 mw_o rfl 8 (by decide) k25 rfl rfl dX10_knife_75 ?_
            refine lv_aload_n C.1 C.2.1 dX10_knife_78 rfl (lv_at hl 0 rfl) ?_
            refine fw_get (w := (mw G mh ad)) C in_X10 hK hG 0 mw_o rfl 5 (by decide) k85 rfl rfl dX10_knife_79 ?_
            refine lv_iload_n C.1 C.2.1 dX10_knife_82 rfl (lv_at hl 3 rfl) ?_
            obtain ⟨c14, h⟩ := h
            obtain ⟨ar15, ear15⟩ : ∃ z : fw_R, z = va_up ar13 8 (upd (ar13 8) (iv 5).toNatClampNeg x3) := ⟨_, rfl⟩
            have h := h ar15 ear15
            refine fw_iast (w := (mw G mh ad)) C hK hG 6 mw_a8 c14 (ar1 := ar15) (by rw [ear15]; exact mw_s8) dX10_knife_83 (fun H locs hG => ?_)
            refine lv_aload_n C.1 C.2.1 dX10_knife_84 rfl (lv_at hl 0 rfl) ?_
            refine fw_get (w := (mw G mh ad)) C in_X10 hK hG 0 mw_o rfl 9 (by decide) k28 rfl rfl dX10_knife_85 ?_
            refine lv_aload_n C.1 C.2.1 dX10_knife_88 rfl (lv_at hl 0 rfl) ?_
            refine fw_get (w := (mw G mh ad)) C in_X10 hK hG 0 mw_o rfl 5 (by decide) k85 rfl rfl dX10_knife_89 ?_
            refine lv_iload C.1 C.2.1 dX10_knife_92 (lv_at hl 4 rfl) ?_
            obtain ⟨c16, h⟩ := h
            obtain ⟨ar17, ear17⟩ : ∃ z : fw_R, z = va_up ar15 9 (upd (ar15 9) (iv 5).toNatClampNeg x4) := ⟨_, rfl⟩
            have h := h ar17 ear17
            refine fw_iast (w := (mw G mh ad)) C hK hG 7 mw_a9 c16 (ar1 := ar17) (by rw [ear17]; exact mw_s9) dX10_knife_94 (fun H locs hG => ?_)
            refine lv_aload_n C.1 C.2.1 dX10_knife_95 rfl (lv_at hl 0 rfl) ?_
            refine lv_dup C.1 C.2.1 dX10_knife_96 rfl ?_
            refine fw_get (w := (mw G mh ad)) C in_X10 hK hG 0 mw_o rfl 5 (by decide) k85 rfl rfl dX10_knife_97 ?_
            refine lv_iconst (v := 1) C.1 C.2.1 dX10_knife_100 (by decide) ?_
            refine lv_iadd C.1 C.2.1 dX10_knife_101 ?_
            obtain ⟨iv18, eiv18⟩ : ∃ z : fw_F, z = va_up iv 5 ((iv 5) + 1) := ⟨_, rfl⟩
            have h := h iv18 eiv18
            refine fw_put (w := (mw G mh ad)) C in_X10 tyX10 tyX10_ok nmX10 hK hG 0 mw_o rfl 5 (by decide) k85 rfl rfl (ty := .int) (v := .int ((iv 5) + 1)) (by decide +kernel) rfl rfl (by first | decide | exact Nat.le_of_ble_eq_true rfl) (iv1 := iv18) (by rw [eiv18]; exact mw_p5) dX10_knife_102 (fun H locs hG => ?_)
            refine lv_aload_n C.1 C.2.1 dX10_knife_105 rfl (lv_at hl 0 rfl) ?_
            refine fw_get (w := (mw G mh ad)) C in_X10 hK hG 0 mw_o rfl 5 (by decide) k85 rfl rfl dX10_knife_106 ?_
            refine lv_iconst (v := 1) C.1 C.2.1 dX10_knife_109 (by decide) ?_
            refine lv_isub C.1 C.2.1 dX10_knife_110 ?_
            exact fw_iret C hG h dX10_knife_111
          · have h := h.2 c9
            refine lv_bipush (v := (-4)) C.1 C.2.1 dX10_knife_51 (by decide) ?_
            exact fw_iret C hG h dX10_knife_53
        · have h := h.2 c8
          refine lv_bipush (v := (-2)) C.1 C.2.1 dX10_knife_39 (by decide) ?_
          exact fw_iret C hG h dX10_knife_41
/-! KnifeBoardModel.width(I)I -/
def rmX10_width : Room := { frames := 0, cells := 0, slots := 0, locals := 0 }
def wpX10_width (iv : fw_F) (ar : fw_R) (x1 : Int32) (Q : Int32 → Prop) : Prop := vp_in x1 6 ∧ ((((ar 6) x1.toNatClampNeg) ≤ 0 → (vp_in x1 6 ∧ (Q ((ar 9) x1.toNatClampNeg)))) ∧ (¬ ((ar 6) x1.toNatClampNeg) ≤ 0 → (vp_in x1 6 ∧ (Q (((ar 9) x1.toNatClampNeg) + 1)))))
set_option maxHeartbeats 4000000 in
set_option maxRecDepth 100000 in
theorem soX10_width (l : Launch) (G : fw_G) (mh : Nat) (ad : Nat → Nat) (iv : fw_F) (ar : fw_R) (x1 : Int32) (Q : Int32 → Prop)  (h : wpX10_width iv ar x1 Q) : fw_M l G (mw G mh ad) yX10_width wsX10_width rmX10_width [.ref mh, .int x1] iv ar (fw_Qi G (mw G mh ad) (fun r iv1 ar1 => Q r ∧ iv = iv1 ∧ ar = ar1)) := by
  refine fw_start (cc := cX10_width) (nL := 2) (rt := (some .int)) (by decide) rfl (Nat.le_of_ble_eq_true rfl) ?_
  intro p e s m below meth c A ls H locs C hK hG hl
  obtain ⟨args, ea⟩ : ∃ z : Array Value, z = ([.ref mh, .int x1] : List Value).toArray := ⟨_, rfl⟩
  rw [← ea] at C ⊢
  have C : fw_C p s m args meth c cX10_width 2 (some .int) wsX10_width RX10 := C
  have hl : lv_has ls 2 [(0, .ref mh), (1, .int x1)] := hl
  unfold wpX10_width at h
  have in_X10 : ∀ x ∈ wsX100, x ∈ wsX10_width := by decide +kernel
  have k19 := C.2.2.2.2.1 (.fieldLink RX10 19 "KnifeBoardModel" "kind" "[I") (by decide +kernel)
  have k28 := C.2.2.2.2.1 (.fieldLink RX10 28 "KnifeBoardModel" "band" "[I") (by decide +kernel)
  refine lv_aload_n C.1 C.2.1 dX10_width_0 rfl (lv_at hl 0 rfl) ?_
  refine fw_get (w := (mw G mh ad)) C in_X10 hK hG 0 mw_o rfl 6 (by decide) k19 rfl rfl dX10_width_1 ?_
  refine lv_iload_n C.1 C.2.1 dX10_width_4 rfl (lv_at hl 1 rfl) ?_
  obtain ⟨c1, h⟩ := h
  refine fw_iald (w := (mw G mh ad)) C hK hG 4 mw_a6 c1 dX10_width_5 ?_
  refine lv_if_le (tgt := 20) C.1 C.2.1 dX10_width_6 (by decide) (fun c2 => ?_) (fun c2 => ?_)
  · have h := h.1 c2
    refine lv_aload_n C.1 C.2.1 dX10_width_20 rfl (lv_at hl 0 rfl) ?_
    refine fw_get (w := (mw G mh ad)) C in_X10 hK hG 0 mw_o rfl 9 (by decide) k28 rfl rfl dX10_width_21 ?_
    refine lv_iload_n C.1 C.2.1 dX10_width_24 rfl (lv_at hl 1 rfl) ?_
    obtain ⟨c3, h⟩ := h
    refine fw_iald (w := (mw G mh ad)) C hK hG 7 mw_a9 c3 dX10_width_25 ?_
    exact fw_iret C hG ⟨h, rfl, rfl⟩ dX10_width_26
  · have h := h.2 c2
    refine lv_aload_n C.1 C.2.1 dX10_width_9 rfl (lv_at hl 0 rfl) ?_
    refine fw_get (w := (mw G mh ad)) C in_X10 hK hG 0 mw_o rfl 9 (by decide) k28 rfl rfl dX10_width_10 ?_
    refine lv_iload_n C.1 C.2.1 dX10_width_13 rfl (lv_at hl 1 rfl) ?_
    obtain ⟨c4, h⟩ := h
    refine fw_iald (w := (mw G mh ad)) C hK hG 7 mw_a9 c4 dX10_width_14 ?_
    refine lv_iconst (v := 1) C.1 C.2.1 dX10_width_15 (by decide) ?_
    refine lv_iadd C.1 C.2.1 dX10_width_16 ?_
    refine lv_goto (tgt := 26) C.1 C.2.1 dX10_width_17 (by decide) ?_
    exact fw_iret C hG ⟨h, rfl, rfl⟩ dX10_width_26
/-! KnifeBoardModel.ofKnife(II)I -/
def rmX10_ofKnife : Room := { frames := 1, cells := 0, slots := 0, locals := 21 }
def wpX10_ofKnife (iv : fw_F) (ar : fw_R) (x1 : Int32) (x2 : Int32) (Q : Int32 → Prop) : Prop := wpX10_isKnife iv ar x1 (fun (r1 : Int32) => (¬ r1 = 0 → ((x2 = 0 → (vp_in x1 6 ∧ (Q ((ar 6) x1.toNatClampNeg)))) ∧ (x2 = 1 → (vp_in x1 6 ∧ (Q ((ar 7) x1.toNatClampNeg)))) ∧ (x2 = 2 → (vp_in x1 6 ∧ (Q ((ar 8) x1.toNatClampNeg)))) ∧ (x2 = 3 → (vp_in x1 6 ∧ (Q ((ar 9) x1.toNatClampNeg)))) ∧ (x2 = 4 → (wpX10_width iv ar x1 (fun (r12 : Int32) => Q r12))) ∧ (¬ x2 = 0 → (¬ x2 = 1 → (¬ x2 = 2 → (¬ x2 = 3 → (¬ x2 = 4 → (Q (-2))))))))) ∧ (r1 = 0 → (Q (-1))))
set_option maxHeartbeats 4000000 in
set_option maxRecDepth 100000 in
theorem soX10_ofKnife (l : Launch) (G : fw_G) (mh : Nat) (ad : Nat → Nat) (iv : fw_F) (ar : fw_R) (x1 : Int32) (x2 : Int32) (Q : Int32 → Prop)  (h : wpX10_ofKnife iv ar x1 x2 Q) : fw_M l G (mw G mh ad) yX10_ofKnife wsX10_ofKnife rmX10_ofKnife [.ref mh, .int x1, .int x2] iv ar (fw_Qi G (mw G mh ad) (fun r iv1 ar1 => Q r ∧ iv = iv1 ∧ ar = ar1)) := by
  refine fw_start (cc := cX10_ofKnife) (nL := 3) (rt := (some .int)) (by decide) rfl (Nat.le_of_ble_eq_true rfl) ?_
  intro p e s m below meth c A ls H locs C hK hG hl
  obtain ⟨args, ea⟩ : ∃ z : Array Value, z = ([.ref mh, .int x1, .int x2] : List Value).toArray := ⟨_, rfl⟩
  rw [← ea] at C ⊢
  have C : fw_C p s m args meth c cX10_ofKnife 3 (some .int) wsX10_ofKnife RX10 := C
  have hl : lv_has ls 3 [(0, .ref mh), (1, .int x1), (2, .int x2)] := hl
  unfold wpX10_ofKnife at h
  have in_X10 : ∀ x ∈ wsX100, x ∈ wsX10_ofKnife := by decide +kernel
  have k19 := C.2.2.2.2.1 (.fieldLink RX10 19 "KnifeBoardModel" "kind" "[I") (by decide +kernel)
  have k22 := C.2.2.2.2.1 (.fieldLink RX10 22 "KnifeBoardModel" "pace" "[I") (by decide +kernel)
  have k25 := C.2.2.2.2.1 (.fieldLink RX10 25 "KnifeBoardModel" "turn" "[I") (by decide +kernel)
  have k28 := C.2.2.2.2.1 (.fieldLink RX10 28 "KnifeBoardModel" "band" "[I") (by decide +kernel)
  refine lv_aload_n C.1 C.2.1 dX10_ofKnife_0 rfl (lv_at hl 0 rfl) ?_
  refine lv_iload_n C.1 C.2.1 dX10_ofKnife_1 rfl (lv_at hl 1 rfl) ?_
  refine fw_rcalli (va_runV (As := [.int x1]) (rest := []) ⟨C.1, C.2.1, C.2.2.2.2.2.2, C.2.2.2.2.2.1, C.2.2.2.2.1⟩ (soX10_isKnife l G mh ad iv ar x1 _  h H.size) (cwV 1 C.2.2.2.2.1 gX10_ofKnife_X10_isKnife rfl rfl rfl (by decide +kernel) ⟨Nat.le_of_ble_eq_true rfl, Nat.le_of_ble_eq_true rfl⟩) (fw_preV hG hK (ci := 10) rfl mw_o) rfl rfl hl.1 rfl (lv_room (Nat.le_of_ble_eq_true rfl)) dX10_ofKnife_2 ⟨Nat.zero_le _, Nat.zero_le _⟩) hG hK (fun r1  H locs h hG => ?_)
  refine lv_if_ne (tgt := 10) C.1 C.2.1 dX10_ofKnife_5 (by decide) (fun c2 => ?_) (fun c2 => ?_)
  · have h := h.1 c2
    refine lv_iload_n C.1 C.2.1 dX10_ofKnife_10 rfl (lv_at hl 2 rfl) ?_
    by_cases c3 : x2 = 0
    · have h := h.1 c3
      refine W.eq (g2 := F0 m 11 ls (.int 0 :: [])) (by rw [c3]) ?_
      refine lv_tableIn (tgt := 44) C.1 C.2.1 dX10_ofKnife_11 (by decide) (by decide) rfl (by decide) ?_
      refine lv_aload_n C.1 C.2.1 dX10_ofKnife_44 rfl (lv_at hl 0 rfl) ?_
      refine fw_get (w := (mw G mh ad)) C in_X10 hK hG 0 mw_o rfl 6 (by decide) k19 rfl rfl dX10_ofKnife_45 ?_
      refine lv_iload_n C.1 C.2.1 dX10_ofKnife_48 rfl (lv_at hl 1 rfl) ?_
      obtain ⟨c4, h⟩ := h
      refine fw_iald (w := (mw G mh ad)) C hK hG 4 mw_a6 c4 dX10_ofKnife_49 ?_
      exact fw_iret C hG ⟨h, rfl, rfl⟩ dX10_ofKnife_50
    have h := h.2
    by_cases c5 : x2 = 1
    · have h := h.1 c5
      refine W.eq (g2 := F0 m 11 ls (.int 1 :: [])) (by rw [c5]) ?_
      refine lv_tableIn (tgt := 51) C.1 C.2.1 dX10_ofKnife_11 (by decide) (by decide) rfl (by decide) ?_
      refine lv_aload_n C.1 C.2.1 dX10_ofKnife_51 rfl (lv_at hl 0 rfl) ?_
      refine fw_get (w := (mw G mh ad)) C in_X10 hK hG 0 mw_o rfl 7 (by decide) k22 rfl rfl dX10_ofKnife_52 ?_
      refine lv_iload_n C.1 C.2.1 dX10_ofKnife_55 rfl (lv_at hl 1 rfl) ?_
      obtain ⟨c6, h⟩ := h
      refine fw_iald (w := (mw G mh ad)) C hK hG 5 mw_a7 c6 dX10_ofKnife_56 ?_
      exact fw_iret C hG ⟨h, rfl, rfl⟩ dX10_ofKnife_57
    have h := h.2
    by_cases c7 : x2 = 2
    · have h := h.1 c7
      refine W.eq (g2 := F0 m 11 ls (.int 2 :: [])) (by rw [c7]) ?_
      refine lv_tableIn (tgt := 58) C.1 C.2.1 dX10_ofKnife_11 (by decide) (by decide) rfl (by decide) ?_
      refine lv_aload_n C.1 C.2.1 dX10_ofKnife_58 rfl (lv_at hl 0 rfl) ?_
      refine fw_get (w := (mw G mh ad)) C in_X10 hK hG 0 mw_o rfl 8 (by decide) k25 rfl rfl dX10_ofKnife_59 ?_
      refine lv_iload_n C.1 C.2.1 dX10_ofKnife_62 rfl (lv_at hl 1 rfl) ?_
      obtain ⟨c8, h⟩ := h
      refine fw_iald (w := (mw G mh ad)) C hK hG 6 mw_a8 c8 dX10_ofKnife_63 ?_
      exact fw_iret C hG ⟨h, rfl, rfl⟩ dX10_ofKnife_64
    have h := h.2
    by_cases c9 : x2 = 3
    · have h := h.1 c9
      refine W.eq (g2 := F0 m 11 ls (.int 3 :: [])) (by rw [c9]) ?_
      refine lv_tableIn (tgt := 65) C.1 C.2.1 dX10_ofKnife_11 (by decide) (by decide) rfl (by decide) ?_
      refine lv_aload_n C.1 C.2.1 dX10_ofKnife_65 rfl (lv_at hl 0 rfl) ?_
      refine fw_get (w := (mw G mh ad)) C in_X10 hK hG 0 mw_o rfl 9 (by decide) k28 rfl rfl dX10_ofKnife_66 ?_
      refine lv_iload_n C.1 C.2.1 dX10_ofKnife_69 rfl (lv_at hl 1 rfl) ?_
      obtain ⟨c10, h⟩ := h
      refine fw_iald (w := (mw G mh ad)) C hK hG 7 mw_a9 c10 dX10_ofKnife_70 ?_
      exact fw_iret C hG ⟨h, rfl, rfl⟩ dX10_ofKnife_71
    have h := h.2
    by_cases c11 : x2 = 4
    · have h := h.1 c11
      refine W.eq (g2 := F0 m 11 ls (.int 4 :: [])) (by rw [c11]) ?_
      refine lv_tableIn (tgt := 72) C.1 C.2.1 dX10_ofKnife_11 (by decide) (by decide) rfl (by decide) ?_
      refine lv_aload_n C.1 C.2.1 dX10_ofKnife_72 rfl (lv_at hl 0 rfl) ?_
      refine lv_iload_n C.1 C.2.1 dX10_ofKnife_73 rfl (lv_at hl 1 rfl) ?_
      refine fw_rcalli (va_runV (As := [.int x1]) (rest := []) ⟨C.1, C.2.1, C.2.2.2.2.2.2, C.2.2.2.2.2.1, C.2.2.2.2.1⟩ (soX10_width l G mh ad iv ar x1 _  h H.size) (cwV 1 C.2.2.2.2.1 gX10_ofKnife_X10_width rfl rfl rfl (by decide +kernel) ⟨Nat.le_of_ble_eq_true rfl, Nat.le_of_ble_eq_true rfl⟩) (fw_preV hG hK (ci := 10) rfl mw_o) rfl rfl hl.1 rfl (lv_room (Nat.le_of_ble_eq_true rfl)) dX10_ofKnife_74 ⟨Nat.zero_le _, Nat.zero_le _⟩) hG hK (fun r12  H locs h hG => ?_)
      exact fw_iret C hG ⟨h, rfl, rfl⟩ dX10_ofKnife_77
    have h := h.2
    have h := h c3
    have h := h c5
    have h := h c7
    have h := h c9
    have h := h c11
    have dn : x2.toInt < 0 ∨ 4 < x2.toInt := by
      have nc3 : x2.toInt ≠ 0 := fun z => c3 (Int32.toInt_inj.mp (z.trans (by decide)))
      have nc5 : x2.toInt ≠ 1 := fun z => c5 (Int32.toInt_inj.mp (z.trans (by decide)))
      have nc7 : x2.toInt ≠ 2 := fun z => c7 (Int32.toInt_inj.mp (z.trans (by decide)))
      have nc9 : x2.toInt ≠ 3 := fun z => c9 (Int32.toInt_inj.mp (z.trans (by decide)))
      have nc11 : x2.toInt ≠ 4 := fun z => c11 (Int32.toInt_inj.mp (z.trans (by decide)))
      omega
    refine lv_tableOut (tgt := 78) C.1 C.2.1 dX10_ofKnife_11 dn (by decide) ?_
    refine lv_bipush (v := (-2)) C.1 C.2.1 dX10_ofKnife_78 (by decide) ?_
    exact fw_iret C hG ⟨h, rfl, rfl⟩ dX10_ofKnife_80
  · have h := h.2 c2
    refine lv_iconst (v := (-1)) C.1 C.2.1 dX10_ofKnife_8 (by decide) ?_
    exact fw_iret C hG ⟨h, rfl, rfl⟩ dX10_ofKnife_9
/-! KnifeBoardModel.isStart(I)Z -/
def rmX10_isStart : Room := { frames := 1, cells := 0, slots := 0, locals := 22 }
def wpX10_isStart (x0 : Int32) (Q : Int32 → Prop) : Prop := wpX10_within x0 0 23 (fun (r1 : Int32) => (r1 = 0 ∨ r1 = 1) ∧ Q r1)
set_option maxHeartbeats 4000000 in
set_option maxRecDepth 100000 in
theorem soX10_isStart (l : Launch) (x0 : Int32) (Q : Int32 → Prop) (h : wpX10_isStart x0 Q) : fw_pM l yX10_isStart wsX10_isStart rmX10_isStart [.int x0] (fw_pQi Q) := by
  refine fw_pstart (cc := cX10_isStart) (nL := 1) (rt := (some .boolean)) (by decide) rfl (Nat.le_of_ble_eq_true rfl) ?_
  intro p e s m below meth c A ls H locs C hA hS hl
  obtain ⟨args, ea⟩ : ∃ z : Array Value, z = ([.int x0] : List Value).toArray := ⟨_, rfl⟩
  rw [← ea] at C ⊢
  have C : fw_C p s m args meth c cX10_isStart 1 (some .boolean) wsX10_isStart RX10 := C
  have hl : lv_has ls 1 [(0, .int x0)] := hl
  unfold wpX10_isStart at h
  refine lv_iload_n C.1 C.2.1 dX10_isStart_0 rfl (lv_at hl 0 rfl) ?_
  refine lv_iconst (v := 0) C.1 C.2.1 dX10_isStart_1 (by decide) ?_
  refine lv_bipush (v := 23) C.1 C.2.1 dX10_isStart_2 (by decide) ?_
  refine fw_ppcalli (va_runS (As := [.int x0, .int 0, .int 23]) (rest := []) ⟨C.1, C.2.1, C.2.2.2.2.2.2, C.2.2.2.2.2.1, C.2.2.2.2.1⟩ (soX10_within l x0 0 23 _ h H.size) (va_cwS 3 C.2.2.2.2.1 gX10_isStart_X10_within rfl rfl rfl (by decide +kernel) ⟨Nat.le_of_ble_eq_true rfl, Nat.le_of_ble_eq_true rfl⟩) fw_ppre rfl rfl hl.1 rfl (lv_room (Nat.le_of_ble_eq_true rfl)) dX10_isStart_4 ⟨Nat.zero_le _, Nat.zero_le _⟩) hS hA (fun r1  H locs h hS => ?_)
  obtain ⟨cb, h⟩ := h
  exact fw_pzret C hS (fw_nb cb) h dX10_isStart_7
/-! KnifeBoardModel.isFeet(I)Z -/
def rmX10_isFeet : Room := { frames := 1, cells := 0, slots := 0, locals := 22 }
def wpX10_isFeet (x0 : Int32) (Q : Int32 → Prop) : Prop := wpX10_within x0 1 40 (fun (r1 : Int32) => (r1 = 0 ∨ r1 = 1) ∧ Q r1)
set_option maxHeartbeats 4000000 in
set_option maxRecDepth 100000 in
theorem soX10_isFeet (l : Launch) (x0 : Int32) (Q : Int32 → Prop) (h : wpX10_isFeet x0 Q) : fw_pM l yX10_isFeet wsX10_isFeet rmX10_isFeet [.int x0] (fw_pQi Q) := by
  refine fw_pstart (cc := cX10_isFeet) (nL := 1) (rt := (some .boolean)) (by decide) rfl (Nat.le_of_ble_eq_true rfl) ?_
  intro p e s m below meth c A ls H locs C hA hS hl
  obtain ⟨args, ea⟩ : ∃ z : Array Value, z = ([.int x0] : List Value).toArray := ⟨_, rfl⟩
  rw [← ea] at C ⊢
  have C : fw_C p s m args meth c cX10_isFeet 1 (some .boolean) wsX10_isFeet RX10 := C
  have hl : lv_has ls 1 [(0, .int x0)] := hl
  unfold wpX10_isFeet at h
  refine lv_iload_n C.1 C.2.1 dX10_isFeet_0 rfl (lv_at hl 0 rfl) ?_
  refine lv_iconst (v := 1) C.1 C.2.1 dX10_isFeet_1 (by decide) ?_
  refine lv_bipush (v := 40) C.1 C.2.1 dX10_isFeet_2 (by decide) ?_
  refine fw_ppcalli (va_runS (As := [.int x0, .int 1, .int 40]) (rest := []) ⟨C.1, C.2.1, C.2.2.2.2.2.2, C.2.2.2.2.2.1, C.2.2.2.2.1⟩ (soX10_within l x0 1 40 _ h H.size) (va_cwS 3 C.2.2.2.2.1 gX10_isFeet_X10_within rfl rfl rfl (by decide +kernel) ⟨Nat.le_of_ble_eq_true rfl, Nat.le_of_ble_eq_true rfl⟩) fw_ppre rfl rfl hl.1 rfl (lv_room (Nat.le_of_ble_eq_true rfl)) dX10_isFeet_4 ⟨Nat.zero_le _, Nat.zero_le _⟩) hS hA (fun r1  H locs h hS => ?_)
  obtain ⟨cb, h⟩ := h
  exact fw_pzret C hS (fw_nb cb) h dX10_isFeet_7
/-! KnifeBoardModel.round(IIII)I -/
def rmX10_round : Room := { frames := 0, cells := 0, slots := 0, locals := 0 }
def wpX10_round (x0 : Int32) (x1 : Int32) (x2 : Int32) (x3 : Int32) (Q : Int32 → Prop) : Prop := ¬ (24 * x3) = 0 ∧ (Q (((x0 * x3) + (x1 * x2)) - ((x0 * x3) + (x1 * x2)) / (24 * x3) * (24 * x3)))
set_option maxHeartbeats 4000000 in
set_option maxRecDepth 100000 in
theorem soX10_round (l : Launch) (x0 : Int32) (x1 : Int32) (x2 : Int32) (x3 : Int32) (Q : Int32 → Prop) (h : wpX10_round x0 x1 x2 x3 Q) : fw_pM l yX10_round wsX10_round rmX10_round [.int x0, .int x1, .int x2, .int x3] (fw_pQi Q) := by
  refine fw_pstart (cc := cX10_round) (nL := 4) (rt := (some .int)) (by decide) rfl (Nat.le_of_ble_eq_true rfl) ?_
  intro p e s m below meth c A ls H locs C hA hS hl
  obtain ⟨args, ea⟩ : ∃ z : Array Value, z = ([.int x0, .int x1, .int x2, .int x3] : List Value).toArray := ⟨_, rfl⟩
  rw [← ea] at C ⊢
  have C : fw_C p s m args meth c cX10_round 4 (some .int) wsX10_round RX10 := C
  have hl : lv_has ls 4 [(0, .int x0), (1, .int x1), (2, .int x2), (3, .int x3)] := hl
  unfold wpX10_round at h
  refine lv_iload_n C.1 C.2.1 dX10_round_0 rfl (lv_at hl 0 rfl) ?_
  refine lv_iload_n C.1 C.2.1 dX10_round_1 rfl (lv_at hl 3 rfl) ?_
  refine lv_imul C.1 C.2.1 dX10_round_2 ?_
  refine lv_iload_n C.1 C.2.1 dX10_round_3 rfl (lv_at hl 1 rfl) ?_
  refine lv_iload_n C.1 C.2.1 dX10_round_4 rfl (lv_at hl 2 rfl) ?_
  refine lv_imul C.1 C.2.1 dX10_round_5 ?_
  refine lv_iadd C.1 C.2.1 dX10_round_6 ?_
  refine lv_bipush (v := 24) C.1 C.2.1 dX10_round_7 (by decide) ?_
  refine lv_iload_n C.1 C.2.1 dX10_round_9 rfl (lv_at hl 3 rfl) ?_
  refine lv_imul C.1 C.2.1 dX10_round_10 ?_
  obtain ⟨c1, h⟩ := h
  refine lv_irem C.1 C.2.1 dX10_round_11 c1 ?_
  exact fw_piret C hS h dX10_round_12
/-! KnifeBoardModel.lies(IIII)J -/
def rmX10_lies : Room := { frames := 2, cells := 0, slots := 0, locals := 55 }
def wpX10_lies (iv : fw_F) (ar : fw_R) (x1 : Int32) (x2 : Int32) (x3 : Int32) (x4 : Int32) (Q : Int64 → Prop) : Prop := wpX10_isKnife iv ar x1 (fun (r1 : Int32) => (r1 = 0 → (Q (-9223372036854775808))) ∧ (¬ r1 = 0 → (wpX10_isStart x2 (fun (r3 : Int32) => (r3 = 0 → (Q (-9223372036854775808))) ∧ (¬ r3 = 0 → (wpX10_isFeet x3 (fun (r5 : Int32) => (r5 = 0 → (Q (-9223372036854775808))) ∧ (¬ r5 = 0 → (wpX10_isWhich x4 (fun (r7 : Int32) => (¬ r7 = 0 → (vp_in x1 6 ∧ (vp_in x1 6 ∧ (wpX10_round x2 ((ar 8) x1.toNatClampNeg) x3 ((ar 7) x1.toNatClampNeg) (fun (r11 : Int32) => vp_in x1 6 ∧ (wpX10_share r11.toInt64 (((ar 7) x1.toNatClampNeg).toInt64) x4 (fun (r13 : Int64) => Q r13))))))) ∧ (r7 = 0 → (Q (-9223372036854775808)))))))))))))
set_option maxHeartbeats 4000000 in
set_option maxRecDepth 100000 in
theorem soX10_lies (l : Launch) (G : fw_G) (mh : Nat) (ad : Nat → Nat) (iv : fw_F) (ar : fw_R) (x1 : Int32) (x2 : Int32) (x3 : Int32) (x4 : Int32) (Q : Int64 → Prop)  (h : wpX10_lies iv ar x1 x2 x3 x4 Q) : fw_M l G (mw G mh ad) yX10_lies wsX10_lies rmX10_lies [.ref mh, .int x1, .int x2, .int x3, .int x4] iv ar (fw_Ql G (mw G mh ad) (fun r iv1 ar1 => Q r ∧ iv = iv1 ∧ ar = ar1)) := by
  refine fw_start (cc := cX10_lies) (nL := 5) (rt := (some .long)) (by decide) rfl (Nat.le_of_ble_eq_true rfl) ?_
  intro p e s m below meth c A ls H locs C hK hG hl
  obtain ⟨args, ea⟩ : ∃ z : Array Value, z = ([.ref mh, .int x1, .int x2, .int x3, .int x4] : List Value).toArray := ⟨_, rfl⟩
  rw [← ea] at C ⊢
  have C : fw_C p s m args meth c cX10_lies 5 (some .long) wsX10_lies RX10 := C
  have hl : lv_has ls 5 [(0, .ref mh), (1, .int x1), (2, .int x2), (3, .int x3), (4, .int x4)] := hl
  unfold wpX10_lies at h
  have in_X10 : ∀ x ∈ wsX100, x ∈ wsX10_lies := by decide +kernel
  have k22 := C.2.2.2.2.1 (.fieldLink RX10 22 "KnifeBoardModel" "pace" "[I") (by decide +kernel)
  have k25 := C.2.2.2.2.1 (.fieldLink RX10 25 "KnifeBoardModel" "turn" "[I") (by decide +kernel)
  have k75 := C.2.2.2.2.1 (.constantLong RX10 75 (-9223372036854775808)) (by decide +kernel)
  refine lv_aload_n C.1 C.2.1 dX10_lies_0 rfl (lv_at hl 0 rfl) ?_
  refine lv_iload_n C.1 C.2.1 dX10_lies_1 rfl (lv_at hl 1 rfl) ?_
  refine fw_rcalli (va_runV (As := [.int x1]) (rest := []) ⟨C.1, C.2.1, C.2.2.2.2.2.2, C.2.2.2.2.2.1, C.2.2.2.2.1⟩ (soX10_isKnife l G mh ad iv ar x1 _  h H.size) (cwV 1 C.2.2.2.2.1 gX10_lies_X10_isKnife rfl rfl rfl (by decide +kernel) ⟨Nat.le_of_ble_eq_true rfl, Nat.le_of_ble_eq_true rfl⟩) (fw_preV hG hK (ci := 10) rfl mw_o) rfl rfl hl.1 rfl (lv_room (Nat.le_of_ble_eq_true rfl)) dX10_lies_2 ⟨Nat.zero_le _, Nat.zero_le _⟩) hG hK (fun r1  H locs h hG => ?_)
  refine lv_if_eq (tgt := 30) C.1 C.2.1 dX10_lies_5 (by decide) (fun c2 => ?_) (fun c2 => ?_)
  · have h := h.1 c2
    refine lv_ldc2 C.1 C.2.1 C.2.2.2.2.2.1 k75 dX10_lies_30 ?_
    exact fw_lret C hG ⟨h, rfl, rfl⟩ dX10_lies_33
  · have h := h.2 c2
    refine lv_iload_n C.1 C.2.1 dX10_lies_8 rfl (lv_at hl 2 rfl) ?_
    refine fw_pcalli (va_runS (As := [.int x2]) (rest := []) ⟨C.1, C.2.1, C.2.2.2.2.2.2, C.2.2.2.2.2.1, C.2.2.2.2.1⟩ (soX10_isStart l x2 _ h H.size) (va_cwS 1 C.2.2.2.2.1 gX10_lies_X10_isStart rfl rfl rfl (by decide +kernel) ⟨Nat.le_of_ble_eq_true rfl, Nat.le_of_ble_eq_true rfl⟩) fw_ppre rfl rfl hl.1 rfl (lv_room (Nat.le_of_ble_eq_true rfl)) dX10_lies_9 ⟨Nat.zero_le _, Nat.zero_le _⟩) hG hK (fun r3  H locs h hG => ?_)
    refine lv_if_eq (tgt := 30) C.1 C.2.1 dX10_lies_12 (by decide) (fun c4 => ?_) (fun c4 => ?_)
    · have h := h.1 c4
      refine lv_ldc2 C.1 C.2.1 C.2.2.2.2.2.1 k75 dX10_lies_30 ?_
      exact fw_lret C hG ⟨h, rfl, rfl⟩ dX10_lies_33
    · have h := h.2 c4
      refine lv_iload_n C.1 C.2.1 dX10_lies_15 rfl (lv_at hl 3 rfl) ?_
      refine fw_pcalli (va_runS (As := [.int x3]) (rest := []) ⟨C.1, C.2.1, C.2.2.2.2.2.2, C.2.2.2.2.2.1, C.2.2.2.2.1⟩ (soX10_isFeet l x3 _ h H.size) (va_cwS 1 C.2.2.2.2.1 gX10_lies_X10_isFeet rfl rfl rfl (by decide +kernel) ⟨Nat.le_of_ble_eq_true rfl, Nat.le_of_ble_eq_true rfl⟩) fw_ppre rfl rfl hl.1 rfl (lv_room (Nat.le_of_ble_eq_true rfl)) dX10_lies_16 ⟨Nat.zero_le _, Nat.zero_le _⟩) hG hK (fun r5  H locs h hG => ?_)
      refine lv_if_eq (tgt := 30) C.1 C.2.1 dX10_lies_19 (by decide) (fun c6 => ?_) (fun c6 => ?_)
      · have h := h.1 c6
        refine lv_ldc2 C.1 C.2.1 C.2.2.2.2.2.1 k75 dX10_lies_30 ?_
        exact fw_lret C hG ⟨h, rfl, rfl⟩ dX10_lies_33
      · have h := h.2 c6
        refine lv_iload C.1 C.2.1 dX10_lies_22 (lv_at hl 4 rfl) ?_
        refine fw_pcalli (va_runS (As := [.int x4]) (rest := []) ⟨C.1, C.2.1, C.2.2.2.2.2.2, C.2.2.2.2.2.1, C.2.2.2.2.1⟩ (soX10_isWhich l x4 _ h H.size) (va_cwS 1 C.2.2.2.2.1 gX10_lies_X10_isWhich rfl rfl rfl (by decide +kernel) ⟨Nat.le_of_ble_eq_true rfl, Nat.le_of_ble_eq_true rfl⟩) fw_ppre rfl rfl hl.1 rfl (lv_room (Nat.le_of_ble_eq_true rfl)) dX10_lies_24 ⟨Nat.zero_le _, Nat.zero_le _⟩) hG hK (fun r7  H locs h hG => ?_)
        refine lv_if_ne (tgt := 34) C.1 C.2.1 dX10_lies_27 (by decide) (fun c8 => ?_) (fun c8 => ?_)
        · have h := h.1 c8
          refine lv_iload_n C.1 C.2.1 dX10_lies_34 rfl (lv_at hl 2 rfl) ?_
          refine lv_aload_n C.1 C.2.1 dX10_lies_35 rfl (lv_at hl 0 rfl) ?_
          refine fw_get (w := (mw G mh ad)) C in_X10 hK hG 0 mw_o rfl 8 (by decide) k25 rfl rfl dX10_lies_36 ?_
          refine lv_iload_n C.1 C.2.1 dX10_lies_39 rfl (lv_at hl 1 rfl) ?_
          obtain ⟨c9, h⟩ := h
          refine fw_iald (w := (mw G mh ad)) C hK hG 6 mw_a8 c9 dX10_lies_40 ?_
          refine lv_iload_n C.1 C.2.1 dX10_lies_41 rfl (lv_at hl 3 rfl) ?_
          refine lv_aload_n C.1 C.2.1 dX10_lies_42 rfl (lv_at hl 0 rfl) ?_
          refine fw_get (w := (mw G mh ad)) C in_X10 hK hG 0 mw_o rfl 7 (by decide) k22 rfl rfl dX10_lies_43 ?_
          refine lv_iload_n C.1 C.2.1 dX10_lies_46 rfl (lv_at hl 1 rfl) ?_
          obtain ⟨c10, h⟩ := h
          refine fw_iald (w := (mw G mh ad)) C hK hG 5 mw_a7 c10 dX10_lies_47 ?_
          refine fw_pcalli (va_runS (As := [.int x2, .int ((ar 8) x1.toNatClampNeg), .int x3, .int ((ar 7) x1.toNatClampNeg)]) (rest := []) ⟨C.1, C.2.1, C.2.2.2.2.2.2, C.2.2.2.2.2.1, C.2.2.2.2.1⟩ (soX10_round l x2 ((ar 8) x1.toNatClampNeg) x3 ((ar 7) x1.toNatClampNeg) _ h H.size) (va_cwS 4 C.2.2.2.2.1 gX10_lies_X10_round rfl rfl rfl (by decide +kernel) ⟨Nat.le_of_ble_eq_true rfl, Nat.le_of_ble_eq_true rfl⟩) fw_ppre rfl rfl hl.1 rfl (lv_room (Nat.le_of_ble_eq_true rfl)) dX10_lies_48 ⟨Nat.zero_le _, Nat.zero_le _⟩) hG hK (fun r11  H locs h hG => ?_)
          refine lv_i2l C.1 C.2.1 dX10_lies_51 rfl ?_
          refine lv_aload_n C.1 C.2.1 dX10_lies_52 rfl (lv_at hl 0 rfl) ?_
          refine fw_get (w := (mw G mh ad)) C in_X10 hK hG 0 mw_o rfl 7 (by decide) k22 rfl rfl dX10_lies_53 ?_
          refine lv_iload_n C.1 C.2.1 dX10_lies_56 rfl (lv_at hl 1 rfl) ?_
          obtain ⟨c12, h⟩ := h
          refine fw_iald (w := (mw G mh ad)) C hK hG 5 mw_a7 c12 dX10_lies_57 ?_
          refine lv_i2l C.1 C.2.1 dX10_lies_58 rfl ?_
          refine lv_iload C.1 C.2.1 dX10_lies_59 (lv_at hl 4 rfl) ?_
          refine fw_pcalll (va_runS (As := [.long r11.toInt64, .long (((ar 7) x1.toNatClampNeg).toInt64), .int x4]) (rest := []) ⟨C.1, C.2.1, C.2.2.2.2.2.2, C.2.2.2.2.2.1, C.2.2.2.2.1⟩ (soX10_share l r11.toInt64 (((ar 7) x1.toNatClampNeg).toInt64) x4 _ h H.size) (va_cwS 3 C.2.2.2.2.1 gX10_lies_X10_share rfl rfl rfl (by decide +kernel) ⟨Nat.le_of_ble_eq_true rfl, Nat.le_of_ble_eq_true rfl⟩) fw_ppre rfl rfl hl.1 rfl (lv_room (Nat.le_of_ble_eq_true rfl)) dX10_lies_61 ⟨Nat.zero_le _, Nat.zero_le _⟩) hG hK (fun r13  H locs h hG => ?_)
          exact fw_lret C hG ⟨h, rfl, rfl⟩ dX10_lies_64
        · have h := h.2 c8
          refine lv_ldc2 C.1 C.2.1 C.2.2.2.2.2.1 k75 dX10_lies_30 ?_
          exact fw_lret C hG ⟨h, rfl, rfl⟩ dX10_lies_33
/-! KnifeBoardModel.isNear(IIII)Z -/
def rmX10_isNear : Room := { frames := 0, cells := 0, slots := 0, locals := 0 }
def wpX10_isNear (x0 : Int32) (x1 : Int32) (x2 : Int32) (x3 : Int32) (Q : Int32 → Prop) : Prop := (x0 ≤ (x1 * x3) → (∀ y2 : Int32, y2 = (x1 * x3) - x0 → (∀ y3 : Int32, y3 = (24 * x3) - y2 → ((y3 ≤ y2 → (((x2 * x3) < y3 → (Q 0)) ∧ (¬ (x2 * x3) < y3 → (Q 1)))) ∧ (¬ y3 ≤ y2 → (((x2 * x3) < y2 → (Q 0)) ∧ (¬ (x2 * x3) < y2 → (Q 1)))))))) ∧ (¬ x0 ≤ (x1 * x3) → (∀ y7 : Int32, y7 = x0 - (x1 * x3) → (∀ y8 : Int32, y8 = (24 * x3) - y7 → ((y8 ≤ y7 → (((x2 * x3) < y8 → (Q 0)) ∧ (¬ (x2 * x3) < y8 → (Q 1)))) ∧ (¬ y8 ≤ y7 → (((x2 * x3) < y7 → (Q 0)) ∧ (¬ (x2 * x3) < y7 → (Q 1))))))))
set_option maxHeartbeats 4000000 in
set_option maxRecDepth 100000 in
theorem soX10_isNear (l : Launch) (x0 : Int32) (x1 : Int32) (x2 : Int32) (x3 : Int32) (Q : Int32 → Prop) (h : wpX10_isNear x0 x1 x2 x3 Q) : fw_pM l yX10_isNear wsX10_isNear rmX10_isNear [.int x0, .int x1, .int x2, .int x3] (fw_pQi Q) := by
  refine fw_pstart (cc := cX10_isNear) (nL := 6) (rt := (some .boolean)) (by decide) rfl (Nat.le_of_ble_eq_true rfl) ?_
  intro p e s m below meth c A ls H locs C hA hS hl
  obtain ⟨args, ea⟩ : ∃ z : Array Value, z = ([.int x0, .int x1, .int x2, .int x3] : List Value).toArray := ⟨_, rfl⟩
  rw [← ea] at C ⊢
  have C : fw_C p s m args meth c cX10_isNear 6 (some .boolean) wsX10_isNear RX10 := C
  have hl : lv_has ls 6 [(0, .int x0), (1, .int x1), (2, .int x2), (3, .int x3)] := hl
  unfold wpX10_isNear at h
  refine lv_iload_n C.1 C.2.1 dX10_isNear_0 rfl (lv_at hl 0 rfl) ?_
  refine lv_iload_n C.1 C.2.1 dX10_isNear_1 rfl (lv_at hl 1 rfl) ?_
  refine lv_iload_n C.1 C.2.1 dX10_isNear_2 rfl (lv_at hl 3 rfl) ?_
  refine lv_imul C.1 C.2.1 dX10_isNear_3 ?_
  refine lv_icmp_le (tgt := 15) C.1 C.2.1 dX10_isNear_4 (by decide) (fun c1 => ?_) (fun c1 => ?_)
  · have h := h.1 c1
    refine lv_iload_n C.1 C.2.1 dX10_isNear_15 rfl (lv_at hl 1 rfl) ?_
    refine lv_iload_n C.1 C.2.1 dX10_isNear_16 rfl (lv_at hl 3 rfl) ?_
    refine lv_imul C.1 C.2.1 dX10_isNear_17 ?_
    refine lv_iload_n C.1 C.2.1 dX10_isNear_18 rfl (lv_at hl 0 rfl) ?_
    refine lv_isub C.1 C.2.1 dX10_isNear_19 ?_
    refine lv_topi (fun y2 ey2 => ?_)
    have h := h y2 ey2
    refine lv_istore (lv' := [(4, .int y2), (0, .int x0), (1, .int x1), (2, .int x2), (3, .int x3)]) C.1 C.2.1 dX10_isNear_20 hl (by decide) rfl (fun ls hl => ?_)
    refine lv_bipush (v := 24) C.1 C.2.1 dX10_isNear_22 (by decide) ?_
    refine lv_iload_n C.1 C.2.1 dX10_isNear_24 rfl (lv_at hl 4 rfl) ?_
    refine lv_imul C.1 C.2.1 dX10_isNear_25 ?_
    refine lv_iload C.1 C.2.1 dX10_isNear_26 (lv_at hl 0 rfl) ?_
    refine lv_isub C.1 C.2.1 dX10_isNear_28 ?_
    refine lv_topi (fun y3 ey3 => ?_)
    have h := h y3 ey3
    refine lv_istore (lv' := [(5, .int y3), (4, .int y2), (0, .int x0), (1, .int x1), (2, .int x2), (3, .int x3)]) C.1 C.2.1 dX10_isNear_29 hl (by decide) rfl (fun ls hl => ?_)
    refine lv_iload C.1 C.2.1 dX10_isNear_31 (lv_at hl 1 rfl) ?_
    refine lv_iload C.1 C.2.1 dX10_isNear_33 (lv_at hl 0 rfl) ?_
    refine lv_icmp_ge (tgt := 43) C.1 C.2.1 dX10_isNear_35 (by decide) (fun c4 => ?_) (fun c4 => ?_)
    · have h := h.1 c4
      refine lv_iload C.1 C.2.1 dX10_isNear_43 (lv_at hl 0 rfl) ?_
      refine lv_iload_n C.1 C.2.1 dX10_isNear_45 rfl (lv_at hl 4 rfl) ?_
      refine lv_iload_n C.1 C.2.1 dX10_isNear_46 rfl (lv_at hl 5 rfl) ?_
      refine lv_imul C.1 C.2.1 dX10_isNear_47 ?_
      refine lv_icmp_gt (tgt := 55) C.1 C.2.1 dX10_isNear_48 (by decide) (fun c5 => ?_) (fun c5 => ?_)
      · have h := h.1 c5
        refine lv_iconst (v := 0) C.1 C.2.1 dX10_isNear_55 (by decide) ?_
        exact fw_pzret C hS (by decide) h dX10_isNear_56
      · have h := h.2 c5
        refine lv_iconst (v := 1) C.1 C.2.1 dX10_isNear_51 (by decide) ?_
        refine lv_goto (tgt := 56) C.1 C.2.1 dX10_isNear_52 (by decide) ?_
        exact fw_pzret C hS (by decide) h dX10_isNear_56
    · have h := h.2 c4
      refine lv_iload C.1 C.2.1 dX10_isNear_38 (lv_at hl 1 rfl) ?_
      refine lv_goto (tgt := 45) C.1 C.2.1 dX10_isNear_40 (by decide) ?_
      refine lv_iload_n C.1 C.2.1 dX10_isNear_45 rfl (lv_at hl 4 rfl) ?_
      refine lv_iload_n C.1 C.2.1 dX10_isNear_46 rfl (lv_at hl 5 rfl) ?_
      refine lv_imul C.1 C.2.1 dX10_isNear_47 ?_
      refine lv_icmp_gt (tgt := 55) C.1 C.2.1 dX10_isNear_48 (by decide) (fun c6 => ?_) (fun c6 => ?_)
      · have h := h.1 c6
        refine lv_iconst (v := 0) C.1 C.2.1 dX10_isNear_55 (by decide) ?_
        exact fw_pzret C hS (by decide) h dX10_isNear_56
      · have h := h.2 c6
        refine lv_iconst (v := 1) C.1 C.2.1 dX10_isNear_51 (by decide) ?_
        refine lv_goto (tgt := 56) C.1 C.2.1 dX10_isNear_52 (by decide) ?_
        exact fw_pzret C hS (by decide) h dX10_isNear_56
  · have h := h.2 c1
    refine lv_iload_n C.1 C.2.1 dX10_isNear_7 rfl (lv_at hl 0 rfl) ?_
    refine lv_iload_n C.1 C.2.1 dX10_isNear_8 rfl (lv_at hl 1 rfl) ?_
    refine lv_iload_n C.1 C.2.1 dX10_isNear_9 rfl (lv_at hl 3 rfl) ?_
    refine lv_imul C.1 C.2.1 dX10_isNear_10 ?_
    refine lv_isub C.1 C.2.1 dX10_isNear_11 ?_
    refine lv_goto (tgt := 20) C.1 C.2.1 dX10_isNear_12 (by decide) ?_
    refine lv_topi (fun y7 ey7 => ?_)
    have h := h y7 ey7
    refine lv_istore (lv' := [(4, .int y7), (0, .int x0), (1, .int x1), (2, .int x2), (3, .int x3)]) C.1 C.2.1 dX10_isNear_20 hl (by decide) rfl (fun ls hl => ?_)
    refine lv_bipush (v := 24) C.1 C.2.1 dX10_isNear_22 (by decide) ?_
    refine lv_iload_n C.1 C.2.1 dX10_isNear_24 rfl (lv_at hl 4 rfl) ?_
    refine lv_imul C.1 C.2.1 dX10_isNear_25 ?_
    refine lv_iload C.1 C.2.1 dX10_isNear_26 (lv_at hl 0 rfl) ?_
    refine lv_isub C.1 C.2.1 dX10_isNear_28 ?_
    refine lv_topi (fun y8 ey8 => ?_)
    have h := h y8 ey8
    refine lv_istore (lv' := [(5, .int y8), (4, .int y7), (0, .int x0), (1, .int x1), (2, .int x2), (3, .int x3)]) C.1 C.2.1 dX10_isNear_29 hl (by decide) rfl (fun ls hl => ?_)
    refine lv_iload C.1 C.2.1 dX10_isNear_31 (lv_at hl 1 rfl) ?_
    refine lv_iload C.1 C.2.1 dX10_isNear_33 (lv_at hl 0 rfl) ?_
    refine lv_icmp_ge (tgt := 43) C.1 C.2.1 dX10_isNear_35 (by decide) (fun c9 => ?_) (fun c9 => ?_)
    · have h := h.1 c9
      refine lv_iload C.1 C.2.1 dX10_isNear_43 (lv_at hl 0 rfl) ?_
      refine lv_iload_n C.1 C.2.1 dX10_isNear_45 rfl (lv_at hl 4 rfl) ?_
      refine lv_iload_n C.1 C.2.1 dX10_isNear_46 rfl (lv_at hl 5 rfl) ?_
      refine lv_imul C.1 C.2.1 dX10_isNear_47 ?_
      refine lv_icmp_gt (tgt := 55) C.1 C.2.1 dX10_isNear_48 (by decide) (fun c10 => ?_) (fun c10 => ?_)
      · have h := h.1 c10
        refine lv_iconst (v := 0) C.1 C.2.1 dX10_isNear_55 (by decide) ?_
        exact fw_pzret C hS (by decide) h dX10_isNear_56
      · have h := h.2 c10
        refine lv_iconst (v := 1) C.1 C.2.1 dX10_isNear_51 (by decide) ?_
        refine lv_goto (tgt := 56) C.1 C.2.1 dX10_isNear_52 (by decide) ?_
        exact fw_pzret C hS (by decide) h dX10_isNear_56
    · have h := h.2 c9
      refine lv_iload C.1 C.2.1 dX10_isNear_38 (lv_at hl 1 rfl) ?_
      refine lv_goto (tgt := 45) C.1 C.2.1 dX10_isNear_40 (by decide) ?_
      refine lv_iload_n C.1 C.2.1 dX10_isNear_45 rfl (lv_at hl 4 rfl) ?_
      refine lv_iload_n C.1 C.2.1 dX10_isNear_46 rfl (lv_at hl 5 rfl) ?_
      refine lv_imul C.1 C.2.1 dX10_isNear_47 ?_
      refine lv_icmp_gt (tgt := 55) C.1 C.2.1 dX10_isNear_48 (by decide) (fun c11 => ?_) (fun c11 => ?_)
      · have h := h.1 c11
        refine lv_iconst (v := 0) C.1 C.2.1 dX10_isNear_55 (by decide) ?_
        exact fw_pzret C hS (by decide) h dX10_isNear_56
      · have h := h.2 c11
        refine lv_iconst (v := 1) C.1 C.2.1 dX10_isNear_51 (by decide) ?_
        refine lv_goto (tgt := 56) C.1 C.2.1 dX10_isNear_52 (by decide) ?_
        exact fw_pzret C hS (by decide) h dX10_isNear_56
/-! KnifeBoardModel.came(III)I -/
def rmX10_came : Room := { frames := 1, cells := 0, slots := 0, locals := 25 }
def wpX10_came (x0 : Int32) (x1 : Int32) (x2 : Int32) (Q : Int32 → Prop) : Prop := wpX10_isNear x0 0 x1 x2 (fun (r1 : Int32) => (r1 = 0 → (wpX10_isNear x0 12 x1 x2 (fun (r3 : Int32) => (r3 = 0 → (wpX10_isNear x0 6 2 x2 (fun (r5 : Int32) => (¬ r5 = 0 → (Q 2)) ∧ (r5 = 0 → (wpX10_isNear x0 18 2 x2 (fun (r7 : Int32) => (r7 = 0 → (Q 3)) ∧ (¬ r7 = 0 → (Q 2)))))))) ∧ (¬ r3 = 0 → (Q 1))))) ∧ (¬ r1 = 0 → (Q 0)))
set_option maxHeartbeats 4000000 in
set_option maxRecDepth 100000 in
theorem soX10_came (l : Launch) (x0 : Int32) (x1 : Int32) (x2 : Int32) (Q : Int32 → Prop) (h : wpX10_came x0 x1 x2 Q) : fw_pM l yX10_came wsX10_came rmX10_came [.int x0, .int x1, .int x2] (fw_pQi Q) := by
  refine fw_pstart (cc := cX10_came) (nL := 3) (rt := (some .int)) (by decide) rfl (Nat.le_of_ble_eq_true rfl) ?_
  intro p e s m below meth c A ls H locs C hA hS hl
  obtain ⟨args, ea⟩ : ∃ z : Array Value, z = ([.int x0, .int x1, .int x2] : List Value).toArray := ⟨_, rfl⟩
  rw [← ea] at C ⊢
  have C : fw_C p s m args meth c cX10_came 3 (some .int) wsX10_came RX10 := C
  have hl : lv_has ls 3 [(0, .int x0), (1, .int x1), (2, .int x2)] := hl
  unfold wpX10_came at h
  refine lv_iload_n C.1 C.2.1 dX10_came_0 rfl (lv_at hl 0 rfl) ?_
  refine lv_iconst (v := 0) C.1 C.2.1 dX10_came_1 (by decide) ?_
  refine lv_iload_n C.1 C.2.1 dX10_came_2 rfl (lv_at hl 1 rfl) ?_
  refine lv_iload_n C.1 C.2.1 dX10_came_3 rfl (lv_at hl 2 rfl) ?_
  refine fw_ppcalli (va_runS (As := [.int x0, .int 0, .int x1, .int x2]) (rest := []) ⟨C.1, C.2.1, C.2.2.2.2.2.2, C.2.2.2.2.2.1, C.2.2.2.2.1⟩ (soX10_isNear l x0 0 x1 x2 _ h H.size) (va_cwS 4 C.2.2.2.2.1 gX10_came_X10_isNear rfl rfl rfl (by decide +kernel) ⟨Nat.le_of_ble_eq_true rfl, Nat.le_of_ble_eq_true rfl⟩) fw_ppre rfl rfl hl.1 rfl (lv_room (Nat.le_of_ble_eq_true rfl)) dX10_came_4 ⟨Nat.zero_le _, Nat.zero_le _⟩) hS hA (fun r1  H locs h hS => ?_)
  refine lv_if_eq (tgt := 12) C.1 C.2.1 dX10_came_7 (by decide) (fun c2 => ?_) (fun c2 => ?_)
  · have h := h.1 c2
    refine lv_iload_n C.1 C.2.1 dX10_came_12 rfl (lv_at hl 0 rfl) ?_
    refine lv_bipush (v := 12) C.1 C.2.1 dX10_came_13 (by decide) ?_
    refine lv_iload_n C.1 C.2.1 dX10_came_15 rfl (lv_at hl 1 rfl) ?_
    refine lv_iload_n C.1 C.2.1 dX10_came_16 rfl (lv_at hl 2 rfl) ?_
    refine fw_ppcalli (va_runS (As := [.int x0, .int 12, .int x1, .int x2]) (rest := []) ⟨C.1, C.2.1, C.2.2.2.2.2.2, C.2.2.2.2.2.1, C.2.2.2.2.1⟩ (soX10_isNear l x0 12 x1 x2 _ h H.size) (va_cwS 4 C.2.2.2.2.1 gX10_came_X10_isNear rfl rfl rfl (by decide +kernel) ⟨Nat.le_of_ble_eq_true rfl, Nat.le_of_ble_eq_true rfl⟩) fw_ppre rfl rfl hl.1 rfl (lv_room (Nat.le_of_ble_eq_true rfl)) dX10_came_17 ⟨Nat.zero_le _, Nat.zero_le _⟩) hS hA (fun r3  H locs h hS => ?_)
    refine lv_if_eq (tgt := 25) C.1 C.2.1 dX10_came_20 (by decide) (fun c4 => ?_) (fun c4 => ?_)
    · have h := h.1 c4
      refine lv_iload_n C.1 C.2.1 dX10_came_25 rfl (lv_at hl 0 rfl) ?_
      refine lv_bipush (v := 6) C.1 C.2.1 dX10_came_26 (by decide) ?_
      refine lv_iconst (v := 2) C.1 C.2.1 dX10_came_28 (by decide) ?_
      refine lv_iload_n C.1 C.2.1 dX10_came_29 rfl (lv_at hl 2 rfl) ?_
      refine fw_ppcalli (va_runS (As := [.int x0, .int 6, .int 2, .int x2]) (rest := []) ⟨C.1, C.2.1, C.2.2.2.2.2.2, C.2.2.2.2.2.1, C.2.2.2.2.1⟩ (soX10_isNear l x0 6 2 x2 _ h H.size) (va_cwS 4 C.2.2.2.2.1 gX10_came_X10_isNear rfl rfl rfl (by decide +kernel) ⟨Nat.le_of_ble_eq_true rfl, Nat.le_of_ble_eq_true rfl⟩) fw_ppre rfl rfl hl.1 rfl (lv_room (Nat.le_of_ble_eq_true rfl)) dX10_came_30 ⟨Nat.zero_le _, Nat.zero_le _⟩) hS hA (fun r5  H locs h hS => ?_)
      refine lv_if_ne (tgt := 47) C.1 C.2.1 dX10_came_33 (by decide) (fun c6 => ?_) (fun c6 => ?_)
      · have h := h.1 c6
        refine lv_iconst (v := 2) C.1 C.2.1 dX10_came_47 (by decide) ?_
        refine lv_goto (tgt := 52) C.1 C.2.1 dX10_came_48 (by decide) ?_
        exact fw_piret C hS h dX10_came_52
      · have h := h.2 c6
        refine lv_iload_n C.1 C.2.1 dX10_came_36 rfl (lv_at hl 0 rfl) ?_
        refine lv_bipush (v := 18) C.1 C.2.1 dX10_came_37 (by decide) ?_
        refine lv_iconst (v := 2) C.1 C.2.1 dX10_came_39 (by decide) ?_
        refine lv_iload_n C.1 C.2.1 dX10_came_40 rfl (lv_at hl 2 rfl) ?_
        refine fw_ppcalli (va_runS (As := [.int x0, .int 18, .int 2, .int x2]) (rest := []) ⟨C.1, C.2.1, C.2.2.2.2.2.2, C.2.2.2.2.2.1, C.2.2.2.2.1⟩ (soX10_isNear l x0 18 2 x2 _ h H.size) (va_cwS 4 C.2.2.2.2.1 gX10_came_X10_isNear rfl rfl rfl (by decide +kernel) ⟨Nat.le_of_ble_eq_true rfl, Nat.le_of_ble_eq_true rfl⟩) fw_ppre rfl rfl hl.1 rfl (lv_room (Nat.le_of_ble_eq_true rfl)) dX10_came_41 ⟨Nat.zero_le _, Nat.zero_le _⟩) hS hA (fun r7  H locs h hS => ?_)
        refine lv_if_eq (tgt := 51) C.1 C.2.1 dX10_came_44 (by decide) (fun c8 => ?_) (fun c8 => ?_)
        · have h := h.1 c8
          refine lv_iconst (v := 3) C.1 C.2.1 dX10_came_51 (by decide) ?_
          exact fw_piret C hS h dX10_came_52
        · have h := h.2 c8
          refine lv_iconst (v := 2) C.1 C.2.1 dX10_came_47 (by decide) ?_
          refine lv_goto (tgt := 52) C.1 C.2.1 dX10_came_48 (by decide) ?_
          exact fw_piret C hS h dX10_came_52
    · have h := h.2 c4
      refine lv_iconst (v := 1) C.1 C.2.1 dX10_came_23 (by decide) ?_
      exact fw_piret C hS h dX10_came_24
  · have h := h.2 c2
    refine lv_iconst (v := 0) C.1 C.2.1 dX10_came_10 (by decide) ?_
    exact fw_piret C hS h dX10_came_11
/-! KnifeBoardModel.cameOf(III)I -/
def rmX10_cameOf : Room := { frames := 2, cells := 0, slots := 0, locals := 47 }
def wpX10_cameOf (iv : fw_F) (ar : fw_R) (x1 : Int32) (x2 : Int32) (x3 : Int32) (Q : Int32 → Prop) : Prop := vp_in x1 6 ∧ (vp_in x1 6 ∧ (wpX10_round x2 ((ar 8) x1.toNatClampNeg) x3 ((ar 7) x1.toNatClampNeg) (fun (r3 : Int32) => wpX10_width iv ar x1 (fun (r4 : Int32) => vp_in x1 6 ∧ (wpX10_came r3 r4 ((ar 7) x1.toNatClampNeg) (fun (r6 : Int32) => Q r6))))))
set_option maxHeartbeats 4000000 in
set_option maxRecDepth 100000 in
theorem soX10_cameOf (l : Launch) (G : fw_G) (mh : Nat) (ad : Nat → Nat) (iv : fw_F) (ar : fw_R) (x1 : Int32) (x2 : Int32) (x3 : Int32) (Q : Int32 → Prop)  (h : wpX10_cameOf iv ar x1 x2 x3 Q) : fw_M l G (mw G mh ad) yX10_cameOf wsX10_cameOf rmX10_cameOf [.ref mh, .int x1, .int x2, .int x3] iv ar (fw_Qi G (mw G mh ad) (fun r iv1 ar1 => Q r ∧ iv = iv1 ∧ ar = ar1)) := by
  refine fw_start (cc := cX10_cameOf) (nL := 4) (rt := (some .int)) (by decide) rfl (Nat.le_of_ble_eq_true rfl) ?_
  intro p e s m below meth c A ls H locs C hK hG hl
  obtain ⟨args, ea⟩ : ∃ z : Array Value, z = ([.ref mh, .int x1, .int x2, .int x3] : List Value).toArray := ⟨_, rfl⟩
  rw [← ea] at C ⊢
  have C : fw_C p s m args meth c cX10_cameOf 4 (some .int) wsX10_cameOf RX10 := C
  have hl : lv_has ls 4 [(0, .ref mh), (1, .int x1), (2, .int x2), (3, .int x3)] := hl
  unfold wpX10_cameOf at h
  have in_X10 : ∀ x ∈ wsX100, x ∈ wsX10_cameOf := by decide +kernel
  have k22 := C.2.2.2.2.1 (.fieldLink RX10 22 "KnifeBoardModel" "pace" "[I") (by decide +kernel)
  have k25 := C.2.2.2.2.1 (.fieldLink RX10 25 "KnifeBoardModel" "turn" "[I") (by decide +kernel)
  refine lv_iload_n C.1 C.2.1 dX10_cameOf_0 rfl (lv_at hl 2 rfl) ?_
  refine lv_aload_n C.1 C.2.1 dX10_cameOf_1 rfl (lv_at hl 0 rfl) ?_
  refine fw_get (w := (mw G mh ad)) C in_X10 hK hG 0 mw_o rfl 8 (by decide) k25 rfl rfl dX10_cameOf_2 ?_
  refine lv_iload_n C.1 C.2.1 dX10_cameOf_5 rfl (lv_at hl 1 rfl) ?_
  obtain ⟨c1, h⟩ := h
  refine fw_iald (w := (mw G mh ad)) C hK hG 6 mw_a8 c1 dX10_cameOf_6 ?_
  refine lv_iload_n C.1 C.2.1 dX10_cameOf_7 rfl (lv_at hl 3 rfl) ?_
  refine lv_aload_n C.1 C.2.1 dX10_cameOf_8 rfl (lv_at hl 0 rfl) ?_
  refine fw_get (w := (mw G mh ad)) C in_X10 hK hG 0 mw_o rfl 7 (by decide) k22 rfl rfl dX10_cameOf_9 ?_
  refine lv_iload_n C.1 C.2.1 dX10_cameOf_12 rfl (lv_at hl 1 rfl) ?_
  obtain ⟨c2, h⟩ := h
  refine fw_iald (w := (mw G mh ad)) C hK hG 5 mw_a7 c2 dX10_cameOf_13 ?_
  refine fw_pcalli (va_runS (As := [.int x2, .int ((ar 8) x1.toNatClampNeg), .int x3, .int ((ar 7) x1.toNatClampNeg)]) (rest := []) ⟨C.1, C.2.1, C.2.2.2.2.2.2, C.2.2.2.2.2.1, C.2.2.2.2.1⟩ (soX10_round l x2 ((ar 8) x1.toNatClampNeg) x3 ((ar 7) x1.toNatClampNeg) _ h H.size) (va_cwS 4 C.2.2.2.2.1 gX10_cameOf_X10_round rfl rfl rfl (by decide +kernel) ⟨Nat.le_of_ble_eq_true rfl, Nat.le_of_ble_eq_true rfl⟩) fw_ppre rfl rfl hl.1 rfl (lv_room (Nat.le_of_ble_eq_true rfl)) dX10_cameOf_14 ⟨Nat.zero_le _, Nat.zero_le _⟩) hG hK (fun r3  H locs h hG => ?_)
  refine lv_aload_n C.1 C.2.1 dX10_cameOf_17 rfl (lv_at hl 0 rfl) ?_
  refine lv_iload_n C.1 C.2.1 dX10_cameOf_18 rfl (lv_at hl 1 rfl) ?_
  refine fw_rcalli (va_runV (As := [.int x1]) (rest := [.int r3]) ⟨C.1, C.2.1, C.2.2.2.2.2.2, C.2.2.2.2.2.1, C.2.2.2.2.1⟩ (soX10_width l G mh ad iv ar x1 _  h H.size) (cwV 1 C.2.2.2.2.1 gX10_cameOf_X10_width rfl rfl rfl (by decide +kernel) ⟨Nat.le_of_ble_eq_true rfl, Nat.le_of_ble_eq_true rfl⟩) (fw_preV hG hK (ci := 10) rfl mw_o) rfl rfl hl.1 rfl (lv_room (Nat.le_of_ble_eq_true rfl)) dX10_cameOf_19 ⟨Nat.zero_le _, Nat.zero_le _⟩) hG hK (fun r4  H locs h hG => ?_)
  refine lv_aload_n C.1 C.2.1 dX10_cameOf_22 rfl (lv_at hl 0 rfl) ?_
  refine fw_get (w := (mw G mh ad)) C in_X10 hK hG 0 mw_o rfl 7 (by decide) k22 rfl rfl dX10_cameOf_23 ?_
  refine lv_iload_n C.1 C.2.1 dX10_cameOf_26 rfl (lv_at hl 1 rfl) ?_
  obtain ⟨c5, h⟩ := h
  refine fw_iald (w := (mw G mh ad)) C hK hG 5 mw_a7 c5 dX10_cameOf_27 ?_
  refine fw_pcalli (va_runS (As := [.int r3, .int r4, .int ((ar 7) x1.toNatClampNeg)]) (rest := []) ⟨C.1, C.2.1, C.2.2.2.2.2.2, C.2.2.2.2.2.1, C.2.2.2.2.1⟩ (soX10_came l r3 r4 ((ar 7) x1.toNatClampNeg) _ h H.size) (va_cwS 3 C.2.2.2.2.1 gX10_cameOf_X10_came rfl rfl rfl (by decide +kernel) ⟨Nat.le_of_ble_eq_true rfl, Nat.le_of_ble_eq_true rfl⟩) fw_ppre rfl rfl hl.1 rfl (lv_room (Nat.le_of_ble_eq_true rfl)) dX10_cameOf_28 ⟨Nat.zero_le _, Nat.zero_le _⟩) hG hK (fun r6  H locs h hG => ?_)
  exact fw_iret C hG ⟨h, rfl, rfl⟩ dX10_cameOf_31
/-! KnifeBoardModel.isStuck(III)Z -/
def rmX10_isStuck : Room := { frames := 3, cells := 0, slots := 0, locals := 70 }
def wpX10_isStuck (iv : fw_F) (ar : fw_R) (x1 : Int32) (x2 : Int32) (x3 : Int32) (Q : Int32 → Prop) : Prop := wpX10_cameOf iv ar x1 x2 x3 (fun (r1 : Int32) => (r1 = 0 → (Q 1)) ∧ (¬ r1 = 0 → ((¬ r1 = 1 → (Q 0)) ∧ (r1 = 1 → (vp_in x1 6 ∧ ((¬ ((ar 6) x1.toNatClampNeg) = 2 → (Q 0)) ∧ (((ar 6) x1.toNatClampNeg) = 2 → (Q 1))))))))
set_option maxHeartbeats 4000000 in
set_option maxRecDepth 100000 in
theorem soX10_isStuck (l : Launch) (G : fw_G) (mh : Nat) (ad : Nat → Nat) (iv : fw_F) (ar : fw_R) (x1 : Int32) (x2 : Int32) (x3 : Int32) (Q : Int32 → Prop)  (h : wpX10_isStuck iv ar x1 x2 x3 Q) : fw_M l G (mw G mh ad) yX10_isStuck wsX10_isStuck rmX10_isStuck [.ref mh, .int x1, .int x2, .int x3] iv ar (fw_Qi G (mw G mh ad) (fun r iv1 ar1 => Q r ∧ iv = iv1 ∧ ar = ar1)) := by
  refine fw_start (cc := cX10_isStuck) (nL := 5) (rt := (some .boolean)) (by decide) rfl (Nat.le_of_ble_eq_true rfl) ?_
  intro p e s m below meth c A ls H locs C hK hG hl
  obtain ⟨args, ea⟩ : ∃ z : Array Value, z = ([.ref mh, .int x1, .int x2, .int x3] : List Value).toArray := ⟨_, rfl⟩
  rw [← ea] at C ⊢
  have C : fw_C p s m args meth c cX10_isStuck 5 (some .boolean) wsX10_isStuck RX10 := C
  have hl : lv_has ls 5 [(0, .ref mh), (1, .int x1), (2, .int x2), (3, .int x3)] := hl
  unfold wpX10_isStuck at h
  have in_X10 : ∀ x ∈ wsX100, x ∈ wsX10_isStuck := by decide +kernel
  have k19 := C.2.2.2.2.1 (.fieldLink RX10 19 "KnifeBoardModel" "kind" "[I") (by decide +kernel)
  refine lv_aload_n C.1 C.2.1 dX10_isStuck_0 rfl (lv_at hl 0 rfl) ?_
  refine lv_iload_n C.1 C.2.1 dX10_isStuck_1 rfl (lv_at hl 1 rfl) ?_
  refine lv_iload_n C.1 C.2.1 dX10_isStuck_2 rfl (lv_at hl 2 rfl) ?_
  refine lv_iload_n C.1 C.2.1 dX10_isStuck_3 rfl (lv_at hl 3 rfl) ?_
  refine fw_rcalli (va_runV (As := [.int x1, .int x2, .int x3]) (rest := []) ⟨C.1, C.2.1, C.2.2.2.2.2.2, C.2.2.2.2.2.1, C.2.2.2.2.1⟩ (soX10_cameOf l G mh ad iv ar x1 x2 x3 _  h H.size) (cwV 3 C.2.2.2.2.1 gX10_isStuck_X10_cameOf rfl rfl rfl (by decide +kernel) ⟨Nat.le_of_ble_eq_true rfl, Nat.le_of_ble_eq_true rfl⟩) (fw_preV hG hK (ci := 10) rfl mw_o) rfl rfl hl.1 rfl (lv_room (Nat.le_of_ble_eq_true rfl)) dX10_isStuck_4 ⟨Nat.zero_le _, Nat.zero_le _⟩) hG hK (fun r1  H locs h hG => ?_)
  refine lv_istore (lv' := [(4, .int r1), (0, .ref mh), (1, .int x1), (2, .int x2), (3, .int x3)]) C.1 C.2.1 dX10_isStuck_7 hl (by decide) rfl (fun ls hl => ?_)
  refine lv_iload C.1 C.2.1 dX10_isStuck_9 (lv_at hl 0 rfl) ?_
  refine lv_if_eq (tgt := 30) C.1 C.2.1 dX10_isStuck_11 (by decide) (fun c2 => ?_) (fun c2 => ?_)
  · have h := h.1 c2
    refine lv_iconst (v := 1) C.1 C.2.1 dX10_isStuck_30 (by decide) ?_
    refine lv_goto (tgt := 35) C.1 C.2.1 dX10_isStuck_31 (by decide) ?_
    exact fw_zret C hG (by decide) ⟨h, rfl, rfl⟩ dX10_isStuck_35
  · have h := h.2 c2
    refine lv_iload C.1 C.2.1 dX10_isStuck_14 (lv_at hl 0 rfl) ?_
    refine lv_iconst (v := 1) C.1 C.2.1 dX10_isStuck_16 (by decide) ?_
    refine lv_icmp_ne (tgt := 34) C.1 C.2.1 dX10_isStuck_17 (by decide) (fun c3 => ?_) (fun c3 => ?_)
    · have h := h.1 c3
      refine lv_iconst (v := 0) C.1 C.2.1 dX10_isStuck_34 (by decide) ?_
      exact fw_zret C hG (by decide) ⟨h, rfl, rfl⟩ dX10_isStuck_35
    · have h := h.2 c3
      refine lv_aload_n C.1 C.2.1 dX10_isStuck_20 rfl (lv_at hl 1 rfl) ?_
      refine fw_get (w := (mw G mh ad)) C in_X10 hK hG 0 mw_o rfl 6 (by decide) k19 rfl rfl dX10_isStuck_21 ?_
      refine lv_iload_n C.1 C.2.1 dX10_isStuck_24 rfl (lv_at hl 2 rfl) ?_
      obtain ⟨c4, h⟩ := h
      refine fw_iald (w := (mw G mh ad)) C hK hG 4 mw_a6 c4 dX10_isStuck_25 ?_
      refine lv_iconst (v := 2) C.1 C.2.1 dX10_isStuck_26 (by decide) ?_
      refine lv_icmp_ne (tgt := 34) C.1 C.2.1 dX10_isStuck_27 (by decide) (fun c5 => ?_) (fun c5 => ?_)
      · have h := h.1 c5
        refine lv_iconst (v := 0) C.1 C.2.1 dX10_isStuck_34 (by decide) ?_
        exact fw_zret C hG (by decide) ⟨h, rfl, rfl⟩ dX10_isStuck_35
      · have h := h.2 c5
        refine lv_iconst (v := 1) C.1 C.2.1 dX10_isStuck_30 (by decide) ?_
        refine lv_goto (tgt := 35) C.1 C.2.1 dX10_isStuck_31 (by decide) ?_
        exact fw_zret C hG (by decide) ⟨h, rfl, rfl⟩ dX10_isStuck_35
/-! KnifeBoardModel.comes(III)I -/
def rmX10_comes : Room := { frames := 3, cells := 0, slots := 0, locals := 70 }
def wpX10_comes (iv : fw_F) (ar : fw_R) (x1 : Int32) (x2 : Int32) (x3 : Int32) (Q : Int32 → Prop) : Prop := wpX10_isKnife iv ar x1 (fun (r1 : Int32) => (¬ r1 = 0 → (wpX10_isStart x2 (fun (r3 : Int32) => (r3 = 0 → (Q (-2))) ∧ (¬ r3 = 0 → (wpX10_isFeet x3 (fun (r5 : Int32) => (r5 = 0 → (Q (-2))) ∧ (¬ r5 = 0 → (wpX10_cameOf iv ar x1 x2 x3 (fun (r7 : Int32) => Q r7))))))))) ∧ (r1 = 0 → (Q (-1))))
set_option maxHeartbeats 4000000 in
set_option maxRecDepth 100000 in
theorem soX10_comes (l : Launch) (G : fw_G) (mh : Nat) (ad : Nat → Nat) (iv : fw_F) (ar : fw_R) (x1 : Int32) (x2 : Int32) (x3 : Int32) (Q : Int32 → Prop)  (h : wpX10_comes iv ar x1 x2 x3 Q) : fw_M l G (mw G mh ad) yX10_comes wsX10_comes rmX10_comes [.ref mh, .int x1, .int x2, .int x3] iv ar (fw_Qi G (mw G mh ad) (fun r iv1 ar1 => Q r ∧ iv = iv1 ∧ ar = ar1)) := by
  refine fw_start (cc := cX10_comes) (nL := 4) (rt := (some .int)) (by decide) rfl (Nat.le_of_ble_eq_true rfl) ?_
  intro p e s m below meth c A ls H locs C hK hG hl
  obtain ⟨args, ea⟩ : ∃ z : Array Value, z = ([.ref mh, .int x1, .int x2, .int x3] : List Value).toArray := ⟨_, rfl⟩
  rw [← ea] at C ⊢
  have C : fw_C p s m args meth c cX10_comes 4 (some .int) wsX10_comes RX10 := C
  have hl : lv_has ls 4 [(0, .ref mh), (1, .int x1), (2, .int x2), (3, .int x3)] := hl
  unfold wpX10_comes at h
  refine lv_aload_n C.1 C.2.1 dX10_comes_0 rfl (lv_at hl 0 rfl) ?_
  refine lv_iload_n C.1 C.2.1 dX10_comes_1 rfl (lv_at hl 1 rfl) ?_
  refine fw_rcalli (va_runV (As := [.int x1]) (rest := []) ⟨C.1, C.2.1, C.2.2.2.2.2.2, C.2.2.2.2.2.1, C.2.2.2.2.1⟩ (soX10_isKnife l G mh ad iv ar x1 _  h H.size) (cwV 1 C.2.2.2.2.1 gX10_comes_X10_isKnife rfl rfl rfl (by decide +kernel) ⟨Nat.le_of_ble_eq_true rfl, Nat.le_of_ble_eq_true rfl⟩) (fw_preV hG hK (ci := 10) rfl mw_o) rfl rfl hl.1 rfl (lv_room (Nat.le_of_ble_eq_true rfl)) dX10_comes_2 ⟨Nat.zero_le _, Nat.zero_le _⟩) hG hK (fun r1  H locs h hG => ?_)
  refine lv_if_ne (tgt := 10) C.1 C.2.1 dX10_comes_5 (by decide) (fun c2 => ?_) (fun c2 => ?_)
  · have h := h.1 c2
    refine lv_iload_n C.1 C.2.1 dX10_comes_10 rfl (lv_at hl 2 rfl) ?_
    refine fw_pcalli (va_runS (As := [.int x2]) (rest := []) ⟨C.1, C.2.1, C.2.2.2.2.2.2, C.2.2.2.2.2.1, C.2.2.2.2.1⟩ (soX10_isStart l x2 _ h H.size) (va_cwS 1 C.2.2.2.2.1 gX10_comes_X10_isStart rfl rfl rfl (by decide +kernel) ⟨Nat.le_of_ble_eq_true rfl, Nat.le_of_ble_eq_true rfl⟩) fw_ppre rfl rfl hl.1 rfl (lv_room (Nat.le_of_ble_eq_true rfl)) dX10_comes_11 ⟨Nat.zero_le _, Nat.zero_le _⟩) hG hK (fun r3  H locs h hG => ?_)
    refine lv_if_eq (tgt := 34) C.1 C.2.1 dX10_comes_14 (by decide) (fun c4 => ?_) (fun c4 => ?_)
    · have h := h.1 c4
      refine lv_bipush (v := (-2)) C.1 C.2.1 dX10_comes_34 (by decide) ?_
      exact fw_iret C hG ⟨h, rfl, rfl⟩ dX10_comes_36
    · have h := h.2 c4
      refine lv_iload_n C.1 C.2.1 dX10_comes_17 rfl (lv_at hl 3 rfl) ?_
      refine fw_pcalli (va_runS (As := [.int x3]) (rest := []) ⟨C.1, C.2.1, C.2.2.2.2.2.2, C.2.2.2.2.2.1, C.2.2.2.2.1⟩ (soX10_isFeet l x3 _ h H.size) (va_cwS 1 C.2.2.2.2.1 gX10_comes_X10_isFeet rfl rfl rfl (by decide +kernel) ⟨Nat.le_of_ble_eq_true rfl, Nat.le_of_ble_eq_true rfl⟩) fw_ppre rfl rfl hl.1 rfl (lv_room (Nat.le_of_ble_eq_true rfl)) dX10_comes_18 ⟨Nat.zero_le _, Nat.zero_le _⟩) hG hK (fun r5  H locs h hG => ?_)
      refine lv_if_eq (tgt := 34) C.1 C.2.1 dX10_comes_21 (by decide) (fun c6 => ?_) (fun c6 => ?_)
      · have h := h.1 c6
        refine lv_bipush (v := (-2)) C.1 C.2.1 dX10_comes_34 (by decide) ?_
        exact fw_iret C hG ⟨h, rfl, rfl⟩ dX10_comes_36
      · have h := h.2 c6
        refine lv_aload_n C.1 C.2.1 dX10_comes_24 rfl (lv_at hl 0 rfl) ?_
        refine lv_iload_n C.1 C.2.1 dX10_comes_25 rfl (lv_at hl 1 rfl) ?_
        refine lv_iload_n C.1 C.2.1 dX10_comes_26 rfl (lv_at hl 2 rfl) ?_
        refine lv_iload_n C.1 C.2.1 dX10_comes_27 rfl (lv_at hl 3 rfl) ?_
        refine fw_rcalli (va_runV (As := [.int x1, .int x2, .int x3]) (rest := []) ⟨C.1, C.2.1, C.2.2.2.2.2.2, C.2.2.2.2.2.1, C.2.2.2.2.1⟩ (soX10_cameOf l G mh ad iv ar x1 x2 x3 _  h H.size) (cwV 3 C.2.2.2.2.1 gX10_comes_X10_cameOf rfl rfl rfl (by decide +kernel) ⟨Nat.le_of_ble_eq_true rfl, Nat.le_of_ble_eq_true rfl⟩) (fw_preV hG hK (ci := 10) rfl mw_o) rfl rfl hl.1 rfl (lv_room (Nat.le_of_ble_eq_true rfl)) dX10_comes_28 ⟨Nat.zero_le _, Nat.zero_le _⟩) hG hK (fun r7  H locs h hG => ?_)
        refine lv_goto (tgt := 36) C.1 C.2.1 dX10_comes_31 (by decide) ?_
        exact fw_iret C hG ⟨h, rfl, rfl⟩ dX10_comes_36
  · have h := h.2 c2
    refine lv_iconst (v := (-1)) C.1 C.2.1 dX10_comes_8 (by decide) ?_
    exact fw_iret C hG ⟨h, rfl, rfl⟩ dX10_comes_9
/-! KnifeBoardModel.sticks(II)I -/
def rmX10_sticks : Room := { frames := 4, cells := 0, slots := 0, locals := 94 }
def wpX10_sticks_L25 (x1 : Int32) (x2 : Int32) (iv : fw_F) (ar : fw_R) (Q : Int32 → Prop) (K : Int32 → Int32 → Prop) : Nat → Int32 → Int32 → Prop
  | 0, _, _ => False
  | fu + 1, z3, z4 => (32 ≤ z4 → (K z3 z4)) ∧ (¬ 32 ≤ z4 → (wpX10_isStuck iv ar x1 x2 z4 (fun (r6 : Int32) => (r6 = 0 → (∀ y8 : Int32, y8 = z3 ||| 0 → (∀ y9 : Int32, y9 = z4 + 1 → (wpX10_sticks_L25 x1 x2 iv ar Q K fu y8 y9)))) ∧ (¬ r6 = 0 → (∀ y10 : Int32, y10 = z3 ||| ((1 : Int32) <<< ((z4 - 1) &&& 31)) → (∀ y11 : Int32, y11 = z4 + 1 → (wpX10_sticks_L25 x1 x2 iv ar Q K fu y10 y11)))))))
def wpX10_sticks (iv : fw_F) (ar : fw_R) (x1 : Int32) (x2 : Int32) (Q : Int32 → Prop) : Prop := wpX10_isKnife iv ar x1 (fun (r1 : Int32) => (¬ r1 = 0 → (wpX10_isStart x2 (fun (r3 : Int32) => (¬ r3 = 0 → (∃ ku : Nat, wpX10_sticks_L25 x1 x2 iv ar Q (fun (w12 : Int32) (w13 : Int32) => Q w12) ku 0 1)) ∧ (r3 = 0 → (Q (-2)))))) ∧ (r1 = 0 → (Q (-1))))
set_option maxHeartbeats 4000000 in
set_option maxRecDepth 100000 in
theorem soX10_sticks_L25 {p : Program} {l : Launch} {e : Env} {s : State} {m : MethodId} {args : Array Value} {below : List Frame} {meth : Method} {c : Code} {A : Nat → Prop} {G : fw_G} {mh : Nat} {ad : Nat → Nat} {x1 : Int32} {x2 : Int32} {iv : fw_F} {ar : fw_R} {Q : Int32 → Prop} {K : Int32 → Int32 → Prop} (C : fw_C p s m args meth c cX10_sticks 5 (some .int) wsX10_sticks RX10) (hK : fw_K G A s)  (hX : ∀ (z3 : Int32) (z4 : Int32), K z3 z4 → ∀ (H : Heap) (locs : List Loc), fw_H G ((mw G mh ad) iv ar) A s H locs → ∀ (ls : Array Slot), lv_has ls 5 [(4, .int z4), (3, .int z3), (0, .ref mh), (1, .int x1), (2, .int x2)] → W p l e rmX10_sticks s m args below meth c H locs 0 0 (MQ below (fw_Qi G (mw G mh ad) (fun r iv1 ar1 => Q r ∧ iv = iv1 ∧ ar = ar1) A) args s 0 0 A) (F0 m 62 ls [])) : ∀ (fu : Nat) (z3 : Int32) (z4 : Int32), wpX10_sticks_L25 x1 x2 iv ar Q K fu z3 z4 → ∀ (H : Heap) (locs : List Loc), fw_H G ((mw G mh ad) iv ar) A s H locs → ∀ (ls : Array Slot), lv_has ls 5 [(4, .int z4), (3, .int z3), (0, .ref mh), (1, .int x1), (2, .int x2)] → W p l e rmX10_sticks s m args below meth c H locs 0 0 (MQ below (fw_Qi G (mw G mh ad) (fun r iv1 ar1 => Q r ∧ iv = iv1 ∧ ar = ar1) A) args s 0 0 A) (F0 m 25 ls []) := by
  intro fu
  induction fu with
  | zero => intro z3 z4 h; exact h.elim
  | succ fu ih =>
    intro z3 z4 h H locs hG ls hl
    unfold wpX10_sticks_L25 at h
    refine lv_iload C.1 C.2.1 dX10_sticks_25 (lv_at hl 0 rfl) ?_
    refine lv_bipush (v := 32) C.1 C.2.1 dX10_sticks_27 (by decide) ?_
    refine lv_icmp_ge (tgt := 62) C.1 C.2.1 dX10_sticks_29 (by decide) (fun c5 => ?_) (fun c5 => ?_)
    · have h := h.1 c5
      exact hX _ _ h _ _ hG ls (lv_sub hl [0, 1, 2, 3, 4] rfl)
    · have h := h.2 c5
      refine lv_iload_n C.1 C.2.1 dX10_sticks_32 rfl (lv_at hl 1 rfl) ?_
      refine lv_aload_n C.1 C.2.1 dX10_sticks_33 rfl (lv_at hl 2 rfl) ?_
      refine lv_iload_n C.1 C.2.1 dX10_sticks_34 rfl (lv_at hl 3 rfl) ?_
      refine lv_iload_n C.1 C.2.1 dX10_sticks_35 rfl (lv_at hl 4 rfl) ?_
      refine lv_iload C.1 C.2.1 dX10_sticks_36 (lv_at hl 0 rfl) ?_
      refine fw_rcalli (va_runV (As := [.int x1, .int x2, .int z4]) (rest := [.int z3]) ⟨C.1, C.2.1, C.2.2.2.2.2.2, C.2.2.2.2.2.1, C.2.2.2.2.1⟩ (soX10_isStuck l G mh ad iv ar x1 x2 z4 _  h H.size) (cwV 3 C.2.2.2.2.1 gX10_sticks_X10_isStuck rfl rfl rfl (by decide +kernel) ⟨Nat.le_of_ble_eq_true rfl, Nat.le_of_ble_eq_true rfl⟩) (fw_preV hG hK (ci := 10) rfl mw_o) rfl rfl hl.1 rfl (lv_room (Nat.le_of_ble_eq_true rfl)) dX10_sticks_38 ⟨Nat.zero_le _, Nat.zero_le _⟩) hG hK (fun r6  H locs h hG => ?_)
      refine lv_if_eq (tgt := 53) C.1 C.2.1 dX10_sticks_41 (by decide) (fun c7 => ?_) (fun c7 => ?_)
      · have h := h.1 c7
        refine lv_iconst (v := 0) C.1 C.2.1 dX10_sticks_53 (by decide) ?_
        refine lv_ior C.1 C.2.1 dX10_sticks_54 ?_
        refine lv_topi (fun y8 ey8 => ?_)
        have h := h y8 ey8
        refine lv_istore_n (lv' := [(3, .int y8), (4, .int z4), (0, .ref mh), (1, .int x1), (2, .int x2)]) C.1 C.2.1 dX10_sticks_55 rfl hl (by decide) rfl (fun ls hl => ?_)
        obtain ⟨y9, ey9⟩ : ∃ z : Int32, z = z4 + 1 := ⟨_, rfl⟩
        have h := h y9 ey9
        refine lv_iinc (v := y9) (lv' := [(4, .int y9), (3, .int y8), (0, .ref mh), (1, .int x1), (2, .int x2)]) C.1 C.2.1 dX10_sticks_56 hl (k := 1) rfl (by rw [ey9]; rfl) (by decide) rfl (fun ls hl => ?_)
        refine lv_goto (tgt := 25) C.1 C.2.1 dX10_sticks_59 (by decide) ?_
        exact ih _ _ h _ _ hG ls (lv_sub hl [0, 1, 2, 3, 4] rfl)
      · have h := h.2 c7
        refine lv_iconst (v := 1) C.1 C.2.1 dX10_sticks_44 (by decide) ?_
        refine lv_iload C.1 C.2.1 dX10_sticks_45 (lv_at hl 0 rfl) ?_
        refine lv_iconst (v := 1) C.1 C.2.1 dX10_sticks_47 (by decide) ?_
        refine lv_isub C.1 C.2.1 dX10_sticks_48 ?_
        refine lv_ishl C.1 C.2.1 dX10_sticks_49 ?_
        refine lv_goto (tgt := 54) C.1 C.2.1 dX10_sticks_50 (by decide) ?_
        refine lv_ior C.1 C.2.1 dX10_sticks_54 ?_
        refine lv_topi (fun y10 ey10 => ?_)
        have h := h y10 ey10
        refine lv_istore_n (lv' := [(3, .int y10), (4, .int z4), (0, .ref mh), (1, .int x1), (2, .int x2)]) C.1 C.2.1 dX10_sticks_55 rfl hl (by decide) rfl (fun ls hl => ?_)
        obtain ⟨y11, ey11⟩ : ∃ z : Int32, z = z4 + 1 := ⟨_, rfl⟩
        have h := h y11 ey11
        refine lv_iinc (v := y11) (lv' := [(4, .int y11), (3, .int y10), (0, .ref mh), (1, .int x1), (2, .int x2)]) C.1 C.2.1 dX10_sticks_56 hl (k := 1) rfl (by rw [ey11]; rfl) (by decide) rfl (fun ls hl => ?_)
        refine lv_goto (tgt := 25) C.1 C.2.1 dX10_sticks_59 (by decide) ?_
        exact ih _ _ h _ _ hG ls (lv_sub hl [0, 1, 2, 3, 4] rfl)

set_option maxHeartbeats 4000000 in
set_option maxRecDepth 100000 in
theorem soX10_sticks (l : Launch) (G : fw_G) (mh : Nat) (ad : Nat → Nat) (iv : fw_F) (ar : fw_R) (x1 : Int32) (x2 : Int32) (Q : Int32 → Prop)  (h : wpX10_sticks iv ar x1 x2 Q) : fw_M l G (mw G mh ad) yX10_sticks wsX10_sticks rmX10_sticks [.ref mh, .int x1, .int x2] iv ar (fw_Qi G (mw G mh ad) (fun r iv1 ar1 => Q r ∧ iv = iv1 ∧ ar = ar1)) := by
  refine fw_start (cc := cX10_sticks) (nL := 5) (rt := (some .int)) (by decide) rfl (Nat.le_of_ble_eq_true rfl) ?_
  intro p e s m below meth c A ls H locs C hK hG hl
  obtain ⟨args, ea⟩ : ∃ z : Array Value, z = ([.ref mh, .int x1, .int x2] : List Value).toArray := ⟨_, rfl⟩
  rw [← ea] at C ⊢
  have C : fw_C p s m args meth c cX10_sticks 5 (some .int) wsX10_sticks RX10 := C
  have hl : lv_has ls 5 [(0, .ref mh), (1, .int x1), (2, .int x2)] := hl
  unfold wpX10_sticks at h
  refine lv_aload_n C.1 C.2.1 dX10_sticks_0 rfl (lv_at hl 0 rfl) ?_
  refine lv_iload_n C.1 C.2.1 dX10_sticks_1 rfl (lv_at hl 1 rfl) ?_
  refine fw_rcalli (va_runV (As := [.int x1]) (rest := []) ⟨C.1, C.2.1, C.2.2.2.2.2.2, C.2.2.2.2.2.1, C.2.2.2.2.1⟩ (soX10_isKnife l G mh ad iv ar x1 _  h H.size) (cwV 1 C.2.2.2.2.1 gX10_sticks_X10_isKnife rfl rfl rfl (by decide +kernel) ⟨Nat.le_of_ble_eq_true rfl, Nat.le_of_ble_eq_true rfl⟩) (fw_preV hG hK (ci := 10) rfl mw_o) rfl rfl hl.1 rfl (lv_room (Nat.le_of_ble_eq_true rfl)) dX10_sticks_2 ⟨Nat.zero_le _, Nat.zero_le _⟩) hG hK (fun r1  H locs h hG => ?_)
  refine lv_if_ne (tgt := 10) C.1 C.2.1 dX10_sticks_5 (by decide) (fun c2 => ?_) (fun c2 => ?_)
  · have h := h.1 c2
    refine lv_iload_n C.1 C.2.1 dX10_sticks_10 rfl (lv_at hl 2 rfl) ?_
    refine fw_pcalli (va_runS (As := [.int x2]) (rest := []) ⟨C.1, C.2.1, C.2.2.2.2.2.2, C.2.2.2.2.2.1, C.2.2.2.2.1⟩ (soX10_isStart l x2 _ h H.size) (va_cwS 1 C.2.2.2.2.1 gX10_sticks_X10_isStart rfl rfl rfl (by decide +kernel) ⟨Nat.le_of_ble_eq_true rfl, Nat.le_of_ble_eq_true rfl⟩) fw_ppre rfl rfl hl.1 rfl (lv_room (Nat.le_of_ble_eq_true rfl)) dX10_sticks_11 ⟨Nat.zero_le _, Nat.zero_le _⟩) hG hK (fun r3  H locs h hG => ?_)
    refine lv_if_ne (tgt := 20) C.1 C.2.1 dX10_sticks_14 (by decide) (fun c4 => ?_) (fun c4 => ?_)
    · have h := h.1 c4
      refine lv_iconst (v := 0) C.1 C.2.1 dX10_sticks_20 (by decide) ?_
      refine lv_istore_n (lv' := [(3, .int 0), (0, .ref mh), (1, .int x1), (2, .int x2)]) C.1 C.2.1 dX10_sticks_21 rfl hl (by decide) rfl (fun ls hl => ?_)
      refine lv_iconst (v := 1) C.1 C.2.1 dX10_sticks_22 (by decide) ?_
      refine lv_istore (lv' := [(4, .int 1), (3, .int 0), (0, .ref mh), (1, .int x1), (2, .int x2)]) C.1 C.2.1 dX10_sticks_23 hl (by decide) rfl (fun ls hl => ?_)
      obtain ⟨ku, h⟩ := h
      refine soX10_sticks_L25 C hK  ?_ ku _ _ h _ _ hG ls (lv_sub hl [0, 1, 2, 3, 4] rfl)
      intro w12 w13 h H locs hG ls hl
      refine lv_iload_n C.1 C.2.1 dX10_sticks_62 rfl (lv_at hl 1 rfl) ?_
      exact fw_iret C hG ⟨h, rfl, rfl⟩ dX10_sticks_63
    · have h := h.2 c4
      refine lv_bipush (v := (-2)) C.1 C.2.1 dX10_sticks_17 (by decide) ?_
      exact fw_iret C hG ⟨h, rfl, rfl⟩ dX10_sticks_19
  · have h := h.2 c2
    refine lv_iconst (v := (-1)) C.1 C.2.1 dX10_sticks_8 (by decide) ?_
    exact fw_iret C hG ⟨h, rfl, rfl⟩ dX10_sticks_9
/-! KnifeBoardModel.digitAt(II)I -/
def rmX10_digitAt : Room := { frames := 1, cells := 0, slots := 0, locals := 22 }
def wpX10_digitAt (iv : fw_F) (ar : fw_R) (x1 : Int32) (x2 : Int32) (Q : Int32 → Prop) : Prop := (x2 ≤ x1 → (Q (-9))) ∧ (¬ x2 ≤ x1 → (vp_in x1 320 ∧ (wpX10_within ((ar 4) x1.toNatClampNeg) 48 57 (fun (r3 : Int32) => (r3 = 0 → (Q (-9))) ∧ (¬ r3 = 0 → (vp_in x1 320 ∧ (Q (((ar 4) x1.toNatClampNeg) - 48))))))))
set_option maxHeartbeats 4000000 in
set_option maxRecDepth 100000 in
theorem soX10_digitAt (l : Launch) (G : fw_G) (mh : Nat) (ad : Nat → Nat) (iv : fw_F) (ar : fw_R) (x1 : Int32) (x2 : Int32) (Q : Int32 → Prop)  (h : wpX10_digitAt iv ar x1 x2 Q) : fw_M l G (mw G mh ad) yX10_digitAt wsX10_digitAt rmX10_digitAt [.ref mh, .int x1, .int x2] iv ar (fw_Qi G (mw G mh ad) (fun r iv1 ar1 => Q r ∧ iv = iv1 ∧ ar = ar1)) := by
  refine fw_start (cc := cX10_digitAt) (nL := 3) (rt := (some .int)) (by decide) rfl (Nat.le_of_ble_eq_true rfl) ?_
  intro p e s m below meth c A ls H locs C hK hG hl
  obtain ⟨args, ea⟩ : ∃ z : Array Value, z = ([.ref mh, .int x1, .int x2] : List Value).toArray := ⟨_, rfl⟩
  rw [← ea] at C ⊢
  have C : fw_C p s m args meth c cX10_digitAt 3 (some .int) wsX10_digitAt RX10 := C
  have hl : lv_has ls 3 [(0, .ref mh), (1, .int x1), (2, .int x2)] := hl
  unfold wpX10_digitAt at h
  have in_X10 : ∀ x ∈ wsX100, x ∈ wsX10_digitAt := by decide +kernel
  have k16 := C.2.2.2.2.1 (.fieldLink RX10 16 "KnifeBoardModel" "cells" "[I") (by decide +kernel)
  refine lv_iload_n C.1 C.2.1 dX10_digitAt_0 rfl (lv_at hl 1 rfl) ?_
  refine lv_iload_n C.1 C.2.1 dX10_digitAt_1 rfl (lv_at hl 2 rfl) ?_
  refine lv_icmp_ge (tgt := 33) C.1 C.2.1 dX10_digitAt_2 (by decide) (fun c1 => ?_) (fun c1 => ?_)
  · have h := h.1 c1
    refine lv_bipush (v := (-9)) C.1 C.2.1 dX10_digitAt_33 (by decide) ?_
    exact fw_iret C hG ⟨h, rfl, rfl⟩ dX10_digitAt_35
  · have h := h.2 c1
    refine lv_aload_n C.1 C.2.1 dX10_digitAt_5 rfl (lv_at hl 0 rfl) ?_
    refine fw_get (w := (mw G mh ad)) C in_X10 hK hG 0 mw_o rfl 4 (by decide) k16 rfl rfl dX10_digitAt_6 ?_
    refine lv_iload_n C.1 C.2.1 dX10_digitAt_9 rfl (lv_at hl 1 rfl) ?_
    obtain ⟨c2, h⟩ := h
    refine fw_iald (w := (mw G mh ad)) C hK hG 3 mw_a4 c2 dX10_digitAt_10 ?_
    refine lv_bipush (v := 48) C.1 C.2.1 dX10_digitAt_11 (by decide) ?_
    refine lv_bipush (v := 57) C.1 C.2.1 dX10_digitAt_13 (by decide) ?_
    refine fw_pcalli (va_runS (As := [.int ((ar 4) x1.toNatClampNeg), .int 48, .int 57]) (rest := []) ⟨C.1, C.2.1, C.2.2.2.2.2.2, C.2.2.2.2.2.1, C.2.2.2.2.1⟩ (soX10_within l ((ar 4) x1.toNatClampNeg) 48 57 _ h H.size) (va_cwS 3 C.2.2.2.2.1 gX10_digitAt_X10_within rfl rfl rfl (by decide +kernel) ⟨Nat.le_of_ble_eq_true rfl, Nat.le_of_ble_eq_true rfl⟩) fw_ppre rfl rfl hl.1 rfl (lv_room (Nat.le_of_ble_eq_true rfl)) dX10_digitAt_15 ⟨Nat.zero_le _, Nat.zero_le _⟩) hG hK (fun r3  H locs h hG => ?_)
    refine lv_if_eq (tgt := 33) C.1 C.2.1 dX10_digitAt_18 (by decide) (fun c4 => ?_) (fun c4 => ?_)
    · have h := h.1 c4
      refine lv_bipush (v := (-9)) C.1 C.2.1 dX10_digitAt_33 (by decide) ?_
      exact fw_iret C hG ⟨h, rfl, rfl⟩ dX10_digitAt_35
    · have h := h.2 c4
      refine lv_aload_n C.1 C.2.1 dX10_digitAt_21 rfl (lv_at hl 0 rfl) ?_
      refine fw_get (w := (mw G mh ad)) C in_X10 hK hG 0 mw_o rfl 4 (by decide) k16 rfl rfl dX10_digitAt_22 ?_
      refine lv_iload_n C.1 C.2.1 dX10_digitAt_25 rfl (lv_at hl 1 rfl) ?_
      obtain ⟨c5, h⟩ := h
      refine fw_iald (w := (mw G mh ad)) C hK hG 3 mw_a4 c5 dX10_digitAt_26 ?_
      refine lv_bipush (v := 48) C.1 C.2.1 dX10_digitAt_27 (by decide) ?_
      refine lv_isub C.1 C.2.1 dX10_digitAt_29 ?_
      refine lv_goto (tgt := 35) C.1 C.2.1 dX10_digitAt_30 (by decide) ?_
      exact fw_iret C hG ⟨h, rfl, rfl⟩ dX10_digitAt_35
/-! KnifeBoardModel.isCode(II)Z -/
def rmX10_isCode : Room := { frames := 0, cells := 0, slots := 0, locals := 0 }
def wpX10_isCode (iv : fw_F) (ar : fw_R) (x1 : Int32) (x2 : Int32) (Q : Int32 → Prop) : Prop := (x2 ≤ (iv 13) → (Q 0)) ∧ (¬ x2 ≤ (iv 13) → (vp_in (iv 13) 320 ∧ ((¬ ((ar 4) (iv 13).toNatClampNeg) = x1 → (Q 0)) ∧ (((ar 4) (iv 13).toNatClampNeg) = x1 → (Q 1)))))
set_option maxHeartbeats 4000000 in
set_option maxRecDepth 100000 in
theorem soX10_isCode (l : Launch) (G : fw_G) (mh : Nat) (ad : Nat → Nat) (iv : fw_F) (ar : fw_R) (x1 : Int32) (x2 : Int32) (Q : Int32 → Prop)  (h : wpX10_isCode iv ar x1 x2 Q) : fw_M l G (mw G mh ad) yX10_isCode wsX10_isCode rmX10_isCode [.ref mh, .int x1, .int x2] iv ar (fw_Qi G (mw G mh ad) (fun r iv1 ar1 => Q r ∧ iv = iv1 ∧ ar = ar1)) := by
  refine fw_start (cc := cX10_isCode) (nL := 3) (rt := (some .boolean)) (by decide) rfl (Nat.le_of_ble_eq_true rfl) ?_
  intro p e s m below meth c A ls H locs C hK hG hl
  obtain ⟨args, ea⟩ : ∃ z : Array Value, z = ([.ref mh, .int x1, .int x2] : List Value).toArray := ⟨_, rfl⟩
  rw [← ea] at C ⊢
  have C : fw_C p s m args meth c cX10_isCode 3 (some .boolean) wsX10_isCode RX10 := C
  have hl : lv_has ls 3 [(0, .ref mh), (1, .int x1), (2, .int x2)] := hl
  unfold wpX10_isCode at h
  have in_X10 : ∀ x ∈ wsX100, x ∈ wsX10_isCode := by decide +kernel
  have k127 := C.2.2.2.2.1 (.fieldLink RX10 127 "KnifeBoardModel" "at" "I") (by decide +kernel)
  have k16 := C.2.2.2.2.1 (.fieldLink RX10 16 "KnifeBoardModel" "cells" "[I") (by decide +kernel)
  refine lv_aload_n C.1 C.2.1 dX10_isCode_0 rfl (lv_at hl 0 rfl) ?_
  refine fw_get (w := (mw G mh ad)) C in_X10 hK hG 0 mw_o rfl 13 (by decide) k127 rfl rfl dX10_isCode_1 ?_
  refine lv_iload_n C.1 C.2.1 dX10_isCode_4 rfl (lv_at hl 2 rfl) ?_
  refine lv_icmp_ge (tgt := 25) C.1 C.2.1 dX10_isCode_5 (by decide) (fun c1 => ?_) (fun c1 => ?_)
  · have h := h.1 c1
    refine lv_iconst (v := 0) C.1 C.2.1 dX10_isCode_25 (by decide) ?_
    exact fw_zret C hG (by decide) ⟨h, rfl, rfl⟩ dX10_isCode_26
  · have h := h.2 c1
    refine lv_aload_n C.1 C.2.1 dX10_isCode_8 rfl (lv_at hl 0 rfl) ?_
    refine fw_get (w := (mw G mh ad)) C in_X10 hK hG 0 mw_o rfl 4 (by decide) k16 rfl rfl dX10_isCode_9 ?_
    refine lv_aload_n C.1 C.2.1 dX10_isCode_12 rfl (lv_at hl 0 rfl) ?_
    refine fw_get (w := (mw G mh ad)) C in_X10 hK hG 0 mw_o rfl 13 (by decide) k127 rfl rfl dX10_isCode_13 ?_
    obtain ⟨c2, h⟩ := h
    refine fw_iald (w := (mw G mh ad)) C hK hG 3 mw_a4 c2 dX10_isCode_16 ?_
    refine lv_iload_n C.1 C.2.1 dX10_isCode_17 rfl (lv_at hl 1 rfl) ?_
    refine lv_icmp_ne (tgt := 25) C.1 C.2.1 dX10_isCode_18 (by decide) (fun c3 => ?_) (fun c3 => ?_)
    · have h := h.1 c3
      refine lv_iconst (v := 0) C.1 C.2.1 dX10_isCode_25 (by decide) ?_
      exact fw_zret C hG (by decide) ⟨h, rfl, rfl⟩ dX10_isCode_26
    · have h := h.2 c3
      refine lv_iconst (v := 1) C.1 C.2.1 dX10_isCode_21 (by decide) ?_
      refine lv_goto (tgt := 26) C.1 C.2.1 dX10_isCode_22 (by decide) ?_
      exact fw_zret C hG (by decide) ⟨h, rfl, rfl⟩ dX10_isCode_26
/-! KnifeBoardModel.readRow(II)Z -/
def rmX10_readRow : Room := { frames := 2, cells := 0, slots := 0, locals := 44 }
def wpX10_readRow_L5 (x1 : Int32) (x2 : Int32) (Q : Int32 → fw_F → fw_R → Prop) (K : Int32 → Int32 → fw_F → fw_R → Prop) : Nat → Int32 → Int32 → fw_F → fw_R → Prop
  | 0, _, _, _, _ => False
  | fu + 1, z3, z4, iv, ar => (5 ≤ z4 → (K z3 z4 iv ar)) ∧ (¬ 5 ≤ z4 → (wpX10_digitAt iv ar (iv 13) x2 (fun (r2 : Int32) => (r2 = (-9) → (Q 0 iv ar)) ∧ (¬ r2 = (-9) → ((¬ z4 = 4 → (vp_in ((5 * x1) + z4) 15 ∧ (∀ ar6 : fw_R, ar6 = va_up ar 15 (upd (ar 15) ((5 * x1) + z4).toNatClampNeg r2) → (∀ y7 : Int32, y7 = z3 + r2 → (∀ iv8 : fw_F, iv8 = va_up iv 13 ((iv 13) + 1) → (∀ y9 : Int32, y9 = z4 + 1 → (wpX10_readRow_L5 x1 x2 Q K fu y7 y9 iv8 ar6))))))) ∧ (z4 = 4 → ((¬ (z3 + r2) = 0 → (vp_in ((5 * x1) + z4) 15 ∧ (∀ ar12 : fw_R, ar12 = va_up ar 15 (upd (ar 15) ((5 * x1) + z4).toNatClampNeg r2) → (∀ y13 : Int32, y13 = z3 + r2 → (∀ iv14 : fw_F, iv14 = va_up iv 13 ((iv 13) + 1) → (∀ y15 : Int32, y15 = z4 + 1 → (wpX10_readRow_L5 x1 x2 Q K fu y13 y15 iv14 ar12))))))) ∧ ((z3 + r2) = 0 → (Q 0 iv ar)))))))))
def wpX10_readRow (iv : fw_F) (ar : fw_R) (x1 : Int32) (x2 : Int32) (Q : Int32 → fw_F → fw_R → Prop) : Prop := ∃ ku : Nat, wpX10_readRow_L5 x1 x2 Q (fun (w16 : Int32) (w17 : Int32) (iv18 : fw_F) (ar19 : fw_R) => Q 1 iv18 ar19) ku 0 0 iv ar
set_option maxHeartbeats 4000000 in
set_option maxRecDepth 100000 in
theorem soX10_readRow_L5 {p : Program} {l : Launch} {e : Env} {s : State} {m : MethodId} {args : Array Value} {below : List Frame} {meth : Method} {c : Code} {A : Nat → Prop} {G : fw_G} {mh : Nat} {ad : Nat → Nat} {x1 : Int32} {x2 : Int32} {Q : Int32 → fw_F → fw_R → Prop} {K : Int32 → Int32 → fw_F → fw_R → Prop} (C : fw_C p s m args meth c cX10_readRow 6 (some .boolean) wsX10_readRow RX10) (hK : fw_K G A s)  (hX : ∀ (z3 : Int32) (z4 : Int32) (iv : fw_F) (ar : fw_R), K z3 z4 iv ar → ∀ (H : Heap) (locs : List Loc), fw_H G ((mw G mh ad) iv ar) A s H locs → ∀ (ls : Array Slot), lv_has ls 6 [(4, .int z4), (3, .int z3), (0, .ref mh), (1, .int x1), (2, .int x2)] → W p l e rmX10_readRow s m args below meth c H locs 0 0 (MQ below (fw_Qi G (mw G mh ad) Q A) args s 0 0 A) (F0 m 78 ls [])) : ∀ (fu : Nat) (z3 : Int32) (z4 : Int32) (iv : fw_F) (ar : fw_R), wpX10_readRow_L5 x1 x2 Q K fu z3 z4 iv ar → ∀ (H : Heap) (locs : List Loc), fw_H G ((mw G mh ad) iv ar) A s H locs → ∀ (ls : Array Slot), lv_has ls 6 [(4, .int z4), (3, .int z3), (0, .ref mh), (1, .int x1), (2, .int x2)] → W p l e rmX10_readRow s m args below meth c H locs 0 0 (MQ below (fw_Qi G (mw G mh ad) Q A) args s 0 0 A) (F0 m 5 ls []) := by
  intro fu
  have in_X10 : ∀ x ∈ wsX100, x ∈ wsX10_readRow := by decide +kernel
  have k127 := C.2.2.2.2.1 (.fieldLink RX10 127 "KnifeBoardModel" "at" "I") (by decide +kernel)
  have k34 := C.2.2.2.2.1 (.fieldLink RX10 34 "KnifeBoardModel" "readStrays" "[I") (by decide +kernel)
  induction fu with
  | zero => intro z3 z4 iv ar h; exact h.elim
  | succ fu ih =>
    intro z3 z4 iv ar h H locs hG ls hl
    unfold wpX10_readRow_L5 at h
    refine lv_iload C.1 C.2.1 dX10_readRow_5 (lv_at hl 0 rfl) ?_
    refine lv_iconst (v := 5) C.1 C.2.1 dX10_readRow_7 (by decide) ?_
    refine lv_icmp_ge (tgt := 78) C.1 C.2.1 dX10_readRow_8 (by decide) (fun c1 => ?_) (fun c1 => ?_)
    · have h := h.1 c1
      exact hX _ _ _ _ h _ _ hG ls (lv_sub hl [0, 1, 2, 3, 4] rfl)
    · have h := h.2 c1
      refine lv_aload_n C.1 C.2.1 dX10_readRow_11 rfl (lv_at hl 2 rfl) ?_
      refine lv_aload_n C.1 C.2.1 dX10_readRow_12 rfl (lv_at hl 2 rfl) ?_
      refine fw_get (w := (mw G mh ad)) C in_X10 hK hG 0 mw_o rfl 13 (by decide) k127 rfl rfl dX10_readRow_13 ?_
      refine lv_iload_n C.1 C.2.1 dX10_readRow_16 rfl (lv_at hl 4 rfl) ?_
      refine fw_rcalli (va_runV (As := [.int (iv 13), .int x2]) (rest := []) ⟨C.1, C.2.1, C.2.2.2.2.2.2, C.2.2.2.2.2.1, C.2.2.2.2.1⟩ (soX10_digitAt l G mh ad iv ar (iv 13) x2 _  h H.size) (cwV 2 C.2.2.2.2.1 gX10_readRow_X10_digitAt rfl rfl rfl (by decide +kernel) ⟨Nat.le_of_ble_eq_true rfl, Nat.le_of_ble_eq_true rfl⟩) (fw_preV hG hK (ci := 10) rfl mw_o) rfl rfl hl.1 rfl (lv_room (Nat.le_of_ble_eq_true rfl)) dX10_readRow_17 ⟨Nat.zero_le _, Nat.zero_le _⟩) hG hK (fun r2  H locs h hG => ?_)
      refine lv_istore (lv' := [(5, .int r2), (4, .int z4), (3, .int z3), (0, .ref mh), (1, .int x1), (2, .int x2)]) C.1 C.2.1 dX10_readRow_20 hl (by decide) rfl (fun ls hl => ?_)
      refine lv_iload C.1 C.2.1 dX10_readRow_22 (lv_at hl 0 rfl) ?_
      refine lv_bipush (v := (-9)) C.1 C.2.1 dX10_readRow_24 (by decide) ?_
      refine lv_icmp_eq (tgt := 42) C.1 C.2.1 dX10_readRow_26 (by decide) (fun c3 => ?_) (fun c3 => ?_)
      · have h := h.1 c3
        refine lv_iconst (v := 0) C.1 C.2.1 dX10_readRow_42 (by decide) ?_
        exact fw_zret C hG (by decide) h dX10_readRow_43
      · have h := h.2 c3
        refine lv_iload C.1 C.2.1 dX10_readRow_29 (lv_at hl 1 rfl) ?_
        refine lv_iconst (v := 4) C.1 C.2.1 dX10_readRow_31 (by decide) ?_
        refine lv_icmp_ne (tgt := 44) C.1 C.2.1 dX10_readRow_32 (by decide) (fun c4 => ?_) (fun c4 => ?_)
        · have h := h.1 c4
          refine lv_aload_n C.1 C.2.1 dX10_readRow_44 rfl (lv_at hl 3 rfl) ?_
          refine fw_get (w := (mw G mh ad)) C in_X10 hK hG 0 mw_o rfl 15 (by decide) k34 rfl rfl dX10_readRow_45 ?_
          refine lv_iconst (v := 5) C.1 C.2.1 dX10_readRow_48 (by decide) ?_
          refine lv_iload_n C.1 C.2.1 dX10_readRow_49 rfl (lv_at hl 4 rfl) ?_
          refine lv_imul C.1 C.2.1 dX10_readRow_50 ?_
          refine lv_iload C.1 C.2.1 dX10_readRow_51 (lv_at hl 1 rfl) ?_
          refine lv_iadd C.1 C.2.1 dX10_readRow_53 ?_
          refine lv_iload C.1 C.2.1 dX10_readRow_54 (lv_at hl 0 rfl) ?_
          obtain ⟨c5, h⟩ := h
          obtain ⟨ar6, ear6⟩ : ∃ z : fw_R, z = va_up ar 15 (upd (ar 15) ((5 * x1) + z4).toNatClampNeg r2) := ⟨_, rfl⟩
          have h := h ar6 ear6
          refine fw_iast (w := (mw G mh ad)) C hK hG 9 mw_a15 c5 (ar1 := ar6) (by rw [ear6]; exact mw_s15) dX10_readRow_56 (fun H locs hG => ?_)
          refine lv_iload_n C.1 C.2.1 dX10_readRow_57 rfl (lv_at hl 2 rfl) ?_
          refine lv_iload C.1 C.2.1 dX10_readRow_58 (lv_at hl 0 rfl) ?_
          refine lv_iadd C.1 C.2.1 dX10_readRow_60 ?_
          refine lv_topi (fun y7 ey7 => ?_)
          have h := h y7 ey7
          refine lv_istore_n (lv' := [(3, .int y7), (5, .int r2), (4, .int z4), (0, .ref mh), (1, .int x1), (2, .int x2)]) C.1 C.2.1 dX10_readRow_61 rfl hl (by decide) rfl (fun ls hl => ?_)
          refine lv_aload_n C.1 C.2.1 dX10_readRow_62 rfl (lv_at hl 3 rfl) ?_
          refine lv_dup C.1 C.2.1 dX10_readRow_63 rfl ?_
          refine fw_get (w := (mw G mh ad)) C in_X10 hK hG 0 mw_o rfl 13 (by decide) k127 rfl rfl dX10_readRow_64 ?_
          refine lv_iconst (v := 1) C.1 C.2.1 dX10_readRow_67 (by decide) ?_
          refine lv_iadd C.1 C.2.1 dX10_readRow_68 ?_
          obtain ⟨iv8, eiv8⟩ : ∃ z : fw_F, z = va_up iv 13 ((iv 13) + 1) := ⟨_, rfl⟩
          have h := h iv8 eiv8
          refine fw_put (w := (mw G mh ad)) C in_X10 tyX10 tyX10_ok nmX10 hK hG 0 mw_o rfl 13 (by decide) k127 rfl rfl (ty := .int) (v := .int ((iv 13) + 1)) (by decide +kernel) rfl rfl (by first | decide | exact Nat.le_of_ble_eq_true rfl) (iv1 := iv8) (by rw [eiv8]; exact mw_p13) dX10_readRow_69 (fun H locs hG => ?_)
          obtain ⟨y9, ey9⟩ : ∃ z : Int32, z = z4 + 1 := ⟨_, rfl⟩
          have h := h y9 ey9
          refine lv_iinc (v := y9) (lv' := [(4, .int y9), (3, .int y7), (5, .int r2), (0, .ref mh), (1, .int x1), (2, .int x2)]) C.1 C.2.1 dX10_readRow_72 hl (k := 2) rfl (by rw [ey9]; rfl) (by decide) rfl (fun ls hl => ?_)
          refine lv_goto (tgt := 5) C.1 C.2.1 dX10_readRow_75 (by decide) ?_
          exact ih _ _ _ _ h _ _ hG ls (lv_sub hl [0, 1, 3, 4, 5] rfl)
        · have h := h.2 c4
          refine lv_iload_n C.1 C.2.1 dX10_readRow_35 rfl (lv_at hl 2 rfl) ?_
          refine lv_iload C.1 C.2.1 dX10_readRow_36 (lv_at hl 0 rfl) ?_
          refine lv_iadd C.1 C.2.1 dX10_readRow_38 ?_
          refine lv_if_ne (tgt := 44) C.1 C.2.1 dX10_readRow_39 (by decide) (fun c10 => ?_) (fun c10 => ?_)
          · have h := h.1 c10
            refine lv_aload_n C.1 C.2.1 dX10_readRow_44 rfl (lv_at hl 3 rfl) ?_
            refine fw_get (w := (mw G mh ad)) C in_X10 hK hG 0 mw_o rfl 15 (by decide) k34 rfl rfl dX10_readRow_45 ?_
            refine lv_iconst (v := 5) C.1 C.2.1 dX10_readRow_48 (by decide) ?_
            refine lv_iload_n C.1 C.2.1 dX10_readRow_49 rfl (lv_at hl 4 rfl) ?_
            refine lv_imul C.1 C.2.1 dX10_readRow_50 ?_
            refine lv_iload C.1 C.2.1 dX10_readRow_51 (lv_at hl 1 rfl) ?_
            refine lv_iadd C.1 C.2.1 dX10_readRow_53 ?_
            refine lv_iload C.1 C.2.1 dX10_readRow_54 (lv_at hl 0 rfl) ?_
            obtain ⟨c11, h⟩ := h
            obtain ⟨ar12, ear12⟩ : ∃ z : fw_R, z = va_up ar 15 (upd (ar 15) ((5 * x1) + z4).toNatClampNeg r2) := ⟨_, rfl⟩
            have h := h ar12 ear12
            refine fw_iast (w := (mw G mh ad)) C hK hG 9 mw_a15 c11 (ar1 := ar12) (by rw [ear12]; exact mw_s15) dX10_readRow_56 (fun H locs hG => ?_)
            refine lv_iload_n C.1 C.2.1 dX10_readRow_57 rfl (lv_at hl 2 rfl) ?_
            refine lv_iload C.1 C.2.1 dX10_readRow_58 (lv_at hl 0 rfl) ?_
            refine lv_iadd C.1 C.2.1 dX10_readRow_60 ?_
            refine lv_topi (fun y13 ey13 => ?_)
            have h := h y13 ey13
            refine lv_istore_n (lv' := [(3, .int y13), (5, .int r2), (4, .int z4), (0, .ref mh), (1, .int x1), (2, .int x2)]) C.1 C.2.1 dX10_readRow_61 rfl hl (by decide) rfl (fun ls hl => ?_)
            refine lv_aload_n C.1 C.2.1 dX10_readRow_62 rfl (lv_at hl 3 rfl) ?_
            refine lv_dup C.1 C.2.1 dX10_readRow_63 rfl ?_
            refine fw_get (w := (mw G mh ad)) C in_X10 hK hG 0 mw_o rfl 13 (by decide) k127 rfl rfl dX10_readRow_64 ?_
            refine lv_iconst (v := 1) C.1 C.2.1 dX10_readRow_67 (by decide) ?_
            refine lv_iadd C.1 C.2.1 dX10_readRow_68 ?_
            obtain ⟨iv14, eiv14⟩ : ∃ z : fw_F, z = va_up iv 13 ((iv 13) + 1) := ⟨_, rfl⟩
            have h := h iv14 eiv14
            refine fw_put (w := (mw G mh ad)) C in_X10 tyX10 tyX10_ok nmX10 hK hG 0 mw_o rfl 13 (by decide) k127 rfl rfl (ty := .int) (v := .int ((iv 13) + 1)) (by decide +kernel) rfl rfl (by first | decide | exact Nat.le_of_ble_eq_true rfl) (iv1 := iv14) (by rw [eiv14]; exact mw_p13) dX10_readRow_69 (fun H locs hG => ?_)
            obtain ⟨y15, ey15⟩ : ∃ z : Int32, z = z4 + 1 := ⟨_, rfl⟩
            have h := h y15 ey15
            refine lv_iinc (v := y15) (lv' := [(4, .int y15), (3, .int y13), (5, .int r2), (0, .ref mh), (1, .int x1), (2, .int x2)]) C.1 C.2.1 dX10_readRow_72 hl (k := 2) rfl (by rw [ey15]; rfl) (by decide) rfl (fun ls hl => ?_)
            refine lv_goto (tgt := 5) C.1 C.2.1 dX10_readRow_75 (by decide) ?_
            exact ih _ _ _ _ h _ _ hG ls (lv_sub hl [0, 1, 3, 4, 5] rfl)
          · have h := h.2 c10
            refine lv_iconst (v := 0) C.1 C.2.1 dX10_readRow_42 (by decide) ?_
            exact fw_zret C hG (by decide) h dX10_readRow_43

set_option maxHeartbeats 4000000 in
set_option maxRecDepth 100000 in
theorem soX10_readRow (l : Launch) (G : fw_G) (mh : Nat) (ad : Nat → Nat) (iv : fw_F) (ar : fw_R) (x1 : Int32) (x2 : Int32) (Q : Int32 → fw_F → fw_R → Prop)  (h : wpX10_readRow iv ar x1 x2 Q) : fw_M l G (mw G mh ad) yX10_readRow wsX10_readRow rmX10_readRow [.ref mh, .int x1, .int x2] iv ar (fw_Qi G (mw G mh ad) Q) := by
  refine fw_start (cc := cX10_readRow) (nL := 6) (rt := (some .boolean)) (by decide) rfl (Nat.le_of_ble_eq_true rfl) ?_
  intro p e s m below meth c A ls H locs C hK hG hl
  obtain ⟨args, ea⟩ : ∃ z : Array Value, z = ([.ref mh, .int x1, .int x2] : List Value).toArray := ⟨_, rfl⟩
  rw [← ea] at C ⊢
  have C : fw_C p s m args meth c cX10_readRow 6 (some .boolean) wsX10_readRow RX10 := C
  have hl : lv_has ls 6 [(0, .ref mh), (1, .int x1), (2, .int x2)] := hl
  unfold wpX10_readRow at h
  refine lv_iconst (v := 0) C.1 C.2.1 dX10_readRow_0 (by decide) ?_
  refine lv_istore_n (lv' := [(3, .int 0), (0, .ref mh), (1, .int x1), (2, .int x2)]) C.1 C.2.1 dX10_readRow_1 rfl hl (by decide) rfl (fun ls hl => ?_)
  refine lv_iconst (v := 0) C.1 C.2.1 dX10_readRow_2 (by decide) ?_
  refine lv_istore (lv' := [(4, .int 0), (3, .int 0), (0, .ref mh), (1, .int x1), (2, .int x2)]) C.1 C.2.1 dX10_readRow_3 hl (by decide) rfl (fun ls hl => ?_)
  obtain ⟨ku, h⟩ := h
  refine soX10_readRow_L5 C hK  ?_ ku _ _ _ _ h _ _ hG ls (lv_sub hl [0, 1, 2, 3, 4] rfl)
  intro w16 w17 iv18 ar19 h H locs hG ls hl
  refine lv_iconst (v := 1) C.1 C.2.1 dX10_readRow_78 (by decide) ?_
  exact fw_zret C hG (by decide) h dX10_readRow_79
