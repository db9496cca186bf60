/-! KnifeBoardModel.ofCell(I)I -/
def rmX10_ofCell : Room := { frames := 1, cells := 0, slots := 0, locals := 21 }
def wpX10_ofCell (iv : fw_F) (ar : fw_R) (x1 : Int32) (Q : Int32 → Prop) : Prop := wpX10_isCell iv ar x1 (fun (r1 : Int32) => (r1 = 0 → (Q (-1))) ∧ (¬ r1 = 0 → (vp_in x1 36 ∧ (Q ((ar 18) x1.toNatClampNeg)))))
set_option maxHeartbeats 4000000 in
set_option maxRecDepth 100000 in
theorem soX10_ofCell (l : Launch) (G : fw_G) (mh : Nat) (ad : Nat → Nat) (iv : fw_F) (ar : fw_R) (x1 : Int32) (Q : Int32 → Prop)  (h : wpX10_ofCell iv ar x1 Q) : fw_M l G (mw G mh ad) yX10_ofCell wsX10_ofCell rmX10_ofCell [.ref mh, .int x1] iv ar (fw_Qi G (mw G mh ad) (fun r iv1 ar1 => Q r ∧ iv = iv1 ∧ ar = ar1)) := by
  refine fw_start (cc := cX10_ofCell) (nL := 2) (rt := (some .int)) (by decide) rfl (Nat.le_of_ble_eq_true rfl) ?_
  intro p e s m below meth c A ls H locs C hK hG hl
  obtain ⟨args, ea⟩ : ∃ z : Array Value, z = ([.ref mh, .int x1] : List Value).toArray := ⟨_, rfl⟩
  rw [← ea] at C ⊢
  have C : fw_C p s m args meth c cX10_ofCell 2 (some .int) wsX10_ofCell RX10 := C
  have hl : lv_has ls 2 [(0, .ref mh), (1, .int x1)] := hl
  unfold wpX10_ofCell at h
  have in_X10 : ∀ x ∈ wsX100, x ∈ wsX10_ofCell := by decide +kernel
  have k37 := C.2.2.2.2.1 (.fieldLink RX10 37 "KnifeBoardModel" "wood" "[I") (by decide +kernel)
  refine lv_aload_n C.1 C.2.1 dX10_ofCell_0 rfl (lv_at hl 0 rfl) ?_
  refine lv_iload_n C.1 C.2.1 dX10_ofCell_1 rfl (lv_at hl 1 rfl) ?_
  refine fw_rcalli (va_runV (As := [.int x1]) (rest := []) ⟨C.1, C.2.1, C.2.2.2.2.2.2, C.2.2.2.2.2.1, C.2.2.2.2.1⟩ (soX10_isCell l G mh ad iv ar x1 _  h H.size) (cwV 1 C.2.2.2.2.1 gX10_ofCell_X10_isCell rfl rfl rfl (by decide +kernel) ⟨Nat.le_of_ble_eq_true rfl, Nat.le_of_ble_eq_true rfl⟩) (fw_preV hG hK (ci := 10) rfl mw_o) rfl rfl hl.1 rfl (lv_room (Nat.le_of_ble_eq_true rfl)) dX10_ofCell_2 ⟨Nat.zero_le _, Nat.zero_le _⟩) hG hK (fun r1  H locs h hG => ?_)
  refine lv_if_eq (tgt := 17) C.1 C.2.1 dX10_ofCell_5 (by decide) (fun c2 => ?_) (fun c2 => ?_)
  · have h := h.1 c2
    refine lv_iconst (v := (-1)) C.1 C.2.1 dX10_ofCell_17 (by decide) ?_
    exact fw_iret C hG ⟨h, rfl, rfl⟩ dX10_ofCell_18
  · have h := h.2 c2
    refine lv_aload_n C.1 C.2.1 dX10_ofCell_8 rfl (lv_at hl 0 rfl) ?_
    refine fw_get (w := (mw G mh ad)) C in_X10 hK hG 0 mw_o rfl 18 (by decide) k37 rfl rfl dX10_ofCell_9 ?_
    refine lv_iload_n C.1 C.2.1 dX10_ofCell_12 rfl (lv_at hl 1 rfl) ?_
    obtain ⟨c3, h⟩ := h
    refine fw_iald (w := (mw G mh ad)) C hK hG 10 mw_a18 c3 dX10_ofCell_13 ?_
    refine lv_goto (tgt := 18) C.1 C.2.1 dX10_ofCell_14 (by decide) ?_
    exact fw_iret C hG ⟨h, rfl, rfl⟩ dX10_ofCell_18
/-! KnifeBoardModel.laySeen()V -/
def rmX10_laySeen : Room := { frames := 0, cells := 0, slots := 0, locals := 0 }
def wpX10_laySeen_L2  (Q : fw_F → fw_R → Prop) (K : Int32 → fw_F → fw_R → Prop) : Nat → Int32 → fw_F → fw_R → Prop
  | 0, _, _, _ => False
  | fu + 1, z1, iv, ar => (((iv 16) * (iv 17)) ≤ z1 → (K z1 iv ar)) ∧ (¬ ((iv 16) * (iv 17)) ≤ z1 → (vp_in z1 36 ∧ (vp_in z1 36 ∧ (∀ ar4 : fw_R, ar4 = va_up ar 22 (upd (ar 22) z1.toNatClampNeg ((ar 18) z1.toNatClampNeg)) → (∀ y5 : Int32, y5 = z1 + 1 → (wpX10_laySeen_L2  Q K fu y5 iv ar4))))))
def wpX10_laySeen (iv : fw_F) (ar : fw_R)  (Q : fw_F → fw_R → Prop) : Prop := ∃ ku : Nat, wpX10_laySeen_L2  Q (fun (w6 : Int32) (iv7 : fw_F) (ar8 : fw_R) => Q iv7 ar8) ku 0 iv ar
set_option maxHeartbeats 4000000 in
set_option maxRecDepth 100000 in
theorem soX10_laySeen_L2 {p : Program} {l : Launch} {e : Env} {s : State} {m : MethodId} {args : Array Value} {below : List Frame} {meth : Method} {c : Code} {A : Nat → Prop} {G : fw_G} {mh : Nat} {ad : Nat → Nat}  {Q : fw_F → fw_R → Prop} {K : Int32 → fw_F → fw_R → Prop} (C : fw_C p s m args meth c cX10_laySeen 2 none wsX10_laySeen RX10) (hK : fw_K G A s)  (hX : ∀ (z1 : Int32) (iv : fw_F) (ar : fw_R), K z1 iv ar → ∀ (H : Heap) (locs : List Loc), fw_H G ((mw G mh ad) iv ar) A s H locs → ∀ (ls : Array Slot), lv_has ls 2 [(1, .int z1), (0, .ref mh)] → W p l e rmX10_laySeen s m args below meth c H locs 0 0 (MQ below (fw_Qv G (mw G mh ad) Q A) args s 0 0 A) (F0 m 33 ls [])) : ∀ (fu : Nat) (z1 : Int32) (iv : fw_F) (ar : fw_R), wpX10_laySeen_L2  Q K fu z1 iv ar → ∀ (H : Heap) (locs : List Loc), fw_H G ((mw G mh ad) iv ar) A s H locs → ∀ (ls : Array Slot), lv_has ls 2 [(1, .int z1), (0, .ref mh)] → W p l e rmX10_laySeen s m args below meth c H locs 0 0 (MQ below (fw_Qv G (mw G mh ad) Q A) args s 0 0 A) (F0 m 2 ls []) := by
  intro fu
  have in_X10 : ∀ x ∈ wsX100, x ∈ wsX10_laySeen := by decide +kernel
  have k182 := C.2.2.2.2.1 (.fieldLink RX10 182 "KnifeBoardModel" "high" "I") (by decide +kernel)
  have k185 := C.2.2.2.2.1 (.fieldLink RX10 185 "KnifeBoardModel" "wide" "I") (by decide +kernel)
  have k37 := C.2.2.2.2.1 (.fieldLink RX10 37 "KnifeBoardModel" "wood" "[I") (by decide +kernel)
  have k43 := C.2.2.2.2.1 (.fieldLink RX10 43 "KnifeBoardModel" "seen" "[I") (by decide +kernel)
  induction fu with
  | zero => intro z1 iv ar h; exact h.elim
  | succ fu ih =>
    intro z1 iv ar h H locs hG ls hl
    unfold wpX10_laySeen_L2 at h
    refine lv_iload_n C.1 C.2.1 dX10_laySeen_2 rfl (lv_at hl 0 rfl) ?_
    refine lv_aload_n C.1 C.2.1 dX10_laySeen_3 rfl (lv_at hl 1 rfl) ?_
    refine fw_get (w := (mw G mh ad)) C in_X10 hK hG 0 mw_o rfl 16 (by decide) k182 rfl rfl dX10_laySeen_4 ?_
    refine lv_aload_n C.1 C.2.1 dX10_laySeen_7 rfl (lv_at hl 1 rfl) ?_
    refine fw_get (w := (mw G mh ad)) C in_X10 hK hG 0 mw_o rfl 17 (by decide) k185 rfl rfl dX10_laySeen_8 ?_
    refine lv_imul C.1 C.2.1 dX10_laySeen_11 ?_
    refine lv_icmp_ge (tgt := 33) C.1 C.2.1 dX10_laySeen_12 (by decide) (fun c1 => ?_) (fun c1 => ?_)
    · have h := h.1 c1
      exact hX _ _ _ h _ _ hG ls (lv_sub hl [0, 1] rfl)
    · have h := h.2 c1
      refine lv_aload_n C.1 C.2.1 dX10_laySeen_15 rfl (lv_at hl 1 rfl) ?_
      refine fw_get (w := (mw G mh ad)) C in_X10 hK hG 0 mw_o rfl 22 (by decide) k43 rfl rfl dX10_laySeen_16 ?_
      refine lv_iload_n C.1 C.2.1 dX10_laySeen_19 rfl (lv_at hl 0 rfl) ?_
      refine lv_aload_n C.1 C.2.1 dX10_laySeen_20 rfl (lv_at hl 1 rfl) ?_
      refine fw_get (w := (mw G mh ad)) C in_X10 hK hG 0 mw_o rfl 18 (by decide) k37 rfl rfl dX10_laySeen_21 ?_
      refine lv_iload_n C.1 C.2.1 dX10_laySeen_24 rfl (lv_at hl 0 rfl) ?_
      obtain ⟨c2, h⟩ := h
      refine fw_iald (w := (mw G mh ad)) C hK hG 10 mw_a18 c2 dX10_laySeen_25 ?_
      obtain ⟨c3, h⟩ := h
      obtain ⟨ar4, ear4⟩ : ∃ z : fw_R, z = va_up ar 22 (upd (ar 22) z1.toNatClampNeg ((ar 18) z1.toNatClampNeg)) := ⟨_, rfl⟩
      have h := h ar4 ear4
      refine fw_iast (w := (mw G mh ad)) C hK hG 12 mw_a22 c3 (ar1 := ar4) (by rw [ear4]; exact mw_s22) dX10_laySeen_26 (fun H locs hG => ?_)
      obtain ⟨y5, ey5⟩ : ∃ z : Int32, z = z1 + 1 := ⟨_, rfl⟩
      have h := h y5 ey5
      refine lv_iinc (v := y5) (lv' := [(1, .int y5), (0, .ref mh)]) C.1 C.2.1 dX10_laySeen_27 hl (k := 0) rfl (by rw [ey5]; rfl) (by decide) rfl (fun ls hl => ?_)
      refine lv_goto (tgt := 2) C.1 C.2.1 dX10_laySeen_30 (by decide) ?_
      exact ih _ _ _ h _ _ hG ls (lv_sub hl [0, 1] rfl)

set_option maxHeartbeats 4000000 in
set_option maxRecDepth 100000 in
theorem soX10_laySeen (l : Launch) (G : fw_G) (mh : Nat) (ad : Nat → Nat) (iv : fw_F) (ar : fw_R)  (Q : fw_F → fw_R → Prop)  (h : wpX10_laySeen iv ar  Q) : fw_M l G (mw G mh ad) yX10_laySeen wsX10_laySeen rmX10_laySeen [.ref mh] iv ar (fw_Qv G (mw G mh ad) Q) := by
  refine fw_start (cc := cX10_laySeen) (nL := 2) (rt := none) (by decide) rfl (Nat.le_of_ble_eq_true rfl) ?_
  intro p e s m below meth c A ls H locs C hK hG hl
  obtain ⟨args, ea⟩ : ∃ z : Array Value, z = ([.ref mh] : List Value).toArray := ⟨_, rfl⟩
  rw [← ea] at C ⊢
  have C : fw_C p s m args meth c cX10_laySeen 2 none wsX10_laySeen RX10 := C
  have hl : lv_has ls 2 [(0, .ref mh)] := hl
  unfold wpX10_laySeen at h
  refine lv_iconst (v := 0) C.1 C.2.1 dX10_laySeen_0 (by decide) ?_
  refine lv_istore_n (lv' := [(1, .int 0), (0, .ref mh)]) C.1 C.2.1 dX10_laySeen_1 rfl hl (by decide) rfl (fun ls hl => ?_)
  obtain ⟨ku, h⟩ := h
  refine soX10_laySeen_L2 C hK  ?_ ku _ _ _ h _ _ hG ls (lv_sub hl [0, 1] rfl)
  intro w6 iv7 ar8 h H locs hG ls hl
  exact fw_vret C hG h dX10_laySeen_33
/-! KnifeBoardModel.cellBy(III)I -/
def rmX10_cellBy : Room := { frames := 1, cells := 0, slots := 0, locals := 22 }
def wpX10_cellBy (iv : fw_F) (ar : fw_R) (x1 : Int32) (x2 : Int32) (x3 : Int32) (Q : Int32 → Prop) : Prop := ¬ (iv 17) = 0 ∧ (∀ y2 : Int32, y2 = (x1 / (iv 17)) - x2 → (¬ (iv 17) = 0 ∧ (∀ y4 : Int32, y4 = (x1 - x1 / (iv 17) * (iv 17)) + x3 → (wpX10_within y2 0 ((iv 16) - 1) (fun (r5 : Int32) => (r5 = 0 → (Q (-9))) ∧ (¬ r5 = 0 → (wpX10_within y4 0 ((iv 17) - 1) (fun (r7 : Int32) => (r7 = 0 → (Q (-9))) ∧ (¬ r7 = 0 → (Q (((iv 17) * y2) + y4)))))))))))
set_option maxHeartbeats 4000000 in
set_option maxRecDepth 100000 in
theorem soX10_cellBy (l : Launch) (G : fw_G) (mh : Nat) (ad : Nat → Nat) (iv : fw_F) (ar : fw_R) (x1 : Int32) (x2 : Int32) (x3 : Int32) (Q : Int32 → Prop)  (h : wpX10_cellBy iv ar x1 x2 x3 Q) : fw_M l G (mw G mh ad) yX10_cellBy wsX10_cellBy rmX10_cellBy [.ref mh, .int x1, .int x2, .int x3] iv ar (fw_Qi G (mw G mh ad) (fun r iv1 ar1 => Q r ∧ iv = iv1 ∧ ar = ar1)) := by
  refine fw_start (cc := cX10_cellBy) (nL := 6) (rt := (some .int)) (by decide) rfl (Nat.le_of_ble_eq_true rfl) ?_
  intro p e s m below meth c A ls H locs C hK hG hl
  obtain ⟨args, ea⟩ : ∃ z : Array Value, z = ([.ref mh, .int x1, .int x2, .int x3] : List Value).toArray := ⟨_, rfl⟩
  rw [← ea] at C ⊢
  have C : fw_C p s m args meth c cX10_cellBy 6 (some .int) wsX10_cellBy RX10 := C
  have hl : lv_has ls 6 [(0, .ref mh), (1, .int x1), (2, .int x2), (3, .int x3)] := hl
  unfold wpX10_cellBy at h
  have in_X10 : ∀ x ∈ wsX100, x ∈ wsX10_cellBy := by decide +kernel
  have k182 := C.2.2.2.2.1 (.fieldLink RX10 182 "KnifeBoardModel" "high" "I") (by decide +kernel)
  have k185 := C.2.2.2.2.1 (.fieldLink RX10 185 "KnifeBoardModel" "wide" "I") (by decide +kernel)
  refine lv_iload_n C.1 C.2.1 dX10_cellBy_0 rfl (lv_at hl 1 rfl) ?_
  refine lv_aload_n C.1 C.2.1 dX10_cellBy_1 rfl (lv_at hl 0 rfl) ?_
  refine fw_get (w := (mw G mh ad)) C in_X10 hK hG 0 mw_o rfl 17 (by decide) k185 rfl rfl dX10_cellBy_2 ?_
  obtain ⟨c1, h⟩ := h
  refine lv_idiv C.1 C.2.1 dX10_cellBy_5 c1 ?_
  refine lv_iload_n C.1 C.2.1 dX10_cellBy_6 rfl (lv_at hl 2 rfl) ?_
  refine lv_isub C.1 C.2.1 dX10_cellBy_7 ?_
  refine lv_topi (fun y2 ey2 => ?_)
  have h := h y2 ey2
  refine lv_istore (lv' := [(4, .int y2), (0, .ref mh), (1, .int x1), (2, .int x2), (3, .int x3)]) C.1 C.2.1 dX10_cellBy_8 hl (by decide) rfl (fun ls hl => ?_)
  refine lv_iload_n C.1 C.2.1 dX10_cellBy_10 rfl (lv_at hl 2 rfl) ?_
  refine lv_aload_n C.1 C.2.1 dX10_cellBy_11 rfl (lv_at hl 1 rfl) ?_
  refine fw_get (w := (mw G mh ad)) C in_X10 hK hG 0 mw_o rfl 17 (by decide) k185 rfl rfl dX10_cellBy_12 ?_
  obtain ⟨c3, h⟩ := h
  refine lv_irem C.1 C.2.1 dX10_cellBy_15 c3 ?_
  refine lv_iload_n C.1 C.2.1 dX10_cellBy_16 rfl (lv_at hl 4 rfl) ?_
  refine lv_iadd C.1 C.2.1 dX10_cellBy_17 ?_
  refine lv_topi (fun y4 ey4 => ?_)
  have h := h y4 ey4
  refine lv_istore (lv' := [(5, .int y4), (4, .int y2), (0, .ref mh), (1, .int x1), (2, .int x2), (3, .int x3)]) C.1 C.2.1 dX10_cellBy_18 hl (by decide) rfl (fun ls hl => ?_)
  refine lv_iload C.1 C.2.1 dX10_cellBy_20 (lv_at hl 1 rfl) ?_
  refine lv_iconst (v := 0) C.1 C.2.1 dX10_cellBy_22 (by decide) ?_
  refine lv_aload_n C.1 C.2.1 dX10_cellBy_23 rfl (lv_at hl 2 rfl) ?_
  refine fw_get (w := (mw G mh ad)) C in_X10 hK hG 0 mw_o rfl 16 (by decide) k182 rfl rfl dX10_cellBy_24 ?_
  refine lv_iconst (v := 1) C.1 C.2.1 dX10_cellBy_27 (by decide) ?_
  refine lv_isub C.1 C.2.1 dX10_cellBy_28 ?_
  refine fw_pcalli (va_runS (As := [.int y2, .int 0, .int ((iv 16) - 1)]) (rest := []) ⟨C.1, C.2.1, C.2.2.2.2.2.2, C.2.2.2.2.2.1, C.2.2.2.2.1⟩ (soX10_within l y2 0 ((iv 16) - 1) _ h H.size) (va_cwS 3 C.2.2.2.2.1 gX10_cellBy_X10_within rfl rfl rfl (by decide +kernel) ⟨Nat.le_of_ble_eq_true rfl, Nat.le_of_ble_eq_true rfl⟩) fw_ppre rfl rfl hl.1 rfl (lv_room (Nat.le_of_ble_eq_true rfl)) dX10_cellBy_29 ⟨Nat.zero_le _, Nat.zero_le _⟩) hG hK (fun r5  H locs h hG => ?_)
  refine lv_if_eq (tgt := 63) C.1 C.2.1 dX10_cellBy_32 (by decide) (fun c6 => ?_) (fun c6 => ?_)
  · have h := h.1 c6
    refine lv_bipush (v := (-9)) C.1 C.2.1 dX10_cellBy_63 (by decide) ?_
    exact fw_iret C hG ⟨h, rfl, rfl⟩ dX10_cellBy_65
  · have h := h.2 c6
    refine lv_iload C.1 C.2.1 dX10_cellBy_35 (lv_at hl 0 rfl) ?_
    refine lv_iconst (v := 0) C.1 C.2.1 dX10_cellBy_37 (by decide) ?_
    refine lv_aload_n C.1 C.2.1 dX10_cellBy_38 rfl (lv_at hl 2 rfl) ?_
    refine fw_get (w := (mw G mh ad)) C in_X10 hK hG 0 mw_o rfl 17 (by decide) k185 rfl rfl dX10_cellBy_39 ?_
    refine lv_iconst (v := 1) C.1 C.2.1 dX10_cellBy_42 (by decide) ?_
    refine lv_isub C.1 C.2.1 dX10_cellBy_43 ?_
    refine fw_pcalli (va_runS (As := [.int y4, .int 0, .int ((iv 17) - 1)]) (rest := []) ⟨C.1, C.2.1, C.2.2.2.2.2.2, C.2.2.2.2.2.1, C.2.2.2.2.1⟩ (soX10_within l y4 0 ((iv 17) - 1) _ h H.size) (va_cwS 3 C.2.2.2.2.1 gX10_cellBy_X10_within rfl rfl rfl (by decide +kernel) ⟨Nat.le_of_ble_eq_true rfl, Nat.le_of_ble_eq_true rfl⟩) fw_ppre rfl rfl hl.1 rfl (lv_room (Nat.le_of_ble_eq_true rfl)) dX10_cellBy_44 ⟨Nat.zero_le _, Nat.zero_le _⟩) hG hK (fun r7  H locs h hG => ?_)
    refine lv_if_eq (tgt := 63) C.1 C.2.1 dX10_cellBy_47 (by decide) (fun c8 => ?_) (fun c8 => ?_)
    · have h := h.1 c8
      refine lv_bipush (v := (-9)) C.1 C.2.1 dX10_cellBy_63 (by decide) ?_
      exact fw_iret C hG ⟨h, rfl, rfl⟩ dX10_cellBy_65
    · have h := h.2 c8
      refine lv_aload_n C.1 C.2.1 dX10_cellBy_50 rfl (lv_at hl 2 rfl) ?_
      refine fw_get (w := (mw G mh ad)) C in_X10 hK hG 0 mw_o rfl 17 (by decide) k185 rfl rfl dX10_cellBy_51 ?_
      refine lv_iload C.1 C.2.1 dX10_cellBy_54 (lv_at hl 1 rfl) ?_
      refine lv_imul C.1 C.2.1 dX10_cellBy_56 ?_
      refine lv_iload C.1 C.2.1 dX10_cellBy_57 (lv_at hl 0 rfl) ?_
      refine lv_iadd C.1 C.2.1 dX10_cellBy_59 ?_
      refine lv_goto (tgt := 65) C.1 C.2.1 dX10_cellBy_60 (by decide) ?_
      exact fw_iret C hG ⟨h, rfl, rfl⟩ dX10_cellBy_65
/-! KnifeBoardModel.isHurt(IZ)Z -/
def rmX10_isHurt : Room := { frames := 0, cells := 0, slots := 0, locals := 0 }
def wpX10_isHurt (x0 : Int32) (x1 : Int32) (Q : Int32 → Prop) : Prop := (x0 = 2 → (Q 1)) ∧ (¬ x0 = 2 → ((¬ x0 = 3 → (Q 0)) ∧ (x0 = 3 → ((x1 = 0 → (Q 0)) ∧ (¬ x1 = 0 → (Q 1))))))
set_option maxHeartbeats 4000000 in
set_option maxRecDepth 100000 in
theorem soX10_isHurt (l : Launch) (x0 : Int32) (x1 : Int32) (Q : Int32 → Prop) (h : wpX10_isHurt x0 x1 Q) : fw_pM l yX10_isHurt wsX10_isHurt rmX10_isHurt [.int x0, .int x1] (fw_pQi Q) := by
  refine fw_pstart (cc := cX10_isHurt) (nL := 2) (rt := (some .boolean)) (by decide) rfl (Nat.le_of_ble_eq_true rfl) ?_
  intro p e s m below meth c A ls H locs C hA hS hl
  obtain ⟨args, ea⟩ : ∃ z : Array Value, z = ([.int x0, .int x1] : List Value).toArray := ⟨_, rfl⟩
  rw [← ea] at C ⊢
  have C : fw_C p s m args meth c cX10_isHurt 2 (some .boolean) wsX10_isHurt RX10 := C
  have hl : lv_has ls 2 [(0, .int x0), (1, .int x1)] := hl
  unfold wpX10_isHurt at h
  refine lv_iload_n C.1 C.2.1 dX10_isHurt_0 rfl (lv_at hl 0 rfl) ?_
  refine lv_iconst (v := 2) C.1 C.2.1 dX10_isHurt_1 (by decide) ?_
  refine lv_icmp_eq (tgt := 14) C.1 C.2.1 dX10_isHurt_2 (by decide) (fun c1 => ?_) (fun c1 => ?_)
  · have h := h.1 c1
    refine lv_iconst (v := 1) C.1 C.2.1 dX10_isHurt_14 (by decide) ?_
    refine lv_goto (tgt := 19) C.1 C.2.1 dX10_isHurt_15 (by decide) ?_
    exact fw_pzret C hS (by decide) h dX10_isHurt_19
  · have h := h.2 c1
    refine lv_iload_n C.1 C.2.1 dX10_isHurt_5 rfl (lv_at hl 0 rfl) ?_
    refine lv_iconst (v := 3) C.1 C.2.1 dX10_isHurt_6 (by decide) ?_
    refine lv_icmp_ne (tgt := 18) C.1 C.2.1 dX10_isHurt_7 (by decide) (fun c2 => ?_) (fun c2 => ?_)
    · have h := h.1 c2
      refine lv_iconst (v := 0) C.1 C.2.1 dX10_isHurt_18 (by decide) ?_
      exact fw_pzret C hS (by decide) h dX10_isHurt_19
    · have h := h.2 c2
      refine lv_iload_n C.1 C.2.1 dX10_isHurt_10 rfl (lv_at hl 1 rfl) ?_
      refine lv_if_eq (tgt := 18) C.1 C.2.1 dX10_isHurt_11 (by decide) (fun c3 => ?_) (fun c3 => ?_)
      · have h := h.1 c3
        refine lv_iconst (v := 0) C.1 C.2.1 dX10_isHurt_18 (by decide) ?_
        exact fw_pzret C hS (by decide) h dX10_isHurt_19
      · have h := h.2 c3
        refine lv_iconst (v := 1) C.1 C.2.1 dX10_isHurt_14 (by decide) ?_
        refine lv_goto (tgt := 19) C.1 C.2.1 dX10_isHurt_15 (by decide) ?_
        exact fw_pzret C hS (by decide) h dX10_isHurt_19
/-! KnifeBoardModel.comesBy(IIZZ)I -/
def rmX10_comesBy : Room := { frames := 2, cells := 0, slots := 0, locals := 47 }
def wpX10_comesBy_L17 (x1 : Int32) (x2 : Int32) (x3 : Int32) (x4 : Int32) (z6 : Int32) (iv : fw_F) (ar : fw_R) (Q : Int32 → Prop) (K : Int32 → Int32 → Prop) : Nat → Int32 → Int32 → Prop
  | 0, _, _ => False
  | fu + 1, z5, z7 => (3 ≤ z7 → (K z5 z7)) ∧ (¬ 3 ≤ z7 → (wpX10_cellBy iv ar x1 z6 z7 (fun (r3 : Int32) => (r3 = (-9) → (∀ y6 : Int32, y6 = z5 + 0 → (∀ y7 : Int32, y7 = z7 + 1 → (wpX10_comesBy_L17 x1 x2 x3 x4 z6 iv ar Q K fu y6 y7)))) ∧ (¬ r3 = (-9) → ((x4 = 0 → (vp_in r3 36 ∧ (wpX10_isHurt ((ar 22) r3.toNatClampNeg) x3 (fun (r10 : Int32) => (r10 = 0 → (∀ y13 : Int32, y13 = z5 + 0 → (∀ y14 : Int32, y14 = z7 + 1 → (wpX10_comesBy_L17 x1 x2 x3 x4 z6 iv ar Q K fu y13 y14)))) ∧ (¬ r10 = 0 → (wpX10_weightOf iv ar 1 (z6 + 2) x2 (fun (r16 : Int32) => wpX10_weightOf iv ar 2 (z7 + 2) x2 (fun (r17 : Int32) => ∀ y18 : Int32, y18 = z5 + (r16 * r17) → (∀ y19 : Int32, y19 = z7 + 1 → (wpX10_comesBy_L17 x1 x2 x3 x4 z6 iv ar Q K fu y18 y19)))))))))) ∧ (¬ x4 = 0 → (vp_in r3 36 ∧ ((¬ ((ar 22) r3.toNatClampNeg) = 0 → (∀ y23 : Int32, y23 = z5 + 0 → (∀ y24 : Int32, y24 = z7 + 1 → (wpX10_comesBy_L17 x1 x2 x3 x4 z6 iv ar Q K fu y23 y24)))) ∧ (((ar 22) r3.toNatClampNeg) = 0 → (wpX10_weightOf iv ar 1 (z6 + 2) x2 (fun (r26 : Int32) => wpX10_weightOf iv ar 2 (z7 + 2) x2 (fun (r27 : Int32) => ∀ y28 : Int32, y28 = z5 + (r26 * r27) → (∀ y29 : Int32, y29 = z7 + 1 → (wpX10_comesBy_L17 x1 x2 x3 x4 z6 iv ar Q K fu y28 y29))))))))))))))
def wpX10_comesBy_L7 (x1 : Int32) (x2 : Int32) (x3 : Int32) (x4 : Int32) (iv : fw_F) (ar : fw_R) (Q : Int32 → Prop) (K : Int32 → Int32 → Prop) : Nat → Int32 → Int32 → Prop
  | 0, _, _ => False
  | fu + 1, z5, z6 => (3 ≤ z6 → (K z5 z6)) ∧ (¬ 3 ≤ z6 → (∃ ku : Nat, wpX10_comesBy_L17 x1 x2 x3 x4 z6 iv ar Q (fun (w30 : Int32) (w31 : Int32) => ∀ y32 : Int32, y32 = z6 + 1 → (wpX10_comesBy_L7 x1 x2 x3 x4 iv ar Q K fu w30 y32)) ku z5 (-2)))
def wpX10_comesBy (iv : fw_F) (ar : fw_R) (x1 : Int32) (x2 : Int32) (x3 : Int32) (x4 : Int32) (Q : Int32 → Prop) : Prop := ∃ ku : Nat, wpX10_comesBy_L7 x1 x2 x3 x4 iv ar Q (fun (w33 : Int32) (w34 : Int32) => Q w33) ku 0 (-2)
set_option maxHeartbeats 4000000 in
set_option maxRecDepth 100000 in
theorem soX10_comesBy_L17 {p : Program} {l : Launch} {e : Env} {s : State} {m : MethodId} {args : Array Value} {below : List Frame} {meth : Method} {c : Code} {A : Nat → Prop} {G : fw_G} {mh : Nat} {ad : Nat → Nat} {x1 : Int32} {x2 : Int32} {x3 : Int32} {x4 : Int32} {z6 : Int32} {iv : fw_F} {ar : fw_R} {Q : Int32 → Prop} {K : Int32 → Int32 → Prop} (C : fw_C p s m args meth c cX10_comesBy 10 (some .int) wsX10_comesBy RX10) (hK : fw_K G A s)  (hX : ∀ (z5 : Int32) (z7 : Int32), K z5 z7 → ∀ (H : Heap) (locs : List Loc), fw_H G ((mw G mh ad) iv ar) A s H locs → ∀ (ls : Array Slot), lv_has ls 10 [(7, .int z7), (6, .int z6), (5, .int z5), (0, .ref mh), (1, .int x1), (2, .int x2), (3, .int x3), (4, .int x4)] → W p l e rmX10_comesBy s m args below meth c H locs 0 0 (MQ below (fw_Qi G (mw G mh ad) (fun r iv1 ar1 => Q r ∧ iv = iv1 ∧ ar = ar1) A) args s 0 0 A) (F0 m 121 ls [])) : ∀ (fu : Nat) (z5 : Int32) (z7 : Int32), wpX10_comesBy_L17 x1 x2 x3 x4 z6 iv ar Q K fu z5 z7 → ∀ (H : Heap) (locs : List Loc), fw_H G ((mw G mh ad) iv ar) A s H locs → ∀ (ls : Array Slot), lv_has ls 10 [(7, .int z7), (6, .int z6), (5, .int z5), (0, .ref mh), (1, .int x1), (2, .int x2), (3, .int x3), (4, .int x4)] → W p l e rmX10_comesBy s m args below meth c H locs 0 0 (MQ below (fw_Qi G (mw G mh ad) (fun r iv1 ar1 => Q r ∧ iv = iv1 ∧ ar = ar1) A) args s 0 0 A) (F0 m 17 ls []) := by
  intro fu
  have in_X10 : ∀ x ∈ wsX100, x ∈ wsX10_comesBy := by decide +kernel
  have k43 := C.2.2.2.2.1 (.fieldLink RX10 43 "KnifeBoardModel" "seen" "[I") (by decide +kernel)
  induction fu with
  | zero => intro z5 z7 h; exact h.elim
  | succ fu ih =>
    intro z5 z7 h H locs hG ls hl
    unfold wpX10_comesBy_L17 at h
    refine lv_iload C.1 C.2.1 dX10_comesBy_17 (lv_at hl 0 rfl) ?_
    refine lv_iconst (v := 3) C.1 C.2.1 dX10_comesBy_19 (by decide) ?_
    refine lv_icmp_ge (tgt := 121) C.1 C.2.1 dX10_comesBy_20 (by decide) (fun c2 => ?_) (fun c2 => ?_)
    · have h := h.1 c2
      exact hX _ _ h _ _ hG ls (lv_sub hl [0, 1, 2, 3, 4, 5, 6, 7] rfl)
    · have h := h.2 c2
      refine lv_aload_n C.1 C.2.1 dX10_comesBy_23 rfl (lv_at hl 3 rfl) ?_
      refine lv_iload_n C.1 C.2.1 dX10_comesBy_24 rfl (lv_at hl 4 rfl) ?_
      refine lv_iload C.1 C.2.1 dX10_comesBy_25 (lv_at hl 1 rfl) ?_
      refine lv_iload C.1 C.2.1 dX10_comesBy_27 (lv_at hl 0 rfl) ?_
      refine fw_rcalli (va_runV (As := [.int x1, .int z6, .int z7]) (rest := []) ⟨C.1, C.2.1, C.2.2.2.2.2.2, C.2.2.2.2.2.1, C.2.2.2.2.1⟩ (soX10_cellBy l G mh ad iv ar x1 z6 z7 _  h H.size) (cwV 3 C.2.2.2.2.1 gX10_comesBy_X10_cellBy rfl rfl rfl (by decide +kernel) ⟨Nat.le_of_ble_eq_true rfl, Nat.le_of_ble_eq_true rfl⟩) (fw_preV hG hK (ci := 10) rfl mw_o) rfl rfl hl.1 rfl (lv_room (Nat.le_of_ble_eq_true rfl)) dX10_comesBy_29 ⟨Nat.zero_le _, Nat.zero_le _⟩) hG hK (fun r3  H locs h hG => ?_)
      refine lv_istore (lv' := [(8, .int r3), (7, .int z7), (6, .int z6), (5, .int z5), (0, .ref mh), (1, .int x1), (2, .int x2), (3, .int x3), (4, .int x4)]) C.1 C.2.1 dX10_comesBy_32 hl (by decide) rfl (fun ls hl => ?_)
      refine lv_iload C.1 C.2.1 dX10_comesBy_34 (lv_at hl 0 rfl) ?_
      refine lv_bipush (v := (-9)) C.1 C.2.1 dX10_comesBy_36 (by decide) ?_
      refine lv_icmp_eq (tgt := 77) C.1 C.2.1 dX10_comesBy_38 (by decide) (fun c4 => ?_) (fun c4 => ?_)
      · have h := h.1 c4
        refine lv_iconst (v := 0) C.1 C.2.1 dX10_comesBy_77 (by decide) ?_
        refine lv_istore (lv' := [(9, .int 0), (8, .int r3), (7, .int z7), (6, .int z6), (5, .int z5), (0, .ref mh), (1, .int x1), (2, .int x2), (3, .int x3), (4, .int x4)]) C.1 C.2.1 dX10_comesBy_78 hl (by decide) rfl (fun ls hl => ?_)
        refine lv_iload C.1 C.2.1 dX10_comesBy_80 (lv_at hl 4 rfl) ?_
        refine lv_iload C.1 C.2.1 dX10_comesBy_82 (lv_at hl 0 rfl) ?_
        refine lv_if_eq (tgt := 111) C.1 C.2.1 dX10_comesBy_84 (by decide) (fun c5 => ?_) (fun c5 => ?_)
        · refine lv_iconst (v := 0) C.1 C.2.1 dX10_comesBy_111 (by decide) ?_
          refine lv_iadd C.1 C.2.1 dX10_comesBy_112 ?_
          refine lv_topi (fun y6 ey6 => ?_)
          have h := h y6 ey6
          refine lv_istore (lv' := [(5, .int y6), (9, .int 0), (8, .int r3), (7, .int z7), (6, .int z6), (0, .ref mh), (1, .int x1), (2, .int x2), (3, .int x3), (4, .int x4)]) C.1 C.2.1 dX10_comesBy_113 hl (by decide) rfl (fun ls hl => ?_)
          obtain ⟨y7, ey7⟩ : ∃ z : Int32, z = z7 + 1 := ⟨_, rfl⟩
          have h := h y7 ey7
          refine lv_iinc (v := y7) (lv' := [(7, .int y7), (5, .int y6), (9, .int 0), (8, .int r3), (6, .int z6), (0, .ref mh), (1, .int x1), (2, .int x2), (3, .int x3), (4, .int x4)]) C.1 C.2.1 dX10_comesBy_115 hl (k := 3) rfl (by rw [ey7]; rfl) (by decide) rfl (fun ls hl => ?_)
          refine lv_goto (tgt := 17) C.1 C.2.1 dX10_comesBy_118 (by decide) ?_
          exact ih _ _ h _ _ hG ls (lv_sub hl [0, 4, 1, 5, 6, 7, 8, 9] rfl)
        · exact absurd c5 (by decide)
      · have h := h.2 c4
        refine lv_iload C.1 C.2.1 dX10_comesBy_41 (lv_at hl 8 rfl) ?_
        refine lv_if_eq (tgt := 59) C.1 C.2.1 dX10_comesBy_43 (by decide) (fun c8 => ?_) (fun c8 => ?_)
        · have h := h.1 c8
          refine lv_aload_n C.1 C.2.1 dX10_comesBy_59 rfl (lv_at hl 4 rfl) ?_
          refine fw_get (w := (mw G mh ad)) C in_X10 hK hG 0 mw_o rfl 22 (by decide) k43 rfl rfl dX10_comesBy_60 ?_
          refine lv_iload C.1 C.2.1 dX10_comesBy_63 (lv_at hl 0 rfl) ?_
          obtain ⟨c9, h⟩ := h
          refine fw_iald (w := (mw G mh ad)) C hK hG 12 mw_a22 c9 dX10_comesBy_65 ?_
          refine lv_iload_n C.1 C.2.1 dX10_comesBy_66 rfl (lv_at hl 7 rfl) ?_
          refine fw_pcalli (va_runS (As := [.int ((ar 22) r3.toNatClampNeg), .int x3]) (rest := []) ⟨C.1, C.2.1, C.2.2.2.2.2.2, C.2.2.2.2.2.1, C.2.2.2.2.1⟩ (soX10_isHurt l ((ar 22) r3.toNatClampNeg) x3 _ h H.size) (va_cwS 2 C.2.2.2.2.1 gX10_comesBy_X10_isHurt rfl rfl rfl (by decide +kernel) ⟨Nat.le_of_ble_eq_true rfl, Nat.le_of_ble_eq_true rfl⟩) fw_ppre rfl rfl hl.1 rfl (lv_room (Nat.le_of_ble_eq_true rfl)) dX10_comesBy_67 ⟨Nat.zero_le _, Nat.zero_le _⟩) hG hK (fun r10  H locs h hG => ?_)
          refine lv_if_eq (tgt := 77) C.1 C.2.1 dX10_comesBy_70 (by decide) (fun c11 => ?_) (fun c11 => ?_)
          · have h := h.1 c11
            refine lv_iconst (v := 0) C.1 C.2.1 dX10_comesBy_77 (by decide) ?_
            refine lv_istore (lv' := [(9, .int 0), (8, .int r3), (7, .int z7), (6, .int z6), (5, .int z5), (0, .ref mh), (1, .int x1), (2, .int x2), (3, .int x3), (4, .int x4)]) C.1 C.2.1 dX10_comesBy_78 hl (by decide) rfl (fun ls hl => ?_)
            refine lv_iload C.1 C.2.1 dX10_comesBy_80 (lv_at hl 4 rfl) ?_
            refine lv_iload C.1 C.2.1 dX10_comesBy_82 (lv_at hl 0 rfl) ?_
            refine lv_if_eq (tgt := 111) C.1 C.2.1 dX10_comesBy_84 (by decide) (fun c12 => ?_) (fun c12 => ?_)
            · refine lv_iconst (v := 0) C.1 C.2.1 dX10_comesBy_111 (by decide) ?_
              refine lv_iadd C.1 C.2.1 dX10_comesBy_112 ?_
              refine lv_topi (fun y13 ey13 => ?_)
              have h := h y13 ey13
              refine lv_istore (lv' := [(5, .int y13), (9, .int 0), (8, .int r3), (7, .int z7), (6, .int z6), (0, .ref mh), (1, .int x1), (2, .int x2), (3, .int x3), (4, .int x4)]) C.1 C.2.1 dX10_comesBy_113 hl (by decide) rfl (fun ls hl => ?_)
              obtain ⟨y14, ey14⟩ : ∃ z : Int32, z = z7 + 1 := ⟨_, rfl⟩
              have h := h y14 ey14
              refine lv_iinc (v := y14) (lv' := [(7, .int y14), (5, .int y13), (9, .int 0), (8, .int r3), (6, .int z6), (0, .ref mh), (1, .int x1), (2, .int x2), (3, .int x3), (4, .int x4)]) C.1 C.2.1 dX10_comesBy_115 hl (k := 3) rfl (by rw [ey14]; rfl) (by decide) rfl (fun ls hl => ?_)
              refine lv_goto (tgt := 17) C.1 C.2.1 dX10_comesBy_118 (by decide) ?_
              exact ih _ _ h _ _ hG ls (lv_sub hl [0, 4, 1, 5, 6, 7, 8, 9] rfl)
            · exact absurd c12 (by decide)
          · have h := h.2 c11
            refine lv_iconst (v := 1) C.1 C.2.1 dX10_comesBy_73 (by decide) ?_
            refine lv_goto (tgt := 78) C.1 C.2.1 dX10_comesBy_74 (by decide) ?_
            refine lv_istore (lv' := [(9, .int 1), (8, .int r3), (7, .int z7), (6, .int z6), (5, .int z5), (0, .ref mh), (1, .int x1), (2, .int x2), (3, .int x3), (4, .int x4)]) C.1 C.2.1 dX10_comesBy_78 hl (by decide) rfl (fun ls hl => ?_)
            refine lv_iload C.1 C.2.1 dX10_comesBy_80 (lv_at hl 4 rfl) ?_
            refine lv_iload C.1 C.2.1 dX10_comesBy_82 (lv_at hl 0 rfl) ?_
            refine lv_if_eq (tgt := 111) C.1 C.2.1 dX10_comesBy_84 (by decide) (fun c15 => ?_) (fun c15 => ?_)
            · exact absurd c15 (by decide)
            · refine lv_aload_n C.1 C.2.1 dX10_comesBy_87 rfl (lv_at hl 5 rfl) ?_
              refine lv_iconst (v := 1) C.1 C.2.1 dX10_comesBy_88 (by decide) ?_
              refine lv_iload C.1 C.2.1 dX10_comesBy_89 (lv_at hl 3 rfl) ?_
              refine lv_iconst (v := 2) C.1 C.2.1 dX10_comesBy_91 (by decide) ?_
              refine lv_iadd C.1 C.2.1 dX10_comesBy_92 ?_
              refine lv_iload_n C.1 C.2.1 dX10_comesBy_93 rfl (lv_at hl 7 rfl) ?_
              refine fw_rcalli (va_runV (As := [.int 1, .int (z6 + 2), .int x2]) (rest := [.int z5]) ⟨C.1, C.2.1, C.2.2.2.2.2.2, C.2.2.2.2.2.1, C.2.2.2.2.1⟩ (soX10_weightOf l G mh ad iv ar 1 (z6 + 2) x2 _  h H.size) (cwV 3 C.2.2.2.2.1 gX10_comesBy_X10_weightOf rfl rfl rfl (by decide +kernel) ⟨Nat.le_of_ble_eq_true rfl, Nat.le_of_ble_eq_true rfl⟩) (fw_preV hG hK (ci := 10) rfl mw_o) rfl rfl hl.1 rfl (lv_room (Nat.le_of_ble_eq_true rfl)) dX10_comesBy_94 ⟨Nat.zero_le _, Nat.zero_le _⟩) hG hK (fun r16  H locs h hG => ?_)
              refine lv_aload_n C.1 C.2.1 dX10_comesBy_97 rfl (lv_at hl 5 rfl) ?_
              refine lv_iconst (v := 2) C.1 C.2.1 dX10_comesBy_98 (by decide) ?_
              refine lv_iload C.1 C.2.1 dX10_comesBy_99 (lv_at hl 2 rfl) ?_
              refine lv_iconst (v := 2) C.1 C.2.1 dX10_comesBy_101 (by decide) ?_
              refine lv_iadd C.1 C.2.1 dX10_comesBy_102 ?_
              refine lv_iload_n C.1 C.2.1 dX10_comesBy_103 rfl (lv_at hl 7 rfl) ?_
              refine fw_rcalli (va_runV (As := [.int 2, .int (z7 + 2), .int x2]) (rest := [.int r16, .int z5]) ⟨C.1, C.2.1, C.2.2.2.2.2.2, C.2.2.2.2.2.1, C.2.2.2.2.1⟩ (soX10_weightOf l G mh ad iv ar 2 (z7 + 2) x2 _  h H.size) (cwV 3 C.2.2.2.2.1 gX10_comesBy_X10_weightOf rfl rfl rfl (by decide +kernel) ⟨Nat.le_of_ble_eq_true rfl, Nat.le_of_ble_eq_true rfl⟩) (fw_preV hG hK (ci := 10) rfl mw_o) rfl rfl hl.1 rfl (lv_room (Nat.le_of_ble_eq_true rfl)) dX10_comesBy_104 ⟨Nat.zero_le _, Nat.zero_le _⟩) hG hK (fun r17  H locs h hG => ?_)
              refine lv_imul C.1 C.2.1 dX10_comesBy_107 ?_
              refine lv_goto (tgt := 112) C.1 C.2.1 dX10_comesBy_108 (by decide) ?_
              refine lv_iadd C.1 C.2.1 dX10_comesBy_112 ?_
              refine lv_topi (fun y18 ey18 => ?_)
              have h := h y18 ey18
              refine lv_istore (lv' := [(5, .int y18), (9, .int 1), (8, .int r3), (7, .int z7), (6, .int z6), (0, .ref mh), (1, .int x1), (2, .int x2), (3, .int x3), (4, .int x4)]) C.1 C.2.1 dX10_comesBy_113 hl (by decide) rfl (fun ls hl => ?_)
              obtain ⟨y19, ey19⟩ : ∃ z : Int32, z = z7 + 1 := ⟨_, rfl⟩
              have h := h y19 ey19
              refine lv_iinc (v := y19) (lv' := [(7, .int y19), (5, .int y18), (9, .int 1), (8, .int r3), (6, .int z6), (0, .ref mh), (1, .int x1), (2, .int x2), (3, .int x3), (4, .int x4)]) C.1 C.2.1 dX10_comesBy_115 hl (k := 3) rfl (by rw [ey19]; rfl) (by decide) rfl (fun ls hl => ?_)
              refine lv_goto (tgt := 17) C.1 C.2.1 dX10_comesBy_118 (by decide) ?_
              exact ih _ _ h _ _ hG ls (lv_sub hl [0, 4, 1, 5, 6, 7, 8, 9] rfl)
        · have h := h.2 c8
          refine lv_aload_n C.1 C.2.1 dX10_comesBy_46 rfl (lv_at hl 4 rfl) ?_
          refine fw_get (w := (mw G mh ad)) C in_X10 hK hG 0 mw_o rfl 22 (by decide) k43 rfl rfl dX10_comesBy_47 ?_
          refine lv_iload C.1 C.2.1 dX10_comesBy_50 (lv_at hl 0 rfl) ?_
          obtain ⟨c20, h⟩ := h
          refine fw_iald (w := (mw G mh ad)) C hK hG 12 mw_a22 c20 dX10_comesBy_52 ?_
          refine lv_if_ne (tgt := 77) C.1 C.2.1 dX10_comesBy_53 (by decide) (fun c21 => ?_) (fun c21 => ?_)
          · have h := h.1 c21
            refine lv_iconst (v := 0) C.1 C.2.1 dX10_comesBy_77 (by decide) ?_
            refine lv_istore (lv' := [(9, .int 0), (8, .int r3), (7, .int z7), (6, .int z6), (5, .int z5), (0, .ref mh), (1, .int x1), (2, .int x2), (3, .int x3), (4, .int x4)]) C.1 C.2.1 dX10_comesBy_78 hl (by decide) rfl (fun ls hl => ?_)
            refine lv_iload C.1 C.2.1 dX10_comesBy_80 (lv_at hl 4 rfl) ?_
            refine lv_iload C.1 C.2.1 dX10_comesBy_82 (lv_at hl 0 rfl) ?_
            refine lv_if_eq (tgt := 111) C.1 C.2.1 dX10_comesBy_84 (by decide) (fun c22 => ?_) (fun c22 => ?_)
            · refine lv_iconst (v := 0) C.1 C.2.1 dX10_comesBy_111 (by decide) ?_
              refine lv_iadd C.1 C.2.1 dX10_comesBy_112 ?_
              refine lv_topi (fun y23 ey23 => ?_)
              have h := h y23 ey23
              refine lv_istore (lv' := [(5, .int y23), (9, .int 0), (8, .int r3), (7, .int z7), (6, .int z6), (0, .ref mh), (1, .int x1), (2, .int x2), (3, .int x3), (4, .int x4)]) C.1 C.2.1 dX10_comesBy_113 hl (by decide) rfl (fun ls hl => ?_)
              obtain ⟨y24, ey24⟩ : ∃ z : Int32, z = z7 + 1 := ⟨_, rfl⟩
              have h := h y24 ey24
              refine lv_iinc (v := y24) (lv' := [(7, .int y24), (5, .int y23), (9, .int 0), (8, .int r3), (6, .int z6), (0, .ref mh), (1, .int x1), (2, .int x2), (3, .int x3), (4, .int x4)]) C.1 C.2.1 dX10_comesBy_115 hl (k := 3) rfl (by rw [ey24]; rfl) (by decide) rfl (fun ls hl => ?_)
              refine lv_goto (tgt := 17) C.1 C.2.1 dX10_comesBy_118 (by decide) ?_
              exact ih _ _ h _ _ hG ls (lv_sub hl [0, 4, 1, 5, 6, 7, 8, 9] rfl)
            · exact absurd c22 (by decide)
          · have h := h.2 c21
            refine lv_goto (tgt := 73) C.1 C.2.1 dX10_comesBy_56 (by decide) ?_
            refine lv_iconst (v := 1) C.1 C.2.1 dX10_comesBy_73 (by decide) ?_
            refine lv_goto (tgt := 78) C.1 C.2.1 dX10_comesBy_74 (by decide) ?_
            refine lv_istore (lv' := [(9, .int 1), (8, .int r3), (7, .int z7), (6, .int z6), (5, .int z5), (0, .ref mh), (1, .int x1), (2, .int x2), (3, .int x3), (4, .int x4)]) C.1 C.2.1 dX10_comesBy_78 hl (by decide) rfl (fun ls hl => ?_)
            refine lv_iload C.1 C.2.1 dX10_comesBy_80 (lv_at hl 4 rfl) ?_
            refine lv_iload C.1 C.2.1 dX10_comesBy_82 (lv_at hl 0 rfl) ?_
            refine lv_if_eq (tgt := 111) C.1 C.2.1 dX10_comesBy_84 (by decide) (fun c25 => ?_) (fun c25 => ?_)
            · exact absurd c25 (by decide)
            · refine lv_aload_n C.1 C.2.1 dX10_comesBy_87 rfl (lv_at hl 5 rfl) ?_
              refine lv_iconst (v := 1) C.1 C.2.1 dX10_comesBy_88 (by decide) ?_
              refine lv_iload C.1 C.2.1 dX10_comesBy_89 (lv_at hl 3 rfl) ?_
              refine lv_iconst (v := 2) C.1 C.2.1 dX10_comesBy_91 (by decide) ?_
              refine lv_iadd C.1 C.2.1 dX10_comesBy_92 ?_
              refine lv_iload_n C.1 C.2.1 dX10_comesBy_93 rfl (lv_at hl 7 rfl) ?_
              refine fw_rcalli (va_runV (As := [.int 1, .int (z6 + 2), .int x2]) (rest := [.int z5]) ⟨C.1, C.2.1, C.2.2.2.2.2.2, C.2.2.2.2.2.1, C.2.2.2.2.1⟩ (soX10_weightOf l G mh ad iv ar 1 (z6 + 2) x2 _  h H.size) (cwV 3 C.2.2.2.2.1 gX10_comesBy_X10_weightOf rfl rfl rfl (by decide +kernel) ⟨Nat.le_of_ble_eq_true rfl, Nat.le_of_ble_eq_true rfl⟩) (fw_preV hG hK (ci := 10) rfl mw_o) rfl rfl hl.1 rfl (lv_room (Nat.le_of_ble_eq_true rfl)) dX10_comesBy_94 ⟨Nat.zero_le _, Nat.zero_le _⟩) hG hK (fun r26  H locs h hG => ?_)
              refine lv_aload_n C.1 C.2.1 dX10_comesBy_97 rfl (lv_at hl 5 rfl) ?_
              refine lv_iconst (v := 2) C.1 C.2.1 dX10_comesBy_98 (by decide) ?_
              refine lv_iload C.1 C.2.1 dX10_comesBy_99 (lv_at hl 2 rfl) ?_
              refine lv_iconst (v := 2) C.1 C.2.1 dX10_comesBy_101 (by decide) ?_
              refine lv_iadd C.1 C.2.1 dX10_comesBy_102 ?_
              refine lv_iload_n C.1 C.2.1 dX10_comesBy_103 rfl (lv_at hl 7 rfl) ?_
              refine fw_rcalli (va_runV (As := [.int 2, .int (z7 + 2), .int x2]) (rest := [.int r26, .int z5]) ⟨C.1, C.2.1, C.2.2.2.2.2.2, C.2.2.2.2.2.1, C.2.2.2.2.1⟩ (soX10_weightOf l G mh ad iv ar 2 (z7 + 2) x2 _  h H.size) (cwV 3 C.2.2.2.2.1 gX10_comesBy_X10_weightOf rfl rfl rfl (by decide +kernel) ⟨Nat.le_of_ble_eq_true rfl, Nat.le_of_ble_eq_true rfl⟩) (fw_preV hG hK (ci := 10) rfl mw_o) rfl rfl hl.1 rfl (lv_room (Nat.le_of_ble_eq_true rfl)) dX10_comesBy_104 ⟨Nat.zero_le _, Nat.zero_le _⟩) hG hK (fun r27  H locs h hG => ?_)
              refine lv_imul C.1 C.2.1 dX10_comesBy_107 ?_
              refine lv_goto (tgt := 112) C.1 C.2.1 dX10_comesBy_108 (by decide) ?_
              refine lv_iadd C.1 C.2.1 dX10_comesBy_112 ?_
              refine lv_topi (fun y28 ey28 => ?_)
              have h := h y28 ey28
              refine lv_istore (lv' := [(5, .int y28), (9, .int 1), (8, .int r3), (7, .int z7), (6, .int z6), (0, .ref mh), (1, .int x1), (2, .int x2), (3, .int x3), (4, .int x4)]) C.1 C.2.1 dX10_comesBy_113 hl (by decide) rfl (fun ls hl => ?_)
              obtain ⟨y29, ey29⟩ : ∃ z : Int32, z = z7 + 1 := ⟨_, rfl⟩
              have h := h y29 ey29
              refine lv_iinc (v := y29) (lv' := [(7, .int y29), (5, .int y28), (9, .int 1), (8, .int r3), (6, .int z6), (0, .ref mh), (1, .int x1), (2, .int x2), (3, .int x3), (4, .int x4)]) C.1 C.2.1 dX10_comesBy_115 hl (k := 3) rfl (by rw [ey29]; rfl) (by decide) rfl (fun ls hl => ?_)
              refine lv_goto (tgt := 17) C.1 C.2.1 dX10_comesBy_118 (by decide) ?_
              exact ih _ _ h _ _ hG ls (lv_sub hl [0, 4, 1, 5, 6, 7, 8, 9] rfl)

set_option maxHeartbeats 4000000 in
set_option maxRecDepth 100000 in
theorem soX10_comesBy_L7 {p : Program} {l : Launch} {e : Env} {s : State} {m : MethodId} {args : Array Value} {below : List Frame} {meth : Method} {c : Code} {A : Nat → Prop} {G : fw_G} {mh : Nat} {ad : Nat → Nat} {x1 : Int32} {x2 : Int32} {x3 : Int32} {x4 : Int32} {iv : fw_F} {ar : fw_R} {Q : Int32 → Prop} {K : Int32 → Int32 → Prop} (C : fw_C p s m args meth c cX10_comesBy 10 (some .int) wsX10_comesBy RX10) (hK : fw_K G A s)  (hX : ∀ (z5 : Int32) (z6 : Int32), K z5 z6 → ∀ (H : Heap) (locs : List Loc), fw_H G ((mw G mh ad) iv ar) A s H locs → ∀ (ls : Array Slot), lv_has ls 10 [(6, .int z6), (5, .int z5), (0, .ref mh), (1, .int x1), (2, .int x2), (3, .int x3), (4, .int x4)] → W p l e rmX10_comesBy s m args below meth c H locs 0 0 (MQ below (fw_Qi G (mw G mh ad) (fun r iv1 ar1 => Q r ∧ iv = iv1 ∧ ar = ar1) A) args s 0 0 A) (F0 m 127 ls [])) : ∀ (fu : Nat) (z5 : Int32) (z6 : Int32), wpX10_comesBy_L7 x1 x2 x3 x4 iv ar Q K fu z5 z6 → ∀ (H : Heap) (locs : List Loc), fw_H G ((mw G mh ad) iv ar) A s H locs → ∀ (ls : Array Slot), lv_has ls 10 [(6, .int z6), (5, .int z5), (0, .ref mh), (1, .int x1), (2, .int x2), (3, .int x3), (4, .int x4)] → W p l e rmX10_comesBy s m args below meth c H locs 0 0 (MQ below (fw_Qi G (mw G mh ad) (fun r iv1 ar1 => Q r ∧ iv = iv1 ∧ ar = ar1) A) args s 0 0 A) (F0 m 7 ls []) := by
  intro fu
  induction fu with
  | zero => intro z5 z6 h; exact h.elim
  | succ fu ih =>
    intro z5 z6 h H locs hG ls hl
    unfold wpX10_comesBy_L7 at h
    refine lv_iload C.1 C.2.1 dX10_comesBy_7 (lv_at hl 0 rfl) ?_
    refine lv_iconst (v := 3) C.1 C.2.1 dX10_comesBy_9 (by decide) ?_
    refine lv_icmp_ge (tgt := 127) C.1 C.2.1 dX10_comesBy_10 (by decide) (fun c1 => ?_) (fun c1 => ?_)
    · have h := h.1 c1
      exact hX _ _ h _ _ hG ls (lv_sub hl [0, 1, 2, 3, 4, 5, 6] rfl)
    · have h := h.2 c1
      refine lv_bipush (v := (-2)) C.1 C.2.1 dX10_comesBy_13 (by decide) ?_
      refine lv_istore (lv' := [(7, .int (-2)), (6, .int z6), (5, .int z5), (0, .ref mh), (1, .int x1), (2, .int x2), (3, .int x3), (4, .int x4)]) C.1 C.2.1 dX10_comesBy_15 hl (by decide) rfl (fun ls hl => ?_)
      obtain ⟨ku, h⟩ := h
      refine soX10_comesBy_L17 C hK  ?_ ku _ _ h _ _ hG ls (lv_sub hl [0, 1, 2, 3, 4, 5, 6, 7] rfl)
      intro w30 w31 h H locs hG ls hl
      obtain ⟨y32, ey32⟩ : ∃ z : Int32, z = z6 + 1 := ⟨_, rfl⟩
      have h := h y32 ey32
      refine lv_iinc (v := y32) (lv' := [(6, .int y32), (7, .int w31), (5, .int w30), (0, .ref mh), (1, .int x1), (2, .int x2), (3, .int x3), (4, .int x4)]) C.1 C.2.1 dX10_comesBy_121 hl (k := 1) rfl (by rw [ey32]; rfl) (by decide) rfl (fun ls hl => ?_)
      refine lv_goto (tgt := 7) C.1 C.2.1 dX10_comesBy_124 (by decide) ?_
      exact ih _ _ h _ _ hG ls (lv_sub hl [0, 2, 3, 4, 5, 6, 7] rfl)

set_option maxHeartbeats 4000000 in
set_option maxRecDepth 100000 in
theorem soX10_comesBy (l : Launch) (G : fw_G) (mh : Nat) (ad : Nat → Nat) (iv : fw_F) (ar : fw_R) (x1 : Int32) (x2 : Int32) (x3 : Int32) (x4 : Int32) (Q : Int32 → Prop)  (h : wpX10_comesBy iv ar x1 x2 x3 x4 Q) : fw_M l G (mw G mh ad) yX10_comesBy wsX10_comesBy rmX10_comesBy [.ref mh, .int x1, .int x2, .int x3, .int x4] iv ar (fw_Qi G (mw G mh ad) (fun r iv1 ar1 => Q r ∧ iv = iv1 ∧ ar = ar1)) := by
  refine fw_start (cc := cX10_comesBy) (nL := 10) (rt := (some .int)) (by decide) rfl (Nat.le_of_ble_eq_true rfl) ?_
  intro p e s m below meth c A ls H locs C hK hG hl
  obtain ⟨args, ea⟩ : ∃ z : Array Value, z = ([.ref mh, .int x1, .int x2, .int x3, .int x4] : List Value).toArray := ⟨_, rfl⟩
  rw [← ea] at C ⊢
  have C : fw_C p s m args meth c cX10_comesBy 10 (some .int) wsX10_comesBy RX10 := C
  have hl : lv_has ls 10 [(0, .ref mh), (1, .int x1), (2, .int x2), (3, .int x3), (4, .int x4)] := hl
  unfold wpX10_comesBy at h
  refine lv_iconst (v := 0) C.1 C.2.1 dX10_comesBy_0 (by decide) ?_
  refine lv_istore (lv' := [(5, .int 0), (0, .ref mh), (1, .int x1), (2, .int x2), (3, .int x3), (4, .int x4)]) C.1 C.2.1 dX10_comesBy_1 hl (by decide) rfl (fun ls hl => ?_)
  refine lv_bipush (v := (-2)) C.1 C.2.1 dX10_comesBy_3 (by decide) ?_
  refine lv_istore (lv' := [(6, .int (-2)), (5, .int 0), (0, .ref mh), (1, .int x1), (2, .int x2), (3, .int x3), (4, .int x4)]) C.1 C.2.1 dX10_comesBy_5 hl (by decide) rfl (fun ls hl => ?_)
  obtain ⟨ku, h⟩ := h
  refine soX10_comesBy_L7 C hK  ?_ ku _ _ h _ _ hG ls (lv_sub hl [0, 1, 2, 3, 4, 5, 6] rfl)
  intro w33 w34 h H locs hG ls hl
  refine lv_iload C.1 C.2.1 dX10_comesBy_127 (lv_at hl 1 rfl) ?_
  exact fw_iret C hG ⟨h, rfl, rfl⟩ dX10_comesBy_129
/-! KnifeBoardModel.allWays(I)I -/
def rmX10_allWays : Room := { frames := 2, cells := 0, slots := 0, locals := 48 }
def wpX10_allWays (iv : fw_F) (ar : fw_R) (x1 : Int32) (Q : Int32 → Prop) : Prop := wpX10_sumOf iv ar 1 x1 (fun (r1 : Int32) => wpX10_sumOf iv ar 2 x1 (fun (r2 : Int32) => Q (r1 * r2)))
set_option maxHeartbeats 4000000 in
set_option maxRecDepth 100000 in
theorem soX10_allWays (l : Launch) (G : fw_G) (mh : Nat) (ad : Nat → Nat) (iv : fw_F) (ar : fw_R) (x1 : Int32) (Q : Int32 → Prop)  (h : wpX10_allWays iv ar x1 Q) : fw_M l G (mw G mh ad) yX10_allWays wsX10_allWays rmX10_allWays [.ref mh, .int x1] iv ar (fw_Qi G (mw G mh ad) (fun r iv1 ar1 => Q r ∧ iv = iv1 ∧ ar = ar1)) := by
  refine fw_start (cc := cX10_allWays) (nL := 2) (rt := (some .int)) (by decide) rfl (Nat.le_of_ble_eq_true rfl) ?_
  intro p e s m below meth c A ls H locs C hK hG hl
  obtain ⟨args, ea⟩ : ∃ z : Array Value, z = ([.ref mh, .int x1] : List Value).toArray := ⟨_, rfl⟩
  rw [← ea] at C ⊢
  have C : fw_C p s m args meth c cX10_allWays 2 (some .int) wsX10_allWays RX10 := C
  have hl : lv_has ls 2 [(0, .ref mh), (1, .int x1)] := hl
  unfold wpX10_allWays at h
  refine lv_aload_n C.1 C.2.1 dX10_allWays_0 rfl (lv_at hl 0 rfl) ?_
  refine lv_iconst (v := 1) C.1 C.2.1 dX10_allWays_1 (by decide) ?_
  refine lv_iload_n C.1 C.2.1 dX10_allWays_2 rfl (lv_at hl 1 rfl) ?_
  refine fw_rcalli (va_runV (As := [.int 1, .int x1]) (rest := []) ⟨C.1, C.2.1, C.2.2.2.2.2.2, C.2.2.2.2.2.1, C.2.2.2.2.1⟩ (soX10_sumOf l G mh ad iv ar 1 x1 _  h H.size) (cwV 2 C.2.2.2.2.1 gX10_allWays_X10_sumOf rfl rfl rfl (by decide +kernel) ⟨Nat.le_of_ble_eq_true rfl, Nat.le_of_ble_eq_true rfl⟩) (fw_preV hG hK (ci := 10) rfl mw_o) rfl rfl hl.1 rfl (lv_room (Nat.le_of_ble_eq_true rfl)) dX10_allWays_3 ⟨Nat.zero_le _, Nat.zero_le _⟩) hG hK (fun r1  H locs h hG => ?_)
  refine lv_aload_n C.1 C.2.1 dX10_allWays_6 rfl (lv_at hl 0 rfl) ?_
  refine lv_iconst (v := 2) C.1 C.2.1 dX10_allWays_7 (by decide) ?_
  refine lv_iload_n C.1 C.2.1 dX10_allWays_8 rfl (lv_at hl 1 rfl) ?_
  refine fw_rcalli (va_runV (As := [.int 2, .int x1]) (rest := [.int r1]) ⟨C.1, C.2.1, C.2.2.2.2.2.2, C.2.2.2.2.2.1, C.2.2.2.2.1⟩ (soX10_sumOf l G mh ad iv ar 2 x1 _  h H.size) (cwV 2 C.2.2.2.2.1 gX10_allWays_X10_sumOf rfl rfl rfl (by decide +kernel) ⟨Nat.le_of_ble_eq_true rfl, Nat.le_of_ble_eq_true rfl⟩) (fw_preV hG hK (ci := 10) rfl mw_o) rfl rfl hl.1 rfl (lv_room (Nat.le_of_ble_eq_true rfl)) dX10_allWays_9 ⟨Nat.zero_le _, Nat.zero_le _⟩) hG hK (fun r2  H locs h hG => ?_)
  refine lv_imul C.1 C.2.1 dX10_allWays_12 ?_
  exact fw_iret C hG ⟨h, rfl, rfl⟩ dX10_allWays_13
/-! KnifeBoardModel.hurts(IIZI)J -/
def rmX10_hurts : Room := { frames := 3, cells := 0, slots := 0, locals := 76 }
def wpX10_hurts (iv : fw_F) (ar : fw_R) (x1 : Int32) (x2 : Int32) (x3 : Int32) (x4 : Int32) (Q : Int64 → fw_F → fw_R → Prop) : Prop := wpX10_isCell iv ar x1 (fun (r1 : Int32) => (r1 = 0 → (Q (-9223372036854775808) iv ar)) ∧ (¬ r1 = 0 → (wpX10_isStage x2 (fun (r3 : Int32) => (r3 = 0 → (Q (-9223372036854775808) iv ar)) ∧ (¬ r3 = 0 → (wpX10_isWhich x4 (fun (r5 : Int32) => (r5 = 0 → (Q (-9223372036854775808) iv ar)) ∧ (¬ r5 = 0 → ((¬ (iv 10) = 0 → (wpX10_laySeen iv ar  (fun (iv8 : fw_F) (ar9 : fw_R) => wpX10_comesBy iv8 ar9 x1 x2 x3 0 (fun (r10 : Int32) => wpX10_allWays iv8 ar9 x2 (fun (r11 : Int32) => wpX10_share r10.toInt64 r11.toInt64 x4 (fun (r12 : Int64) => Q r12 iv8 ar9)))))) ∧ ((iv 10) = 0 → (Q (-9223372036854775808) iv ar)))))))))))
set_option maxHeartbeats 4000000 in
set_option maxRecDepth 100000 in
theorem soX10_hurts (l : Launch) (G : fw_G) (mh : Nat) (ad : Nat → Nat) (iv : fw_F) (ar : fw_R) (x1 : Int32) (x2 : Int32) (x3 : Int32) (x4 : Int32) (Q : Int64 → fw_F → fw_R → Prop)  (h : wpX10_hurts iv ar x1 x2 x3 x4 Q) : fw_M l G (mw G mh ad) yX10_hurts wsX10_hurts rmX10_hurts [.ref mh, .int x1, .int x2, .int x3, .int x4] iv ar (fw_Ql G (mw G mh ad) Q) := by
  refine fw_start (cc := cX10_hurts) (nL := 5) (rt := (some .long)) (by decide) rfl (Nat.le_of_ble_eq_true rfl) ?_
  intro p e s m below meth c A ls H locs C hK hG hl
  obtain ⟨args, ea⟩ : ∃ z : Array Value, z = ([.ref mh, .int x1, .int x2, .int x3, .int x4] : List Value).toArray := ⟨_, rfl⟩
  rw [← ea] at C ⊢
  have C : fw_C p s m args meth c cX10_hurts 5 (some .long) wsX10_hurts RX10 := C
  have hl : lv_has ls 5 [(0, .ref mh), (1, .int x1), (2, .int x2), (3, .int x3), (4, .int x4)] := hl
  unfold wpX10_hurts at h
  have in_X10 : ∀ x ∈ wsX100, x ∈ wsX10_hurts := by decide +kernel
  have k146 := C.2.2.2.2.1 (.fieldLink RX10 146 "KnifeBoardModel" "isHand" "Z") (by decide +kernel)
  have k75 := C.2.2.2.2.1 (.constantLong RX10 75 (-9223372036854775808)) (by decide +kernel)
  refine lv_aload_n C.1 C.2.1 dX10_hurts_0 rfl (lv_at hl 0 rfl) ?_
  refine lv_iload_n C.1 C.2.1 dX10_hurts_1 rfl (lv_at hl 1 rfl) ?_
  refine fw_rcalli (va_runV (As := [.int x1]) (rest := []) ⟨C.1, C.2.1, C.2.2.2.2.2.2, C.2.2.2.2.2.1, C.2.2.2.2.1⟩ (soX10_isCell l G mh ad iv ar x1 _  h H.size) (cwV 1 C.2.2.2.2.1 gX10_hurts_X10_isCell rfl rfl rfl (by decide +kernel) ⟨Nat.le_of_ble_eq_true rfl, Nat.le_of_ble_eq_true rfl⟩) (fw_preV hG hK (ci := 10) rfl mw_o) rfl rfl hl.1 rfl (lv_room (Nat.le_of_ble_eq_true rfl)) dX10_hurts_2 ⟨Nat.zero_le _, Nat.zero_le _⟩) hG hK (fun r1  H locs h hG => ?_)
  refine lv_if_eq (tgt := 30) C.1 C.2.1 dX10_hurts_5 (by decide) (fun c2 => ?_) (fun c2 => ?_)
  · have h := h.1 c2
    refine lv_ldc2 C.1 C.2.1 C.2.2.2.2.2.1 k75 dX10_hurts_30 ?_
    exact fw_lret C hG h dX10_hurts_33
  · have h := h.2 c2
    refine lv_iload_n C.1 C.2.1 dX10_hurts_8 rfl (lv_at hl 2 rfl) ?_
    refine fw_pcalli (va_runS (As := [.int x2]) (rest := []) ⟨C.1, C.2.1, C.2.2.2.2.2.2, C.2.2.2.2.2.1, C.2.2.2.2.1⟩ (soX10_isStage l x2 _ h H.size) (va_cwS 1 C.2.2.2.2.1 gX10_hurts_X10_isStage rfl rfl rfl (by decide +kernel) ⟨Nat.le_of_ble_eq_true rfl, Nat.le_of_ble_eq_true rfl⟩) fw_ppre rfl rfl hl.1 rfl (lv_room (Nat.le_of_ble_eq_true rfl)) dX10_hurts_9 ⟨Nat.zero_le _, Nat.zero_le _⟩) hG hK (fun r3  H locs h hG => ?_)
    refine lv_if_eq (tgt := 30) C.1 C.2.1 dX10_hurts_12 (by decide) (fun c4 => ?_) (fun c4 => ?_)
    · have h := h.1 c4
      refine lv_ldc2 C.1 C.2.1 C.2.2.2.2.2.1 k75 dX10_hurts_30 ?_
      exact fw_lret C hG h dX10_hurts_33
    · have h := h.2 c4
      refine lv_iload C.1 C.2.1 dX10_hurts_15 (lv_at hl 4 rfl) ?_
      refine fw_pcalli (va_runS (As := [.int x4]) (rest := []) ⟨C.1, C.2.1, C.2.2.2.2.2.2, C.2.2.2.2.2.1, C.2.2.2.2.1⟩ (soX10_isWhich l x4 _ h H.size) (va_cwS 1 C.2.2.2.2.1 gX10_hurts_X10_isWhich rfl rfl rfl (by decide +kernel) ⟨Nat.le_of_ble_eq_true rfl, Nat.le_of_ble_eq_true rfl⟩) fw_ppre rfl rfl hl.1 rfl (lv_room (Nat.le_of_ble_eq_true rfl)) dX10_hurts_17 ⟨Nat.zero_le _, Nat.zero_le _⟩) hG hK (fun r5  H locs h hG => ?_)
      refine lv_if_eq (tgt := 30) C.1 C.2.1 dX10_hurts_20 (by decide) (fun c6 => ?_) (fun c6 => ?_)
      · have h := h.1 c6
        refine lv_ldc2 C.1 C.2.1 C.2.2.2.2.2.1 k75 dX10_hurts_30 ?_
        exact fw_lret C hG h dX10_hurts_33
      · have h := h.2 c6
        refine lv_aload_n C.1 C.2.1 dX10_hurts_23 rfl (lv_at hl 0 rfl) ?_
        refine fw_get (w := (mw G mh ad)) C in_X10 hK hG 0 mw_o rfl 10 (by decide) k146 rfl rfl dX10_hurts_24 ?_
        refine lv_if_ne (tgt := 34) C.1 C.2.1 dX10_hurts_27 (by decide) (fun c7 => ?_) (fun c7 => ?_)
        · have h := h.1 c7
          refine lv_aload_n C.1 C.2.1 dX10_hurts_34 rfl (lv_at hl 0 rfl) ?_
          refine fw_callv (va_runV (As := []) (rest := []) ⟨C.1, C.2.1, C.2.2.2.2.2.2, C.2.2.2.2.2.1, C.2.2.2.2.1⟩ (soX10_laySeen l G mh ad iv ar  _  h H.size) (cwV 0 C.2.2.2.2.1 gX10_hurts_X10_laySeen rfl rfl rfl (by decide +kernel) ⟨Nat.le_of_ble_eq_true rfl, Nat.le_of_ble_eq_true rfl⟩) (fw_preV hG hK (ci := 10) rfl mw_o) rfl rfl hl.1 rfl (lv_room (Nat.le_of_ble_eq_true rfl)) dX10_hurts_35 ⟨Nat.zero_le _, Nat.zero_le _⟩) hG hK (fun iv8 ar9 H locs h hG => ?_)
          refine lv_aload_n C.1 C.2.1 dX10_hurts_38 rfl (lv_at hl 0 rfl) ?_
          refine lv_iload_n C.1 C.2.1 dX10_hurts_39 rfl (lv_at hl 1 rfl) ?_
          refine lv_iload_n C.1 C.2.1 dX10_hurts_40 rfl (lv_at hl 2 rfl) ?_
          refine lv_iload_n C.1 C.2.1 dX10_hurts_41 rfl (lv_at hl 3 rfl) ?_
          refine lv_iconst (v := 0) C.1 C.2.1 dX10_hurts_42 (by decide) ?_
          refine fw_rcalli (va_runV (As := [.int x1, .int x2, .int x3, .int 0]) (rest := []) ⟨C.1, C.2.1, C.2.2.2.2.2.2, C.2.2.2.2.2.1, C.2.2.2.2.1⟩ (soX10_comesBy l G mh ad iv8 ar9 x1 x2 x3 0 _  h H.size) (cwV 4 C.2.2.2.2.1 gX10_hurts_X10_comesBy rfl rfl rfl (by decide +kernel) ⟨Nat.le_of_ble_eq_true rfl, Nat.le_of_ble_eq_true rfl⟩) (fw_preV hG hK (ci := 10) rfl mw_o) rfl rfl hl.1 rfl (lv_room (Nat.le_of_ble_eq_true rfl)) dX10_hurts_43 ⟨Nat.zero_le _, Nat.zero_le _⟩) hG hK (fun r10  H locs h hG => ?_)
          refine lv_i2l C.1 C.2.1 dX10_hurts_46 rfl ?_
          refine lv_aload_n C.1 C.2.1 dX10_hurts_47 rfl (lv_at hl 0 rfl) ?_
          refine lv_iload_n C.1 C.2.1 dX10_hurts_48 rfl (lv_at hl 2 rfl) ?_
          refine fw_rcalli (va_runV (As := [.int x2]) (rest := [.long r10.toInt64]) ⟨C.1, C.2.1, C.2.2.2.2.2.2, C.2.2.2.2.2.1, C.2.2.2.2.1⟩ (soX10_allWays l G mh ad iv8 ar9 x2 _  h H.size) (cwV 1 C.2.2.2.2.1 gX10_hurts_X10_allWays rfl rfl rfl (by decide +kernel) ⟨Nat.le_of_ble_eq_true rfl, Nat.le_of_ble_eq_true rfl⟩) (fw_preV hG hK (ci := 10) rfl mw_o) rfl rfl hl.1 rfl (lv_room (Nat.le_of_ble_eq_true rfl)) dX10_hurts_49 ⟨Nat.zero_le _, Nat.zero_le _⟩) hG hK (fun r11  H locs h hG => ?_)
          refine lv_i2l C.1 C.2.1 dX10_hurts_52 rfl ?_
          refine lv_iload C.1 C.2.1 dX10_hurts_53 (lv_at hl 4 rfl) ?_
          refine fw_pcalll (va_runS (As := [.long r10.toInt64, .long r11.toInt64, .int x4]) (rest := []) ⟨C.1, C.2.1, C.2.2.2.2.2.2, C.2.2.2.2.2.1, C.2.2.2.2.1⟩ (soX10_share l r10.toInt64 r11.toInt64 x4 _ h H.size) (va_cwS 3 C.2.2.2.2.1 gX10_hurts_X10_share rfl rfl rfl (by decide +kernel) ⟨Nat.le_of_ble_eq_true rfl, Nat.le_of_ble_eq_true rfl⟩) fw_ppre rfl rfl hl.1 rfl (lv_room (Nat.le_of_ble_eq_true rfl)) dX10_hurts_55 ⟨Nat.zero_le _, Nat.zero_le _⟩) hG hK (fun r12  H locs h hG => ?_)
          exact fw_lret C hG h dX10_hurts_58
        · have h := h.2 c7
          refine lv_ldc2 C.1 C.2.1 C.2.2.2.2.2.1 k75 dX10_hurts_30 ?_
          exact fw_lret C hG h dX10_hurts_33
/-! KnifeBoardModel.holds(IIIIII)J -/
def rmX10_holds : Room := { frames := 5, cells := 0, slots := 0, locals := 120 }
def wpX10_holds (iv : fw_F) (ar : fw_R) (x1 : Int32) (x2 : Int32) (x3 : Int32) (x4 : Int32) (x5 : Int32) (x6 : Int32) (Q : Int64 → fw_F → fw_R → Prop) : Prop := wpX10_isKnife iv ar x1 (fun (r1 : Int32) => (r1 = 0 → (Q (-9223372036854775808) iv ar)) ∧ (¬ r1 = 0 → (wpX10_isCell iv ar x4 (fun (r3 : Int32) => (r3 = 0 → (Q (-9223372036854775808) iv ar)) ∧ (¬ r3 = 0 → (wpX10_isStart x2 (fun (r5 : Int32) => (r5 = 0 → (Q (-9223372036854775808) iv ar)) ∧ (¬ r5 = 0 → (wpX10_isFeet x3 (fun (r7 : Int32) => (r7 = 0 → (Q (-9223372036854775808) iv ar)) ∧ (¬ r7 = 0 → (wpX10_isStage x5 (fun (r9 : Int32) => (r9 = 0 → (Q (-9223372036854775808) iv ar)) ∧ (¬ r9 = 0 → (wpX10_isWhich x6 (fun (r11 : Int32) => (r11 = 0 → (Q (-9223372036854775808) iv ar)) ∧ (¬ r11 = 0 → ((¬ (iv 10) = 0 → (wpX10_laySeen iv ar  (fun (iv14 : fw_F) (ar15 : fw_R) => wpX10_stuckBy iv14 ar15 x1 x2 x3 x5 (fun (r16 : Int32) => wpX10_comesBy iv14 ar15 x4 x5 1 1 (fun (r17 : Int32) => ∀ y18 : Int64, y18 = r16.toInt64 * r17.toInt64 → (wpX10_sumOf iv14 ar15 0 x5 (fun (r19 : Int32) => wpX10_allWays iv14 ar15 x5 (fun (r20 : Int32) => wpX10_share y18 (r19.toInt64 * r20.toInt64) x6 (fun (r21 : Int64) => Q r21 iv14 ar15))))))))) ∧ ((iv 10) = 0 → (Q (-9223372036854775808) iv ar))))))))))))))))))))
set_option maxHeartbeats 4000000 in
set_option maxRecDepth 100000 in
theorem soX10_holds (l : Launch) (G : fw_G) (mh : Nat) (ad : Nat → Nat) (iv : fw_F) (ar : fw_R) (x1 : Int32) (x2 : Int32) (x3 : Int32) (x4 : Int32) (x5 : Int32) (x6 : Int32) (Q : Int64 → fw_F → fw_R → Prop)  (h : wpX10_holds iv ar x1 x2 x3 x4 x5 x6 Q) : fw_M l G (mw G mh ad) yX10_holds wsX10_holds rmX10_holds [.ref mh, .int x1, .int x2, .int x3, .int x4, .int x5, .int x6] iv ar (fw_Ql G (mw G mh ad) Q) := by
  refine fw_start (cc := cX10_holds) (nL := 9) (rt := (some .long)) (by decide) rfl (Nat.le_of_ble_eq_true rfl) ?_
  intro p e s m below meth c A ls H locs C hK hG hl
  obtain ⟨args, ea⟩ : ∃ z : Array Value, z = ([.ref mh, .int x1, .int x2, .int x3, .int x4, .int x5, .int x6] : List Value).toArray := ⟨_, rfl⟩
  rw [← ea] at C ⊢
  have C : fw_C p s m args meth c cX10_holds 9 (some .long) wsX10_holds RX10 := C
  have hl : lv_has ls 9 [(0, .ref mh), (1, .int x1), (2, .int x2), (3, .int x3), (4, .int x4), (5, .int x5), (6, .int x6)] := hl
  unfold wpX10_holds at h
  have in_X10 : ∀ x ∈ wsX100, x ∈ wsX10_holds := by decide +kernel
  have k146 := C.2.2.2.2.1 (.fieldLink RX10 146 "KnifeBoardModel" "isHand" "Z") (by decide +kernel)
  have k75 := C.2.2.2.2.1 (.constantLong RX10 75 (-9223372036854775808)) (by decide +kernel)
  refine lv_aload_n C.1 C.2.1 dX10_holds_0 rfl (lv_at hl 0 rfl) ?_
  refine lv_iload_n C.1 C.2.1 dX10_holds_1 rfl (lv_at hl 1 rfl) ?_
  refine fw_rcalli (va_runV (As := [.int x1]) (rest := []) ⟨C.1, C.2.1, C.2.2.2.2.2.2, C.2.2.2.2.2.1, C.2.2.2.2.1⟩ (soX10_isKnife l G mh ad iv ar x1 _  h H.size) (cwV 1 C.2.2.2.2.1 gX10_holds_X10_isKnife rfl rfl rfl (by decide +kernel) ⟨Nat.le_of_ble_eq_true rfl, Nat.le_of_ble_eq_true rfl⟩) (fw_preV hG hK (ci := 10) rfl mw_o) rfl rfl hl.1 rfl (lv_room (Nat.le_of_ble_eq_true rfl)) dX10_holds_2 ⟨Nat.zero_le _, Nat.zero_le _⟩) hG hK (fun r1  H locs h hG => ?_)
  refine lv_if_eq (tgt := 54) C.1 C.2.1 dX10_holds_5 (by decide) (fun c2 => ?_) (fun c2 => ?_)
  · have h := h.1 c2
    refine lv_ldc2 C.1 C.2.1 C.2.2.2.2.2.1 k75 dX10_holds_54 ?_
    exact fw_lret C hG h dX10_holds_57
  · have h := h.2 c2
    refine lv_aload_n C.1 C.2.1 dX10_holds_8 rfl (lv_at hl 0 rfl) ?_
    refine lv_iload C.1 C.2.1 dX10_holds_9 (lv_at hl 4 rfl) ?_
    refine fw_rcalli (va_runV (As := [.int x4]) (rest := []) ⟨C.1, C.2.1, C.2.2.2.2.2.2, C.2.2.2.2.2.1, C.2.2.2.2.1⟩ (soX10_isCell l G mh ad iv ar x4 _  h H.size) (cwV 1 C.2.2.2.2.1 gX10_holds_X10_isCell rfl rfl rfl (by decide +kernel) ⟨Nat.le_of_ble_eq_true rfl, Nat.le_of_ble_eq_true rfl⟩) (fw_preV hG hK (ci := 10) rfl mw_o) rfl rfl hl.1 rfl (lv_room (Nat.le_of_ble_eq_true rfl)) dX10_holds_11 ⟨Nat.zero_le _, Nat.zero_le _⟩) hG hK (fun r3  H locs h hG => ?_)
    refine lv_if_eq (tgt := 54) C.1 C.2.1 dX10_holds_14 (by decide) (fun c4 => ?_) (fun c4 => ?_)
    · have h := h.1 c4
      refine lv_ldc2 C.1 C.2.1 C.2.2.2.2.2.1 k75 dX10_holds_54 ?_
      exact fw_lret C hG h dX10_holds_57
    · have h := h.2 c4
      refine lv_iload_n C.1 C.2.1 dX10_holds_17 rfl (lv_at hl 2 rfl) ?_
      refine fw_pcalli (va_runS (As := [.int x2]) (rest := []) ⟨C.1, C.2.1, C.2.2.2.2.2.2, C.2.2.2.2.2.1, C.2.2.2.2.1⟩ (soX10_isStart l x2 _ h H.size) (va_cwS 1 C.2.2.2.2.1 gX10_holds_X10_isStart rfl rfl rfl (by decide +kernel) ⟨Nat.le_of_ble_eq_true rfl, Nat.le_of_ble_eq_true rfl⟩) fw_ppre rfl rfl hl.1 rfl (lv_room (Nat.le_of_ble_eq_true rfl)) dX10_holds_18 ⟨Nat.zero_le _, Nat.zero_le _⟩) hG hK (fun r5  H locs h hG => ?_)
      refine lv_if_eq (tgt := 54) C.1 C.2.1 dX10_holds_21 (by decide) (fun c6 => ?_) (fun c6 => ?_)
      · have h := h.1 c6
        refine lv_ldc2 C.1 C.2.1 C.2.2.2.2.2.1 k75 dX10_holds_54 ?_
        exact fw_lret C hG h dX10_holds_57
      · have h := h.2 c6
        refine lv_iload_n C.1 C.2.1 dX10_holds_24 rfl (lv_at hl 3 rfl) ?_
        refine fw_pcalli (va_runS (As := [.int x3]) (rest := []) ⟨C.1, C.2.1, C.2.2.2.2.2.2, C.2.2.2.2.2.1, C.2.2.2.2.1⟩ (soX10_isFeet l x3 _ h H.size) (va_cwS 1 C.2.2.2.2.1 gX10_holds_X10_isFeet rfl rfl rfl (by decide +kernel) ⟨Nat.le_of_ble_eq_true rfl, Nat.le_of_ble_eq_true rfl⟩) fw_ppre rfl rfl hl.1 rfl (lv_room (Nat.le_of_ble_eq_true rfl)) dX10_holds_25 ⟨Nat.zero_le _, Nat.zero_le _⟩) hG hK (fun r7  H locs h hG => ?_)
        refine lv_if_eq (tgt := 54) C.1 C.2.1 dX10_holds_28 (by decide) (fun c8 => ?_) (fun c8 => ?_)
        · have h := h.1 c8
          refine lv_ldc2 C.1 C.2.1 C.2.2.2.2.2.1 k75 dX10_holds_54 ?_
          exact fw_lret C hG h dX10_holds_57
        · have h := h.2 c8
          refine lv_iload C.1 C.2.1 dX10_holds_31 (lv_at hl 5 rfl) ?_
          refine fw_pcalli (va_runS (As := [.int x5]) (rest := []) ⟨C.1, C.2.1, C.2.2.2.2.2.2, C.2.2.2.2.2.1, C.2.2.2.2.1⟩ (soX10_isStage l x5 _ h H.size) (va_cwS 1 C.2.2.2.2.1 gX10_holds_X10_isStage rfl rfl rfl (by decide +kernel) ⟨Nat.le_of_ble_eq_true rfl, Nat.le_of_ble_eq_true rfl⟩) fw_ppre rfl rfl hl.1 rfl (lv_room (Nat.le_of_ble_eq_true rfl)) dX10_holds_33 ⟨Nat.zero_le _, Nat.zero_le _⟩) hG hK (fun r9  H locs h hG => ?_)
          refine lv_if_eq (tgt := 54) C.1 C.2.1 dX10_holds_36 (by decide) (fun c10 => ?_) (fun c10 => ?_)
          · have h := h.1 c10
            refine lv_ldc2 C.1 C.2.1 C.2.2.2.2.2.1 k75 dX10_holds_54 ?_
            exact fw_lret C hG h dX10_holds_57
          · have h := h.2 c10
            refine lv_iload C.1 C.2.1 dX10_holds_39 (lv_at hl 6 rfl) ?_
            refine fw_pcalli (va_runS (As := [.int x6]) (rest := []) ⟨C.1, C.2.1, C.2.2.2.2.2.2, C.2.2.2.2.2.1, C.2.2.2.2.1⟩ (soX10_isWhich l x6 _ h H.size) (va_cwS 1 C.2.2.2.2.1 gX10_holds_X10_isWhich rfl rfl rfl (by decide +kernel) ⟨Nat.le_of_ble_eq_true rfl, Nat.le_of_ble_eq_true rfl⟩) fw_ppre rfl rfl hl.1 rfl (lv_room (Nat.le_of_ble_eq_true rfl)) dX10_holds_41 ⟨Nat.zero_le _, Nat.zero_le _⟩) hG hK (fun r11  H locs h hG => ?_)
            refine lv_if_eq (tgt := 54) C.1 C.2.1 dX10_holds_44 (by decide) (fun c12 => ?_) (fun c12 => ?_)
            · have h := h.1 c12
              refine lv_ldc2 C.1 C.2.1 C.2.2.2.2.2.1 k75 dX10_holds_54 ?_
              exact fw_lret C hG h dX10_holds_57
            · have h := h.2 c12
              refine lv_aload_n C.1 C.2.1 dX10_holds_47 rfl (lv_at hl 0 rfl) ?_
              refine fw_get (w := (mw G mh ad)) C in_X10 hK hG 0 mw_o rfl 10 (by decide) k146 rfl rfl dX10_holds_48 ?_
              refine lv_if_ne (tgt := 58) C.1 C.2.1 dX10_holds_51 (by decide) (fun c13 => ?_) (fun c13 => ?_)
              · have h := h.1 c13
                refine lv_aload_n C.1 C.2.1 dX10_holds_58 rfl (lv_at hl 0 rfl) ?_
                refine fw_callv (va_runV (As := []) (rest := []) ⟨C.1, C.2.1, C.2.2.2.2.2.2, C.2.2.2.2.2.1, C.2.2.2.2.1⟩ (soX10_laySeen l G mh ad iv ar  _  h H.size) (cwV 0 C.2.2.2.2.1 gX10_holds_X10_laySeen rfl rfl rfl (by decide +kernel) ⟨Nat.le_of_ble_eq_true rfl, Nat.le_of_ble_eq_true rfl⟩) (fw_preV hG hK (ci := 10) rfl mw_o) rfl rfl hl.1 rfl (lv_room (Nat.le_of_ble_eq_true rfl)) dX10_holds_59 ⟨Nat.zero_le _, Nat.zero_le _⟩) hG hK (fun iv14 ar15 H locs h hG => ?_)
                refine lv_aload_n C.1 C.2.1 dX10_holds_62 rfl (lv_at hl 0 rfl) ?_
                refine lv_iload_n C.1 C.2.1 dX10_holds_63 rfl (lv_at hl 1 rfl) ?_
                refine lv_iload_n C.1 C.2.1 dX10_holds_64 rfl (lv_at hl 2 rfl) ?_
                refine lv_iload_n C.1 C.2.1 dX10_holds_65 rfl (lv_at hl 3 rfl) ?_
                refine lv_iload C.1 C.2.1 dX10_holds_66 (lv_at hl 5 rfl) ?_
                refine fw_rcalli (va_runV (As := [.int x1, .int x2, .int x3, .int x5]) (rest := []) ⟨C.1, C.2.1, C.2.2.2.2.2.2, C.2.2.2.2.2.1, C.2.2.2.2.1⟩ (soX10_stuckBy l G mh ad iv14 ar15 x1 x2 x3 x5 _  h H.size) (cwV 4 C.2.2.2.2.1 gX10_holds_X10_stuckBy rfl rfl rfl (by decide +kernel) ⟨Nat.le_of_ble_eq_true rfl, Nat.le_of_ble_eq_true rfl⟩) (fw_preV hG hK (ci := 10) rfl mw_o) rfl rfl hl.1 rfl (lv_room (Nat.le_of_ble_eq_true rfl)) dX10_holds_68 ⟨Nat.zero_le _, Nat.zero_le _⟩) hG hK (fun r16  H locs h hG => ?_)
                refine lv_i2l C.1 C.2.1 dX10_holds_71 rfl ?_
                refine lv_aload_n C.1 C.2.1 dX10_holds_72 rfl (lv_at hl 0 rfl) ?_
                refine lv_iload C.1 C.2.1 dX10_holds_73 (lv_at hl 4 rfl) ?_
                refine lv_iload C.1 C.2.1 dX10_holds_75 (lv_at hl 5 rfl) ?_
                refine lv_iconst (v := 1) C.1 C.2.1 dX10_holds_77 (by decide) ?_
                refine lv_iconst (v := 1) C.1 C.2.1 dX10_holds_78 (by decide) ?_
                refine fw_rcalli (va_runV (As := [.int x4, .int x5, .int 1, .int 1]) (rest := [.long r16.toInt64]) ⟨C.1, C.2.1, C.2.2.2.2.2.2, C.2.2.2.2.2.1, C.2.2.2.2.1⟩ (soX10_comesBy l G mh ad iv14 ar15 x4 x5 1 1 _  h H.size) (cwV 4 C.2.2.2.2.1 gX10_holds_X10_comesBy rfl rfl rfl (by decide +kernel) ⟨Nat.le_of_ble_eq_true rfl, Nat.le_of_ble_eq_true rfl⟩) (fw_preV hG hK (ci := 10) rfl mw_o) rfl rfl hl.1 rfl (lv_room (Nat.le_of_ble_eq_true rfl)) dX10_holds_79 ⟨Nat.zero_le _, Nat.zero_le _⟩) hG hK (fun r17  H locs h hG => ?_)
                refine lv_i2l C.1 C.2.1 dX10_holds_82 rfl ?_
                refine lv_lmul C.1 C.2.1 dX10_holds_83 ?_
                refine lv_topl (fun y18 ey18 => ?_)
                have h := h y18 ey18
                refine lv_lstore (lv' := [(7, .long y18), (0, .ref mh), (1, .int x1), (2, .int x2), (3, .int x3), (4, .int x4), (5, .int x5), (6, .int x6)]) C.1 C.2.1 dX10_holds_84 hl (by decide) rfl (fun ls hl => ?_)
                refine lv_lload C.1 C.2.1 dX10_holds_86 (lv_at hl 0 rfl) ?_
                refine lv_aload_n C.1 C.2.1 dX10_holds_88 rfl (lv_at hl 1 rfl) ?_
                refine lv_iconst (v := 0) C.1 C.2.1 dX10_holds_89 (by decide) ?_
                refine lv_iload C.1 C.2.1 dX10_holds_90 (lv_at hl 6 rfl) ?_
                refine fw_rcalli (va_runV (As := [.int 0, .int x5]) (rest := [.long y18]) ⟨C.1, C.2.1, C.2.2.2.2.2.2, C.2.2.2.2.2.1, C.2.2.2.2.1⟩ (soX10_sumOf l G mh ad iv14 ar15 0 x5 _  h H.size) (cwV 2 C.2.2.2.2.1 gX10_holds_X10_sumOf rfl rfl rfl (by decide +kernel) ⟨Nat.le_of_ble_eq_true rfl, Nat.le_of_ble_eq_true rfl⟩) (fw_preV hG hK (ci := 10) rfl mw_o) rfl rfl hl.1 rfl (lv_room (Nat.le_of_ble_eq_true rfl)) dX10_holds_92 ⟨Nat.zero_le _, Nat.zero_le _⟩) hG hK (fun r19  H locs h hG => ?_)
                refine lv_i2l C.1 C.2.1 dX10_holds_95 rfl ?_
                refine lv_aload_n C.1 C.2.1 dX10_holds_96 rfl (lv_at hl 1 rfl) ?_
                refine lv_iload C.1 C.2.1 dX10_holds_97 (lv_at hl 6 rfl) ?_
                refine fw_rcalli (va_runV (As := [.int x5]) (rest := [.long r19.toInt64, .long y18]) ⟨C.1, C.2.1, C.2.2.2.2.2.2, C.2.2.2.2.2.1, C.2.2.2.2.1⟩ (soX10_allWays l G mh ad iv14 ar15 x5 _  h H.size) (cwV 1 C.2.2.2.2.1 gX10_holds_X10_allWays rfl rfl rfl (by decide +kernel) ⟨Nat.le_of_ble_eq_true rfl, Nat.le_of_ble_eq_true rfl⟩) (fw_preV hG hK (ci := 10) rfl mw_o) rfl rfl hl.1 rfl (lv_room (Nat.le_of_ble_eq_true rfl)) dX10_holds_99 ⟨Nat.zero_le _, Nat.zero_le _⟩) hG hK (fun r20  H locs h hG => ?_)
                refine lv_i2l C.1 C.2.1 dX10_holds_102 rfl ?_
                refine lv_lmul C.1 C.2.1 dX10_holds_103 ?_
                refine lv_iload C.1 C.2.1 dX10_holds_104 (lv_at hl 7 rfl) ?_
                refine fw_pcalll (va_runS (As := [.long y18, .long (r19.toInt64 * r20.toInt64), .int x6]) (rest := []) ⟨C.1, C.2.1, C.2.2.2.2.2.2, C.2.2.2.2.2.1, C.2.2.2.2.1⟩ (soX10_share l y18 (r19.toInt64 * r20.toInt64) x6 _ h H.size) (va_cwS 3 C.2.2.2.2.1 gX10_holds_X10_share rfl rfl rfl (by decide +kernel) ⟨Nat.le_of_ble_eq_true rfl, Nat.le_of_ble_eq_true rfl⟩) fw_ppre rfl rfl hl.1 rfl (lv_room (Nat.le_of_ble_eq_true rfl)) dX10_holds_106 ⟨Nat.zero_le _, Nat.zero_le _⟩) hG hK (fun r21  H locs h hG => ?_)
                exact fw_lret C hG h dX10_holds_109
              · have h := h.2 c13
                refine lv_ldc2 C.1 C.2.1 C.2.2.2.2.2.1 k75 dX10_holds_54 ?_
                exact fw_lret C hG h dX10_holds_57
/-! KnifeBoardModel.whyRule(II)I -/
def rmX10_whyRule : Room := { frames := 2, cells := 0, slots := 0, locals := 42 }
def wpX10_whyRule (iv : fw_F) (ar : fw_R) (x1 : Int32) (x2 : Int32) (Q : Int32 → Prop) : Prop := wpX10_within x1 0 1000 (fun (r1 : Int32) => (r1 = 0 → (Q (-2))) ∧ (¬ r1 = 0 → (wpX10_isStage x2 (fun (r3 : Int32) => (¬ r3 = 0 → (((iv 10) = 0 → (Q (-3))) ∧ (¬ (iv 10) = 0 → (((iv 16) ≤ 0 → (Q (-3))) ∧ (¬ (iv 16) ≤ 0 → (Q 0)))))) ∧ (r3 = 0 → (Q (-2)))))))
set_option maxHeartbeats 4000000 in
set_option maxRecDepth 100000 in
theorem soX10_whyRule (l : Launch) (G : fw_G) (mh : Nat) (ad : Nat → Nat) (iv : fw_F) (ar : fw_R) (x1 : Int32) (x2 : Int32) (Q : Int32 → Prop)  (h : wpX10_whyRule iv ar x1 x2 Q) : fw_M l G (mw G mh ad) yX10_whyRule wsX10_whyRule rmX10_whyRule [.ref mh, .int x1, .int x2] iv ar (fw_Qi G (mw G mh ad) (fun r iv1 ar1 => Q r ∧ iv = iv1 ∧ ar = ar1)) := by
  refine fw_start (cc := cX10_whyRule) (nL := 3) (rt := (some .int)) (by decide) rfl (Nat.le_of_ble_eq_true rfl) ?_
  intro p e s m below meth c A ls H locs C hK hG hl
  obtain ⟨args, ea⟩ : ∃ z : Array Value, z = ([.ref mh, .int x1, .int x2] : List Value).toArray := ⟨_, rfl⟩
  rw [← ea] at C ⊢
  have C : fw_C p s m args meth c cX10_whyRule 3 (some .int) wsX10_whyRule RX10 := C
  have hl : lv_has ls 3 [(0, .ref mh), (1, .int x1), (2, .int x2)] := hl
  unfold wpX10_whyRule at h
  have in_X10 : ∀ x ∈ wsX100, x ∈ wsX10_whyRule := by decide +kernel
  have k146 := C.2.2.2.2.1 (.fieldLink RX10 146 "KnifeBoardModel" "isHand" "Z") (by decide +kernel)
  have k182 := C.2.2.2.2.1 (.fieldLink RX10 182 "KnifeBoardModel" "high" "I") (by decide +kernel)
  refine lv_iload_n C.1 C.2.1 dX10_whyRule_0 rfl (lv_at hl 1 rfl) ?_
  refine lv_iconst (v := 0) C.1 C.2.1 dX10_whyRule_1 (by decide) ?_
  refine lv_sipush (v := 1000) C.1 C.2.1 dX10_whyRule_2 (by decide) ?_
  refine fw_pcalli (va_runS (As := [.int x1, .int 0, .int 1000]) (rest := []) ⟨C.1, C.2.1, C.2.2.2.2.2.2, C.2.2.2.2.2.1, C.2.2.2.2.1⟩ (soX10_within l x1 0 1000 _ h H.size) (va_cwS 3 C.2.2.2.2.1 gX10_whyRule_X10_within rfl rfl rfl (by decide +kernel) ⟨Nat.le_of_ble_eq_true rfl, Nat.le_of_ble_eq_true rfl⟩) fw_ppre rfl rfl hl.1 rfl (lv_room (Nat.le_of_ble_eq_true rfl)) dX10_whyRule_5 ⟨Nat.zero_le _, Nat.zero_le _⟩) hG hK (fun r1  H locs h hG => ?_)
  refine lv_if_eq (tgt := 18) C.1 C.2.1 dX10_whyRule_8 (by decide) (fun c2 => ?_) (fun c2 => ?_)
  · have h := h.1 c2
    refine lv_bipush (v := (-2)) C.1 C.2.1 dX10_whyRule_18 (by decide) ?_
    exact fw_iret C hG ⟨h, rfl, rfl⟩ dX10_whyRule_20
  · have h := h.2 c2
    refine lv_iload_n C.1 C.2.1 dX10_whyRule_11 rfl (lv_at hl 2 rfl) ?_
    refine fw_pcalli (va_runS (As := [.int x2]) (rest := []) ⟨C.1, C.2.1, C.2.2.2.2.2.2, C.2.2.2.2.2.1, C.2.2.2.2.1⟩ (soX10_isStage l x2 _ h H.size) (va_cwS 1 C.2.2.2.2.1 gX10_whyRule_X10_isStage rfl rfl rfl (by decide +kernel) ⟨Nat.le_of_ble_eq_true rfl, Nat.le_of_ble_eq_true rfl⟩) fw_ppre rfl rfl hl.1 rfl (lv_room (Nat.le_of_ble_eq_true rfl)) dX10_whyRule_12 ⟨Nat.zero_le _, Nat.zero_le _⟩) hG hK (fun r3  H locs h hG => ?_)
    refine lv_if_ne (tgt := 21) C.1 C.2.1 dX10_whyRule_15 (by decide) (fun c4 => ?_) (fun c4 => ?_)
    · have h := h.1 c4
      refine lv_aload_n C.1 C.2.1 dX10_whyRule_21 rfl (lv_at hl 0 rfl) ?_
      refine fw_get (w := (mw G mh ad)) C in_X10 hK hG 0 mw_o rfl 10 (by decide) k146 rfl rfl dX10_whyRule_22 ?_
      refine lv_if_eq (tgt := 39) C.1 C.2.1 dX10_whyRule_25 (by decide) (fun c5 => ?_) (fun c5 => ?_)
      · have h := h.1 c5
        refine lv_bipush (v := (-3)) C.1 C.2.1 dX10_whyRule_39 (by decide) ?_
        exact fw_iret C hG ⟨h, rfl, rfl⟩ dX10_whyRule_41
      · have h := h.2 c5
        refine lv_aload_n C.1 C.2.1 dX10_whyRule_28 rfl (lv_at hl 0 rfl) ?_
        refine fw_get (w := (mw G mh ad)) C in_X10 hK hG 0 mw_o rfl 16 (by decide) k182 rfl rfl dX10_whyRule_29 ?_
        refine lv_if_le (tgt := 39) C.1 C.2.1 dX10_whyRule_32 (by decide) (fun c6 => ?_) (fun c6 => ?_)
        · have h := h.1 c6
          refine lv_bipush (v := (-3)) C.1 C.2.1 dX10_whyRule_39 (by decide) ?_
          exact fw_iret C hG ⟨h, rfl, rfl⟩ dX10_whyRule_41
        · have h := h.2 c6
          refine lv_iconst (v := 0) C.1 C.2.1 dX10_whyRule_35 (by decide) ?_
          refine lv_goto (tgt := 41) C.1 C.2.1 dX10_whyRule_36 (by decide) ?_
          exact fw_iret C hG ⟨h, rfl, rfl⟩ dX10_whyRule_41
    · have h := h.2 c4
      refine lv_bipush (v := (-2)) C.1 C.2.1 dX10_whyRule_18 (by decide) ?_
      exact fw_iret C hG ⟨h, rfl, rfl⟩ dX10_whyRule_20
/-! KnifeBoardModel.isLow(IIZI)Z -/
def rmX10_isLow : Room := { frames := 3, cells := 0, slots := 0, locals := 76 }
def wpX10_isLow (iv : fw_F) (ar : fw_R) (x1 : Int32) (x2 : Int32) (x3 : Int32) (x4 : Int32) (Q : Int32 → Prop) : Prop := wpX10_comesBy iv ar x1 x2 x3 0 (fun (r1 : Int32) => wpX10_allWays iv ar x2 (fun (r2 : Int32) => ((x4 * r2) < (1000 * r1) → (Q 0)) ∧ (¬ (x4 * r2) < (1000 * r1) → (Q 1))))
set_option maxHeartbeats 4000000 in
set_option maxRecDepth 100000 in
theorem soX10_isLow (l : Launch) (G : fw_G) (mh : Nat) (ad : Nat → Nat) (iv : fw_F) (ar : fw_R) (x1 : Int32) (x2 : Int32) (x3 : Int32) (x4 : Int32) (Q : Int32 → Prop)  (h : wpX10_isLow iv ar x1 x2 x3 x4 Q) : fw_M l G (mw G mh ad) yX10_isLow wsX10_isLow rmX10_isLow [.ref mh, .int x1, .int x2, .int x3, .int x4] iv ar (fw_Qi G (mw G mh ad) (fun r iv1 ar1 => Q r ∧ iv = iv1 ∧ ar = ar1)) := by
  refine fw_start (cc := cX10_isLow) (nL := 5) (rt := (some .boolean)) (by decide) rfl (Nat.le_of_ble_eq_true rfl) ?_
  intro p e s m below meth c A ls H locs C hK hG hl
  obtain ⟨args, ea⟩ : ∃ z : Array Value, z = ([.ref mh, .int x1, .int x2, .int x3, .int x4] : List Value).toArray := ⟨_, rfl⟩
  rw [← ea] at C ⊢
  have C : fw_C p s m args meth c cX10_isLow 5 (some .boolean) wsX10_isLow RX10 := C
  have hl : lv_has ls 5 [(0, .ref mh), (1, .int x1), (2, .int x2), (3, .int x3), (4, .int x4)] := hl
  unfold wpX10_isLow at h
  refine lv_sipush (v := 1000) C.1 C.2.1 dX10_isLow_0 (by decide) ?_
  refine lv_aload_n C.1 C.2.1 dX10_isLow_3 rfl (lv_at hl 0 rfl) ?_
  refine lv_iload_n C.1 C.2.1 dX10_isLow_4 rfl (lv_at hl 1 rfl) ?_
  refine lv_iload_n C.1 C.2.1 dX10_isLow_5 rfl (lv_at hl 2 rfl) ?_
  refine lv_iload_n C.1 C.2.1 dX10_isLow_6 rfl (lv_at hl 3 rfl) ?_
  refine lv_iconst (v := 0) C.1 C.2.1 dX10_isLow_7 (by decide) ?_
  refine fw_rcalli (va_runV (As := [.int x1, .int x2, .int x3, .int 0]) (rest := [.int 1000]) ⟨C.1, C.2.1, C.2.2.2.2.2.2, C.2.2.2.2.2.1, C.2.2.2.2.1⟩ (soX10_comesBy l G mh ad iv ar x1 x2 x3 0 _  h H.size) (cwV 4 C.2.2.2.2.1 gX10_isLow_X10_comesBy rfl rfl rfl (by decide +kernel) ⟨Nat.le_of_ble_eq_true rfl, Nat.le_of_ble_eq_true rfl⟩) (fw_preV hG hK (ci := 10) rfl mw_o) rfl rfl hl.1 rfl (lv_room (Nat.le_of_ble_eq_true rfl)) dX10_isLow_8 ⟨Nat.zero_le _, Nat.zero_le _⟩) hG hK (fun r1  H locs h hG => ?_)
  refine lv_imul C.1 C.2.1 dX10_isLow_11 ?_
  refine lv_iload C.1 C.2.1 dX10_isLow_12 (lv_at hl 4 rfl) ?_
  refine lv_aload_n C.1 C.2.1 dX10_isLow_14 rfl (lv_at hl 0 rfl) ?_
  refine lv_iload_n C.1 C.2.1 dX10_isLow_15 rfl (lv_at hl 2 rfl) ?_
  refine fw_rcalli (va_runV (As := [.int x2]) (rest := [.int x4, .int (1000 * r1)]) ⟨C.1, C.2.1, C.2.2.2.2.2.2, C.2.2.2.2.2.1, C.2.2.2.2.1⟩ (soX10_allWays l G mh ad iv ar x2 _  h H.size) (cwV 1 C.2.2.2.2.1 gX10_isLow_X10_allWays rfl rfl rfl (by decide +kernel) ⟨Nat.le_of_ble_eq_true rfl, Nat.le_of_ble_eq_true rfl⟩) (fw_preV hG hK (ci := 10) rfl mw_o) rfl rfl hl.1 rfl (lv_room (Nat.le_of_ble_eq_true rfl)) dX10_isLow_16 ⟨Nat.zero_le _, Nat.zero_le _⟩) hG hK (fun r2  H locs h hG => ?_)
  refine lv_imul C.1 C.2.1 dX10_isLow_19 ?_
  refine lv_icmp_gt (tgt := 27) C.1 C.2.1 dX10_isLow_20 (by decide) (fun c3 => ?_) (fun c3 => ?_)
  · have h := h.1 c3
    refine lv_iconst (v := 0) C.1 C.2.1 dX10_isLow_27 (by decide) ?_
    exact fw_zret C hG (by decide) ⟨h, rfl, rfl⟩ dX10_isLow_28
  · have h := h.2 c3
    refine lv_iconst (v := 1) C.1 C.2.1 dX10_isLow_23 (by decide) ?_
    refine lv_goto (tgt := 28) C.1 C.2.1 dX10_isLow_24 (by decide) ?_
    exact fw_zret C hG (by decide) ⟨h, rfl, rfl⟩ dX10_isLow_28
/-! KnifeBoardModel.isAllowed(III)Z -/
def rmX10_isAllowed : Room := { frames := 4, cells := 0, slots := 0, locals := 100 }
def wpX10_isAllowed (iv : fw_F) (ar : fw_R) (x1 : Int32) (x2 : Int32) (x3 : Int32) (Q : Int32 → Prop) : Prop := vp_in x1 36 ∧ ((¬ ((ar 18) x1.toNatClampNeg) = 0 → (Q 0)) ∧ (((ar 18) x1.toNatClampNeg) = 0 → (wpX10_isLow iv ar x1 x3 1 x2 (fun (r3 : Int32) => (r3 = 0 → (Q 0)) ∧ (¬ r3 = 0 → (wpX10_isLow iv ar x1 x3 0 x2 (fun (r5 : Int32) => (r5 = 0 → (Q 0)) ∧ (¬ r5 = 0 → (Q 1)))))))))
set_option maxHeartbeats 4000000 in
set_option maxRecDepth 100000 in
theorem soX10_isAllowed (l : Launch) (G : fw_G) (mh : Nat) (ad : Nat → Nat) (iv : fw_F) (ar : fw_R) (x1 : Int32) (x2 : Int32) (x3 : Int32) (Q : Int32 → Prop)  (h : wpX10_isAllowed iv ar x1 x2 x3 Q) : fw_M l G (mw G mh ad) yX10_isAllowed wsX10_isAllowed rmX10_isAllowed [.ref mh, .int x1, .int x2, .int x3] iv ar (fw_Qi G (mw G mh ad) (fun r iv1 ar1 => Q r ∧ iv = iv1 ∧ ar = ar1)) := by
  refine fw_start (cc := cX10_isAllowed) (nL := 4) (rt := (some .boolean)) (by decide) rfl (Nat.le_of_ble_eq_true rfl) ?_
  intro p e s m below meth c A ls H locs C hK hG hl
  obtain ⟨args, ea⟩ : ∃ z : Array Value, z = ([.ref mh, .int x1, .int x2, .int x3] : List Value).toArray := ⟨_, rfl⟩
  rw [← ea] at C ⊢
  have C : fw_C p s m args meth c cX10_isAllowed 4 (some .boolean) wsX10_isAllowed RX10 := C
  have hl : lv_has ls 4 [(0, .ref mh), (1, .int x1), (2, .int x2), (3, .int x3)] := hl
  unfold wpX10_isAllowed at h
  have in_X10 : ∀ x ∈ wsX100, x ∈ wsX10_isAllowed := by decide +kernel
  have k37 := C.2.2.2.2.1 (.fieldLink RX10 37 "KnifeBoardModel" "wood" "[I") (by decide +kernel)
  refine lv_aload_n C.1 C.2.1 dX10_isAllowed_0 rfl (lv_at hl 0 rfl) ?_
  refine fw_get (w := (mw G mh ad)) C in_X10 hK hG 0 mw_o rfl 18 (by decide) k37 rfl rfl dX10_isAllowed_1 ?_
  refine lv_iload_n C.1 C.2.1 dX10_isAllowed_4 rfl (lv_at hl 1 rfl) ?_
  obtain ⟨c1, h⟩ := h
  refine fw_iald (w := (mw G mh ad)) C hK hG 10 mw_a18 c1 dX10_isAllowed_5 ?_
  refine lv_if_ne (tgt := 35) C.1 C.2.1 dX10_isAllowed_6 (by decide) (fun c2 => ?_) (fun c2 => ?_)
  · have h := h.1 c2
    refine lv_iconst (v := 0) C.1 C.2.1 dX10_isAllowed_35 (by decide) ?_
    exact fw_zret C hG (by decide) ⟨h, rfl, rfl⟩ dX10_isAllowed_36
  · have h := h.2 c2
    refine lv_aload_n C.1 C.2.1 dX10_isAllowed_9 rfl (lv_at hl 0 rfl) ?_
    refine lv_iload_n C.1 C.2.1 dX10_isAllowed_10 rfl (lv_at hl 1 rfl) ?_
    refine lv_iload_n C.1 C.2.1 dX10_isAllowed_11 rfl (lv_at hl 3 rfl) ?_
    refine lv_iconst (v := 1) C.1 C.2.1 dX10_isAllowed_12 (by decide) ?_
    refine lv_iload_n C.1 C.2.1 dX10_isAllowed_13 rfl (lv_at hl 2 rfl) ?_
    refine fw_rcalli (va_runV (As := [.int x1, .int x3, .int 1, .int x2]) (rest := []) ⟨C.1, C.2.1, C.2.2.2.2.2.2, C.2.2.2.2.2.1, C.2.2.2.2.1⟩ (soX10_isLow l G mh ad iv ar x1 x3 1 x2 _  h H.size) (cwV 4 C.2.2.2.2.1 gX10_isAllowed_X10_isLow rfl rfl rfl (by decide +kernel) ⟨Nat.le_of_ble_eq_true rfl, Nat.le_of_ble_eq_true rfl⟩) (fw_preV hG hK (ci := 10) rfl mw_o) rfl rfl hl.1 rfl (lv_room (Nat.le_of_ble_eq_true rfl)) dX10_isAllowed_14 ⟨Nat.zero_le _, Nat.zero_le _⟩) hG hK (fun r3  H locs h hG => ?_)
    refine lv_if_eq (tgt := 35) C.1 C.2.1 dX10_isAllowed_17 (by decide) (fun c4 => ?_) (fun c4 => ?_)
    · have h := h.1 c4
      refine lv_iconst (v := 0) C.1 C.2.1 dX10_isAllowed_35 (by decide) ?_
      exact fw_zret C hG (by decide) ⟨h, rfl, rfl⟩ dX10_isAllowed_36
    · have h := h.2 c4
      refine lv_aload_n C.1 C.2.1 dX10_isAllowed_20 rfl (lv_at hl 0 rfl) ?_
      refine lv_iload_n C.1 C.2.1 dX10_isAllowed_21 rfl (lv_at hl 1 rfl) ?_
      refine lv_iload_n C.1 C.2.1 dX10_isAllowed_22 rfl (lv_at hl 3 rfl) ?_
      refine lv_iconst (v := 0) C.1 C.2.1 dX10_isAllowed_23 (by decide) ?_
      refine lv_iload_n C.1 C.2.1 dX10_isAllowed_24 rfl (lv_at hl 2 rfl) ?_
      refine fw_rcalli (va_runV (As := [.int x1, .int x3, .int 0, .int x2]) (rest := []) ⟨C.1, C.2.1, C.2.2.2.2.2.2, C.2.2.2.2.2.1, C.2.2.2.2.1⟩ (soX10_isLow l G mh ad iv ar x1 x3 0 x2 _  h H.size) (cwV 4 C.2.2.2.2.1 gX10_isAllowed_X10_isLow rfl rfl rfl (by decide +kernel) ⟨Nat.le_of_ble_eq_true rfl, Nat.le_of_ble_eq_true rfl⟩) (fw_preV hG hK (ci := 10) rfl mw_o) rfl rfl hl.1 rfl (lv_room (Nat.le_of_ble_eq_true rfl)) dX10_isAllowed_25 ⟨Nat.zero_le _, Nat.zero_le _⟩) hG hK (fun r5  H locs h hG => ?_)
      refine lv_if_eq (tgt := 35) C.1 C.2.1 dX10_isAllowed_28 (by decide) (fun c6 => ?_) (fun c6 => ?_)
      · have h := h.1 c6
        refine lv_iconst (v := 0) C.1 C.2.1 dX10_isAllowed_35 (by decide) ?_
        exact fw_zret C hG (by decide) ⟨h, rfl, rfl⟩ dX10_isAllowed_36
      · have h := h.2 c6
        refine lv_iconst (v := 1) C.1 C.2.1 dX10_isAllowed_31 (by decide) ?_
        refine lv_goto (tgt := 36) C.1 C.2.1 dX10_isAllowed_32 (by decide) ?_
        exact fw_zret C hG (by decide) ⟨h, rfl, rfl⟩ dX10_isAllowed_36
/-! KnifeBoardModel.allowed(II)I -/
def rmX10_allowed : Room := { frames := 5, cells := 0, slots := 0, locals := 123 }
def wpX10_allowed_L23 (x1 : Int32) (x2 : Int32) (iv3 : fw_F) (ar4 : fw_R) (Q : Int32 → fw_F → fw_R → Prop) (K : Int32 → Int32 → Prop) : Nat → Int32 → Int32 → Prop
  | 0, _, _ => False
  | fu + 1, z4, z5 => (((iv3 16) * (iv3 17)) ≤ z5 → (K z4 z5)) ∧ (¬ ((iv3 16) * (iv3 17)) ≤ z5 → ((31 ≤ z5 → (K z4 z5)) ∧ (¬ 31 ≤ z5 → (wpX10_isAllowed iv3 ar4 z5 x1 x2 (fun (r7 : Int32) => (r7 = 0 → (∀ y9 : Int32, y9 = z4 ||| 0 → (∀ y10 : Int32, y10 = z5 + 1 → (wpX10_allowed_L23 x1 x2 iv3 ar4 Q K fu y9 y10)))) ∧ (¬ r7 = 0 → (∀ y11 : Int32, y11 = z4 ||| ((1 : Int32) <<< (z5 &&& 31)) → (∀ y12 : Int32, y12 = z5 + 1 → (wpX10_allowed_L23 x1 x2 iv3 ar4 Q K fu y11 y12)))))))))
def wpX10_allowed (iv : fw_F) (ar : fw_R) (x1 : Int32) (x2 : Int32) (Q : Int32 → fw_F → fw_R → Prop) : Prop := wpX10_whyRule iv ar x1 x2 (fun (r1 : Int32) => (r1 = 0 → (wpX10_laySeen iv ar  (fun (iv3 : fw_F) (ar4 : fw_R) => ∃ ku : Nat, wpX10_allowed_L23 x1 x2 iv3 ar4 Q (fun (w13 : Int32) (w14 : Int32) => Q w13 iv3 ar4) ku 0 0))) ∧ (¬ r1 = 0 → (Q r1 iv ar)))
set_option maxHeartbeats 4000000 in
set_option maxRecDepth 100000 in
theorem soX10_allowed_L23 {p : Program} {l : Launch} {e : Env} {s : State} {m : MethodId} {args : Array Value} {below : List Frame} {meth : Method} {c : Code} {A : Nat → Prop} {G : fw_G} {mh : Nat} {ad : Nat → Nat} {x1 : Int32} {x2 : Int32} {iv3 : fw_F} {ar4 : fw_R} {Q : Int32 → fw_F → fw_R → Prop} {K : Int32 → Int32 → Prop} (C : fw_C p s m args meth c cX10_allowed 6 (some .int) wsX10_allowed RX10) (hK : fw_K G A s)  (hX : ∀ (z4 : Int32) (z5 : Int32), K z4 z5 → ∀ (H : Heap) (locs : List Loc), fw_H G ((mw G mh ad) iv3 ar4) A s H locs → ∀ (ls : Array Slot), lv_has ls 6 [(5, .int z5), (4, .int z4), (0, .ref mh), (1, .int x1), (2, .int x2)] → W p l e rmX10_allowed s m args below meth c H locs 0 0 (MQ below (fw_Qi G (mw G mh ad) Q A) args s 0 0 A) (F0 m 74 ls [])) : ∀ (fu : Nat) (z4 : Int32) (z5 : Int32), wpX10_allowed_L23 x1 x2 iv3 ar4 Q K fu z4 z5 → ∀ (H : Heap) (locs : List Loc), fw_H G ((mw G mh ad) iv3 ar4) A s H locs → ∀ (ls : Array Slot), lv_has ls 6 [(5, .int z5), (4, .int z4), (0, .ref mh), (1, .int x1), (2, .int x2)] → W p l e rmX10_allowed s m args below meth c H locs 0 0 (MQ below (fw_Qi G (mw G mh ad) Q A) args s 0 0 A) (F0 m 23 ls []) := by
  intro fu
  have in_X10 : ∀ x ∈ wsX100, x ∈ wsX10_allowed := by decide +kernel
  have k182 := C.2.2.2.2.1 (.fieldLink RX10 182 "KnifeBoardModel" "high" "I") (by decide +kernel)
  have k185 := C.2.2.2.2.1 (.fieldLink RX10 185 "KnifeBoardModel" "wide" "I") (by decide +kernel)
  induction fu with
  | zero => intro z4 z5 h; exact h.elim
  | succ fu ih =>
    intro z4 z5 h H locs hG ls hl
    unfold wpX10_allowed_L23 at h
    refine lv_iload C.1 C.2.1 dX10_allowed_23 (lv_at hl 0 rfl) ?_
    refine lv_aload_n C.1 C.2.1 dX10_allowed_25 rfl (lv_at hl 2 rfl) ?_
    refine fw_get (w := (mw G mh ad)) C in_X10 hK hG 0 mw_o rfl 16 (by decide) k182 rfl rfl dX10_allowed_26 ?_
    refine lv_aload_n C.1 C.2.1 dX10_allowed_29 rfl (lv_at hl 2 rfl) ?_
    refine fw_get (w := (mw G mh ad)) C in_X10 hK hG 0 mw_o rfl 17 (by decide) k185 rfl rfl dX10_allowed_30 ?_
    refine lv_imul C.1 C.2.1 dX10_allowed_33 ?_
    refine lv_icmp_ge (tgt := 74) C.1 C.2.1 dX10_allowed_34 (by decide) (fun c5 => ?_) (fun c5 => ?_)
    · have h := h.1 c5
      exact hX _ _ h _ _ hG ls (lv_sub hl [0, 1, 2, 3, 4] rfl)
    · have h := h.2 c5
      refine lv_iload C.1 C.2.1 dX10_allowed_37 (lv_at hl 0 rfl) ?_
      refine lv_bipush (v := 31) C.1 C.2.1 dX10_allowed_39 (by decide) ?_
      refine lv_icmp_ge (tgt := 74) C.1 C.2.1 dX10_allowed_41 (by decide) (fun c6 => ?_) (fun c6 => ?_)
      · have h := h.1 c6
        exact hX _ _ h _ _ hG ls (lv_sub hl [0, 1, 2, 3, 4] rfl)
      · have h := h.2 c6
        refine lv_iload C.1 C.2.1 dX10_allowed_44 (lv_at hl 1 rfl) ?_
        refine lv_aload_n C.1 C.2.1 dX10_allowed_46 rfl (lv_at hl 2 rfl) ?_
        refine lv_iload C.1 C.2.1 dX10_allowed_47 (lv_at hl 0 rfl) ?_
        refine lv_iload_n C.1 C.2.1 dX10_allowed_49 rfl (lv_at hl 3 rfl) ?_
        refine lv_iload_n C.1 C.2.1 dX10_allowed_50 rfl (lv_at hl 4 rfl) ?_
        refine fw_rcalli (va_runV (As := [.int z5, .int x1, .int x2]) (rest := [.int z4]) ⟨C.1, C.2.1, C.2.2.2.2.2.2, C.2.2.2.2.2.1, C.2.2.2.2.1⟩ (soX10_isAllowed l G mh ad iv3 ar4 z5 x1 x2 _  h H.size) (cwV 3 C.2.2.2.2.1 gX10_allowed_X10_isAllowed rfl rfl rfl (by decide +kernel) ⟨Nat.le_of_ble_eq_true rfl, Nat.le_of_ble_eq_true rfl⟩) (fw_preV hG hK (ci := 10) rfl mw_o) rfl rfl hl.1 rfl (lv_room (Nat.le_of_ble_eq_true rfl)) dX10_allowed_51 ⟨Nat.zero_le _, Nat.zero_le _⟩) hG hK (fun r7  H locs h hG => ?_)
        refine lv_if_eq (tgt := 64) C.1 C.2.1 dX10_allowed_54 (by decide) (fun c8 => ?_) (fun c8 => ?_)
        · have h := h.1 c8
          refine lv_iconst (v := 0) C.1 C.2.1 dX10_allowed_64 (by decide) ?_
          refine lv_ior C.1 C.2.1 dX10_allowed_65 ?_
          refine lv_topi (fun y9 ey9 => ?_)
          have h := h y9 ey9
          refine lv_istore (lv' := [(4, .int y9), (5, .int z5), (0, .ref mh), (1, .int x1), (2, .int x2)]) C.1 C.2.1 dX10_allowed_66 hl (by decide) rfl (fun ls hl => ?_)
          obtain ⟨y10, ey10⟩ : ∃ z : Int32, z = z5 + 1 := ⟨_, rfl⟩
          have h := h y10 ey10
          refine lv_iinc (v := y10) (lv' := [(5, .int y10), (4, .int y9), (0, .ref mh), (1, .int x1), (2, .int x2)]) C.1 C.2.1 dX10_allowed_68 hl (k := 1) rfl (by rw [ey10]; rfl) (by decide) rfl (fun ls hl => ?_)
          refine lv_goto (tgt := 23) C.1 C.2.1 dX10_allowed_71 (by decide) ?_
          exact ih _ _ h _ _ hG ls (lv_sub hl [0, 1, 2, 3, 4] rfl)
        · have h := h.2 c8
          refine lv_iconst (v := 1) C.1 C.2.1 dX10_allowed_57 (by decide) ?_
          refine lv_iload C.1 C.2.1 dX10_allowed_58 (lv_at hl 0 rfl) ?_
          refine lv_ishl C.1 C.2.1 dX10_allowed_60 ?_
          refine lv_goto (tgt := 65) C.1 C.2.1 dX10_allowed_61 (by decide) ?_
          refine lv_ior C.1 C.2.1 dX10_allowed_65 ?_
          refine lv_topi (fun y11 ey11 => ?_)
          have h := h y11 ey11
          refine lv_istore (lv' := [(4, .int y11), (5, .int z5), (0, .ref mh), (1, .int x1), (2, .int x2)]) C.1 C.2.1 dX10_allowed_66 hl (by decide) rfl (fun ls hl => ?_)
          obtain ⟨y12, ey12⟩ : ∃ z : Int32, z = z5 + 1 := ⟨_, rfl⟩
          have h := h y12 ey12
          refine lv_iinc (v := y12) (lv' := [(5, .int y12), (4, .int y11), (0, .ref mh), (1, .int x1), (2, .int x2)]) C.1 C.2.1 dX10_allowed_68 hl (k := 1) rfl (by rw [ey12]; rfl) (by decide) rfl (fun ls hl => ?_)
          refine lv_goto (tgt := 23) C.1 C.2.1 dX10_allowed_71 (by decide) ?_
          exact ih _ _ h _ _ hG ls (lv_sub hl [0, 1, 2, 3, 4] rfl)

set_option maxHeartbeats 4000000 in
set_option maxRecDepth 100000 in
theorem soX10_allowed (l : Launch) (G : fw_G) (mh : Nat) (ad : Nat → Nat) (iv : fw_F) (ar : fw_R) (x1 : Int32) (x2 : Int32) (Q : Int32 → fw_F → fw_R → Prop)  (h : wpX10_allowed iv ar x1 x2 Q) : fw_M l G (mw G mh ad) yX10_allowed wsX10_allowed rmX10_allowed [.ref mh, .int x1, .int x2] iv ar (fw_Qi G (mw G mh ad) Q) := by
  refine fw_start (cc := cX10_allowed) (nL := 6) (rt := (some .int)) (by decide) rfl (Nat.le_of_ble_eq_true rfl) ?_
  intro p e s m below meth c A ls H locs C hK hG hl
  obtain ⟨args, ea⟩ : ∃ z : Array Value, z = ([.ref mh, .int x1, .int x2] : List Value).toArray := ⟨_, rfl⟩
  rw [← ea] at C ⊢
  have C : fw_C p s m args meth c cX10_allowed 6 (some .int) wsX10_allowed RX10 := C
  have hl : lv_has ls 6 [(0, .ref mh), (1, .int x1), (2, .int x2)] := hl
  unfold wpX10_allowed at h
  refine lv_aload_n C.1 C.2.1 dX10_allowed_0 rfl (lv_at hl 0 rfl) ?_
  refine lv_iload_n C.1 C.2.1 dX10_allowed_1 rfl (lv_at hl 1 rfl) ?_
  refine lv_iload_n C.1 C.2.1 dX10_allowed_2 rfl (lv_at hl 2 rfl) ?_
  refine fw_rcalli (va_runV (As := [.int x1, .int x2]) (rest := []) ⟨C.1, C.2.1, C.2.2.2.2.2.2, C.2.2.2.2.2.1, C.2.2.2.2.1⟩ (soX10_whyRule l G mh ad iv ar x1 x2 _  h H.size) (cwV 2 C.2.2.2.2.1 gX10_allowed_X10_whyRule rfl rfl rfl (by decide +kernel) ⟨Nat.le_of_ble_eq_true rfl, Nat.le_of_ble_eq_true rfl⟩) (fw_preV hG hK (ci := 10) rfl mw_o) rfl rfl hl.1 rfl (lv_room (Nat.le_of_ble_eq_true rfl)) dX10_allowed_3 ⟨Nat.zero_le _, Nat.zero_le _⟩) hG hK (fun r1  H locs h hG => ?_)
  refine lv_istore_n (lv' := [(3, .int r1), (0, .ref mh), (1, .int x1), (2, .int x2)]) C.1 C.2.1 dX10_allowed_6 rfl hl (by decide) rfl (fun ls hl => ?_)
  refine lv_iload_n C.1 C.2.1 dX10_allowed_7 rfl (lv_at hl 0 rfl) ?_
  refine lv_if_eq (tgt := 13) C.1 C.2.1 dX10_allowed_8 (by decide) (fun c2 => ?_) (fun c2 => ?_)
  · have h := h.1 c2
    refine lv_aload_n C.1 C.2.1 dX10_allowed_13 rfl (lv_at hl 1 rfl) ?_
    refine fw_callv (va_runV (As := []) (rest := []) ⟨C.1, C.2.1, C.2.2.2.2.2.2, C.2.2.2.2.2.1, C.2.2.2.2.1⟩ (soX10_laySeen l G mh ad iv ar  _  h H.size) (cwV 0 C.2.2.2.2.1 gX10_allowed_X10_laySeen rfl rfl rfl (by decide +kernel) ⟨Nat.le_of_ble_eq_true rfl, Nat.le_of_ble_eq_true rfl⟩) (fw_preV hG hK (ci := 10) rfl mw_o) rfl rfl hl.1 rfl (lv_room (Nat.le_of_ble_eq_true rfl)) dX10_allowed_14 ⟨Nat.zero_le _, Nat.zero_le _⟩) hG hK (fun iv3 ar4 H locs h hG => ?_)
    refine lv_iconst (v := 0) C.1 C.2.1 dX10_allowed_17 (by decide) ?_
    refine lv_istore (lv' := [(4, .int 0), (3, .int r1), (0, .ref mh), (1, .int x1), (2, .int x2)]) C.1 C.2.1 dX10_allowed_18 hl (by decide) rfl (fun ls hl => ?_)
    refine lv_iconst (v := 0) C.1 C.2.1 dX10_allowed_20 (by decide) ?_
    refine lv_istore (lv' := [(5, .int 0), (4, .int 0), (3, .int r1), (0, .ref mh), (1, .int x1), (2, .int x2)]) C.1 C.2.1 dX10_allowed_21 hl (by decide) rfl (fun ls hl => ?_)
    obtain ⟨ku, h⟩ := h
    refine soX10_allowed_L23 C hK  ?_ ku _ _ h _ _ hG ls (lv_sub hl [0, 1, 3, 4, 5] rfl)
    intro w13 w14 h H locs hG ls hl
    refine lv_iload C.1 C.2.1 dX10_allowed_74 (lv_at hl 1 rfl) ?_
    exact fw_iret C hG h dX10_allowed_76
  · have h := h.2 c2
    refine lv_iload_n C.1 C.2.1 dX10_allowed_11 rfl (lv_at hl 0 rfl) ?_
    exact fw_iret C hG h dX10_allowed_12
/-! KnifeBoardModel.hersAbout(I)I -/
def rmX10_hersAbout : Room := { frames := 2, cells := 0, slots := 0, locals := 47 }
def wpX10_hersAbout_L12 (x1 : Int32) (z3 : Int32) (iv : fw_F) (ar : fw_R) (Q : Int32 → Prop) (K : Int32 → Int32 → Prop) : Nat → Int32 → Int32 → Prop
  | 0, _, _ => False
  | fu + 1, z2, z4 => (2 ≤ z4 → (K z2 z4)) ∧ (¬ 2 ≤ z4 → (wpX10_cellBy iv ar x1 z3 z4 (fun (r3 : Int32) => (r3 = (-9) → (∀ y5 : Int32, y5 = z2 + 0 → (∀ y6 : Int32, y6 = z4 + 1 → (wpX10_hersAbout_L12 x1 z3 iv ar Q K fu y5 y6)))) ∧ (¬ r3 = (-9) → ((r3 = x1 → (∀ y8 : Int32, y8 = z2 + 0 → (∀ y9 : Int32, y9 = z4 + 1 → (wpX10_hersAbout_L12 x1 z3 iv ar Q K fu y8 y9)))) ∧ (¬ r3 = x1 → (vp_in r3 36 ∧ ((((ar 18) r3.toNatClampNeg) ≤ 1 → (∀ y12 : Int32, y12 = z2 + 0 → (∀ y13 : Int32, y13 = z4 + 1 → (wpX10_hersAbout_L12 x1 z3 iv ar Q K fu y12 y13)))) ∧ (¬ ((ar 18) r3.toNatClampNeg) ≤ 1 → (∀ y14 : Int32, y14 = z2 + 1 → (∀ y15 : Int32, y15 = z4 + 1 → (wpX10_hersAbout_L12 x1 z3 iv ar Q K fu y14 y15))))))))))))
def wpX10_hersAbout_L4 (x1 : Int32) (iv : fw_F) (ar : fw_R) (Q : Int32 → Prop) (K : Int32 → Int32 → Prop) : Nat → Int32 → Int32 → Prop
  | 0, _, _ => False
  | fu + 1, z2, z3 => (2 ≤ z3 → (K z2 z3)) ∧ (¬ 2 ≤ z3 → (∃ ku : Nat, wpX10_hersAbout_L12 x1 z3 iv ar Q (fun (w16 : Int32) (w17 : Int32) => ∀ y18 : Int32, y18 = z3 + 1 → (wpX10_hersAbout_L4 x1 iv ar Q K fu w16 y18)) ku z2 (-1)))
def wpX10_hersAbout (iv : fw_F) (ar : fw_R) (x1 : Int32) (Q : Int32 → Prop) : Prop := ∃ ku : Nat, wpX10_hersAbout_L4 x1 iv ar Q (fun (w19 : Int32) (w20 : Int32) => Q w19) ku 0 (-1)
set_option maxHeartbeats 4000000 in
set_option maxRecDepth 100000 in
theorem soX10_hersAbout_L12 {p : Program} {l : Launch} {e : Env} {s : State} {m : MethodId} {args : Array Value} {below : List Frame} {meth : Method} {c : Code} {A : Nat → Prop} {G : fw_G} {mh : Nat} {ad : Nat → Nat} {x1 : Int32} {z3 : Int32} {iv : fw_F} {ar : fw_R} {Q : Int32 → Prop} {K : Int32 → Int32 → Prop} (C : fw_C p s m args meth c cX10_hersAbout 6 (some .int) wsX10_hersAbout RX10) (hK : fw_K G A s)  (hX : ∀ (z2 : Int32) (z4 : Int32), K z2 z4 → ∀ (H : Heap) (locs : List Loc), fw_H G ((mw G mh ad) iv ar) A s H locs → ∀ (ls : Array Slot), lv_has ls 6 [(4, .int z4), (3, .int z3), (2, .int z2), (0, .ref mh), (1, .int x1)] → W p l e rmX10_hersAbout s m args below meth c H locs 0 0 (MQ below (fw_Qi G (mw G mh ad) (fun r iv1 ar1 => Q r ∧ iv = iv1 ∧ ar = ar1) A) args s 0 0 A) (F0 m 66 ls [])) : ∀ (fu : Nat) (z2 : Int32) (z4 : Int32), wpX10_hersAbout_L12 x1 z3 iv ar Q K fu z2 z4 → ∀ (H : Heap) (locs : List Loc), fw_H G ((mw G mh ad) iv ar) A s H locs → ∀ (ls : Array Slot), lv_has ls 6 [(4, .int z4), (3, .int z3), (2, .int z2), (0, .ref mh), (1, .int x1)] → W p l e rmX10_hersAbout s m args below meth c H locs 0 0 (MQ below (fw_Qi G (mw G mh ad) (fun r iv1 ar1 => Q r ∧ iv = iv1 ∧ ar = ar1) A) args s 0 0 A) (F0 m 12 ls []) := by
  intro fu
  have in_X10 : ∀ x ∈ wsX100, x ∈ wsX10_hersAbout := by decide +kernel
  have k37 := C.2.2.2.2.1 (.fieldLink RX10 37 "KnifeBoardModel" "wood" "[I") (by decide +kernel)
  induction fu with
  | zero => intro z2 z4 h; exact h.elim
  | succ fu ih =>
    intro z2 z4 h H locs hG ls hl
    unfold wpX10_hersAbout_L12 at h
    refine lv_iload C.1 C.2.1 dX10_hersAbout_12 (lv_at hl 0 rfl) ?_
    refine lv_iconst (v := 2) C.1 C.2.1 dX10_hersAbout_14 (by decide) ?_
    refine lv_icmp_ge (tgt := 66) C.1 C.2.1 dX10_hersAbout_15 (by decide) (fun c2 => ?_) (fun c2 => ?_)
    · have h := h.1 c2
      exact hX _ _ h _ _ hG ls (lv_sub hl [0, 1, 2, 3, 4] rfl)
    · have h := h.2 c2
      refine lv_aload_n C.1 C.2.1 dX10_hersAbout_18 rfl (lv_at hl 3 rfl) ?_
      refine lv_iload_n C.1 C.2.1 dX10_hersAbout_19 rfl (lv_at hl 4 rfl) ?_
      refine lv_iload_n C.1 C.2.1 dX10_hersAbout_20 rfl (lv_at hl 1 rfl) ?_
      refine lv_iload C.1 C.2.1 dX10_hersAbout_21 (lv_at hl 0 rfl) ?_
      refine fw_rcalli (va_runV (As := [.int x1, .int z3, .int z4]) (rest := []) ⟨C.1, C.2.1, C.2.2.2.2.2.2, C.2.2.2.2.2.1, C.2.2.2.2.1⟩ (soX10_cellBy l G mh ad iv ar x1 z3 z4 _  h H.size) (cwV 3 C.2.2.2.2.1 gX10_hersAbout_X10_cellBy rfl rfl rfl (by decide +kernel) ⟨Nat.le_of_ble_eq_true rfl, Nat.le_of_ble_eq_true rfl⟩) (fw_preV hG hK (ci := 10) rfl mw_o) rfl rfl hl.1 rfl (lv_room (Nat.le_of_ble_eq_true rfl)) dX10_hersAbout_23 ⟨Nat.zero_le _, Nat.zero_le _⟩) hG hK (fun r3  H locs h hG => ?_)
      refine lv_istore (lv' := [(5, .int r3), (4, .int z4), (3, .int z3), (2, .int z2), (0, .ref mh), (1, .int x1)]) C.1 C.2.1 dX10_hersAbout_26 hl (by decide) rfl (fun ls hl => ?_)
      refine lv_iload_n C.1 C.2.1 dX10_hersAbout_28 rfl (lv_at hl 3 rfl) ?_
      refine lv_iload C.1 C.2.1 dX10_hersAbout_29 (lv_at hl 0 rfl) ?_
      refine lv_bipush (v := (-9)) C.1 C.2.1 dX10_hersAbout_31 (by decide) ?_
      refine lv_icmp_eq (tgt := 57) C.1 C.2.1 dX10_hersAbout_33 (by decide) (fun c4 => ?_) (fun c4 => ?_)
      · have h := h.1 c4
        refine lv_iconst (v := 0) C.1 C.2.1 dX10_hersAbout_57 (by decide) ?_
        refine lv_iadd C.1 C.2.1 dX10_hersAbout_58 ?_
        refine lv_topi (fun y5 ey5 => ?_)
        have h := h y5 ey5
        refine lv_istore_n (lv' := [(2, .int y5), (5, .int r3), (4, .int z4), (3, .int z3), (0, .ref mh), (1, .int x1)]) C.1 C.2.1 dX10_hersAbout_59 rfl hl (by decide) rfl (fun ls hl => ?_)
        obtain ⟨y6, ey6⟩ : ∃ z : Int32, z = z4 + 1 := ⟨_, rfl⟩
        have h := h y6 ey6
        refine lv_iinc (v := y6) (lv' := [(4, .int y6), (2, .int y5), (5, .int r3), (3, .int z3), (0, .ref mh), (1, .int x1)]) C.1 C.2.1 dX10_hersAbout_60 hl (k := 2) rfl (by rw [ey6]; rfl) (by decide) rfl (fun ls hl => ?_)
        refine lv_goto (tgt := 12) C.1 C.2.1 dX10_hersAbout_63 (by decide) ?_
        exact ih _ _ h _ _ hG ls (lv_sub hl [0, 3, 1, 4, 5] rfl)
      · have h := h.2 c4
        refine lv_iload C.1 C.2.1 dX10_hersAbout_36 (lv_at hl 0 rfl) ?_
        refine lv_iload_n C.1 C.2.1 dX10_hersAbout_38 rfl (lv_at hl 5 rfl) ?_
        refine lv_icmp_eq (tgt := 57) C.1 C.2.1 dX10_hersAbout_39 (by decide) (fun c7 => ?_) (fun c7 => ?_)
        · have h := h.1 c7
          refine lv_iconst (v := 0) C.1 C.2.1 dX10_hersAbout_57 (by decide) ?_
          refine lv_iadd C.1 C.2.1 dX10_hersAbout_58 ?_
          refine lv_topi (fun y8 ey8 => ?_)
          have h := h y8 ey8
          refine lv_istore_n (lv' := [(2, .int y8), (5, .int r3), (4, .int z4), (3, .int z3), (0, .ref mh), (1, .int x1)]) C.1 C.2.1 dX10_hersAbout_59 rfl hl (by decide) rfl (fun ls hl => ?_)
          obtain ⟨y9, ey9⟩ : ∃ z : Int32, z = z4 + 1 := ⟨_, rfl⟩
          have h := h y9 ey9
          refine lv_iinc (v := y9) (lv' := [(4, .int y9), (2, .int y8), (5, .int r3), (3, .int z3), (0, .ref mh), (1, .int x1)]) C.1 C.2.1 dX10_hersAbout_60 hl (k := 2) rfl (by rw [ey9]; rfl) (by decide) rfl (fun ls hl => ?_)
          refine lv_goto (tgt := 12) C.1 C.2.1 dX10_hersAbout_63 (by decide) ?_
          exact ih _ _ h _ _ hG ls (lv_sub hl [0, 3, 1, 4, 5] rfl)
        · have h := h.2 c7
          refine lv_aload_n C.1 C.2.1 dX10_hersAbout_42 rfl (lv_at hl 4 rfl) ?_
          refine fw_get (w := (mw G mh ad)) C in_X10 hK hG 0 mw_o rfl 18 (by decide) k37 rfl rfl dX10_hersAbout_43 ?_
          refine lv_iload C.1 C.2.1 dX10_hersAbout_46 (lv_at hl 0 rfl) ?_
          obtain ⟨c10, h⟩ := h
          refine fw_iald (w := (mw G mh ad)) C hK hG 10 mw_a18 c10 dX10_hersAbout_48 ?_
          refine lv_iconst (v := 1) C.1 C.2.1 dX10_hersAbout_49 (by decide) ?_
          refine lv_icmp_le (tgt := 57) C.1 C.2.1 dX10_hersAbout_50 (by decide) (fun c11 => ?_) (fun c11 => ?_)
          · have h := h.1 c11
            refine lv_iconst (v := 0) C.1 C.2.1 dX10_hersAbout_57 (by decide) ?_
            refine lv_iadd C.1 C.2.1 dX10_hersAbout_58 ?_
            refine lv_topi (fun y12 ey12 => ?_)
            have h := h y12 ey12
            refine lv_istore_n (lv' := [(2, .int y12), (5, .int r3), (4, .int z4), (3, .int z3), (0, .ref mh), (1, .int x1)]) C.1 C.2.1 dX10_hersAbout_59 rfl hl (by decide) rfl (fun ls hl => ?_)
            obtain ⟨y13, ey13⟩ : ∃ z : Int32, z = z4 + 1 := ⟨_, rfl⟩
            have h := h y13 ey13
            refine lv_iinc (v := y13) (lv' := [(4, .int y13), (2, .int y12), (5, .int r3), (3, .int z3), (0, .ref mh), (1, .int x1)]) C.1 C.2.1 dX10_hersAbout_60 hl (k := 2) rfl (by rw [ey13]; rfl) (by decide) rfl (fun ls hl => ?_)
            refine lv_goto (tgt := 12) C.1 C.2.1 dX10_hersAbout_63 (by decide) ?_
            exact ih _ _ h _ _ hG ls (lv_sub hl [0, 3, 1, 4, 5] rfl)
          · have h := h.2 c11
            refine lv_iconst (v := 1) C.1 C.2.1 dX10_hersAbout_53 (by decide) ?_
            refine lv_goto (tgt := 58) C.1 C.2.1 dX10_hersAbout_54 (by decide) ?_
            refine lv_iadd C.1 C.2.1 dX10_hersAbout_58 ?_
            refine lv_topi (fun y14 ey14 => ?_)
            have h := h y14 ey14
            refine lv_istore_n (lv' := [(2, .int y14), (5, .int r3), (4, .int z4), (3, .int z3), (0, .ref mh), (1, .int x1)]) C.1 C.2.1 dX10_hersAbout_59 rfl hl (by decide) rfl (fun ls hl => ?_)
            obtain ⟨y15, ey15⟩ : ∃ z : Int32, z = z4 + 1 := ⟨_, rfl⟩
            have h := h y15 ey15
            refine lv_iinc (v := y15) (lv' := [(4, .int y15), (2, .int y14), (5, .int r3), (3, .int z3), (0, .ref mh), (1, .int x1)]) C.1 C.2.1 dX10_hersAbout_60 hl (k := 2) rfl (by rw [ey15]; rfl) (by decide) rfl (fun ls hl => ?_)
            refine lv_goto (tgt := 12) C.1 C.2.1 dX10_hersAbout_63 (by decide) ?_
            exact ih _ _ h _ _ hG ls (lv_sub hl [0, 3, 1, 4, 5] rfl)

set_option maxHeartbeats 4000000 in
set_option maxRecDepth 100000 in
theorem soX10_hersAbout_L4 {p : Program} {l : Launch} {e : Env} {s : State} {m : MethodId} {args : Array Value} {below : List Frame} {meth : Method} {c : Code} {A : Nat → Prop} {G : fw_G} {mh : Nat} {ad : Nat → Nat} {x1 : Int32} {iv : fw_F} {ar : fw_R} {Q : Int32 → Prop} {K : Int32 → Int32 → Prop} (C : fw_C p s m args meth c cX10_hersAbout 6 (some .int) wsX10_hersAbout RX10) (hK : fw_K G A s)  (hX : ∀ (z2 : Int32) (z3 : Int32), K z2 z3 → ∀ (H : Heap) (locs : List Loc), fw_H G ((mw G mh ad) iv ar) A s H locs → ∀ (ls : Array Slot), lv_has ls 6 [(3, .int z3), (2, .int z2), (0, .ref mh), (1, .int x1)] → W p l e rmX10_hersAbout s m args below meth c H locs 0 0 (MQ below (fw_Qi G (mw G mh ad) (fun r iv1 ar1 => Q r ∧ iv = iv1 ∧ ar = ar1) A) args s 0 0 A) (F0 m 72 ls [])) : ∀ (fu : Nat) (z2 : Int32) (z3 : Int32), wpX10_hersAbout_L4 x1 iv ar Q K fu z2 z3 → ∀ (H : Heap) (locs : List Loc), fw_H G ((mw G mh ad) iv ar) A s H locs → ∀ (ls : Array Slot), lv_has ls 6 [(3, .int z3), (2, .int z2), (0, .ref mh), (1, .int x1)] → W p l e rmX10_hersAbout s m args below meth c H locs 0 0 (MQ below (fw_Qi G (mw G mh ad) (fun r iv1 ar1 => Q r ∧ iv = iv1 ∧ ar = ar1) A) args s 0 0 A) (F0 m 4 ls []) := by
  intro fu
  induction fu with
  | zero => intro z2 z3 h; exact h.elim
  | succ fu ih =>
    intro z2 z3 h H locs hG ls hl
    unfold wpX10_hersAbout_L4 at h
    refine lv_iload_n C.1 C.2.1 dX10_hersAbout_4 rfl (lv_at hl 0 rfl) ?_
    refine lv_iconst (v := 2) C.1 C.2.1 dX10_hersAbout_5 (by decide) ?_
    refine lv_icmp_ge (tgt := 72) C.1 C.2.1 dX10_hersAbout_6 (by decide) (fun c1 => ?_) (fun c1 => ?_)
    · have h := h.1 c1
      exact hX _ _ h _ _ hG ls (lv_sub hl [0, 1, 2, 3] rfl)
    · have h := h.2 c1
      refine lv_iconst (v := (-1)) C.1 C.2.1 dX10_hersAbout_9 (by decide) ?_
      refine lv_istore (lv' := [(4, .int (-1)), (3, .int z3), (2, .int z2), (0, .ref mh), (1, .int x1)]) C.1 C.2.1 dX10_hersAbout_10 hl (by decide) rfl (fun ls hl => ?_)
      obtain ⟨ku, h⟩ := h
      refine soX10_hersAbout_L12 C hK  ?_ ku _ _ h _ _ hG ls (lv_sub hl [0, 1, 2, 3, 4] rfl)
      intro w16 w17 h H locs hG ls hl
      obtain ⟨y18, ey18⟩ : ∃ z : Int32, z = z3 + 1 := ⟨_, rfl⟩
      have h := h y18 ey18
      refine lv_iinc (v := y18) (lv' := [(3, .int y18), (4, .int w17), (2, .int w16), (0, .ref mh), (1, .int x1)]) C.1 C.2.1 dX10_hersAbout_66 hl (k := 1) rfl (by rw [ey18]; rfl) (by decide) rfl (fun ls hl => ?_)
      refine lv_goto (tgt := 4) C.1 C.2.1 dX10_hersAbout_69 (by decide) ?_
      exact ih _ _ h _ _ hG ls (lv_sub hl [0, 2, 3, 4] rfl)

set_option maxHeartbeats 4000000 in
set_option maxRecDepth 100000 in
theorem soX10_hersAbout (l : Launch) (G : fw_G) (mh : Nat) (ad : Nat → Nat) (iv : fw_F) (ar : fw_R) (x1 : Int32) (Q : Int32 → Prop)  (h : wpX10_hersAbout iv ar x1 Q) : fw_M l G (mw G mh ad) yX10_hersAbout wsX10_hersAbout rmX10_hersAbout [.ref mh, .int x1] iv ar (fw_Qi G (mw G mh ad) (fun r iv1 ar1 => Q r ∧ iv = iv1 ∧ ar = ar1)) := by
  refine fw_start (cc := cX10_hersAbout) (nL := 6) (rt := (some .int)) (by decide) rfl (Nat.le_of_ble_eq_true rfl) ?_
  intro p e s m below meth c A ls H locs C hK hG hl
  obtain ⟨args, ea⟩ : ∃ z : Array Value, z = ([.ref mh, .int x1] : List Value).toArray := ⟨_, rfl⟩
  rw [← ea] at C ⊢
  have C : fw_C p s m args meth c cX10_hersAbout 6 (some .int) wsX10_hersAbout RX10 := C
  have hl : lv_has ls 6 [(0, .ref mh), (1, .int x1)] := hl
  unfold wpX10_hersAbout at h
  refine lv_iconst (v := 0) C.1 C.2.1 dX10_hersAbout_0 (by decide) ?_
  refine lv_istore_n (lv' := [(2, .int 0), (0, .ref mh), (1, .int x1)]) C.1 C.2.1 dX10_hersAbout_1 rfl hl (by decide) rfl (fun ls hl => ?_)
  refine lv_iconst (v := (-1)) C.1 C.2.1 dX10_hersAbout_2 (by decide) ?_
  refine lv_istore_n (lv' := [(3, .int (-1)), (2, .int 0), (0, .ref mh), (1, .int x1)]) C.1 C.2.1 dX10_hersAbout_3 rfl hl (by decide) rfl (fun ls hl => ?_)
  obtain ⟨ku, h⟩ := h
  refine soX10_hersAbout_L4 C hK  ?_ ku _ _ h _ _ hG ls (lv_sub hl [0, 1, 2, 3] rfl)
  intro w19 w20 h H locs hG ls hl
  refine lv_iload_n C.1 C.2.1 dX10_hersAbout_72 rfl (lv_at hl 1 rfl) ?_
  exact fw_iret C hG ⟨h, rfl, rfl⟩ dX10_hersAbout_73
/-! KnifeBoardModel.nearest(II)I -/
def rmX10_nearest : Room := { frames := 5, cells := 0, slots := 0, locals := 123 }
def wpX10_nearest_L27 (x1 : Int32) (x2 : Int32) (iv3 : fw_F) (ar4 : fw_R) (Q : Int32 → fw_F → fw_R → Prop) (K : Int32 → Int32 → Int32 → Prop) : Nat → Int32 → Int32 → Int32 → Prop
  | 0, _, _, _ => False
  | fu + 1, z4, z5, z6 => (((iv3 16) * (iv3 17)) ≤ z6 → (K z4 z5 z6)) ∧ (¬ ((iv3 16) * (iv3 17)) ≤ z6 → (wpX10_isAllowed iv3 ar4 z6 x1 x2 (fun (r6 : Int32) => (r6 = 0 → (∀ y8 : Int32, y8 = z6 + 1 → (wpX10_nearest_L27 x1 x2 iv3 ar4 Q K fu z4 z5 y8))) ∧ (¬ r6 = 0 → (wpX10_hersAbout iv3 ar4 z6 (fun (r9 : Int32) => (r9 ≤ z5 → (∀ y11 : Int32, y11 = z6 + 1 → (wpX10_nearest_L27 x1 x2 iv3 ar4 Q K fu z4 z5 y11))) ∧ (¬ r9 ≤ z5 → (wpX10_hersAbout iv3 ar4 z6 (fun (r12 : Int32) => ∀ y13 : Int32, y13 = z6 + 1 → (wpX10_nearest_L27 x1 x2 iv3 ar4 Q K fu z6 r12 y13))))))))))
def wpX10_nearest (iv : fw_F) (ar : fw_R) (x1 : Int32) (x2 : Int32) (Q : Int32 → fw_F → fw_R → Prop) : Prop := wpX10_whyRule iv ar x1 x2 (fun (r1 : Int32) => (r1 = 0 → (wpX10_laySeen iv ar  (fun (iv3 : fw_F) (ar4 : fw_R) => ∃ ku : Nat, wpX10_nearest_L27 x1 x2 iv3 ar4 Q (fun (w14 : Int32) (w15 : Int32) (w16 : Int32) => Q w14 iv3 ar4) ku (-9) (-1) 0))) ∧ (¬ r1 = 0 → (Q r1 iv ar)))
set_option maxHeartbeats 4000000 in
set_option maxRecDepth 100000 in
theorem soX10_nearest_L27 {p : Program} {l : Launch} {e : Env} {s : State} {m : MethodId} {args : Array Value} {below : List Frame} {meth : Method} {c : Code} {A : Nat → Prop} {G : fw_G} {mh : Nat} {ad : Nat → Nat} {x1 : Int32} {x2 : Int32} {iv3 : fw_F} {ar4 : fw_R} {Q : Int32 → fw_F → fw_R → Prop} {K : Int32 → Int32 → Int32 → Prop} (C : fw_C p s m args meth c cX10_nearest 7 (some .int) wsX10_nearest RX10) (hK : fw_K G A s)  (hX : ∀ (z4 : Int32) (z5 : Int32) (z6 : Int32), K z4 z5 z6 → ∀ (H : Heap) (locs : List Loc), fw_H G ((mw G mh ad) iv3 ar4) A s H locs → ∀ (ls : Array Slot), lv_has ls 7 [(6, .int z6), (5, .int z5), (4, .int z4), (0, .ref mh), (1, .int x1), (2, .int x2)] → W p l e rmX10_nearest s m args below meth c H locs 0 0 (MQ below (fw_Qi G (mw G mh ad) Q A) args s 0 0 A) (F0 m 81 ls [])) : ∀ (fu : Nat) (z4 : Int32) (z5 : Int32) (z6 : Int32), wpX10_nearest_L27 x1 x2 iv3 ar4 Q K fu z4 z5 z6 → ∀ (H : Heap) (locs : List Loc), fw_H G ((mw G mh ad) iv3 ar4) A s H locs → ∀ (ls : Array Slot), lv_has ls 7 [(6, .int z6), (5, .int z5), (4, .int z4), (0, .ref mh), (1, .int x1), (2, .int x2)] → W p l e rmX10_nearest s m args below meth c H locs 0 0 (MQ below (fw_Qi G (mw G mh ad) Q A) args s 0 0 A) (F0 m 27 ls []) := by
  intro fu
  have in_X10 : ∀ x ∈ wsX100, x ∈ wsX10_nearest := by decide +kernel
  have k182 := C.2.2.2.2.1 (.fieldLink RX10 182 "KnifeBoardModel" "high" "I") (by decide +kernel)
  have k185 := C.2.2.2.2.1 (.fieldLink RX10 185 "KnifeBoardModel" "wide" "I") (by decide +kernel)
  induction fu with
  | zero => intro z4 z5 z6 h; exact h.elim
  | succ fu ih =>
    intro z4 z5 z6 h H locs hG ls hl
    unfold wpX10_nearest_L27 at h
    refine lv_iload C.1 C.2.1 dX10_nearest_27 (lv_at hl 0 rfl) ?_
    refine lv_aload_n C.1 C.2.1 dX10_nearest_29 rfl (lv_at hl 3 rfl) ?_
    refine fw_get (w := (mw G mh ad)) C in_X10 hK hG 0 mw_o rfl 16 (by decide) k182 rfl rfl dX10_nearest_30 ?_
    refine lv_aload_n C.1 C.2.1 dX10_nearest_33 rfl (lv_at hl 3 rfl) ?_
    refine fw_get (w := (mw G mh ad)) C in_X10 hK hG 0 mw_o rfl 17 (by decide) k185 rfl rfl dX10_nearest_34 ?_
    refine lv_imul C.1 C.2.1 dX10_nearest_37 ?_
    refine lv_icmp_ge (tgt := 81) C.1 C.2.1 dX10_nearest_38 (by decide) (fun c5 => ?_) (fun c5 => ?_)
    · have h := h.1 c5
      exact hX _ _ _ h _ _ hG ls (lv_sub hl [0, 1, 2, 3, 4, 5] rfl)
    · have h := h.2 c5
      refine lv_aload_n C.1 C.2.1 dX10_nearest_41 rfl (lv_at hl 3 rfl) ?_
      refine lv_iload C.1 C.2.1 dX10_nearest_42 (lv_at hl 0 rfl) ?_
      refine lv_iload_n C.1 C.2.1 dX10_nearest_44 rfl (lv_at hl 4 rfl) ?_
      refine lv_iload_n C.1 C.2.1 dX10_nearest_45 rfl (lv_at hl 5 rfl) ?_
      refine fw_rcalli (va_runV (As := [.int z6, .int x1, .int x2]) (rest := []) ⟨C.1, C.2.1, C.2.2.2.2.2.2, C.2.2.2.2.2.1, C.2.2.2.2.1⟩ (soX10_isAllowed l G mh ad iv3 ar4 z6 x1 x2 _  h H.size) (cwV 3 C.2.2.2.2.1 gX10_nearest_X10_isAllowed rfl rfl rfl (by decide +kernel) ⟨Nat.le_of_ble_eq_true rfl, Nat.le_of_ble_eq_true rfl⟩) (fw_preV hG hK (ci := 10) rfl mw_o) rfl rfl hl.1 rfl (lv_room (Nat.le_of_ble_eq_true rfl)) dX10_nearest_46 ⟨Nat.zero_le _, Nat.zero_le _⟩) hG hK (fun r6  H locs h hG => ?_)
      refine lv_if_eq (tgt := 75) C.1 C.2.1 dX10_nearest_49 (by decide) (fun c7 => ?_) (fun c7 => ?_)
      · have h := h.1 c7
        obtain ⟨y8, ey8⟩ : ∃ z : Int32, z = z6 + 1 := ⟨_, rfl⟩
        have h := h y8 ey8
        refine lv_iinc (v := y8) (lv' := [(6, .int y8), (5, .int z5), (4, .int z4), (0, .ref mh), (1, .int x1), (2, .int x2)]) C.1 C.2.1 dX10_nearest_75 hl (k := 0) rfl (by rw [ey8]; rfl) (by decide) rfl (fun ls hl => ?_)
        refine lv_goto (tgt := 27) C.1 C.2.1 dX10_nearest_78 (by decide) ?_
        exact ih _ _ _ h _ _ hG ls (lv_sub hl [0, 1, 2, 3, 4, 5] rfl)
      · have h := h.2 c7
        refine lv_aload_n C.1 C.2.1 dX10_nearest_52 rfl (lv_at hl 3 rfl) ?_
        refine lv_iload C.1 C.2.1 dX10_nearest_53 (lv_at hl 0 rfl) ?_
        refine fw_rcalli (va_runV (As := [.int z6]) (rest := []) ⟨C.1, C.2.1, C.2.2.2.2.2.2, C.2.2.2.2.2.1, C.2.2.2.2.1⟩ (soX10_hersAbout l G mh ad iv3 ar4 z6 _  h H.size) (cwV 1 C.2.2.2.2.1 gX10_nearest_X10_hersAbout rfl rfl rfl (by decide +kernel) ⟨Nat.le_of_ble_eq_true rfl, Nat.le_of_ble_eq_true rfl⟩) (fw_preV hG hK (ci := 10) rfl mw_o) rfl rfl hl.1 rfl (lv_room (Nat.le_of_ble_eq_true rfl)) dX10_nearest_55 ⟨Nat.zero_le _, Nat.zero_le _⟩) hG hK (fun r9  H locs h hG => ?_)
        refine lv_iload C.1 C.2.1 dX10_nearest_58 (lv_at hl 1 rfl) ?_
        refine lv_icmp_le (tgt := 75) C.1 C.2.1 dX10_nearest_60 (by decide) (fun c10 => ?_) (fun c10 => ?_)
        · have h := h.1 c10
          obtain ⟨y11, ey11⟩ : ∃ z : Int32, z = z6 + 1 := ⟨_, rfl⟩
          have h := h y11 ey11
          refine lv_iinc (v := y11) (lv' := [(6, .int y11), (5, .int z5), (4, .int z4), (0, .ref mh), (1, .int x1), (2, .int x2)]) C.1 C.2.1 dX10_nearest_75 hl (k := 0) rfl (by rw [ey11]; rfl) (by decide) rfl (fun ls hl => ?_)
          refine lv_goto (tgt := 27) C.1 C.2.1 dX10_nearest_78 (by decide) ?_
          exact ih _ _ _ h _ _ hG ls (lv_sub hl [0, 1, 2, 3, 4, 5] rfl)
        · have h := h.2 c10
          refine lv_iload C.1 C.2.1 dX10_nearest_63 (lv_at hl 0 rfl) ?_
          refine lv_istore (lv' := [(4, .int z6), (6, .int z6), (5, .int z5), (0, .ref mh), (1, .int x1), (2, .int x2)]) C.1 C.2.1 dX10_nearest_65 hl (by decide) rfl (fun ls hl => ?_)
          refine lv_aload_n C.1 C.2.1 dX10_nearest_67 rfl (lv_at hl 3 rfl) ?_
          refine lv_iload C.1 C.2.1 dX10_nearest_68 (lv_at hl 1 rfl) ?_
          refine fw_rcalli (va_runV (As := [.int z6]) (rest := []) ⟨C.1, C.2.1, C.2.2.2.2.2.2, C.2.2.2.2.2.1, C.2.2.2.2.1⟩ (soX10_hersAbout l G mh ad iv3 ar4 z6 _  h H.size) (cwV 1 C.2.2.2.2.1 gX10_nearest_X10_hersAbout rfl rfl rfl (by decide +kernel) ⟨Nat.le_of_ble_eq_true rfl, Nat.le_of_ble_eq_true rfl⟩) (fw_preV hG hK (ci := 10) rfl mw_o) rfl rfl hl.1 rfl (lv_room (Nat.le_of_ble_eq_true rfl)) dX10_nearest_70 ⟨Nat.zero_le _, Nat.zero_le _⟩) hG hK (fun r12  H locs h hG => ?_)
          refine lv_istore (lv' := [(5, .int r12), (4, .int z6), (6, .int z6), (0, .ref mh), (1, .int x1), (2, .int x2)]) C.1 C.2.1 dX10_nearest_73 hl (by decide) rfl (fun ls hl => ?_)
          obtain ⟨y13, ey13⟩ : ∃ z : Int32, z = z6 + 1 := ⟨_, rfl⟩
          have h := h y13 ey13
          refine lv_iinc (v := y13) (lv' := [(6, .int y13), (5, .int r12), (4, .int z6), (0, .ref mh), (1, .int x1), (2, .int x2)]) C.1 C.2.1 dX10_nearest_75 hl (k := 2) rfl (by rw [ey13]; rfl) (by decide) rfl (fun ls hl => ?_)
          refine lv_goto (tgt := 27) C.1 C.2.1 dX10_nearest_78 (by decide) ?_
          exact ih _ _ _ h _ _ hG ls (lv_sub hl [0, 1, 2, 3, 4, 5] rfl)

set_option maxHeartbeats 4000000 in
set_option maxRecDepth 100000 in
theorem soX10_nearest (l : Launch) (G : fw_G) (mh : Nat) (ad : Nat → Nat) (iv : fw_F) (ar : fw_R) (x1 : Int32) (x2 : Int32) (Q : Int32 → fw_F → fw_R → Prop)  (h : wpX10_nearest iv ar x1 x2 Q) : fw_M l G (mw G mh ad) yX10_nearest wsX10_nearest rmX10_nearest [.ref mh, .int x1, .int x2] iv ar (fw_Qi G (mw G mh ad) Q) := by
  refine fw_start (cc := cX10_nearest) (nL := 7) (rt := (some .int)) (by decide) rfl (Nat.le_of_ble_eq_true rfl) ?_
  intro p e s m below meth c A ls H locs C hK hG hl
  obtain ⟨args, ea⟩ : ∃ z : Array Value, z = ([.ref mh, .int x1, .int x2] : List Value).toArray := ⟨_, rfl⟩
  rw [← ea] at C ⊢
  have C : fw_C p s m args meth c cX10_nearest 7 (some .int) wsX10_nearest RX10 := C
  have hl : lv_has ls 7 [(0, .ref mh), (1, .int x1), (2, .int x2)] := hl
  unfold wpX10_nearest at h
  refine lv_aload_n C.1 C.2.1 dX10_nearest_0 rfl (lv_at hl 0 rfl) ?_
  refine lv_iload_n C.1 C.2.1 dX10_nearest_1 rfl (lv_at hl 1 rfl) ?_
  refine lv_iload_n C.1 C.2.1 dX10_nearest_2 rfl (lv_at hl 2 rfl) ?_
  refine fw_rcalli (va_runV (As := [.int x1, .int x2]) (rest := []) ⟨C.1, C.2.1, C.2.2.2.2.2.2, C.2.2.2.2.2.1, C.2.2.2.2.1⟩ (soX10_whyRule l G mh ad iv ar x1 x2 _  h H.size) (cwV 2 C.2.2.2.2.1 gX10_nearest_X10_whyRule rfl rfl rfl (by decide +kernel) ⟨Nat.le_of_ble_eq_true rfl, Nat.le_of_ble_eq_true rfl⟩) (fw_preV hG hK (ci := 10) rfl mw_o) rfl rfl hl.1 rfl (lv_room (Nat.le_of_ble_eq_true rfl)) dX10_nearest_3 ⟨Nat.zero_le _, Nat.zero_le _⟩) hG hK (fun r1  H locs h hG => ?_)
  refine lv_istore_n (lv' := [(3, .int r1), (0, .ref mh), (1, .int x1), (2, .int x2)]) C.1 C.2.1 dX10_nearest_6 rfl hl (by decide) rfl (fun ls hl => ?_)
  refine lv_iload_n C.1 C.2.1 dX10_nearest_7 rfl (lv_at hl 0 rfl) ?_
  refine lv_if_eq (tgt := 13) C.1 C.2.1 dX10_nearest_8 (by decide) (fun c2 => ?_) (fun c2 => ?_)
  · have h := h.1 c2
    refine lv_aload_n C.1 C.2.1 dX10_nearest_13 rfl (lv_at hl 1 rfl) ?_
    refine fw_callv (va_runV (As := []) (rest := []) ⟨C.1, C.2.1, C.2.2.2.2.2.2, C.2.2.2.2.2.1, C.2.2.2.2.1⟩ (soX10_laySeen l G mh ad iv ar  _  h H.size) (cwV 0 C.2.2.2.2.1 gX10_nearest_X10_laySeen rfl rfl rfl (by decide +kernel) ⟨Nat.le_of_ble_eq_true rfl, Nat.le_of_ble_eq_true rfl⟩) (fw_preV hG hK (ci := 10) rfl mw_o) rfl rfl hl.1 rfl (lv_room (Nat.le_of_ble_eq_true rfl)) dX10_nearest_14 ⟨Nat.zero_le _, Nat.zero_le _⟩) hG hK (fun iv3 ar4 H locs h hG => ?_)
    refine lv_bipush (v := (-9)) C.1 C.2.1 dX10_nearest_17 (by decide) ?_
    refine lv_istore (lv' := [(4, .int (-9)), (3, .int r1), (0, .ref mh), (1, .int x1), (2, .int x2)]) C.1 C.2.1 dX10_nearest_19 hl (by decide) rfl (fun ls hl => ?_)
    refine lv_iconst (v := (-1)) C.1 C.2.1 dX10_nearest_21 (by decide) ?_
    refine lv_istore (lv' := [(5, .int (-1)), (4, .int (-9)), (3, .int r1), (0, .ref mh), (1, .int x1), (2, .int x2)]) C.1 C.2.1 dX10_nearest_22 hl (by decide) rfl (fun ls hl => ?_)
    refine lv_iconst (v := 0) C.1 C.2.1 dX10_nearest_24 (by decide) ?_
    refine lv_istore (lv' := [(6, .int 0), (5, .int (-1)), (4, .int (-9)), (3, .int r1), (0, .ref mh), (1, .int x1), (2, .int x2)]) C.1 C.2.1 dX10_nearest_25 hl (by decide) rfl (fun ls hl => ?_)
    obtain ⟨ku, h⟩ := h
    refine soX10_nearest_L27 C hK  ?_ ku _ _ _ h _ _ hG ls (lv_sub hl [0, 1, 2, 4, 5, 6] rfl)
    intro w14 w15 w16 h H locs hG ls hl
    refine lv_iload C.1 C.2.1 dX10_nearest_81 (lv_at hl 2 rfl) ?_
    exact fw_iret C hG h dX10_nearest_83
  · have h := h.2 c2
    refine lv_iload_n C.1 C.2.1 dX10_nearest_11 rfl (lv_at hl 0 rfl) ?_
    exact fw_iret C hG h dX10_nearest_12
/-! KnifeBoardModel.layOrdered(II)V -/
def rmX10_layOrdered : Room := { frames := 0, cells := 0, slots := 0, locals := 0 }
def wpX10_layOrdered_L10 (x1 : Int32) (x2 : Int32) (z3 : Int32) (Q : fw_F → fw_R → Prop) (K : Int32 → fw_F → fw_R → Prop) : Nat → Int32 → fw_F → fw_R → Prop
  | 0, _, _, _ => False
  | fu + 1, z4, iv, ar => (z4 ≤ 0 → (K z4 iv ar)) ∧ (¬ z4 ≤ 0 → (vp_in (z4 - 1) 6 ∧ (vp_in (x1 + z3) 320 ∧ ((((ar 24) (z4 - 1).toNatClampNeg) ≤ ((ar 4) (x1 + z3).toNatClampNeg) → (K z4 iv ar)) ∧ (¬ ((ar 24) (z4 - 1).toNatClampNeg) ≤ ((ar 4) (x1 + z3).toNatClampNeg) → (vp_in (z4 - 1) 6 ∧ (vp_in z4 6 ∧ (∀ ar8 : fw_R, ar8 = va_up ar 24 (upd (ar 24) z4.toNatClampNeg ((ar 24) (z4 - 1).toNatClampNeg)) → (∀ y9 : Int32, y9 = z4 + (-1) → (wpX10_layOrdered_L10 x1 x2 z3 Q K fu y9 iv ar8))))))))))
def wpX10_layOrdered_L2 (x1 : Int32) (x2 : Int32) (Q : fw_F → fw_R → Prop) (K : Int32 → fw_F → fw_R → Prop) : Nat → Int32 → fw_F → fw_R → Prop
  | 0, _, _, _ => False
  | fu + 1, z3, iv, ar => (x2 ≤ z3 → (K z3 iv ar)) ∧ (¬ x2 ≤ z3 → (∃ ku : Nat, wpX10_layOrdered_L10 x1 x2 z3 Q (fun (w10 : Int32) (iv11 : fw_F) (ar12 : fw_R) => vp_in (x1 + z3) 320 ∧ (vp_in w10 6 ∧ (∀ ar15 : fw_R, ar15 = va_up ar12 24 (upd (ar12 24) w10.toNatClampNeg ((ar12 4) (x1 + z3).toNatClampNeg)) → (∀ y16 : Int32, y16 = z3 + 1 → (wpX10_layOrdered_L2 x1 x2 Q K fu y16 iv11 ar15))))) ku z3 iv ar))
def wpX10_layOrdered (iv : fw_F) (ar : fw_R) (x1 : Int32) (x2 : Int32) (Q : fw_F → fw_R → Prop) : Prop := ∃ ku : Nat, wpX10_layOrdered_L2 x1 x2 Q (fun (w17 : Int32) (iv18 : fw_F) (ar19 : fw_R) => Q iv18 ar19) ku 0 iv ar
set_option maxHeartbeats 4000000 in
set_option maxRecDepth 100000 in
theorem soX10_layOrdered_L10 {p : Program} {l : Launch} {e : Env} {s : State} {m : MethodId} {args : Array Value} {below : List Frame} {meth : Method} {c : Code} {A : Nat → Prop} {G : fw_G} {mh : Nat} {ad : Nat → Nat} {x1 : Int32} {x2 : Int32} {z3 : Int32} {Q : fw_F → fw_R → Prop} {K : Int32 → fw_F → fw_R → Prop} (C : fw_C p s m args meth c cX10_layOrdered 5 none wsX10_layOrdered RX10) (hK : fw_K G A s)  (hX : ∀ (z4 : Int32) (iv : fw_F) (ar : fw_R), K z4 iv ar → ∀ (H : Heap) (locs : List Loc), fw_H G ((mw G mh ad) iv ar) A s H locs → ∀ (ls : Array Slot), lv_has ls 5 [(4, .int z4), (3, .int z3), (0, .ref mh), (1, .int x1), (2, .int x2)] → W p l e rmX10_layOrdered s m args below meth c H locs 0 0 (MQ below (fw_Qv G (mw G mh ad) Q A) args s 0 0 A) (F0 m 57 ls [])) : ∀ (fu : Nat) (z4 : Int32) (iv : fw_F) (ar : fw_R), wpX10_layOrdered_L10 x1 x2 z3 Q K fu z4 iv ar → ∀ (H : Heap) (locs : List Loc), fw_H G ((mw G mh ad) iv ar) A s H locs → ∀ (ls : Array Slot), lv_has ls 5 [(4, .int z4), (3, .int z3), (0, .ref mh), (1, .int x1), (2, .int x2)] → W p l e rmX10_layOrdered s m args below meth c H locs 0 0 (MQ below (fw_Qv G (mw G mh ad) Q A) args s 0 0 A) (F0 m 10 ls []) := by
  intro fu
  have in_X10 : ∀ x ∈ wsX100, x ∈ wsX10_layOrdered := by decide +kernel
  have k16 := C.2.2.2.2.1 (.fieldLink RX10 16 "KnifeBoardModel" "cells" "[I") (by decide +kernel)
  have k49 := C.2.2.2.2.1 (.fieldLink RX10 49 "KnifeBoardModel" "ordered" "[I") (by decide +kernel)
  induction fu with
  | zero => intro z4 iv ar h; exact h.elim
  | succ fu ih =>
    intro z4 iv ar h H locs hG ls hl
    unfold wpX10_layOrdered_L10 at h
    refine lv_iload C.1 C.2.1 dX10_layOrdered_10 (lv_at hl 0 rfl) ?_
    refine lv_if_le (tgt := 57) C.1 C.2.1 dX10_layOrdered_12 (by decide) (fun c2 => ?_) (fun c2 => ?_)
    · have h := h.1 c2
      exact hX _ _ _ h _ _ hG ls (lv_sub hl [0, 1, 2, 3, 4] rfl)
    · have h := h.2 c2
      refine lv_aload_n C.1 C.2.1 dX10_layOrdered_15 rfl (lv_at hl 2 rfl) ?_
      refine fw_get (w := (mw G mh ad)) C in_X10 hK hG 0 mw_o rfl 24 (by decide) k49 rfl rfl dX10_layOrdered_16 ?_
      refine lv_iload C.1 C.2.1 dX10_layOrdered_19 (lv_at hl 0 rfl) ?_
      refine lv_iconst (v := 1) C.1 C.2.1 dX10_layOrdered_21 (by decide) ?_
      refine lv_isub C.1 C.2.1 dX10_layOrdered_22 ?_
      obtain ⟨c3, h⟩ := h
      refine fw_iald (w := (mw G mh ad)) C hK hG 14 mw_a24 c3 dX10_layOrdered_23 ?_
      refine lv_aload_n C.1 C.2.1 dX10_layOrdered_24 rfl (lv_at hl 2 rfl) ?_
      refine fw_get (w := (mw G mh ad)) C in_X10 hK hG 0 mw_o rfl 4 (by decide) k16 rfl rfl dX10_layOrdered_25 ?_
      refine lv_iload_n C.1 C.2.1 dX10_layOrdered_28 rfl (lv_at hl 3 rfl) ?_
      refine lv_iload_n C.1 C.2.1 dX10_layOrdered_29 rfl (lv_at hl 1 rfl) ?_
      refine lv_iadd C.1 C.2.1 dX10_layOrdered_30 ?_
      obtain ⟨c4, h⟩ := h
      refine fw_iald (w := (mw G mh ad)) C hK hG 3 mw_a4 c4 dX10_layOrdered_31 ?_
      refine lv_icmp_le (tgt := 57) C.1 C.2.1 dX10_layOrdered_32 (by decide) (fun c5 => ?_) (fun c5 => ?_)
      · have h := h.1 c5
        exact hX _ _ _ h _ _ hG ls (lv_sub hl [0, 1, 2, 3, 4] rfl)
      · have h := h.2 c5
        refine lv_aload_n C.1 C.2.1 dX10_layOrdered_35 rfl (lv_at hl 2 rfl) ?_
        refine fw_get (w := (mw G mh ad)) C in_X10 hK hG 0 mw_o rfl 24 (by decide) k49 rfl rfl dX10_layOrdered_36 ?_
        refine lv_iload C.1 C.2.1 dX10_layOrdered_39 (lv_at hl 0 rfl) ?_
        refine lv_aload_n C.1 C.2.1 dX10_layOrdered_41 rfl (lv_at hl 2 rfl) ?_
        refine fw_get (w := (mw G mh ad)) C in_X10 hK hG 0 mw_o rfl 24 (by decide) k49 rfl rfl dX10_layOrdered_42 ?_
        refine lv_iload C.1 C.2.1 dX10_layOrdered_45 (lv_at hl 0 rfl) ?_
        refine lv_iconst (v := 1) C.1 C.2.1 dX10_layOrdered_47 (by decide) ?_
        refine lv_isub C.1 C.2.1 dX10_layOrdered_48 ?_
        obtain ⟨c6, h⟩ := h
        refine fw_iald (w := (mw G mh ad)) C hK hG 14 mw_a24 c6 dX10_layOrdered_49 ?_
        obtain ⟨c7, h⟩ := h
        obtain ⟨ar8, ear8⟩ : ∃ z : fw_R, z = va_up ar 24 (upd (ar 24) z4.toNatClampNeg ((ar 24) (z4 - 1).toNatClampNeg)) := ⟨_, rfl⟩
        have h := h ar8 ear8
        refine fw_iast (w := (mw G mh ad)) C hK hG 14 mw_a24 c7 (ar1 := ar8) (by rw [ear8]; exact mw_s24) dX10_layOrdered_50 (fun H locs hG => ?_)
        obtain ⟨y9, ey9⟩ : ∃ z : Int32, z = z4 + (-1) := ⟨_, rfl⟩
        have h := h y9 ey9
        refine lv_iinc (v := y9) (lv' := [(4, .int y9), (3, .int z3), (0, .ref mh), (1, .int x1), (2, .int x2)]) C.1 C.2.1 dX10_layOrdered_51 hl (k := 0) rfl (by rw [ey9]; rfl) (by decide) rfl (fun ls hl => ?_)
        refine lv_goto (tgt := 10) C.1 C.2.1 dX10_layOrdered_54 (by decide) ?_
        exact ih _ _ _ h _ _ hG ls (lv_sub hl [0, 1, 2, 3, 4] rfl)

set_option maxHeartbeats 4000000 in
set_option maxRecDepth 100000 in
theorem soX10_layOrdered_L2 {p : Program} {l : Launch} {e : Env} {s : State} {m : MethodId} {args : Array Value} {below : List Frame} {meth : Method} {c : Code} {A : Nat → Prop} {G : fw_G} {mh : Nat} {ad : Nat → Nat} {x1 : Int32} {x2 : Int32} {Q : fw_F → fw_R → Prop} {K : Int32 → fw_F → fw_R → Prop} (C : fw_C p s m args meth c cX10_layOrdered 5 none wsX10_layOrdered RX10) (hK : fw_K G A s)  (hX : ∀ (z3 : Int32) (iv : fw_F) (ar : fw_R), K z3 iv ar → ∀ (H : Heap) (locs : List Loc), fw_H G ((mw G mh ad) iv ar) A s H locs → ∀ (ls : Array Slot), lv_has ls 5 [(3, .int z3), (0, .ref mh), (1, .int x1), (2, .int x2)] → W p l e rmX10_layOrdered s m args below meth c H locs 0 0 (MQ below (fw_Qv G (mw G mh ad) Q A) args s 0 0 A) (F0 m 78 ls [])) : ∀ (fu : Nat) (z3 : Int32) (iv : fw_F) (ar : fw_R), wpX10_layOrdered_L2 x1 x2 Q K fu z3 iv ar → ∀ (H : Heap) (locs : List Loc), fw_H G ((mw G mh ad) iv ar) A s H locs → ∀ (ls : Array Slot), lv_has ls 5 [(3, .int z3), (0, .ref mh), (1, .int x1), (2, .int x2)] → W p l e rmX10_layOrdered s m args below meth c H locs 0 0 (MQ below (fw_Qv G (mw G mh ad) Q A) args s 0 0 A) (F0 m 2 ls []) := by
  intro fu
  have in_X10 : ∀ x ∈ wsX100, x ∈ wsX10_layOrdered := by decide +kernel
  have k16 := C.2.2.2.2.1 (.fieldLink RX10 16 "KnifeBoardModel" "cells" "[I") (by decide +kernel)
  have k49 := C.2.2.2.2.1 (.fieldLink RX10 49 "KnifeBoardModel" "ordered" "[I") (by decide +kernel)
  induction fu with
  | zero => intro z3 iv ar h; exact h.elim
  | succ fu ih =>
    intro z3 iv ar h H locs hG ls hl
    unfold wpX10_layOrdered_L2 at h
    refine lv_iload_n C.1 C.2.1 dX10_layOrdered_2 rfl (lv_at hl 0 rfl) ?_
    refine lv_iload_n C.1 C.2.1 dX10_layOrdered_3 rfl (lv_at hl 3 rfl) ?_
    refine lv_icmp_ge (tgt := 78) C.1 C.2.1 dX10_layOrdered_4 (by decide) (fun c1 => ?_) (fun c1 => ?_)
    · have h := h.1 c1
      exact hX _ _ _ h _ _ hG ls (lv_sub hl [0, 1, 2, 3] rfl)
    · have h := h.2 c1
      refine lv_iload_n C.1 C.2.1 dX10_layOrdered_7 rfl (lv_at hl 0 rfl) ?_
      refine lv_istore (lv' := [(4, .int z3), (3, .int z3), (0, .ref mh), (1, .int x1), (2, .int x2)]) C.1 C.2.1 dX10_layOrdered_8 hl (by decide) rfl (fun ls hl => ?_)
      obtain ⟨ku, h⟩ := h
      refine soX10_layOrdered_L10 C hK  ?_ ku _ _ _ h _ _ hG ls (lv_sub hl [0, 1, 2, 3, 4] rfl)
      intro w10 iv11 ar12 h H locs hG ls hl
      refine lv_aload_n C.1 C.2.1 dX10_layOrdered_57 rfl (lv_at hl 2 rfl) ?_
      refine fw_get (w := (mw G mh ad)) C in_X10 hK hG 0 mw_o rfl 24 (by decide) k49 rfl rfl dX10_layOrdered_58 ?_
      refine lv_iload C.1 C.2.1 dX10_layOrdered_61 (lv_at hl 0 rfl) ?_
      refine lv_aload_n C.1 C.2.1 dX10_layOrdered_63 rfl (lv_at hl 2 rfl) ?_
      refine fw_get (w := (mw G mh ad)) C in_X10 hK hG 0 mw_o rfl 4 (by decide) k16 rfl rfl dX10_layOrdered_64 ?_
      refine lv_iload_n C.1 C.2.1 dX10_layOrdered_67 rfl (lv_at hl 3 rfl) ?_
      refine lv_iload_n C.1 C.2.1 dX10_layOrdered_68 rfl (lv_at hl 1 rfl) ?_
      refine lv_iadd C.1 C.2.1 dX10_layOrdered_69 ?_
      obtain ⟨c13, h⟩ := h
      refine fw_iald (w := (mw G mh ad)) C hK hG 3 mw_a4 c13 dX10_layOrdered_70 ?_
      obtain ⟨c14, h⟩ := h
      obtain ⟨ar15, ear15⟩ : ∃ z : fw_R, z = va_up ar12 24 (upd (ar12 24) w10.toNatClampNeg ((ar12 4) (x1 + z3).toNatClampNeg)) := ⟨_, rfl⟩
      have h := h ar15 ear15
      refine fw_iast (w := (mw G mh ad)) C hK hG 14 mw_a24 c14 (ar1 := ar15) (by rw [ear15]; exact mw_s24) dX10_layOrdered_71 (fun H locs hG => ?_)
      obtain ⟨y16, ey16⟩ : ∃ z : Int32, z = z3 + 1 := ⟨_, rfl⟩
      have h := h y16 ey16
      refine lv_iinc (v := y16) (lv' := [(3, .int y16), (4, .int w10), (0, .ref mh), (1, .int x1), (2, .int x2)]) C.1 C.2.1 dX10_layOrdered_72 hl (k := 1) rfl (by rw [ey16]; rfl) (by decide) rfl (fun ls hl => ?_)
      refine lv_goto (tgt := 2) C.1 C.2.1 dX10_layOrdered_75 (by decide) ?_
      exact ih _ _ _ h _ _ hG ls (lv_sub hl [0, 2, 3, 4] rfl)

set_option maxHeartbeats 4000000 in
set_option maxRecDepth 100000 in
theorem soX10_layOrdered (l : Launch) (G : fw_G) (mh : Nat) (ad : Nat → Nat) (iv : fw_F) (ar : fw_R) (x1 : Int32) (x2 : Int32) (Q : fw_F → fw_R → Prop)  (h : wpX10_layOrdered iv ar x1 x2 Q) : fw_M l G (mw G mh ad) yX10_layOrdered wsX10_layOrdered rmX10_layOrdered [.ref mh, .int x1, .int x2] iv ar (fw_Qv G (mw G mh ad) Q) := by
  refine fw_start (cc := cX10_layOrdered) (nL := 5) (rt := none) (by decide) rfl (Nat.le_of_ble_eq_true rfl) ?_
  intro p e s m below meth c A ls H locs C hK hG hl
  obtain ⟨args, ea⟩ : ∃ z : Array Value, z = ([.ref mh, .int x1, .int x2] : List Value).toArray := ⟨_, rfl⟩
  rw [← ea] at C ⊢
  have C : fw_C p s m args meth c cX10_layOrdered 5 none wsX10_layOrdered RX10 := C
  have hl : lv_has ls 5 [(0, .ref mh), (1, .int x1), (2, .int x2)] := hl
  unfold wpX10_layOrdered at h
  refine lv_iconst (v := 0) C.1 C.2.1 dX10_layOrdered_0 (by decide) ?_
  refine lv_istore_n (lv' := [(3, .int 0), (0, .ref mh), (1, .int x1), (2, .int x2)]) C.1 C.2.1 dX10_layOrdered_1 rfl hl (by decide) rfl (fun ls hl => ?_)
  obtain ⟨ku, h⟩ := h
  refine soX10_layOrdered_L2 C hK  ?_ ku _ _ _ h _ _ hG ls (lv_sub hl [0, 1, 2, 3] rfl)
  intro w17 iv18 ar19 h H locs hG ls hl
  exact fw_vret C hG h dX10_layOrdered_78
/-! KnifeBoardModel.layCosts(II)V -/
def rmX10_layCosts : Room := { frames := 3, cells := 0, slots := 0, locals := 76 }
def wpX10_layCosts_L14 (x1 : Int32) (x2 : Int32) (z3 : Int32) (Q : fw_F → fw_R → Prop) (K : Int32 → fw_F → fw_R → Prop) : Nat → Int32 → fw_F → fw_R → Prop
  | 0, _, _, _ => False
  | fu + 1, z4, iv, ar => (x1 ≤ z4 → (K z4 iv ar)) ∧ (¬ x1 ≤ z4 → (wpX10_stageOf iv ar (x2 + z4) (fun (r5 : Int32) => vp_in z3 6 ∧ (wpX10_comesBy iv ar ((ar 24) z3.toNatClampNeg) r5 1 0 (fun (r7 : Int32) => wpX10_allWays iv ar r5 (fun (r8 : Int32) => ¬ r8.toInt64 = 0 ∧ (vp_in ((6 * z3) + z4) 36 ∧ (∀ ar11 : fw_R, ar11 = va_up ar 23 (upd (ar 23) ((6 * z3) + z4).toNatClampNeg (((1000000 * r7.toInt64) / r8.toInt64).toInt32)) → (∀ y12 : Int32, y12 = z4 + 1 → (wpX10_layCosts_L14 x1 x2 z3 Q K fu y12 iv ar11))))))))))
def wpX10_layCosts_L6 (x1 : Int32) (x2 : Int32) (Q : fw_F → fw_R → Prop) (K : Int32 → fw_F → fw_R → Prop) : Nat → Int32 → fw_F → fw_R → Prop
  | 0, _, _, _ => False
  | fu + 1, z3, iv, ar => (x1 ≤ z3 → (K z3 iv ar)) ∧ (¬ x1 ≤ z3 → (∃ ku : Nat, wpX10_layCosts_L14 x1 x2 z3 Q (fun (w13 : Int32) (iv14 : fw_F) (ar15 : fw_R) => ∀ y16 : Int32, y16 = z3 + 1 → (wpX10_layCosts_L6 x1 x2 Q K fu y16 iv14 ar15)) ku 0 iv ar))
def wpX10_layCosts (iv : fw_F) (ar : fw_R) (x1 : Int32) (x2 : Int32) (Q : fw_F → fw_R → Prop) : Prop := wpX10_laySeen iv ar  (fun (iv1 : fw_F) (ar2 : fw_R) => ∃ ku : Nat, wpX10_layCosts_L6 x1 x2 Q (fun (w17 : Int32) (iv18 : fw_F) (ar19 : fw_R) => Q iv18 ar19) ku 0 iv1 ar2)
set_option maxHeartbeats 4000000 in
set_option maxRecDepth 100000 in
theorem soX10_layCosts_L14 {p : Program} {l : Launch} {e : Env} {s : State} {m : MethodId} {args : Array Value} {below : List Frame} {meth : Method} {c : Code} {A : Nat → Prop} {G : fw_G} {mh : Nat} {ad : Nat → Nat} {x1 : Int32} {x2 : Int32} {z3 : Int32} {Q : fw_F → fw_R → Prop} {K : Int32 → fw_F → fw_R → Prop} (C : fw_C p s m args meth c cX10_layCosts 6 none wsX10_layCosts RX10) (hK : fw_K G A s)  (hX : ∀ (z4 : Int32) (iv : fw_F) (ar : fw_R), K z4 iv ar → ∀ (H : Heap) (locs : List Loc), fw_H G ((mw G mh ad) iv ar) A s H locs → ∀ (ls : Array Slot), lv_has ls 6 [(4, .int z4), (3, .int z3), (0, .ref mh), (1, .int x1), (2, .int x2)] → W p l e rmX10_layCosts s m args below meth c H locs 0 0 (MQ below (fw_Qv G (mw G mh ad) Q A) args s 0 0 A) (F0 m 76 ls [])) : ∀ (fu : Nat) (z4 : Int32) (iv : fw_F) (ar : fw_R), wpX10_layCosts_L14 x1 x2 z3 Q K fu z4 iv ar → ∀ (H : Heap) (locs : List Loc), fw_H G ((mw G mh ad) iv ar) A s H locs → ∀ (ls : Array Slot), lv_has ls 6 [(4, .int z4), (3, .int z3), (0, .ref mh), (1, .int x1), (2, .int x2)] → W p l e rmX10_layCosts s m args below meth c H locs 0 0 (MQ below (fw_Qv G (mw G mh ad) Q A) args s 0 0 A) (F0 m 14 ls []) := by
  intro fu
  have in_X10 : ∀ x ∈ wsX100, x ∈ wsX10_layCosts := by decide +kernel
  have k233 := C.2.2.2.2.1 (.constantLong RX10 233 1000000) (by decide +kernel)
  have k46 := C.2.2.2.2.1 (.fieldLink RX10 46 "KnifeBoardModel" "costs" "[I") (by decide +kernel)
  have k49 := C.2.2.2.2.1 (.fieldLink RX10 49 "KnifeBoardModel" "ordered" "[I") (by decide +kernel)
  induction fu with
  | zero => intro z4 iv ar h; exact h.elim
  | succ fu ih =>
    intro z4 iv ar h H locs hG ls hl
    unfold wpX10_layCosts_L14 at h
    refine lv_iload C.1 C.2.1 dX10_layCosts_14 (lv_at hl 0 rfl) ?_
    refine lv_iload_n C.1 C.2.1 dX10_layCosts_16 rfl (lv_at hl 3 rfl) ?_
    refine lv_icmp_ge (tgt := 76) C.1 C.2.1 dX10_layCosts_17 (by decide) (fun c4 => ?_) (fun c4 => ?_)
    · have h := h.1 c4
      exact hX _ _ _ h _ _ hG ls (lv_sub hl [0, 1, 2, 3, 4] rfl)
    · have h := h.2 c4
      refine lv_aload_n C.1 C.2.1 dX10_layCosts_20 rfl (lv_at hl 2 rfl) ?_
      refine lv_iload_n C.1 C.2.1 dX10_layCosts_21 rfl (lv_at hl 4 rfl) ?_
      refine lv_iload C.1 C.2.1 dX10_layCosts_22 (lv_at hl 0 rfl) ?_
      refine lv_iadd C.1 C.2.1 dX10_layCosts_24 ?_
      refine fw_rcalli (va_runV (As := [.int (x2 + z4)]) (rest := []) ⟨C.1, C.2.1, C.2.2.2.2.2.2, C.2.2.2.2.2.1, C.2.2.2.2.1⟩ (soX10_stageOf l G mh ad iv ar (x2 + z4) _  h H.size) (cwV 1 C.2.2.2.2.1 gX10_layCosts_X10_stageOf rfl rfl rfl (by decide +kernel) ⟨Nat.le_of_ble_eq_true rfl, Nat.le_of_ble_eq_true rfl⟩) (fw_preV hG hK (ci := 10) rfl mw_o) rfl rfl hl.1 rfl (lv_room (Nat.le_of_ble_eq_true rfl)) dX10_layCosts_25 ⟨Nat.zero_le _, Nat.zero_le _⟩) hG hK (fun r5  H locs h hG => ?_)
      refine lv_istore (lv' := [(5, .int r5), (4, .int z4), (3, .int z3), (0, .ref mh), (1, .int x1), (2, .int x2)]) C.1 C.2.1 dX10_layCosts_28 hl (by decide) rfl (fun ls hl => ?_)
      refine lv_aload_n C.1 C.2.1 dX10_layCosts_30 rfl (lv_at hl 3 rfl) ?_
      refine fw_get (w := (mw G mh ad)) C in_X10 hK hG 0 mw_o rfl 23 (by decide) k46 rfl rfl dX10_layCosts_31 ?_
      refine lv_bipush (v := 6) C.1 C.2.1 dX10_layCosts_34 (by decide) ?_
      refine lv_iload_n C.1 C.2.1 dX10_layCosts_36 rfl (lv_at hl 2 rfl) ?_
      refine lv_imul C.1 C.2.1 dX10_layCosts_37 ?_
      refine lv_iload C.1 C.2.1 dX10_layCosts_38 (lv_at hl 1 rfl) ?_
      refine lv_iadd C.1 C.2.1 dX10_layCosts_40 ?_
      refine lv_ldc2 C.1 C.2.1 C.2.2.2.2.2.1 k233 dX10_layCosts_41 ?_
      refine lv_aload_n C.1 C.2.1 dX10_layCosts_44 rfl (lv_at hl 3 rfl) ?_
      refine lv_aload_n C.1 C.2.1 dX10_layCosts_45 rfl (lv_at hl 3 rfl) ?_
      refine fw_get (w := (mw G mh ad)) C in_X10 hK hG 0 mw_o rfl 24 (by decide) k49 rfl rfl dX10_layCosts_46 ?_
      refine lv_iload_n C.1 C.2.1 dX10_layCosts_49 rfl (lv_at hl 2 rfl) ?_
      obtain ⟨c6, h⟩ := h
      refine fw_iald (w := (mw G mh ad)) C hK hG 14 mw_a24 c6 dX10_layCosts_50 ?_
      refine lv_iload C.1 C.2.1 dX10_layCosts_51 (lv_at hl 0 rfl) ?_
      refine lv_iconst (v := 1) C.1 C.2.1 dX10_layCosts_53 (by decide) ?_
      refine lv_iconst (v := 0) C.1 C.2.1 dX10_layCosts_54 (by decide) ?_
      refine fw_rcalli (va_runV (As := [.int ((ar 24) z3.toNatClampNeg), .int r5, .int 1, .int 0]) (rest := [.long 1000000, .int ((6 * z3) + z4), .ref (ad 23)]) ⟨C.1, C.2.1, C.2.2.2.2.2.2, C.2.2.2.2.2.1, C.2.2.2.2.1⟩ (soX10_comesBy l G mh ad iv ar ((ar 24) z3.toNatClampNeg) r5 1 0 _  h H.size) (cwV 4 C.2.2.2.2.1 gX10_layCosts_X10_comesBy rfl rfl rfl (by decide +kernel) ⟨Nat.le_of_ble_eq_true rfl, Nat.le_of_ble_eq_true rfl⟩) (fw_preV hG hK (ci := 10) rfl mw_o) rfl rfl hl.1 rfl (lv_room (Nat.le_of_ble_eq_true rfl)) dX10_layCosts_55 ⟨Nat.zero_le _, Nat.zero_le _⟩) hG hK (fun r7  H locs h hG => ?_)
      refine lv_i2l C.1 C.2.1 dX10_layCosts_58 rfl ?_
      refine lv_lmul C.1 C.2.1 dX10_layCosts_59 ?_
      refine lv_aload_n C.1 C.2.1 dX10_layCosts_60 rfl (lv_at hl 3 rfl) ?_
      refine lv_iload C.1 C.2.1 dX10_layCosts_61 (lv_at hl 0 rfl) ?_
      refine fw_rcalli (va_runV (As := [.int r5]) (rest := [.long (1000000 * r7.toInt64), .int ((6 * z3) + z4), .ref (ad 23)]) ⟨C.1, C.2.1, C.2.2.2.2.2.2, C.2.2.2.2.2.1, C.2.2.2.2.1⟩ (soX10_allWays l G mh ad iv ar r5 _  h H.size) (cwV 1 C.2.2.2.2.1 gX10_layCosts_X10_allWays rfl rfl rfl (by decide +kernel) ⟨Nat.le_of_ble_eq_true rfl, Nat.le_of_ble_eq_true rfl⟩) (fw_preV hG hK (ci := 10) rfl mw_o) rfl rfl hl.1 rfl (lv_room (Nat.le_of_ble_eq_true rfl)) dX10_layCosts_63 ⟨Nat.zero_le _, Nat.zero_le _⟩) hG hK (fun r8  H locs h hG => ?_)
      refine lv_i2l C.1 C.2.1 dX10_layCosts_66 rfl ?_
      obtain ⟨c9, h⟩ := h
      refine lv_ldiv C.1 C.2.1 dX10_layCosts_67 c9 ?_
      refine lv_l2i C.1 C.2.1 dX10_layCosts_68 rfl ?_
      obtain ⟨c10, h⟩ := h
      obtain ⟨ar11, ear11⟩ : ∃ z : fw_R, z = va_up ar 23 (upd (ar 23) ((6 * z3) + z4).toNatClampNeg (((1000000 * r7.toInt64) / r8.toInt64).toInt32)) := ⟨_, rfl⟩
      have h := h ar11 ear11
      refine fw_iast (w := (mw G mh ad)) C hK hG 13 mw_a23 c10 (ar1 := ar11) (by rw [ear11]; exact mw_s23) dX10_layCosts_69 (fun H locs hG => ?_)
      obtain ⟨y12, ey12⟩ : ∃ z : Int32, z = z4 + 1 := ⟨_, rfl⟩
      have h := h y12 ey12
      refine lv_iinc (v := y12) (lv' := [(4, .int y12), (5, .int r5), (3, .int z3), (0, .ref mh), (1, .int x1), (2, .int x2)]) C.1 C.2.1 dX10_layCosts_70 hl (k := 1) rfl (by rw [ey12]; rfl) (by decide) rfl (fun ls hl => ?_)
      refine lv_goto (tgt := 14) C.1 C.2.1 dX10_layCosts_73 (by decide) ?_
      exact ih _ _ _ h _ _ hG ls (lv_sub hl [0, 2, 3, 4, 5] rfl)

set_option maxHeartbeats 4000000 in
set_option maxRecDepth 100000 in
theorem soX10_layCosts_L6 {p : Program} {l : Launch} {e : Env} {s : State} {m : MethodId} {args : Array Value} {below : List Frame} {meth : Method} {c : Code} {A : Nat → Prop} {G : fw_G} {mh : Nat} {ad : Nat → Nat} {x1 : Int32} {x2 : Int32} {Q : fw_F → fw_R → Prop} {K : Int32 → fw_F → fw_R → Prop} (C : fw_C p s m args meth c cX10_layCosts 6 none wsX10_layCosts RX10) (hK : fw_K G A s)  (hX : ∀ (z3 : Int32) (iv : fw_F) (ar : fw_R), K z3 iv ar → ∀ (H : Heap) (locs : List Loc), fw_H G ((mw G mh ad) iv ar) A s H locs → ∀ (ls : Array Slot), lv_has ls 6 [(3, .int z3), (0, .ref mh), (1, .int x1), (2, .int x2)] → W p l e rmX10_layCosts s m args below meth c H locs 0 0 (MQ below (fw_Qv G (mw G mh ad) Q A) args s 0 0 A) (F0 m 82 ls [])) : ∀ (fu : Nat) (z3 : Int32) (iv : fw_F) (ar : fw_R), wpX10_layCosts_L6 x1 x2 Q K fu z3 iv ar → ∀ (H : Heap) (locs : List Loc), fw_H G ((mw G mh ad) iv ar) A s H locs → ∀ (ls : Array Slot), lv_has ls 6 [(3, .int z3), (0, .ref mh), (1, .int x1), (2, .int x2)] → W p l e rmX10_layCosts s m args below meth c H locs 0 0 (MQ below (fw_Qv G (mw G mh ad) Q A) args s 0 0 A) (F0 m 6 ls []) := by
  intro fu
  induction fu with
  | zero => intro z3 iv ar h; exact h.elim
  | succ fu ih =>
    intro z3 iv ar h H locs hG ls hl
    unfold wpX10_layCosts_L6 at h
    refine lv_iload_n C.1 C.2.1 dX10_layCosts_6 rfl (lv_at hl 0 rfl) ?_
    refine lv_iload_n C.1 C.2.1 dX10_layCosts_7 rfl (lv_at hl 2 rfl) ?_
    refine lv_icmp_ge (tgt := 82) C.1 C.2.1 dX10_layCosts_8 (by decide) (fun c3 => ?_) (fun c3 => ?_)
    · have h := h.1 c3
      exact hX _ _ _ h _ _ hG ls (lv_sub hl [0, 1, 2, 3] rfl)
    · have h := h.2 c3
      refine lv_iconst (v := 0) C.1 C.2.1 dX10_layCosts_11 (by decide) ?_
      refine lv_istore (lv' := [(4, .int 0), (3, .int z3), (0, .ref mh), (1, .int x1), (2, .int x2)]) C.1 C.2.1 dX10_layCosts_12 hl (by decide) rfl (fun ls hl => ?_)
      obtain ⟨ku, h⟩ := h
      refine soX10_layCosts_L14 C hK  ?_ ku _ _ _ h _ _ hG ls (lv_sub hl [0, 1, 2, 3, 4] rfl)
      intro w13 iv14 ar15 h H locs hG ls hl
      obtain ⟨y16, ey16⟩ : ∃ z : Int32, z = z3 + 1 := ⟨_, rfl⟩
      have h := h y16 ey16
      refine lv_iinc (v := y16) (lv' := [(3, .int y16), (4, .int w13), (0, .ref mh), (1, .int x1), (2, .int x2)]) C.1 C.2.1 dX10_layCosts_76 hl (k := 1) rfl (by rw [ey16]; rfl) (by decide) rfl (fun ls hl => ?_)
      refine lv_goto (tgt := 6) C.1 C.2.1 dX10_layCosts_79 (by decide) ?_
      exact ih _ _ _ h _ _ hG ls (lv_sub hl [0, 2, 3, 4] rfl)

set_option maxHeartbeats 4000000 in
set_option maxRecDepth 100000 in
theorem soX10_layCosts (l : Launch) (G : fw_G) (mh : Nat) (ad : Nat → Nat) (iv : fw_F) (ar : fw_R) (x1 : Int32) (x2 : Int32) (Q : fw_F → fw_R → Prop)  (h : wpX10_layCosts iv ar x1 x2 Q) : fw_M l G (mw G mh ad) yX10_layCosts wsX10_layCosts rmX10_layCosts [.ref mh, .int x1, .int x2] iv ar (fw_Qv G (mw G mh ad) Q) := by
  refine fw_start (cc := cX10_layCosts) (nL := 6) (rt := none) (by decide) rfl (Nat.le_of_ble_eq_true rfl) ?_
  intro p e s m below meth c A ls H locs C hK hG hl
  obtain ⟨args, ea⟩ : ∃ z : Array Value, z = ([.ref mh, .int x1, .int x2] : List Value).toArray := ⟨_, rfl⟩
  rw [← ea] at C ⊢
  have C : fw_C p s m args meth c cX10_layCosts 6 none wsX10_layCosts RX10 := C
  have hl : lv_has ls 6 [(0, .ref mh), (1, .int x1), (2, .int x2)] := hl
  unfold wpX10_layCosts at h
  refine lv_aload_n C.1 C.2.1 dX10_layCosts_0 rfl (lv_at hl 0 rfl) ?_
  refine fw_callv (va_runV (As := []) (rest := []) ⟨C.1, C.2.1, C.2.2.2.2.2.2, C.2.2.2.2.2.1, C.2.2.2.2.1⟩ (soX10_laySeen l G mh ad iv ar  _  h H.size) (cwV 0 C.2.2.2.2.1 gX10_layCosts_X10_laySeen rfl rfl rfl (by decide +kernel) ⟨Nat.le_of_ble_eq_true rfl, Nat.le_of_ble_eq_true rfl⟩) (fw_preV hG hK (ci := 10) rfl mw_o) rfl rfl hl.1 rfl (lv_room (Nat.le_of_ble_eq_true rfl)) dX10_layCosts_1 ⟨Nat.zero_le _, Nat.zero_le _⟩) hG hK (fun iv1 ar2 H locs h hG => ?_)
  refine lv_iconst (v := 0) C.1 C.2.1 dX10_layCosts_4 (by decide) ?_
  refine lv_istore_n (lv' := [(3, .int 0), (0, .ref mh), (1, .int x1), (2, .int x2)]) C.1 C.2.1 dX10_layCosts_5 rfl hl (by decide) rfl (fun ls hl => ?_)
  obtain ⟨ku, h⟩ := h
  refine soX10_layCosts_L6 C hK  ?_ ku _ _ _ h _ _ hG ls (lv_sub hl [0, 1, 2, 3] rfl)
  intro w17 iv18 ar19 h H locs hG ls hl
  exact fw_vret C hG h dX10_layCosts_82
/-! KnifeBoardModel.isTried(II)Z -/
def rmX10_isTried : Room := { frames := 0, cells := 0, slots := 0, locals := 0 }
def wpX10_isTried_L2 (x1 : Int32) (x2 : Int32) (iv : fw_F) (ar : fw_R) (Q : Int32 → Prop) (K : Int32 → Prop) : Nat → Int32 → Prop
  | 0, _ => False
  | fu + 1, z3 => (x2 ≤ z3 → (K z3)) ∧ (¬ x2 ≤ z3 → (vp_in z3 6 ∧ ((¬ ((ar 25) z3.toNatClampNeg) = x1 → (∀ y4 : Int32, y4 = z3 + 1 → (wpX10_isTried_L2 x1 x2 iv ar Q K fu y4))) ∧ (((ar 25) z3.toNatClampNeg) = x1 → (Q 1)))))
def wpX10_isTried (iv : fw_F) (ar : fw_R) (x1 : Int32) (x2 : Int32) (Q : Int32 → Prop) : Prop := ∃ ku : Nat, wpX10_isTried_L2 x1 x2 iv ar Q (fun (w5 : Int32) => Q 0) ku 0
set_option maxHeartbeats 4000000 in
set_option maxRecDepth 100000 in
theorem soX10_isTried_L2 {p : Program} {l : Launch} {e : Env} {s : State} {m : MethodId} {args : Array Value} {below : List Frame} {meth : Method} {c : Code} {A : Nat → Prop} {G : fw_G} {mh : Nat} {ad : Nat → Nat} {x1 : Int32} {x2 : Int32} {iv : fw_F} {ar : fw_R} {Q : Int32 → Prop} {K : Int32 → Prop} (C : fw_C p s m args meth c cX10_isTried 4 (some .boolean) wsX10_isTried RX10) (hK : fw_K G A s)  (hX : ∀ (z3 : Int32), K z3 → ∀ (H : Heap) (locs : List Loc), fw_H G ((mw G mh ad) iv ar) A s H locs → ∀ (ls : Array Slot), lv_has ls 4 [(3, .int z3), (0, .ref mh), (1, .int x1), (2, .int x2)] → W p l e rmX10_isTried s m args below meth c H locs 0 0 (MQ below (fw_Qi G (mw G mh ad) (fun r iv1 ar1 => Q r ∧ iv = iv1 ∧ ar = ar1) A) args s 0 0 A) (F0 m 25 ls [])) : ∀ (fu : Nat) (z3 : Int32), wpX10_isTried_L2 x1 x2 iv ar Q K fu z3 → ∀ (H : Heap) (locs : List Loc), fw_H G ((mw G mh ad) iv ar) A s H locs → ∀ (ls : Array Slot), lv_has ls 4 [(3, .int z3), (0, .ref mh), (1, .int x1), (2, .int x2)] → W p l e rmX10_isTried s m args below meth c H locs 0 0 (MQ below (fw_Qi G (mw G mh ad) (fun r iv1 ar1 => Q r ∧ iv = iv1 ∧ ar = ar1) A) args s 0 0 A) (F0 m 2 ls []) := by
  intro fu
  have in_X10 : ∀ x ∈ wsX100, x ∈ wsX10_isTried := by decide +kernel
  have k52 := C.2.2.2.2.1 (.fieldLink RX10 52 "KnifeBoardModel" "tried" "[I") (by decide +kernel)
  induction fu with
  | zero => intro z3 h; exact h.elim
  | succ fu ih =>
    intro z3 h H locs hG ls hl
    unfold wpX10_isTried_L2 at h
    refine lv_iload_n C.1 C.2.1 dX10_isTried_2 rfl (lv_at hl 0 rfl) ?_
    refine lv_iload_n C.1 C.2.1 dX10_isTried_3 rfl (lv_at hl 3 rfl) ?_
    refine lv_icmp_ge (tgt := 25) C.1 C.2.1 dX10_isTried_4 (by decide) (fun c1 => ?_) (fun c1 => ?_)
    · have h := h.1 c1
      exact hX _ h _ _ hG ls (lv_sub hl [0, 1, 2, 3] rfl)
    · have h := h.2 c1
      refine lv_aload_n C.1 C.2.1 dX10_isTried_7 rfl (lv_at hl 1 rfl) ?_
      refine fw_get (w := (mw G mh ad)) C in_X10 hK hG 0 mw_o rfl 25 (by decide) k52 rfl rfl dX10_isTried_8 ?_
      refine lv_iload_n C.1 C.2.1 dX10_isTried_11 rfl (lv_at hl 0 rfl) ?_
      obtain ⟨c2, h⟩ := h
      refine fw_iald (w := (mw G mh ad)) C hK hG 15 mw_a25 c2 dX10_isTried_12 ?_
      refine lv_iload_n C.1 C.2.1 dX10_isTried_13 rfl (lv_at hl 2 rfl) ?_
      refine lv_icmp_ne (tgt := 19) C.1 C.2.1 dX10_isTried_14 (by decide) (fun c3 => ?_) (fun c3 => ?_)
      · have h := h.1 c3
        obtain ⟨y4, ey4⟩ : ∃ z : Int32, z = z3 + 1 := ⟨_, rfl⟩
        have h := h y4 ey4
        refine lv_iinc (v := y4) (lv' := [(3, .int y4), (0, .ref mh), (1, .int x1), (2, .int x2)]) C.1 C.2.1 dX10_isTried_19 hl (k := 0) rfl (by rw [ey4]; rfl) (by decide) rfl (fun ls hl => ?_)
        refine lv_goto (tgt := 2) C.1 C.2.1 dX10_isTried_22 (by decide) ?_
        exact ih _ h _ _ hG ls (lv_sub hl [0, 1, 2, 3] rfl)
      · have h := h.2 c3
        refine lv_iconst (v := 1) C.1 C.2.1 dX10_isTried_17 (by decide) ?_
        exact fw_zret C hG (by decide) ⟨h, rfl, rfl⟩ dX10_isTried_18

set_option maxHeartbeats 4000000 in
set_option maxRecDepth 100000 in
theorem soX10_isTried (l : Launch) (G : fw_G) (mh : Nat) (ad : Nat → Nat) (iv : fw_F) (ar : fw_R) (x1 : Int32) (x2 : Int32) (Q : Int32 → Prop)  (h : wpX10_isTried iv ar x1 x2 Q) : fw_M l G (mw G mh ad) yX10_isTried wsX10_isTried rmX10_isTried [.ref mh, .int x1, .int x2] iv ar (fw_Qi G (mw G mh ad) (fun r iv1 ar1 => Q r ∧ iv = iv1 ∧ ar = ar1)) := by
  refine fw_start (cc := cX10_isTried) (nL := 4) (rt := (some .boolean)) (by decide) rfl (Nat.le_of_ble_eq_true rfl) ?_
  intro p e s m below meth c A ls H locs C hK hG hl
  obtain ⟨args, ea⟩ : ∃ z : Array Value, z = ([.ref mh, .int x1, .int x2] : List Value).toArray := ⟨_, rfl⟩
  rw [← ea] at C ⊢
  have C : fw_C p s m args meth c cX10_isTried 4 (some .boolean) wsX10_isTried RX10 := C
  have hl : lv_has ls 4 [(0, .ref mh), (1, .int x1), (2, .int x2)] := hl
  unfold wpX10_isTried at h
  refine lv_iconst (v := 0) C.1 C.2.1 dX10_isTried_0 (by decide) ?_
  refine lv_istore_n (lv' := [(3, .int 0), (0, .ref mh), (1, .int x1), (2, .int x2)]) C.1 C.2.1 dX10_isTried_1 rfl hl (by decide) rfl (fun ls hl => ?_)
  obtain ⟨ku, h⟩ := h
  refine soX10_isTried_L2 C hK  ?_ ku _ h _ _ hG ls (lv_sub hl [0, 1, 2, 3] rfl)
  intro w5 h H locs hG ls hl
  refine lv_iconst (v := 0) C.1 C.2.1 dX10_isTried_25 (by decide) ?_
  exact fw_zret C hG (by decide) ⟨h, rfl, rfl⟩ dX10_isTried_26
/-! KnifeBoardModel.offer(I)V -/
def rmX10_offer : Room := { frames := 0, cells := 0, slots := 0, locals := 0 }
def wpX10_offer_L4 (x1 : Int32) (iv : fw_F) (ar : fw_R) (Q : fw_F → fw_R → Prop) (K : Int32 → Int32 → Prop) : Nat → Int32 → Int32 → Prop
  | 0, _, _ => False
  | fu + 1, z2, z3 => (x1 ≤ z3 → (K z2 z3)) ∧ (¬ x1 ≤ z3 → (vp_in z3 6 ∧ (vp_in ((6 * ((ar 25) z3.toNatClampNeg)) + z3) 36 ∧ (∀ y4 : Int32, y4 = z2 + ((ar 23) ((6 * ((ar 25) z3.toNatClampNeg)) + z3).toNatClampNeg) → (∀ y5 : Int32, y5 = z3 + 1 → (wpX10_offer_L4 x1 iv ar Q K fu y4 y5))))))
def wpX10_offer_L56 (x1 : Int32) (Q : fw_F → fw_R → Prop) (K : Int32 → fw_F → fw_R → Prop) : Nat → Int32 → fw_F → fw_R → Prop
  | 0, _, _, _ => False
  | fu + 1, z3, iv, ar => (x1 ≤ z3 → (K z3 iv ar)) ∧ (¬ x1 ≤ z3 → (vp_in z3 6 ∧ (vp_in ((ar 25) z3.toNatClampNeg) 6 ∧ (vp_in z3 6 ∧ (∀ ar14 : fw_R, ar14 = va_up ar 26 (upd (ar 26) z3.toNatClampNeg ((ar 24) ((ar 25) z3.toNatClampNeg).toNatClampNeg)) → (∀ y15 : Int32, y15 = z3 + 1 → (wpX10_offer_L56 x1 Q K fu y15 iv ar14)))))))
def wpX10_offer (iv : fw_F) (ar : fw_R) (x1 : Int32) (Q : fw_F → fw_R → Prop) : Prop := ∃ ku : Nat, wpX10_offer_L4 x1 iv ar Q (fun (w6 : Int32) (w7 : Int32) => ((iv 27) < 0 → (∀ iv9 : fw_F, iv9 = va_up iv 27 w6 → (∃ ku : Nat, wpX10_offer_L56 x1 Q (fun (w16 : Int32) (iv17 : fw_F) (ar18 : fw_R) => Q iv17 ar18) ku 0 iv9 ar))) ∧ (¬ (iv 27) < 0 → (((iv 27) ≤ w6 → (Q iv ar)) ∧ (¬ (iv 27) ≤ w6 → (∀ iv20 : fw_F, iv20 = va_up iv 27 w6 → (∃ ku : Nat, wpX10_offer_L56 x1 Q (fun (w21 : Int32) (iv22 : fw_F) (ar23 : fw_R) => Q iv22 ar23) ku 0 iv20 ar)))))) ku 0 0
set_option maxHeartbeats 4000000 in
set_option maxRecDepth 100000 in
theorem soX10_offer_L4 {p : Program} {l : Launch} {e : Env} {s : State} {m : MethodId} {args : Array Value} {below : List Frame} {meth : Method} {c : Code} {A : Nat → Prop} {G : fw_G} {mh : Nat} {ad : Nat → Nat} {x1 : Int32} {iv : fw_F} {ar : fw_R} {Q : fw_F → fw_R → Prop} {K : Int32 → Int32 → Prop} (C : fw_C p s m args meth c cX10_offer 4 none wsX10_offer RX10) (hK : fw_K G A s)  (hX : ∀ (z2 : Int32) (z3 : Int32), K z2 z3 → ∀ (H : Heap) (locs : List Loc), fw_H G ((mw G mh ad) iv ar) A s H locs → ∀ (ls : Array Slot), lv_has ls 4 [(3, .int z3), (2, .int z2), (0, .ref mh), (1, .int x1)] → W p l e rmX10_offer s m args below meth c H locs 0 0 (MQ below (fw_Qv G (mw G mh ad) Q A) args s 0 0 A) (F0 m 34 ls [])) : ∀ (fu : Nat) (z2 : Int32) (z3 : Int32), wpX10_offer_L4 x1 iv ar Q K fu z2 z3 → ∀ (H : Heap) (locs : List Loc), fw_H G ((mw G mh ad) iv ar) A s H locs → ∀ (ls : Array Slot), lv_has ls 4 [(3, .int z3), (2, .int z2), (0, .ref mh), (1, .int x1)] → W p l e rmX10_offer s m args below meth c H locs 0 0 (MQ below (fw_Qv G (mw G mh ad) Q A) args s 0 0 A) (F0 m 4 ls []) := by
  intro fu
  have in_X10 : ∀ x ∈ wsX100, x ∈ wsX10_offer := by decide +kernel
  have k46 := C.2.2.2.2.1 (.fieldLink RX10 46 "KnifeBoardModel" "costs" "[I") (by decide +kernel)
  have k52 := C.2.2.2.2.1 (.fieldLink RX10 52 "KnifeBoardModel" "tried" "[I") (by decide +kernel)
  induction fu with
  | zero => intro z2 z3 h; exact h.elim
  | succ fu ih =>
    intro z2 z3 h H locs hG ls hl
    unfold wpX10_offer_L4 at h
    refine lv_iload_n C.1 C.2.1 dX10_offer_4 rfl (lv_at hl 0 rfl) ?_
    refine lv_iload_n C.1 C.2.1 dX10_offer_5 rfl (lv_at hl 3 rfl) ?_
    refine lv_icmp_ge (tgt := 34) C.1 C.2.1 dX10_offer_6 (by decide) (fun c1 => ?_) (fun c1 => ?_)
    · have h := h.1 c1
      exact hX _ _ h _ _ hG ls (lv_sub hl [0, 1, 2, 3] rfl)
    · have h := h.2 c1
      refine lv_iload_n C.1 C.2.1 dX10_offer_9 rfl (lv_at hl 1 rfl) ?_
      refine lv_aload_n C.1 C.2.1 dX10_offer_10 rfl (lv_at hl 2 rfl) ?_
      refine fw_get (w := (mw G mh ad)) C in_X10 hK hG 0 mw_o rfl 23 (by decide) k46 rfl rfl dX10_offer_11 ?_
      refine lv_bipush (v := 6) C.1 C.2.1 dX10_offer_14 (by decide) ?_
      refine lv_aload_n C.1 C.2.1 dX10_offer_16 rfl (lv_at hl 2 rfl) ?_
      refine fw_get (w := (mw G mh ad)) C in_X10 hK hG 0 mw_o rfl 25 (by decide) k52 rfl rfl dX10_offer_17 ?_
      refine lv_iload_n C.1 C.2.1 dX10_offer_20 rfl (lv_at hl 0 rfl) ?_
      obtain ⟨c2, h⟩ := h
      refine fw_iald (w := (mw G mh ad)) C hK hG 15 mw_a25 c2 dX10_offer_21 ?_
      refine lv_imul C.1 C.2.1 dX10_offer_22 ?_
      refine lv_iload_n C.1 C.2.1 dX10_offer_23 rfl (lv_at hl 0 rfl) ?_
      refine lv_iadd C.1 C.2.1 dX10_offer_24 ?_
      obtain ⟨c3, h⟩ := h
      refine fw_iald (w := (mw G mh ad)) C hK hG 13 mw_a23 c3 dX10_offer_25 ?_
      refine lv_iadd C.1 C.2.1 dX10_offer_26 ?_
      refine lv_topi (fun y4 ey4 => ?_)
      have h := h y4 ey4
      refine lv_istore_n (lv' := [(2, .int y4), (3, .int z3), (0, .ref mh), (1, .int x1)]) C.1 C.2.1 dX10_offer_27 rfl hl (by decide) rfl (fun ls hl => ?_)
      obtain ⟨y5, ey5⟩ : ∃ z : Int32, z = z3 + 1 := ⟨_, rfl⟩
      have h := h y5 ey5
      refine lv_iinc (v := y5) (lv' := [(3, .int y5), (2, .int y4), (0, .ref mh), (1, .int x1)]) C.1 C.2.1 dX10_offer_28 hl (k := 1) rfl (by rw [ey5]; rfl) (by decide) rfl (fun ls hl => ?_)
      refine lv_goto (tgt := 4) C.1 C.2.1 dX10_offer_31 (by decide) ?_
      exact ih _ _ h _ _ hG ls (lv_sub hl [0, 1, 2, 3] rfl)

set_option maxHeartbeats 4000000 in
set_option maxRecDepth 100000 in
theorem soX10_offer_L56 {p : Program} {l : Launch} {e : Env} {s : State} {m : MethodId} {args : Array Value} {below : List Frame} {meth : Method} {c : Code} {A : Nat → Prop} {G : fw_G} {mh : Nat} {ad : Nat → Nat} {x1 : Int32} {Q : fw_F → fw_R → Prop} {K : Int32 → fw_F → fw_R → Prop} (C : fw_C p s m args meth c cX10_offer 4 none wsX10_offer RX10) (hK : fw_K G A s)  (hX : ∀ (z3 : Int32) (iv : fw_F) (ar : fw_R), K z3 iv ar → ∀ (H : Heap) (locs : List Loc), fw_H G ((mw G mh ad) iv ar) A s H locs → ∀ (ls : Array Slot), lv_has ls 4 [(3, .int z3), (0, .ref mh), (1, .int x1)] → W p l e rmX10_offer s m args below meth c H locs 0 0 (MQ below (fw_Qv G (mw G mh ad) Q A) args s 0 0 A) (F0 m 84 ls [])) : ∀ (fu : Nat) (z3 : Int32) (iv : fw_F) (ar : fw_R), wpX10_offer_L56 x1 Q K fu z3 iv ar → ∀ (H : Heap) (locs : List Loc), fw_H G ((mw G mh ad) iv ar) A s H locs → ∀ (ls : Array Slot), lv_has ls 4 [(3, .int z3), (0, .ref mh), (1, .int x1)] → W p l e rmX10_offer s m args below meth c H locs 0 0 (MQ below (fw_Qv G (mw G mh ad) Q A) args s 0 0 A) (F0 m 56 ls []) := by
  intro fu
  have in_X10 : ∀ x ∈ wsX100, x ∈ wsX10_offer := by decide +kernel
  have k49 := C.2.2.2.2.1 (.fieldLink RX10 49 "KnifeBoardModel" "ordered" "[I") (by decide +kernel)
  have k52 := C.2.2.2.2.1 (.fieldLink RX10 52 "KnifeBoardModel" "tried" "[I") (by decide +kernel)
  have k55 := C.2.2.2.2.1 (.fieldLink RX10 55 "KnifeBoardModel" "bestOrder" "[I") (by decide +kernel)
  induction fu with
  | zero => intro z3 iv ar h; exact h.elim
  | succ fu ih =>
    intro z3 iv ar h H locs hG ls hl
    unfold wpX10_offer_L56 at h
    refine lv_iload_n C.1 C.2.1 dX10_offer_56 rfl (lv_at hl 0 rfl) ?_
    refine lv_iload_n C.1 C.2.1 dX10_offer_57 rfl (lv_at hl 2 rfl) ?_
    refine lv_icmp_ge (tgt := 84) C.1 C.2.1 dX10_offer_58 (by decide) (fun c10 => ?_) (fun c10 => ?_)
    · have h := h.1 c10
      exact hX _ _ _ h _ _ hG ls (lv_sub hl [0, 1, 2] rfl)
    · have h := h.2 c10
      refine lv_aload_n C.1 C.2.1 dX10_offer_61 rfl (lv_at hl 1 rfl) ?_
      refine fw_get (w := (mw G mh ad)) C in_X10 hK hG 0 mw_o rfl 26 (by decide) k55 rfl rfl dX10_offer_62 ?_
      refine lv_iload_n C.1 C.2.1 dX10_offer_65 rfl (lv_at hl 0 rfl) ?_
      refine lv_aload_n C.1 C.2.1 dX10_offer_66 rfl (lv_at hl 1 rfl) ?_
      refine fw_get (w := (mw G mh ad)) C in_X10 hK hG 0 mw_o rfl 24 (by decide) k49 rfl rfl dX10_offer_67 ?_
      refine lv_aload_n C.1 C.2.1 dX10_offer_70 rfl (lv_at hl 1 rfl) ?_
      refine fw_get (w := (mw G mh ad)) C in_X10 hK hG 0 mw_o rfl 25 (by decide) k52 rfl rfl dX10_offer_71 ?_
      refine lv_iload_n C.1 C.2.1 dX10_offer_74 rfl (lv_at hl 0 rfl) ?_
      obtain ⟨c11, h⟩ := h
      refine fw_iald (w := (mw G mh ad)) C hK hG 15 mw_a25 c11 dX10_offer_75 ?_
      obtain ⟨c12, h⟩ := h
      refine fw_iald (w := (mw G mh ad)) C hK hG 14 mw_a24 c12 dX10_offer_76 ?_
      obtain ⟨c13, h⟩ := h
      obtain ⟨ar14, ear14⟩ : ∃ z : fw_R, z = va_up ar 26 (upd (ar 26) z3.toNatClampNeg ((ar 24) ((ar 25) z3.toNatClampNeg).toNatClampNeg)) := ⟨_, rfl⟩
      have h := h ar14 ear14
      refine fw_iast (w := (mw G mh ad)) C hK hG 16 mw_a26 c13 (ar1 := ar14) (by rw [ear14]; exact mw_s26) dX10_offer_77 (fun H locs hG => ?_)
      obtain ⟨y15, ey15⟩ : ∃ z : Int32, z = z3 + 1 := ⟨_, rfl⟩
      have h := h y15 ey15
      refine lv_iinc (v := y15) (lv' := [(3, .int y15), (0, .ref mh), (1, .int x1)]) C.1 C.2.1 dX10_offer_78 hl (k := 0) rfl (by rw [ey15]; rfl) (by decide) rfl (fun ls hl => ?_)
      refine lv_goto (tgt := 56) C.1 C.2.1 dX10_offer_81 (by decide) ?_
      exact ih _ _ _ h _ _ hG ls (lv_sub hl [0, 1, 2] rfl)

set_option maxHeartbeats 4000000 in
set_option maxRecDepth 100000 in
theorem soX10_offer (l : Launch) (G : fw_G) (mh : Nat) (ad : Nat → Nat) (iv : fw_F) (ar : fw_R) (x1 : Int32) (Q : fw_F → fw_R → Prop)  (h : wpX10_offer iv ar x1 Q) : fw_M l G (mw G mh ad) yX10_offer wsX10_offer rmX10_offer [.ref mh, .int x1] iv ar (fw_Qv G (mw G mh ad) Q) := by
  refine fw_start (cc := cX10_offer) (nL := 4) (rt := none) (by decide) rfl (Nat.le_of_ble_eq_true rfl) ?_
  intro p e s m below meth c A ls H locs C hK hG hl
  obtain ⟨args, ea⟩ : ∃ z : Array Value, z = ([.ref mh, .int x1] : List Value).toArray := ⟨_, rfl⟩
  rw [← ea] at C ⊢
  have C : fw_C p s m args meth c cX10_offer 4 none wsX10_offer RX10 := C
  have hl : lv_has ls 4 [(0, .ref mh), (1, .int x1)] := hl
  unfold wpX10_offer at h
  have in_X10 : ∀ x ∈ wsX100, x ∈ wsX10_offer := by decide +kernel
  have k235 := C.2.2.2.2.1 (.fieldLink RX10 235 "KnifeBoardModel" "bestSum" "I") (by decide +kernel)
  refine lv_iconst (v := 0) C.1 C.2.1 dX10_offer_0 (by decide) ?_
  refine lv_istore_n (lv' := [(2, .int 0), (0, .ref mh), (1, .int x1)]) C.1 C.2.1 dX10_offer_1 rfl hl (by decide) rfl (fun ls hl => ?_)
  refine lv_iconst (v := 0) C.1 C.2.1 dX10_offer_2 (by decide) ?_
  refine lv_istore_n (lv' := [(3, .int 0), (2, .int 0), (0, .ref mh), (1, .int x1)]) C.1 C.2.1 dX10_offer_3 rfl hl (by decide) rfl (fun ls hl => ?_)
  obtain ⟨ku, h⟩ := h
  refine soX10_offer_L4 C hK  ?_ ku _ _ h _ _ hG ls (lv_sub hl [0, 1, 2, 3] rfl)
  intro w6 w7 h H locs hG ls hl
  refine lv_aload_n C.1 C.2.1 dX10_offer_34 rfl (lv_at hl 2 rfl) ?_
  refine fw_get (w := (mw G mh ad)) C in_X10 hK hG 0 mw_o rfl 27 (by decide) k235 rfl rfl dX10_offer_35 ?_
  refine lv_if_lt (tgt := 49) C.1 C.2.1 dX10_offer_38 (by decide) (fun c8 => ?_) (fun c8 => ?_)
  · have h := h.1 c8
    refine lv_aload_n C.1 C.2.1 dX10_offer_49 rfl (lv_at hl 2 rfl) ?_
    refine lv_iload_n C.1 C.2.1 dX10_offer_50 rfl (lv_at hl 1 rfl) ?_
    obtain ⟨iv9, eiv9⟩ : ∃ z : fw_F, z = va_up iv 27 w6 := ⟨_, rfl⟩
    have h := h iv9 eiv9
    refine fw_put (w := (mw G mh ad)) C in_X10 tyX10 tyX10_ok nmX10 hK hG 0 mw_o rfl 27 (by decide) k235 rfl rfl (ty := .int) (v := .int w6) (by decide +kernel) rfl rfl (by first | decide | exact Nat.le_of_ble_eq_true rfl) (iv1 := iv9) (by rw [eiv9]; exact mw_p27) dX10_offer_51 (fun H locs hG => ?_)
    refine lv_iconst (v := 0) C.1 C.2.1 dX10_offer_54 (by decide) ?_
    refine lv_istore_n (lv' := [(3, .int 0), (2, .int w6), (0, .ref mh), (1, .int x1)]) C.1 C.2.1 dX10_offer_55 rfl hl (by decide) rfl (fun ls hl => ?_)
    obtain ⟨ku, h⟩ := h
    refine soX10_offer_L56 C hK  ?_ ku _ _ _ h _ _ hG ls (lv_sub hl [0, 2, 3] rfl)
    intro w16 iv17 ar18 h H locs hG ls hl
    exact fw_vret C hG h dX10_offer_84
  · have h := h.2 c8
    refine lv_iload_n C.1 C.2.1 dX10_offer_41 rfl (lv_at hl 1 rfl) ?_
    refine lv_aload_n C.1 C.2.1 dX10_offer_42 rfl (lv_at hl 2 rfl) ?_
    refine fw_get (w := (mw G mh ad)) C in_X10 hK hG 0 mw_o rfl 27 (by decide) k235 rfl rfl dX10_offer_43 ?_
    refine lv_icmp_ge (tgt := 84) C.1 C.2.1 dX10_offer_46 (by decide) (fun c19 => ?_) (fun c19 => ?_)
    · have h := h.1 c19
      exact fw_vret C hG h dX10_offer_84
    · have h := h.2 c19
      refine lv_aload_n C.1 C.2.1 dX10_offer_49 rfl (lv_at hl 2 rfl) ?_
      refine lv_iload_n C.1 C.2.1 dX10_offer_50 rfl (lv_at hl 1 rfl) ?_
      obtain ⟨iv20, eiv20⟩ : ∃ z : fw_F, z = va_up iv 27 w6 := ⟨_, rfl⟩
      have h := h iv20 eiv20
      refine fw_put (w := (mw G mh ad)) C in_X10 tyX10 tyX10_ok nmX10 hK hG 0 mw_o rfl 27 (by decide) k235 rfl rfl (ty := .int) (v := .int w6) (by decide +kernel) rfl rfl (by first | decide | exact Nat.le_of_ble_eq_true rfl) (iv1 := iv20) (by rw [eiv20]; exact mw_p27) dX10_offer_51 (fun H locs hG => ?_)
      refine lv_iconst (v := 0) C.1 C.2.1 dX10_offer_54 (by decide) ?_
      refine lv_istore_n (lv' := [(3, .int 0), (2, .int w6), (0, .ref mh), (1, .int x1)]) C.1 C.2.1 dX10_offer_55 rfl hl (by decide) rfl (fun ls hl => ?_)
      obtain ⟨ku, h⟩ := h
      refine soX10_offer_L56 C hK  ?_ ku _ _ _ h _ _ hG ls (lv_sub hl [0, 2, 3] rfl)
      intro w21 iv22 ar23 h H locs hG ls hl
      exact fw_vret C hG h dX10_offer_84
