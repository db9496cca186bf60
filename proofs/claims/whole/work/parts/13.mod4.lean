/-! KnifeBoardModel.findOrder(I)V -/
def rmX10_findOrder : Room := { frames := 1, cells := 0, slots := 0, locals := 23 }
def wpX10_findOrder_L28 (x1 : Int32) (z2 : Int32) (Q : fw_F → fw_R → Prop) (K : fw_F → fw_R → Prop) : Nat → fw_F → fw_R → Prop
  | 0, _, _ => False
  | fu + 1, iv, ar => vp_in z2 6 ∧ ((x1 ≤ ((ar 25) z2.toNatClampNeg) → (K iv ar)) ∧ (¬ x1 ≤ ((ar 25) z2.toNatClampNeg) → (vp_in z2 6 ∧ (wpX10_isTried iv ar ((ar 25) z2.toNatClampNeg) z2 (fun (r11 : Int32) => (r11 = 0 → (K iv ar)) ∧ (¬ r11 = 0 → (vp_in z2 6 ∧ (vp_in z2 6 ∧ (∀ ar15 : fw_R, ar15 = va_up ar 25 (upd (ar 25) z2.toNatClampNeg (((ar 25) z2.toNatClampNeg) + 1)) → (wpX10_findOrder_L28 x1 z2 Q K fu iv ar15))))))))))
def wpX10_findOrder_L14 (x1 : Int32) (Q : fw_F → fw_R → Prop) (K : Int32 → fw_F → fw_R → Prop) : Nat → Int32 → fw_F → fw_R → Prop
  | 0, _, _, _ => False
  | fu + 1, z2, iv, ar => (z2 < 0 → (K z2 iv ar)) ∧ (¬ z2 < 0 → (vp_in z2 6 ∧ (vp_in z2 6 ∧ (∀ ar7 : fw_R, ar7 = va_up ar 25 (upd (ar 25) z2.toNatClampNeg (((ar 25) z2.toNatClampNeg) + 1)) → (∃ ku : Nat, wpX10_findOrder_L28 x1 z2 Q (fun (iv16 : fw_F) (ar17 : fw_R) => vp_in z2 6 ∧ ((((ar17 25) z2.toNatClampNeg) < x1 → (((x1 - 1) ≤ z2 → (wpX10_offer iv16 ar17 x1 (fun (iv21 : fw_F) (ar22 : fw_R) => wpX10_findOrder_L14 x1 Q K fu z2 iv21 ar22))) ∧ (¬ (x1 - 1) ≤ z2 → (∀ y23 : Int32, y23 = z2 + 1 → (vp_in y23 6 ∧ (∀ ar25 : fw_R, ar25 = va_up ar17 25 (upd (ar17 25) y23.toNatClampNeg (-1)) → (wpX10_findOrder_L14 x1 Q K fu y23 iv16 ar25))))))) ∧ (¬ ((ar17 25) z2.toNatClampNeg) < x1 → (∀ y26 : Int32, y26 = z2 + (-1) → (wpX10_findOrder_L14 x1 Q K fu y26 iv16 ar17))))) ku iv ar7)))))
def wpX10_findOrder (iv : fw_F) (ar : fw_R) (x1 : Int32) (Q : fw_F → fw_R → Prop) : Prop := ∀ iv1 : fw_F, iv1 = va_up iv 27 (-1) → (vp_in (0 : Int32) 6 ∧ (∀ ar3 : fw_R, ar3 = va_up ar 25 (upd (ar 25) (0 : Int32).toNatClampNeg (-1)) → (∃ ku : Nat, wpX10_findOrder_L14 x1 Q (fun (w27 : Int32) (iv28 : fw_F) (ar29 : fw_R) => Q iv28 ar29) ku 0 iv1 ar3)))
set_option maxHeartbeats 4000000 in
set_option maxRecDepth 100000 in
theorem soX10_findOrder_L28 {p : Program} {l : Launch} {e : Env} {s : State} {m : MethodId} {args : Array Value} {below : List Frame} {meth : Method} {c : Code} {A : Nat → Prop} {G : fw_G} {mh : Nat} {ad : Nat → Nat} {x1 : Int32} {z2 : Int32} {Q : fw_F → fw_R → Prop} {K : fw_F → fw_R → Prop} (C : fw_C p s m args meth c cX10_findOrder 3 none wsX10_findOrder RX10) (hK : fw_K G A s)  (hX : ∀ (iv : fw_F) (ar : fw_R), K iv ar → ∀ (H : Heap) (locs : List Loc), fw_H G ((mw G mh ad) iv ar) A s H locs → ∀ (ls : Array Slot), lv_has ls 3 [(2, .int z2), (0, .ref mh), (1, .int x1)] → W p l e rmX10_findOrder s m args below meth c H locs 0 0 (MQ below (fw_Qv G (mw G mh ad) Q A) args s 0 0 A) (F0 m 65 ls [])) : ∀ (fu : Nat) (iv : fw_F) (ar : fw_R), wpX10_findOrder_L28 x1 z2 Q K fu iv ar → ∀ (H : Heap) (locs : List Loc), fw_H G ((mw G mh ad) iv ar) A s H locs → ∀ (ls : Array Slot), lv_has ls 3 [(2, .int z2), (0, .ref mh), (1, .int x1)] → W p l e rmX10_findOrder s m args below meth c H locs 0 0 (MQ below (fw_Qv G (mw G mh ad) Q A) args s 0 0 A) (F0 m 28 ls []) := by
  intro fu
  have in_X10 : ∀ x ∈ wsX100, x ∈ wsX10_findOrder := by decide +kernel
  have k52 := C.2.2.2.2.1 (.fieldLink RX10 52 "KnifeBoardModel" "tried" "[I") (by decide +kernel)
  induction fu with
  | zero => intro iv ar h; exact h.elim
  | succ fu ih =>
    intro iv ar h H locs hG ls hl
    unfold wpX10_findOrder_L28 at h
    refine lv_aload_n C.1 C.2.1 dX10_findOrder_28 rfl (lv_at hl 1 rfl) ?_
    refine fw_get (w := (mw G mh ad)) C in_X10 hK hG 0 mw_o rfl 25 (by decide) k52 rfl rfl dX10_findOrder_29 ?_
    refine lv_iload_n C.1 C.2.1 dX10_findOrder_32 rfl (lv_at hl 0 rfl) ?_
    obtain ⟨c8, h⟩ := h
    refine fw_iald (w := (mw G mh ad)) C hK hG 15 mw_a25 c8 dX10_findOrder_33 ?_
    refine lv_iload_n C.1 C.2.1 dX10_findOrder_34 rfl (lv_at hl 2 rfl) ?_
    refine lv_icmp_ge (tgt := 65) C.1 C.2.1 dX10_findOrder_35 (by decide) (fun c9 => ?_) (fun c9 => ?_)
    · have h := h.1 c9
      exact hX _ _ h _ _ hG ls (lv_sub hl [0, 1, 2] rfl)
    · have h := h.2 c9
      refine lv_aload_n C.1 C.2.1 dX10_findOrder_38 rfl (lv_at hl 1 rfl) ?_
      refine lv_aload_n C.1 C.2.1 dX10_findOrder_39 rfl (lv_at hl 1 rfl) ?_
      refine fw_get (w := (mw G mh ad)) C in_X10 hK hG 0 mw_o rfl 25 (by decide) k52 rfl rfl dX10_findOrder_40 ?_
      refine lv_iload_n C.1 C.2.1 dX10_findOrder_43 rfl (lv_at hl 0 rfl) ?_
      obtain ⟨c10, h⟩ := h
      refine fw_iald (w := (mw G mh ad)) C hK hG 15 mw_a25 c10 dX10_findOrder_44 ?_
      refine lv_iload_n C.1 C.2.1 dX10_findOrder_45 rfl (lv_at hl 0 rfl) ?_
      refine fw_rcalli (va_runV (As := [.int ((ar 25) z2.toNatClampNeg), .int z2]) (rest := []) ⟨C.1, C.2.1, C.2.2.2.2.2.2, C.2.2.2.2.2.1, C.2.2.2.2.1⟩ (soX10_isTried l G mh ad iv ar ((ar 25) z2.toNatClampNeg) z2 _  h H.size) (cwV 2 C.2.2.2.2.1 gX10_findOrder_X10_isTried rfl rfl rfl (by decide +kernel) ⟨Nat.le_of_ble_eq_true rfl, Nat.le_of_ble_eq_true rfl⟩) (fw_preV hG hK (ci := 10) rfl mw_o) rfl rfl hl.1 rfl (lv_room (Nat.le_of_ble_eq_true rfl)) dX10_findOrder_46 ⟨Nat.zero_le _, Nat.zero_le _⟩) hG hK (fun r11  H locs h hG => ?_)
      refine lv_if_eq (tgt := 65) C.1 C.2.1 dX10_findOrder_49 (by decide) (fun c12 => ?_) (fun c12 => ?_)
      · have h := h.1 c12
        exact hX _ _ h _ _ hG ls (lv_sub hl [0, 1, 2] rfl)
      · have h := h.2 c12
        refine lv_aload_n C.1 C.2.1 dX10_findOrder_52 rfl (lv_at hl 1 rfl) ?_
        refine fw_get (w := (mw G mh ad)) C in_X10 hK hG 0 mw_o rfl 25 (by decide) k52 rfl rfl dX10_findOrder_53 ?_
        refine lv_iload_n C.1 C.2.1 dX10_findOrder_56 rfl (lv_at hl 0 rfl) ?_
        refine lv_dup2_11 C.1 C.2.1 dX10_findOrder_57 rfl rfl ?_
        obtain ⟨c13, h⟩ := h
        refine fw_iald (w := (mw G mh ad)) C hK hG 15 mw_a25 c13 dX10_findOrder_58 ?_
        refine lv_iconst (v := 1) C.1 C.2.1 dX10_findOrder_59 (by decide) ?_
        refine lv_iadd C.1 C.2.1 dX10_findOrder_60 ?_
        obtain ⟨c14, h⟩ := h
        obtain ⟨ar15, ear15⟩ : ∃ z : fw_R, z = va_up ar 25 (upd (ar 25) z2.toNatClampNeg (((ar 25) z2.toNatClampNeg) + 1)) := ⟨_, rfl⟩
        have h := h ar15 ear15
        refine fw_iast (w := (mw G mh ad)) C hK hG 15 mw_a25 c14 (ar1 := ar15) (by rw [ear15]; exact mw_s25) dX10_findOrder_61 (fun H locs hG => ?_)
        refine lv_goto (tgt := 28) C.1 C.2.1 dX10_findOrder_62 (by decide) ?_
        exact ih _ _ h _ _ hG ls (lv_sub hl [0, 1, 2] rfl)

set_option maxHeartbeats 4000000 in
set_option maxRecDepth 100000 in
theorem soX10_findOrder_L14 {p : Program} {l : Launch} {e : Env} {s : State} {m : MethodId} {args : Array Value} {below : List Frame} {meth : Method} {c : Code} {A : Nat → Prop} {G : fw_G} {mh : Nat} {ad : Nat → Nat} {x1 : Int32} {Q : fw_F → fw_R → Prop} {K : Int32 → fw_F → fw_R → Prop} (C : fw_C p s m args meth c cX10_findOrder 3 none wsX10_findOrder RX10) (hK : fw_K G A s)  (hX : ∀ (z2 : Int32) (iv : fw_F) (ar : fw_R), K z2 iv ar → ∀ (H : Heap) (locs : List Loc), fw_H G ((mw G mh ad) iv ar) A s H locs → ∀ (ls : Array Slot), lv_has ls 3 [(2, .int z2), (0, .ref mh), (1, .int x1)] → W p l e rmX10_findOrder s m args below meth c H locs 0 0 (MQ below (fw_Qv G (mw G mh ad) Q A) args s 0 0 A) (F0 m 109 ls [])) : ∀ (fu : Nat) (z2 : Int32) (iv : fw_F) (ar : fw_R), wpX10_findOrder_L14 x1 Q K fu z2 iv ar → ∀ (H : Heap) (locs : List Loc), fw_H G ((mw G mh ad) iv ar) A s H locs → ∀ (ls : Array Slot), lv_has ls 3 [(2, .int z2), (0, .ref mh), (1, .int x1)] → W p l e rmX10_findOrder s m args below meth c H locs 0 0 (MQ below (fw_Qv G (mw G mh ad) Q A) args s 0 0 A) (F0 m 14 ls []) := by
  intro fu
  have in_X10 : ∀ x ∈ wsX100, x ∈ wsX10_findOrder := by decide +kernel
  have k52 := C.2.2.2.2.1 (.fieldLink RX10 52 "KnifeBoardModel" "tried" "[I") (by decide +kernel)
  induction fu with
  | zero => intro z2 iv ar h; exact h.elim
  | succ fu ih =>
    intro z2 iv ar h H locs hG ls hl
    unfold wpX10_findOrder_L14 at h
    refine lv_iload_n C.1 C.2.1 dX10_findOrder_14 rfl (lv_at hl 0 rfl) ?_
    refine lv_if_lt (tgt := 109) C.1 C.2.1 dX10_findOrder_15 (by decide) (fun c4 => ?_) (fun c4 => ?_)
    · have h := h.1 c4
      exact hX _ _ _ h _ _ hG ls (lv_sub hl [0, 1, 2] rfl)
    · have h := h.2 c4
      refine lv_aload_n C.1 C.2.1 dX10_findOrder_18 rfl (lv_at hl 1 rfl) ?_
      refine fw_get (w := (mw G mh ad)) C in_X10 hK hG 0 mw_o rfl 25 (by decide) k52 rfl rfl dX10_findOrder_19 ?_
      refine lv_iload_n C.1 C.2.1 dX10_findOrder_22 rfl (lv_at hl 0 rfl) ?_
      refine lv_dup2_11 C.1 C.2.1 dX10_findOrder_23 rfl rfl ?_
      obtain ⟨c5, h⟩ := h
      refine fw_iald (w := (mw G mh ad)) C hK hG 15 mw_a25 c5 dX10_findOrder_24 ?_
      refine lv_iconst (v := 1) C.1 C.2.1 dX10_findOrder_25 (by decide) ?_
      refine lv_iadd C.1 C.2.1 dX10_findOrder_26 ?_
      obtain ⟨c6, h⟩ := h
      obtain ⟨ar7, ear7⟩ : ∃ z : fw_R, z = va_up ar 25 (upd (ar 25) z2.toNatClampNeg (((ar 25) z2.toNatClampNeg) + 1)) := ⟨_, rfl⟩
      have h := h ar7 ear7
      refine fw_iast (w := (mw G mh ad)) C hK hG 15 mw_a25 c6 (ar1 := ar7) (by rw [ear7]; exact mw_s25) dX10_findOrder_27 (fun H locs hG => ?_)
      obtain ⟨ku, h⟩ := h
      refine soX10_findOrder_L28 C hK  ?_ ku _ _ h _ _ hG ls (lv_sub hl [0, 1, 2] rfl)
      intro iv16 ar17 h H locs hG ls hl
      refine lv_aload_n C.1 C.2.1 dX10_findOrder_65 rfl (lv_at hl 1 rfl) ?_
      refine fw_get (w := (mw G mh ad)) C in_X10 hK hG 0 mw_o rfl 25 (by decide) k52 rfl rfl dX10_findOrder_66 ?_
      refine lv_iload_n C.1 C.2.1 dX10_findOrder_69 rfl (lv_at hl 0 rfl) ?_
      obtain ⟨c18, h⟩ := h
      refine fw_iald (w := (mw G mh ad)) C hK hG 15 mw_a25 c18 dX10_findOrder_70 ?_
      refine lv_iload_n C.1 C.2.1 dX10_findOrder_71 rfl (lv_at hl 2 rfl) ?_
      refine lv_icmp_lt (tgt := 81) C.1 C.2.1 dX10_findOrder_72 (by decide) (fun c19 => ?_) (fun c19 => ?_)
      · have h := h.1 c19
        refine lv_iload_n C.1 C.2.1 dX10_findOrder_81 rfl (lv_at hl 0 rfl) ?_
        refine lv_iload_n C.1 C.2.1 dX10_findOrder_82 rfl (lv_at hl 2 rfl) ?_
        refine lv_iconst (v := 1) C.1 C.2.1 dX10_findOrder_83 (by decide) ?_
        refine lv_isub C.1 C.2.1 dX10_findOrder_84 ?_
        refine lv_icmp_ge (tgt := 101) C.1 C.2.1 dX10_findOrder_85 (by decide) (fun c20 => ?_) (fun c20 => ?_)
        · have h := h.1 c20
          refine lv_aload_n C.1 C.2.1 dX10_findOrder_101 rfl (lv_at hl 1 rfl) ?_
          refine lv_iload_n C.1 C.2.1 dX10_findOrder_102 rfl (lv_at hl 2 rfl) ?_
          refine fw_callv (va_runV (As := [.int x1]) (rest := []) ⟨C.1, C.2.1, C.2.2.2.2.2.2, C.2.2.2.2.2.1, C.2.2.2.2.1⟩ (soX10_offer l G mh ad iv16 ar17 x1 _  h H.size) (cwV 1 C.2.2.2.2.1 gX10_findOrder_X10_offer rfl rfl rfl (by decide +kernel) ⟨Nat.le_of_ble_eq_true rfl, Nat.le_of_ble_eq_true rfl⟩) (fw_preV hG hK (ci := 10) rfl mw_o) rfl rfl hl.1 rfl (lv_room (Nat.le_of_ble_eq_true rfl)) dX10_findOrder_103 ⟨Nat.zero_le _, Nat.zero_le _⟩) hG hK (fun iv21 ar22 H locs h hG => ?_)
          refine lv_goto (tgt := 14) C.1 C.2.1 dX10_findOrder_106 (by decide) ?_
          exact ih _ _ _ h _ _ hG ls (lv_sub hl [0, 1, 2] rfl)
        · have h := h.2 c20
          obtain ⟨y23, ey23⟩ : ∃ z : Int32, z = z2 + 1 := ⟨_, rfl⟩
          have h := h y23 ey23
          refine lv_iinc (v := y23) (lv' := [(2, .int y23), (0, .ref mh), (1, .int x1)]) C.1 C.2.1 dX10_findOrder_88 hl (k := 0) rfl (by rw [ey23]; rfl) (by decide) rfl (fun ls hl => ?_)
          refine lv_aload_n C.1 C.2.1 dX10_findOrder_91 rfl (lv_at hl 1 rfl) ?_
          refine fw_get (w := (mw G mh ad)) C in_X10 hK hG 0 mw_o rfl 25 (by decide) k52 rfl rfl dX10_findOrder_92 ?_
          refine lv_iload_n C.1 C.2.1 dX10_findOrder_95 rfl (lv_at hl 0 rfl) ?_
          refine lv_iconst (v := (-1)) C.1 C.2.1 dX10_findOrder_96 (by decide) ?_
          obtain ⟨c24, h⟩ := h
          obtain ⟨ar25, ear25⟩ : ∃ z : fw_R, z = va_up ar17 25 (upd (ar17 25) y23.toNatClampNeg (-1)) := ⟨_, rfl⟩
          have h := h ar25 ear25
          refine fw_iast (w := (mw G mh ad)) C hK hG 15 mw_a25 c24 (ar1 := ar25) (by rw [ear25]; exact mw_s25) dX10_findOrder_97 (fun H locs hG => ?_)
          refine lv_goto (tgt := 14) C.1 C.2.1 dX10_findOrder_98 (by decide) ?_
          exact ih _ _ _ h _ _ hG ls (lv_sub hl [0, 1, 2] rfl)
      · have h := h.2 c19
        obtain ⟨y26, ey26⟩ : ∃ z : Int32, z = z2 + (-1) := ⟨_, rfl⟩
        have h := h y26 ey26
        refine lv_iinc (v := y26) (lv' := [(2, .int y26), (0, .ref mh), (1, .int x1)]) C.1 C.2.1 dX10_findOrder_75 hl (k := 0) rfl (by rw [ey26]; rfl) (by decide) rfl (fun ls hl => ?_)
        refine lv_goto (tgt := 14) C.1 C.2.1 dX10_findOrder_78 (by decide) ?_
        exact ih _ _ _ h _ _ hG ls (lv_sub hl [0, 1, 2] rfl)

set_option maxHeartbeats 4000000 in
set_option maxRecDepth 100000 in
theorem soX10_findOrder (l : Launch) (G : fw_G) (mh : Nat) (ad : Nat → Nat) (iv : fw_F) (ar : fw_R) (x1 : Int32) (Q : fw_F → fw_R → Prop)  (h : wpX10_findOrder iv ar x1 Q) : fw_M l G (mw G mh ad) yX10_findOrder wsX10_findOrder rmX10_findOrder [.ref mh, .int x1] iv ar (fw_Qv G (mw G mh ad) Q) := by
  refine fw_start (cc := cX10_findOrder) (nL := 3) (rt := none) (by decide) rfl (Nat.le_of_ble_eq_true rfl) ?_
  intro p e s m below meth c A ls H locs C hK hG hl
  obtain ⟨args, ea⟩ : ∃ z : Array Value, z = ([.ref mh, .int x1] : List Value).toArray := ⟨_, rfl⟩
  rw [← ea] at C ⊢
  have C : fw_C p s m args meth c cX10_findOrder 3 none wsX10_findOrder RX10 := C
  have hl : lv_has ls 3 [(0, .ref mh), (1, .int x1)] := hl
  unfold wpX10_findOrder at h
  have in_X10 : ∀ x ∈ wsX100, x ∈ wsX10_findOrder := by decide +kernel
  have k235 := C.2.2.2.2.1 (.fieldLink RX10 235 "KnifeBoardModel" "bestSum" "I") (by decide +kernel)
  have k52 := C.2.2.2.2.1 (.fieldLink RX10 52 "KnifeBoardModel" "tried" "[I") (by decide +kernel)
  refine lv_aload_n C.1 C.2.1 dX10_findOrder_0 rfl (lv_at hl 0 rfl) ?_
  refine lv_iconst (v := (-1)) C.1 C.2.1 dX10_findOrder_1 (by decide) ?_
  obtain ⟨iv1, eiv1⟩ : ∃ z : fw_F, z = va_up iv 27 (-1) := ⟨_, rfl⟩
  have h := h iv1 eiv1
  refine fw_put (w := (mw G mh ad)) C in_X10 tyX10 tyX10_ok nmX10 hK hG 0 mw_o rfl 27 (by decide) k235 rfl rfl (ty := .int) (v := .int (-1)) (by decide +kernel) rfl rfl (by first | decide | exact Nat.le_of_ble_eq_true rfl) (iv1 := iv1) (by rw [eiv1]; exact mw_p27) dX10_findOrder_2 (fun H locs hG => ?_)
  refine lv_iconst (v := 0) C.1 C.2.1 dX10_findOrder_5 (by decide) ?_
  refine lv_istore_n (lv' := [(2, .int 0), (0, .ref mh), (1, .int x1)]) C.1 C.2.1 dX10_findOrder_6 rfl hl (by decide) rfl (fun ls hl => ?_)
  refine lv_aload_n C.1 C.2.1 dX10_findOrder_7 rfl (lv_at hl 1 rfl) ?_
  refine fw_get (w := (mw G mh ad)) C in_X10 hK hG 0 mw_o rfl 25 (by decide) k52 rfl rfl dX10_findOrder_8 ?_
  refine lv_iconst (v := 0) C.1 C.2.1 dX10_findOrder_11 (by decide) ?_
  refine lv_iconst (v := (-1)) C.1 C.2.1 dX10_findOrder_12 (by decide) ?_
  obtain ⟨c2, h⟩ := h
  obtain ⟨ar3, ear3⟩ : ∃ z : fw_R, z = va_up ar 25 (upd (ar 25) (0 : Int32).toNatClampNeg (-1)) := ⟨_, rfl⟩
  have h := h ar3 ear3
  refine fw_iast (w := (mw G mh ad)) C hK hG 15 mw_a25 c2 (ar1 := ar3) (by rw [ear3]; exact mw_s25) dX10_findOrder_13 (fun H locs hG => ?_)
  obtain ⟨ku, h⟩ := h
  refine soX10_findOrder_L14 C hK  ?_ ku _ _ _ h _ _ hG ls (lv_sub hl [0, 1, 2] rfl)
  intro w27 iv28 ar29 h H locs hG ls hl
  exact fw_vret C hG h dX10_findOrder_109
/-! KnifeBoardModel.whyOrder(II)I -/
def rmX10_whyOrder : Room := { frames := 1, cells := 0, slots := 0, locals := 21 }
def wpX10_whyOrder_L2 (x1 : Int32) (x2 : Int32) (iv : fw_F) (ar : fw_R) (Q : Int32 → Prop) (K : Int32 → Prop) : Nat → Int32 → Prop
  | 0, _ => False
  | fu + 1, z3 => (x2 ≤ z3 → (K z3)) ∧ (¬ x2 ≤ z3 → (vp_in (x1 + z3) 320 ∧ (wpX10_isCell iv ar ((ar 4) (x1 + z3).toNatClampNeg) (fun (r3 : Int32) => (¬ r3 = 0 → (∀ y5 : Int32, y5 = z3 + 1 → (wpX10_whyOrder_L2 x1 x2 iv ar Q K fu y5))) ∧ (r3 = 0 → (Q (-1)))))))
def wpX10_whyOrder_L40 (x1 : Int32) (x2 : Int32) (z3 : Int32) (iv : fw_F) (ar : fw_R) (Q : Int32 → Prop) (K : Int32 → Prop) : Nat → Int32 → Prop
  | 0, _ => False
  | fu + 1, z4 => (z3 ≤ z4 → (K z4)) ∧ (¬ z3 ≤ z4 → (vp_in (x1 + z3) 320 ∧ (vp_in (x1 + z4) 320 ∧ ((¬ ((ar 4) (x1 + z3).toNatClampNeg) = ((ar 4) (x1 + z4).toNatClampNeg) → (∀ y12 : Int32, y12 = z4 + 1 → (wpX10_whyOrder_L40 x1 x2 z3 iv ar Q K fu y12))) ∧ (((ar 4) (x1 + z3).toNatClampNeg) = ((ar 4) (x1 + z4).toNatClampNeg) → (Q (-2)))))))
def wpX10_whyOrder_L32 (x1 : Int32) (x2 : Int32) (iv : fw_F) (ar : fw_R) (Q : Int32 → Prop) (K : Int32 → Prop) : Nat → Int32 → Prop
  | 0, _ => False
  | fu + 1, z3 => (x2 ≤ z3 → (K z3)) ∧ (¬ x2 ≤ z3 → (∃ ku : Nat, wpX10_whyOrder_L40 x1 x2 z3 iv ar Q (fun (w13 : Int32) => ∀ y14 : Int32, y14 = z3 + 1 → (wpX10_whyOrder_L32 x1 x2 iv ar Q K fu y14)) ku 0))
def wpX10_whyOrder (iv : fw_F) (ar : fw_R) (x1 : Int32) (x2 : Int32) (Q : Int32 → Prop) : Prop := ∃ ku : Nat, wpX10_whyOrder_L2 x1 x2 iv ar Q (fun (w6 : Int32) => ∃ ku : Nat, wpX10_whyOrder_L32 x1 x2 iv ar Q (fun (w15 : Int32) => Q 0) ku 0) ku 0
set_option maxHeartbeats 4000000 in
set_option maxRecDepth 100000 in
theorem soX10_whyOrder_L2 {p : Program} {l : Launch} {e : Env} {s : State} {m : MethodId} {args : Array Value} {below : List Frame} {meth : Method} {c : Code} {A : Nat → Prop} {G : fw_G} {mh : Nat} {ad : Nat → Nat} {x1 : Int32} {x2 : Int32} {iv : fw_F} {ar : fw_R} {Q : Int32 → Prop} {K : Int32 → Prop} (C : fw_C p s m args meth c cX10_whyOrder 5 (some .int) wsX10_whyOrder RX10) (hK : fw_K G A s)  (hX : ∀ (z3 : Int32), K z3 → ∀ (H : Heap) (locs : List Loc), fw_H G ((mw G mh ad) iv ar) A s H locs → ∀ (ls : Array Slot), lv_has ls 5 [(3, .int z3), (0, .ref mh), (1, .int x1), (2, .int x2)] → W p l e rmX10_whyOrder s m args below meth c H locs 0 0 (MQ below (fw_Qi G (mw G mh ad) (fun r iv1 ar1 => Q r ∧ iv = iv1 ∧ ar = ar1) A) args s 0 0 A) (F0 m 30 ls [])) : ∀ (fu : Nat) (z3 : Int32), wpX10_whyOrder_L2 x1 x2 iv ar Q K fu z3 → ∀ (H : Heap) (locs : List Loc), fw_H G ((mw G mh ad) iv ar) A s H locs → ∀ (ls : Array Slot), lv_has ls 5 [(3, .int z3), (0, .ref mh), (1, .int x1), (2, .int x2)] → W p l e rmX10_whyOrder s m args below meth c H locs 0 0 (MQ below (fw_Qi G (mw G mh ad) (fun r iv1 ar1 => Q r ∧ iv = iv1 ∧ ar = ar1) A) args s 0 0 A) (F0 m 2 ls []) := by
  intro fu
  have in_X10 : ∀ x ∈ wsX100, x ∈ wsX10_whyOrder := by decide +kernel
  have k16 := C.2.2.2.2.1 (.fieldLink RX10 16 "KnifeBoardModel" "cells" "[I") (by decide +kernel)
  induction fu with
  | zero => intro z3 h; exact h.elim
  | succ fu ih =>
    intro z3 h H locs hG ls hl
    unfold wpX10_whyOrder_L2 at h
    refine lv_iload_n C.1 C.2.1 dX10_whyOrder_2 rfl (lv_at hl 0 rfl) ?_
    refine lv_iload_n C.1 C.2.1 dX10_whyOrder_3 rfl (lv_at hl 3 rfl) ?_
    refine lv_icmp_ge (tgt := 30) C.1 C.2.1 dX10_whyOrder_4 (by decide) (fun c1 => ?_) (fun c1 => ?_)
    · have h := h.1 c1
      exact hX _ h _ _ hG ls (lv_sub hl [0, 1, 2, 3] rfl)
    · have h := h.2 c1
      refine lv_aload_n C.1 C.2.1 dX10_whyOrder_7 rfl (lv_at hl 1 rfl) ?_
      refine lv_aload_n C.1 C.2.1 dX10_whyOrder_8 rfl (lv_at hl 1 rfl) ?_
      refine fw_get (w := (mw G mh ad)) C in_X10 hK hG 0 mw_o rfl 4 (by decide) k16 rfl rfl dX10_whyOrder_9 ?_
      refine lv_iload_n C.1 C.2.1 dX10_whyOrder_12 rfl (lv_at hl 2 rfl) ?_
      refine lv_iload_n C.1 C.2.1 dX10_whyOrder_13 rfl (lv_at hl 0 rfl) ?_
      refine lv_iadd C.1 C.2.1 dX10_whyOrder_14 ?_
      obtain ⟨c2, h⟩ := h
      refine fw_iald (w := (mw G mh ad)) C hK hG 3 mw_a4 c2 dX10_whyOrder_15 ?_
      refine fw_rcalli (va_runV (As := [.int ((ar 4) (x1 + z3).toNatClampNeg)]) (rest := []) ⟨C.1, C.2.1, C.2.2.2.2.2.2, C.2.2.2.2.2.1, C.2.2.2.2.1⟩ (soX10_isCell l G mh ad iv ar ((ar 4) (x1 + z3).toNatClampNeg) _  h H.size) (cwV 1 C.2.2.2.2.1 gX10_whyOrder_X10_isCell rfl rfl rfl (by decide +kernel) ⟨Nat.le_of_ble_eq_true rfl, Nat.le_of_ble_eq_true rfl⟩) (fw_preV hG hK (ci := 10) rfl mw_o) rfl rfl hl.1 rfl (lv_room (Nat.le_of_ble_eq_true rfl)) dX10_whyOrder_16 ⟨Nat.zero_le _, Nat.zero_le _⟩) hG hK (fun r3  H locs h hG => ?_)
      refine lv_if_ne (tgt := 24) C.1 C.2.1 dX10_whyOrder_19 (by decide) (fun c4 => ?_) (fun c4 => ?_)
      · have h := h.1 c4
        obtain ⟨y5, ey5⟩ : ∃ z : Int32, z = z3 + 1 := ⟨_, rfl⟩
        have h := h y5 ey5
        refine lv_iinc (v := y5) (lv' := [(3, .int y5), (0, .ref mh), (1, .int x1), (2, .int x2)]) C.1 C.2.1 dX10_whyOrder_24 hl (k := 0) rfl (by rw [ey5]; rfl) (by decide) rfl (fun ls hl => ?_)
        refine lv_goto (tgt := 2) C.1 C.2.1 dX10_whyOrder_27 (by decide) ?_
        exact ih _ h _ _ hG ls (lv_sub hl [0, 1, 2, 3] rfl)
      · have h := h.2 c4
        refine lv_iconst (v := (-1)) C.1 C.2.1 dX10_whyOrder_22 (by decide) ?_
        exact fw_iret C hG ⟨h, rfl, rfl⟩ dX10_whyOrder_23

set_option maxHeartbeats 4000000 in
set_option maxRecDepth 100000 in
theorem soX10_whyOrder_L40 {p : Program} {l : Launch} {e : Env} {s : State} {m : MethodId} {args : Array Value} {below : List Frame} {meth : Method} {c : Code} {A : Nat → Prop} {G : fw_G} {mh : Nat} {ad : Nat → Nat} {x1 : Int32} {x2 : Int32} {z3 : Int32} {iv : fw_F} {ar : fw_R} {Q : Int32 → Prop} {K : Int32 → Prop} (C : fw_C p s m args meth c cX10_whyOrder 5 (some .int) wsX10_whyOrder RX10) (hK : fw_K G A s)  (hX : ∀ (z4 : Int32), K z4 → ∀ (H : Heap) (locs : List Loc), fw_H G ((mw G mh ad) iv ar) A s H locs → ∀ (ls : Array Slot), lv_has ls 5 [(4, .int z4), (3, .int z3), (0, .ref mh), (1, .int x1), (2, .int x2)] → W p l e rmX10_whyOrder s m args below meth c H locs 0 0 (MQ below (fw_Qi G (mw G mh ad) (fun r iv1 ar1 => Q r ∧ iv = iv1 ∧ ar = ar1) A) args s 0 0 A) (F0 m 75 ls [])) : ∀ (fu : Nat) (z4 : Int32), wpX10_whyOrder_L40 x1 x2 z3 iv ar Q K fu z4 → ∀ (H : Heap) (locs : List Loc), fw_H G ((mw G mh ad) iv ar) A s H locs → ∀ (ls : Array Slot), lv_has ls 5 [(4, .int z4), (3, .int z3), (0, .ref mh), (1, .int x1), (2, .int x2)] → W p l e rmX10_whyOrder s m args below meth c H locs 0 0 (MQ below (fw_Qi G (mw G mh ad) (fun r iv1 ar1 => Q r ∧ iv = iv1 ∧ ar = ar1) A) args s 0 0 A) (F0 m 40 ls []) := by
  intro fu
  have in_X10 : ∀ x ∈ wsX100, x ∈ wsX10_whyOrder := by decide +kernel
  have k16 := C.2.2.2.2.1 (.fieldLink RX10 16 "KnifeBoardModel" "cells" "[I") (by decide +kernel)
  induction fu with
  | zero => intro z4 h; exact h.elim
  | succ fu ih =>
    intro z4 h H locs hG ls hl
    unfold wpX10_whyOrder_L40 at h
    refine lv_iload C.1 C.2.1 dX10_whyOrder_40 (lv_at hl 0 rfl) ?_
    refine lv_iload_n C.1 C.2.1 dX10_whyOrder_42 rfl (lv_at hl 1 rfl) ?_
    refine lv_icmp_ge (tgt := 75) C.1 C.2.1 dX10_whyOrder_43 (by decide) (fun c8 => ?_) (fun c8 => ?_)
    · have h := h.1 c8
      exact hX _ h _ _ hG ls (lv_sub hl [0, 1, 2, 3, 4] rfl)
    · have h := h.2 c8
      refine lv_aload_n C.1 C.2.1 dX10_whyOrder_46 rfl (lv_at hl 2 rfl) ?_
      refine fw_get (w := (mw G mh ad)) C in_X10 hK hG 0 mw_o rfl 4 (by decide) k16 rfl rfl dX10_whyOrder_47 ?_
      refine lv_iload_n C.1 C.2.1 dX10_whyOrder_50 rfl (lv_at hl 3 rfl) ?_
      refine lv_iload_n C.1 C.2.1 dX10_whyOrder_51 rfl (lv_at hl 1 rfl) ?_
      refine lv_iadd C.1 C.2.1 dX10_whyOrder_52 ?_
      obtain ⟨c9, h⟩ := h
      refine fw_iald (w := (mw G mh ad)) C hK hG 3 mw_a4 c9 dX10_whyOrder_53 ?_
      refine lv_aload_n C.1 C.2.1 dX10_whyOrder_54 rfl (lv_at hl 2 rfl) ?_
      refine fw_get (w := (mw G mh ad)) C in_X10 hK hG 0 mw_o rfl 4 (by decide) k16 rfl rfl dX10_whyOrder_55 ?_
      refine lv_iload_n C.1 C.2.1 dX10_whyOrder_58 rfl (lv_at hl 3 rfl) ?_
      refine lv_iload C.1 C.2.1 dX10_whyOrder_59 (lv_at hl 0 rfl) ?_
      refine lv_iadd C.1 C.2.1 dX10_whyOrder_61 ?_
      obtain ⟨c10, h⟩ := h
      refine fw_iald (w := (mw G mh ad)) C hK hG 3 mw_a4 c10 dX10_whyOrder_62 ?_
      refine lv_icmp_ne (tgt := 69) C.1 C.2.1 dX10_whyOrder_63 (by decide) (fun c11 => ?_) (fun c11 => ?_)
      · have h := h.1 c11
        obtain ⟨y12, ey12⟩ : ∃ z : Int32, z = z4 + 1 := ⟨_, rfl⟩
        have h := h y12 ey12
        refine lv_iinc (v := y12) (lv' := [(4, .int y12), (3, .int z3), (0, .ref mh), (1, .int x1), (2, .int x2)]) C.1 C.2.1 dX10_whyOrder_69 hl (k := 0) rfl (by rw [ey12]; rfl) (by decide) rfl (fun ls hl => ?_)
        refine lv_goto (tgt := 40) C.1 C.2.1 dX10_whyOrder_72 (by decide) ?_
        exact ih _ h _ _ hG ls (lv_sub hl [0, 1, 2, 3, 4] rfl)
      · have h := h.2 c11
        refine lv_bipush (v := (-2)) C.1 C.2.1 dX10_whyOrder_66 (by decide) ?_
        exact fw_iret C hG ⟨h, rfl, rfl⟩ dX10_whyOrder_68

set_option maxHeartbeats 4000000 in
set_option maxRecDepth 100000 in
theorem soX10_whyOrder_L32 {p : Program} {l : Launch} {e : Env} {s : State} {m : MethodId} {args : Array Value} {below : List Frame} {meth : Method} {c : Code} {A : Nat → Prop} {G : fw_G} {mh : Nat} {ad : Nat → Nat} {x1 : Int32} {x2 : Int32} {iv : fw_F} {ar : fw_R} {Q : Int32 → Prop} {K : Int32 → Prop} (C : fw_C p s m args meth c cX10_whyOrder 5 (some .int) wsX10_whyOrder RX10) (hK : fw_K G A s)  (hX : ∀ (z3 : Int32), K z3 → ∀ (H : Heap) (locs : List Loc), fw_H G ((mw G mh ad) iv ar) A s H locs → ∀ (ls : Array Slot), lv_has ls 5 [(3, .int z3), (0, .ref mh), (1, .int x1), (2, .int x2)] → W p l e rmX10_whyOrder s m args below meth c H locs 0 0 (MQ below (fw_Qi G (mw G mh ad) (fun r iv1 ar1 => Q r ∧ iv = iv1 ∧ ar = ar1) A) args s 0 0 A) (F0 m 81 ls [])) : ∀ (fu : Nat) (z3 : Int32), wpX10_whyOrder_L32 x1 x2 iv ar Q K fu z3 → ∀ (H : Heap) (locs : List Loc), fw_H G ((mw G mh ad) iv ar) A s H locs → ∀ (ls : Array Slot), lv_has ls 5 [(3, .int z3), (0, .ref mh), (1, .int x1), (2, .int x2)] → W p l e rmX10_whyOrder s m args below meth c H locs 0 0 (MQ below (fw_Qi G (mw G mh ad) (fun r iv1 ar1 => Q r ∧ iv = iv1 ∧ ar = ar1) A) args s 0 0 A) (F0 m 32 ls []) := by
  intro fu
  induction fu with
  | zero => intro z3 h; exact h.elim
  | succ fu ih =>
    intro z3 h H locs hG ls hl
    unfold wpX10_whyOrder_L32 at h
    refine lv_iload_n C.1 C.2.1 dX10_whyOrder_32 rfl (lv_at hl 0 rfl) ?_
    refine lv_iload_n C.1 C.2.1 dX10_whyOrder_33 rfl (lv_at hl 3 rfl) ?_
    refine lv_icmp_ge (tgt := 81) C.1 C.2.1 dX10_whyOrder_34 (by decide) (fun c7 => ?_) (fun c7 => ?_)
    · have h := h.1 c7
      exact hX _ h _ _ hG ls (lv_sub hl [0, 1, 2, 3] rfl)
    · have h := h.2 c7
      refine lv_iconst (v := 0) C.1 C.2.1 dX10_whyOrder_37 (by decide) ?_
      refine lv_istore (lv' := [(4, .int 0), (3, .int z3), (0, .ref mh), (1, .int x1), (2, .int x2)]) C.1 C.2.1 dX10_whyOrder_38 hl (by decide) rfl (fun ls hl => ?_)
      obtain ⟨ku, h⟩ := h
      refine soX10_whyOrder_L40 C hK  ?_ ku _ h _ _ hG ls (lv_sub hl [0, 1, 2, 3, 4] rfl)
      intro w13 h H locs hG ls hl
      obtain ⟨y14, ey14⟩ : ∃ z : Int32, z = z3 + 1 := ⟨_, rfl⟩
      have h := h y14 ey14
      refine lv_iinc (v := y14) (lv' := [(3, .int y14), (4, .int w13), (0, .ref mh), (1, .int x1), (2, .int x2)]) C.1 C.2.1 dX10_whyOrder_75 hl (k := 1) rfl (by rw [ey14]; rfl) (by decide) rfl (fun ls hl => ?_)
      refine lv_goto (tgt := 32) C.1 C.2.1 dX10_whyOrder_78 (by decide) ?_
      exact ih _ h _ _ hG ls (lv_sub hl [0, 2, 3, 4] rfl)

set_option maxHeartbeats 4000000 in
set_option maxRecDepth 100000 in
theorem soX10_whyOrder (l : Launch) (G : fw_G) (mh : Nat) (ad : Nat → Nat) (iv : fw_F) (ar : fw_R) (x1 : Int32) (x2 : Int32) (Q : Int32 → Prop)  (h : wpX10_whyOrder iv ar x1 x2 Q) : fw_M l G (mw G mh ad) yX10_whyOrder wsX10_whyOrder rmX10_whyOrder [.ref mh, .int x1, .int x2] iv ar (fw_Qi G (mw G mh ad) (fun r iv1 ar1 => Q r ∧ iv = iv1 ∧ ar = ar1)) := by
  refine fw_start (cc := cX10_whyOrder) (nL := 5) (rt := (some .int)) (by decide) rfl (Nat.le_of_ble_eq_true rfl) ?_
  intro p e s m below meth c A ls H locs C hK hG hl
  obtain ⟨args, ea⟩ : ∃ z : Array Value, z = ([.ref mh, .int x1, .int x2] : List Value).toArray := ⟨_, rfl⟩
  rw [← ea] at C ⊢
  have C : fw_C p s m args meth c cX10_whyOrder 5 (some .int) wsX10_whyOrder RX10 := C
  have hl : lv_has ls 5 [(0, .ref mh), (1, .int x1), (2, .int x2)] := hl
  unfold wpX10_whyOrder at h
  refine lv_iconst (v := 0) C.1 C.2.1 dX10_whyOrder_0 (by decide) ?_
  refine lv_istore_n (lv' := [(3, .int 0), (0, .ref mh), (1, .int x1), (2, .int x2)]) C.1 C.2.1 dX10_whyOrder_1 rfl hl (by decide) rfl (fun ls hl => ?_)
  obtain ⟨ku, h⟩ := h
  refine soX10_whyOrder_L2 C hK  ?_ ku _ h _ _ hG ls (lv_sub hl [0, 1, 2, 3] rfl)
  intro w6 h H locs hG ls hl
  refine lv_iconst (v := 0) C.1 C.2.1 dX10_whyOrder_30 (by decide) ?_
  refine lv_istore_n (lv' := [(3, .int 0), (0, .ref mh), (1, .int x1), (2, .int x2)]) C.1 C.2.1 dX10_whyOrder_31 rfl hl (by decide) rfl (fun ls hl => ?_)
  obtain ⟨ku, h⟩ := h
  refine soX10_whyOrder_L32 C hK  ?_ ku _ h _ _ hG ls (lv_sub hl [0, 1, 2, 3] rfl)
  intro w15 h H locs hG ls hl
  refine lv_iconst (v := 0) C.1 C.2.1 dX10_whyOrder_81 (by decide) ?_
  exact fw_iret C hG ⟨h, rfl, rfl⟩ dX10_whyOrder_82
/-! KnifeBoardModel.order(IIIIII)I -/
def rmX10_order : Room := { frames := 4, cells := 0, slots := 0, locals := 101 }
def wpX10_order (iv : fw_F) (ar : fw_R) (x1 : Int32) (x2 : Int32) (x3 : Int32) (x4 : Int32) (x5 : Int32) (x6 : Int32) (Q : Int32 → fw_F → fw_R → Prop) : Prop := ∀ iv1 : fw_F, iv1 = va_up iv 0 0 → (wpX10_isSheet x2 (fun (r2 : Int32) => (¬ r2 = 0 → (wpX10_isSort x3 (fun (r4 : Int32) => (r4 = 0 → (Q (-2) iv1 ar)) ∧ (¬ r4 = 0 → (wpX10_within x1 0 9999 (fun (r6 : Int32) => (¬ r6 = 0 → (wpX10_against iv1 ar x2 x3 x4 x5 1 (fun (r8 : Int32) => (r8 = 0 → (wpX10_within x5 1 6 (fun (r10 : Int32) => (¬ r10 = 0 → (∀ y12 : Int32, y12 = (80 * x2) + x4 → (wpX10_whyOrder iv1 ar y12 x5 (fun (r13 : Int32) => (r13 = 0 → (wpX10_within x6 (-1) 5 (fun (r15 : Int32) => (¬ r15 = 0 → ((¬ (iv1 10) = 0 → (wpX10_layOrdered iv1 ar y12 x5 (fun (iv18 : fw_F) (ar19 : fw_R) => wpX10_layCosts iv18 ar19 x5 x1 (fun (iv20 : fw_F) (ar21 : fw_R) => wpX10_findOrder iv20 ar21 x5 (fun (iv22 : fw_F) (ar23 : fw_R) => (0 ≤ x6 → ((x5 ≤ x6 → (Q (-9) iv22 ar23)) ∧ (¬ x5 ≤ x6 → (vp_in x6 6 ∧ (Q ((ar23 26) x6.toNatClampNeg) iv22 ar23))))) ∧ (¬ 0 ≤ x6 → (Q (iv22 27) iv22 ar23))))))) ∧ ((iv1 10) = 0 → (Q (-3) iv1 ar)))) ∧ (r15 = 0 → (Q (-1) iv1 ar))))) ∧ (¬ r13 = 0 → (Q r13 iv1 ar)))))) ∧ (r10 = 0 → (Q (-2) iv1 ar))))) ∧ (¬ r8 = 0 → (wpX10_fails iv1 ar r8 (fun (r27 : Int32) (iv28 : fw_F) (ar29 : fw_R) => Q r27 iv28 ar29)))))) ∧ (r6 = 0 → (Q (-2) iv1 ar)))))))) ∧ (r2 = 0 → (Q (-1) iv1 ar))))
set_option maxHeartbeats 4000000 in
set_option maxRecDepth 100000 in
theorem soX10_order (l : Launch) (G : fw_G) (mh : Nat) (ad : Nat → Nat) (iv : fw_F) (ar : fw_R) (x1 : Int32) (x2 : Int32) (x3 : Int32) (x4 : Int32) (x5 : Int32) (x6 : Int32) (Q : Int32 → fw_F → fw_R → Prop)  (h : wpX10_order iv ar x1 x2 x3 x4 x5 x6 Q) : fw_M l G (mw G mh ad) yX10_order wsX10_order rmX10_order [.ref mh, .int x1, .int x2, .int x3, .int x4, .int x5, .int x6] iv ar (fw_Qi G (mw G mh ad) Q) := by
  refine fw_start (cc := cX10_order) (nL := 10) (rt := (some .int)) (by decide) rfl (Nat.le_of_ble_eq_true rfl) ?_
  intro p e s m below meth c A ls H locs C hK hG hl
  obtain ⟨args, ea⟩ : ∃ z : Array Value, z = ([.ref mh, .int x1, .int x2, .int x3, .int x4, .int x5, .int x6] : List Value).toArray := ⟨_, rfl⟩
  rw [← ea] at C ⊢
  have C : fw_C p s m args meth c cX10_order 10 (some .int) wsX10_order RX10 := C
  have hl : lv_has ls 10 [(0, .ref mh), (1, .int x1), (2, .int x2), (3, .int x3), (4, .int x4), (5, .int x5), (6, .int x6)] := hl
  unfold wpX10_order at h
  have in_X10 : ∀ x ∈ wsX100, x ∈ wsX10_order := by decide +kernel
  have k146 := C.2.2.2.2.1 (.fieldLink RX10 146 "KnifeBoardModel" "isHand" "Z") (by decide +kernel)
  have k235 := C.2.2.2.2.1 (.fieldLink RX10 235 "KnifeBoardModel" "bestSum" "I") (by decide +kernel)
  have k55 := C.2.2.2.2.1 (.fieldLink RX10 55 "KnifeBoardModel" "bestOrder" "[I") (by decide +kernel)
  have k71 := C.2.2.2.2.1 (.fieldLink RX10 71 "KnifeBoardModel" "fault" "I") (by decide +kernel)
  refine lv_aload_n C.1 C.2.1 dX10_order_0 rfl (lv_at hl 0 rfl) ?_
  refine lv_iconst (v := 0) C.1 C.2.1 dX10_order_1 (by decide) ?_
  obtain ⟨iv1, eiv1⟩ : ∃ z : fw_F, z = va_up iv 0 0 := ⟨_, rfl⟩
  have h := h iv1 eiv1
  refine fw_put (w := (mw G mh ad)) C in_X10 tyX10 tyX10_ok nmX10 hK hG 0 mw_o rfl 0 (by decide) k71 rfl rfl (ty := .int) (v := .int 0) (by decide +kernel) rfl rfl (by first | decide | exact Nat.le_of_ble_eq_true rfl) (iv1 := iv1) (by rw [eiv1]; exact mw_p0) dX10_order_2 (fun H locs hG => ?_)
  refine lv_iload_n C.1 C.2.1 dX10_order_5 rfl (lv_at hl 2 rfl) ?_
  refine fw_pcalli (va_runS (As := [.int x2]) (rest := []) ⟨C.1, C.2.1, C.2.2.2.2.2.2, C.2.2.2.2.2.1, C.2.2.2.2.1⟩ (soX10_isSheet l x2 _ h H.size) (va_cwS 1 C.2.2.2.2.1 gX10_order_X10_isSheet rfl rfl rfl (by decide +kernel) ⟨Nat.le_of_ble_eq_true rfl, Nat.le_of_ble_eq_true rfl⟩) fw_ppre rfl rfl hl.1 rfl (lv_room (Nat.le_of_ble_eq_true rfl)) dX10_order_6 ⟨Nat.zero_le _, Nat.zero_le _⟩) hG hK (fun r2  H locs h hG => ?_)
  refine lv_if_ne (tgt := 14) C.1 C.2.1 dX10_order_9 (by decide) (fun c3 => ?_) (fun c3 => ?_)
  · have h := h.1 c3
    refine lv_iload_n C.1 C.2.1 dX10_order_14 rfl (lv_at hl 3 rfl) ?_
    refine fw_pcalli (va_runS (As := [.int x3]) (rest := []) ⟨C.1, C.2.1, C.2.2.2.2.2.2, C.2.2.2.2.2.1, C.2.2.2.2.1⟩ (soX10_isSort l x3 _ h H.size) (va_cwS 1 C.2.2.2.2.1 gX10_order_X10_isSort rfl rfl rfl (by decide +kernel) ⟨Nat.le_of_ble_eq_true rfl, Nat.le_of_ble_eq_true rfl⟩) fw_ppre rfl rfl hl.1 rfl (lv_room (Nat.le_of_ble_eq_true rfl)) dX10_order_15 ⟨Nat.zero_le _, Nat.zero_le _⟩) hG hK (fun r4  H locs h hG => ?_)
    refine lv_if_eq (tgt := 32) C.1 C.2.1 dX10_order_18 (by decide) (fun c5 => ?_) (fun c5 => ?_)
    · have h := h.1 c5
      refine lv_bipush (v := (-2)) C.1 C.2.1 dX10_order_32 (by decide) ?_
      exact fw_iret C hG h dX10_order_34
    · have h := h.2 c5
      refine lv_iload_n C.1 C.2.1 dX10_order_21 rfl (lv_at hl 1 rfl) ?_
      refine lv_iconst (v := 0) C.1 C.2.1 dX10_order_22 (by decide) ?_
      refine lv_sipush (v := 9999) C.1 C.2.1 dX10_order_23 (by decide) ?_
      refine fw_pcalli (va_runS (As := [.int x1, .int 0, .int 9999]) (rest := []) ⟨C.1, C.2.1, C.2.2.2.2.2.2, C.2.2.2.2.2.1, C.2.2.2.2.1⟩ (soX10_within l x1 0 9999 _ h H.size) (va_cwS 3 C.2.2.2.2.1 gX10_order_X10_within rfl rfl rfl (by decide +kernel) ⟨Nat.le_of_ble_eq_true rfl, Nat.le_of_ble_eq_true rfl⟩) fw_ppre rfl rfl hl.1 rfl (lv_room (Nat.le_of_ble_eq_true rfl)) dX10_order_26 ⟨Nat.zero_le _, Nat.zero_le _⟩) hG hK (fun r6  H locs h hG => ?_)
      refine lv_if_ne (tgt := 35) C.1 C.2.1 dX10_order_29 (by decide) (fun c7 => ?_) (fun c7 => ?_)
      · have h := h.1 c7
        refine lv_aload_n C.1 C.2.1 dX10_order_35 rfl (lv_at hl 0 rfl) ?_
        refine lv_iload_n C.1 C.2.1 dX10_order_36 rfl (lv_at hl 2 rfl) ?_
        refine lv_iload_n C.1 C.2.1 dX10_order_37 rfl (lv_at hl 3 rfl) ?_
        refine lv_iload C.1 C.2.1 dX10_order_38 (lv_at hl 4 rfl) ?_
        refine lv_iload C.1 C.2.1 dX10_order_40 (lv_at hl 5 rfl) ?_
        refine lv_iconst (v := 1) C.1 C.2.1 dX10_order_42 (by decide) ?_
        refine fw_rcalli (va_runV (As := [.int x2, .int x3, .int x4, .int x5, .int 1]) (rest := []) ⟨C.1, C.2.1, C.2.2.2.2.2.2, C.2.2.2.2.2.1, C.2.2.2.2.1⟩ (soX10_against l G mh ad iv1 ar x2 x3 x4 x5 1 _  h H.size) (cwV 5 C.2.2.2.2.1 gX10_order_X10_against rfl rfl rfl (by decide +kernel) ⟨Nat.le_of_ble_eq_true rfl, Nat.le_of_ble_eq_true rfl⟩) (fw_preV hG hK (ci := 10) rfl mw_o) rfl rfl hl.1 rfl (lv_room (Nat.le_of_ble_eq_true rfl)) dX10_order_43 ⟨Nat.zero_le _, Nat.zero_le _⟩) hG hK (fun r8  H locs h hG => ?_)
        refine lv_istore (lv' := [(7, .int r8), (0, .ref mh), (1, .int x1), (2, .int x2), (3, .int x3), (4, .int x4), (5, .int x5), (6, .int x6)]) C.1 C.2.1 dX10_order_46 hl (by decide) rfl (fun ls hl => ?_)
        refine lv_iload C.1 C.2.1 dX10_order_48 (lv_at hl 0 rfl) ?_
        refine lv_if_eq (tgt := 60) C.1 C.2.1 dX10_order_50 (by decide) (fun c9 => ?_) (fun c9 => ?_)
        · have h := h.1 c9
          refine lv_iload C.1 C.2.1 dX10_order_60 (lv_at hl 6 rfl) ?_
          refine lv_iconst (v := 1) C.1 C.2.1 dX10_order_62 (by decide) ?_
          refine lv_bipush (v := 6) C.1 C.2.1 dX10_order_63 (by decide) ?_
          refine fw_pcalli (va_runS (As := [.int x5, .int 1, .int 6]) (rest := []) ⟨C.1, C.2.1, C.2.2.2.2.2.2, C.2.2.2.2.2.1, C.2.2.2.2.1⟩ (soX10_within l x5 1 6 _ h H.size) (va_cwS 3 C.2.2.2.2.1 gX10_order_X10_within rfl rfl rfl (by decide +kernel) ⟨Nat.le_of_ble_eq_true rfl, Nat.le_of_ble_eq_true rfl⟩) fw_ppre rfl rfl hl.1 rfl (lv_room (Nat.le_of_ble_eq_true rfl)) dX10_order_65 ⟨Nat.zero_le _, Nat.zero_le _⟩) hG hK (fun r10  H locs h hG => ?_)
          refine lv_if_ne (tgt := 74) C.1 C.2.1 dX10_order_68 (by decide) (fun c11 => ?_) (fun c11 => ?_)
          · have h := h.1 c11
            refine lv_bipush (v := 80) C.1 C.2.1 dX10_order_74 (by decide) ?_
            refine lv_iload_n C.1 C.2.1 dX10_order_76 rfl (lv_at hl 3 rfl) ?_
            refine lv_imul C.1 C.2.1 dX10_order_77 ?_
            refine lv_iload C.1 C.2.1 dX10_order_78 (lv_at hl 5 rfl) ?_
            refine lv_iadd C.1 C.2.1 dX10_order_80 ?_
            refine lv_topi (fun y12 ey12 => ?_)
            have h := h y12 ey12
            refine lv_istore (lv' := [(8, .int y12), (7, .int r8), (0, .ref mh), (1, .int x1), (2, .int x2), (3, .int x3), (4, .int x4), (5, .int x5), (6, .int x6)]) C.1 C.2.1 dX10_order_81 hl (by decide) rfl (fun ls hl => ?_)
            refine lv_aload_n C.1 C.2.1 dX10_order_83 rfl (lv_at hl 2 rfl) ?_
            refine lv_iload C.1 C.2.1 dX10_order_84 (lv_at hl 0 rfl) ?_
            refine lv_iload C.1 C.2.1 dX10_order_86 (lv_at hl 7 rfl) ?_
            refine fw_rcalli (va_runV (As := [.int y12, .int x5]) (rest := []) ⟨C.1, C.2.1, C.2.2.2.2.2.2, C.2.2.2.2.2.1, C.2.2.2.2.1⟩ (soX10_whyOrder l G mh ad iv1 ar y12 x5 _  h H.size) (cwV 2 C.2.2.2.2.1 gX10_order_X10_whyOrder rfl rfl rfl (by decide +kernel) ⟨Nat.le_of_ble_eq_true rfl, Nat.le_of_ble_eq_true rfl⟩) (fw_preV hG hK (ci := 10) rfl mw_o) rfl rfl hl.1 rfl (lv_room (Nat.le_of_ble_eq_true rfl)) dX10_order_88 ⟨Nat.zero_le _, Nat.zero_le _⟩) hG hK (fun r13  H locs h hG => ?_)
            refine lv_istore (lv' := [(9, .int r13), (8, .int y12), (7, .int r8), (0, .ref mh), (1, .int x1), (2, .int x2), (3, .int x3), (4, .int x4), (5, .int x5), (6, .int x6)]) C.1 C.2.1 dX10_order_91 hl (by decide) rfl (fun ls hl => ?_)
            refine lv_iload C.1 C.2.1 dX10_order_93 (lv_at hl 0 rfl) ?_
            refine lv_if_eq (tgt := 101) C.1 C.2.1 dX10_order_95 (by decide) (fun c14 => ?_) (fun c14 => ?_)
            · have h := h.1 c14
              refine lv_iload C.1 C.2.1 dX10_order_101 (lv_at hl 9 rfl) ?_
              refine lv_iconst (v := (-1)) C.1 C.2.1 dX10_order_103 (by decide) ?_
              refine lv_iconst (v := 5) C.1 C.2.1 dX10_order_104 (by decide) ?_
              refine fw_pcalli (va_runS (As := [.int x6, .int (-1), .int 5]) (rest := []) ⟨C.1, C.2.1, C.2.2.2.2.2.2, C.2.2.2.2.2.1, C.2.2.2.2.1⟩ (soX10_within l x6 (-1) 5 _ h H.size) (va_cwS 3 C.2.2.2.2.1 gX10_order_X10_within rfl rfl rfl (by decide +kernel) ⟨Nat.le_of_ble_eq_true rfl, Nat.le_of_ble_eq_true rfl⟩) fw_ppre rfl rfl hl.1 rfl (lv_room (Nat.le_of_ble_eq_true rfl)) dX10_order_105 ⟨Nat.zero_le _, Nat.zero_le _⟩) hG hK (fun r15  H locs h hG => ?_)
              refine lv_if_ne (tgt := 113) C.1 C.2.1 dX10_order_108 (by decide) (fun c16 => ?_) (fun c16 => ?_)
              · have h := h.1 c16
                refine lv_aload_n C.1 C.2.1 dX10_order_113 rfl (lv_at hl 3 rfl) ?_
                refine fw_get (w := (mw G mh ad)) C in_X10 hK hG 0 mw_o rfl 10 (by decide) k146 rfl rfl dX10_order_114 ?_
                refine lv_if_ne (tgt := 123) C.1 C.2.1 dX10_order_117 (by decide) (fun c17 => ?_) (fun c17 => ?_)
                · have h := h.1 c17
                  refine lv_aload_n C.1 C.2.1 dX10_order_123 rfl (lv_at hl 3 rfl) ?_
                  refine lv_iload C.1 C.2.1 dX10_order_124 (lv_at hl 1 rfl) ?_
                  refine lv_iload C.1 C.2.1 dX10_order_126 (lv_at hl 8 rfl) ?_
                  refine fw_callv (va_runV (As := [.int y12, .int x5]) (rest := []) ⟨C.1, C.2.1, C.2.2.2.2.2.2, C.2.2.2.2.2.1, C.2.2.2.2.1⟩ (soX10_layOrdered l G mh ad iv1 ar y12 x5 _  h H.size) (cwV 2 C.2.2.2.2.1 gX10_order_X10_layOrdered rfl rfl rfl (by decide +kernel) ⟨Nat.le_of_ble_eq_true rfl, Nat.le_of_ble_eq_true rfl⟩) (fw_preV hG hK (ci := 10) rfl mw_o) rfl rfl hl.1 rfl (lv_room (Nat.le_of_ble_eq_true rfl)) dX10_order_128 ⟨Nat.zero_le _, Nat.zero_le _⟩) hG hK (fun iv18 ar19 H locs h hG => ?_)
                  refine lv_aload_n C.1 C.2.1 dX10_order_131 rfl (lv_at hl 3 rfl) ?_
                  refine lv_iload C.1 C.2.1 dX10_order_132 (lv_at hl 8 rfl) ?_
                  refine lv_iload_n C.1 C.2.1 dX10_order_134 rfl (lv_at hl 4 rfl) ?_
                  refine fw_callv (va_runV (As := [.int x5, .int x1]) (rest := []) ⟨C.1, C.2.1, C.2.2.2.2.2.2, C.2.2.2.2.2.1, C.2.2.2.2.1⟩ (soX10_layCosts l G mh ad iv18 ar19 x5 x1 _  h H.size) (cwV 2 C.2.2.2.2.1 gX10_order_X10_layCosts rfl rfl rfl (by decide +kernel) ⟨Nat.le_of_ble_eq_true rfl, Nat.le_of_ble_eq_true rfl⟩) (fw_preV hG hK (ci := 10) rfl mw_o) rfl rfl hl.1 rfl (lv_room (Nat.le_of_ble_eq_true rfl)) dX10_order_135 ⟨Nat.zero_le _, Nat.zero_le _⟩) hG hK (fun iv20 ar21 H locs h hG => ?_)
                  refine lv_aload_n C.1 C.2.1 dX10_order_138 rfl (lv_at hl 3 rfl) ?_
                  refine lv_iload C.1 C.2.1 dX10_order_139 (lv_at hl 8 rfl) ?_
                  refine fw_callv (va_runV (As := [.int x5]) (rest := []) ⟨C.1, C.2.1, C.2.2.2.2.2.2, C.2.2.2.2.2.1, C.2.2.2.2.1⟩ (soX10_findOrder l G mh ad iv20 ar21 x5 _  h H.size) (cwV 1 C.2.2.2.2.1 gX10_order_X10_findOrder rfl rfl rfl (by decide +kernel) ⟨Nat.le_of_ble_eq_true rfl, Nat.le_of_ble_eq_true rfl⟩) (fw_preV hG hK (ci := 10) rfl mw_o) rfl rfl hl.1 rfl (lv_room (Nat.le_of_ble_eq_true rfl)) dX10_order_141 ⟨Nat.zero_le _, Nat.zero_le _⟩) hG hK (fun iv22 ar23 H locs h hG => ?_)
                  refine lv_iload C.1 C.2.1 dX10_order_144 (lv_at hl 9 rfl) ?_
                  refine lv_if_ge (tgt := 156) C.1 C.2.1 dX10_order_146 (by decide) (fun c24 => ?_) (fun c24 => ?_)
                  · have h := h.1 c24
                    refine lv_iload C.1 C.2.1 dX10_order_156 (lv_at hl 9 rfl) ?_
                    refine lv_iload C.1 C.2.1 dX10_order_158 (lv_at hl 8 rfl) ?_
                    refine lv_icmp_ge (tgt := 173) C.1 C.2.1 dX10_order_160 (by decide) (fun c25 => ?_) (fun c25 => ?_)
                    · have h := h.1 c25
                      refine lv_bipush (v := (-9)) C.1 C.2.1 dX10_order_173 (by decide) ?_
                      exact fw_iret C hG h dX10_order_175
                    · have h := h.2 c25
                      refine lv_aload_n C.1 C.2.1 dX10_order_163 rfl (lv_at hl 3 rfl) ?_
                      refine fw_get (w := (mw G mh ad)) C in_X10 hK hG 0 mw_o rfl 26 (by decide) k55 rfl rfl dX10_order_164 ?_
                      refine lv_iload C.1 C.2.1 dX10_order_167 (lv_at hl 9 rfl) ?_
                      obtain ⟨c26, h⟩ := h
                      refine fw_iald (w := (mw G mh ad)) C hK hG 16 mw_a26 c26 dX10_order_169 ?_
                      refine lv_goto (tgt := 175) C.1 C.2.1 dX10_order_170 (by decide) ?_
                      exact fw_iret C hG h dX10_order_175
                  · have h := h.2 c24
                    refine lv_aload_n C.1 C.2.1 dX10_order_149 rfl (lv_at hl 3 rfl) ?_
                    refine fw_get (w := (mw G mh ad)) C in_X10 hK hG 0 mw_o rfl 27 (by decide) k235 rfl rfl dX10_order_150 ?_
                    refine lv_goto (tgt := 175) C.1 C.2.1 dX10_order_153 (by decide) ?_
                    exact fw_iret C hG h dX10_order_175
                · have h := h.2 c17
                  refine lv_bipush (v := (-3)) C.1 C.2.1 dX10_order_120 (by decide) ?_
                  exact fw_iret C hG h dX10_order_122
              · have h := h.2 c16
                refine lv_iconst (v := (-1)) C.1 C.2.1 dX10_order_111 (by decide) ?_
                exact fw_iret C hG h dX10_order_112
            · have h := h.2 c14
              refine lv_iload C.1 C.2.1 dX10_order_98 (lv_at hl 0 rfl) ?_
              exact fw_iret C hG h dX10_order_100
          · have h := h.2 c11
            refine lv_bipush (v := (-2)) C.1 C.2.1 dX10_order_71 (by decide) ?_
            exact fw_iret C hG h dX10_order_73
        · have h := h.2 c9
          refine lv_aload_n C.1 C.2.1 dX10_order_53 rfl (lv_at hl 1 rfl) ?_
          refine lv_iload C.1 C.2.1 dX10_order_54 (lv_at hl 0 rfl) ?_
          refine fw_calli (va_runV (As := [.int r8]) (rest := []) ⟨C.1, C.2.1, C.2.2.2.2.2.2, C.2.2.2.2.2.1, C.2.2.2.2.1⟩ (soX10_fails l G mh ad iv1 ar r8 _  h H.size) (cwV 1 C.2.2.2.2.1 gX10_order_X10_fails rfl rfl rfl (by decide +kernel) ⟨Nat.le_of_ble_eq_true rfl, Nat.le_of_ble_eq_true rfl⟩) (fw_preV hG hK (ci := 10) rfl mw_o) rfl rfl hl.1 rfl (lv_room (Nat.le_of_ble_eq_true rfl)) dX10_order_56 ⟨Nat.zero_le _, Nat.zero_le _⟩) hG hK (fun r27 iv28 ar29 H locs h hG => ?_)
          exact fw_iret C hG h dX10_order_59
      · have h := h.2 c7
        refine lv_bipush (v := (-2)) C.1 C.2.1 dX10_order_32 (by decide) ?_
        exact fw_iret C hG h dX10_order_34
  · have h := h.2 c3
    refine lv_iconst (v := (-1)) C.1 C.2.1 dX10_order_12 (by decide) ?_
    exact fw_iret C hG h dX10_order_13
/-! KnifeBoardModel.isTicks(I)Z -/
def rmX10_isTicks : Room := { frames := 1, cells := 0, slots := 0, locals := 22 }
def wpX10_isTicks (x0 : Int32) (Q : Int32 → Prop) : Prop := wpX10_within x0 1 60 (fun (r1 : Int32) => (r1 = 0 ∨ r1 = 1) ∧ Q r1)
set_option maxHeartbeats 4000000 in
set_option maxRecDepth 100000 in
theorem soX10_isTicks (l : Launch) (x0 : Int32) (Q : Int32 → Prop) (h : wpX10_isTicks x0 Q) : fw_pM l yX10_isTicks wsX10_isTicks rmX10_isTicks [.int x0] (fw_pQi Q) := by
  refine fw_pstart (cc := cX10_isTicks) (nL := 1) (rt := (some .boolean)) (by decide) rfl (Nat.le_of_ble_eq_true rfl) ?_
  intro p e s m below meth c A ls H locs C hA hS hl
  obtain ⟨args, ea⟩ : ∃ z : Array Value, z = ([.int x0] : List Value).toArray := ⟨_, rfl⟩
  rw [← ea] at C ⊢
  have C : fw_C p s m args meth c cX10_isTicks 1 (some .boolean) wsX10_isTicks RX10 := C
  have hl : lv_has ls 1 [(0, .int x0)] := hl
  unfold wpX10_isTicks at h
  refine lv_iload_n C.1 C.2.1 dX10_isTicks_0 rfl (lv_at hl 0 rfl) ?_
  refine lv_iconst (v := 1) C.1 C.2.1 dX10_isTicks_1 (by decide) ?_
  refine lv_bipush (v := 60) C.1 C.2.1 dX10_isTicks_2 (by decide) ?_
  refine fw_ppcalli (va_runS (As := [.int x0, .int 1, .int 60]) (rest := []) ⟨C.1, C.2.1, C.2.2.2.2.2.2, C.2.2.2.2.2.1, C.2.2.2.2.1⟩ (soX10_within l x0 1 60 _ h H.size) (va_cwS 3 C.2.2.2.2.1 gX10_isTicks_X10_within rfl rfl rfl (by decide +kernel) ⟨Nat.le_of_ble_eq_true rfl, Nat.le_of_ble_eq_true rfl⟩) fw_ppre rfl rfl hl.1 rfl (lv_room (Nat.le_of_ble_eq_true rfl)) dX10_isTicks_4 ⟨Nat.zero_le _, Nat.zero_le _⟩) hS hA (fun r1  H locs h hS => ?_)
  obtain ⟨cb, h⟩ := h
  exact fw_pzret C hS (fw_nb cb) h dX10_isTicks_7
/-! KnifeBoardModel.isWheel()Z -/
def rmX10_isWheel : Room := { frames := 0, cells := 0, slots := 0, locals := 0 }
def wpX10_isWheel (iv : fw_F) (ar : fw_R)  (Q : Int32 → Prop) : Prop := ((iv 16) ≤ 0 → (Q 0)) ∧ (¬ (iv 16) ≤ 0 → ((¬ (iv 16) = (iv 17) → (Q 0)) ∧ ((iv 16) = (iv 17) → (Q 1))))
set_option maxHeartbeats 4000000 in
set_option maxRecDepth 100000 in
theorem soX10_isWheel (l : Launch) (G : fw_G) (mh : Nat) (ad : Nat → Nat) (iv : fw_F) (ar : fw_R)  (Q : Int32 → Prop)  (h : wpX10_isWheel iv ar  Q) : fw_M l G (mw G mh ad) yX10_isWheel wsX10_isWheel rmX10_isWheel [.ref mh] iv ar (fw_Qi G (mw G mh ad) (fun r iv1 ar1 => Q r ∧ iv = iv1 ∧ ar = ar1)) := by
  refine fw_start (cc := cX10_isWheel) (nL := 1) (rt := (some .boolean)) (by decide) rfl (Nat.le_of_ble_eq_true rfl) ?_
  intro p e s m below meth c A ls H locs C hK hG hl
  obtain ⟨args, ea⟩ : ∃ z : Array Value, z = ([.ref mh] : List Value).toArray := ⟨_, rfl⟩
  rw [← ea] at C ⊢
  have C : fw_C p s m args meth c cX10_isWheel 1 (some .boolean) wsX10_isWheel RX10 := C
  have hl : lv_has ls 1 [(0, .ref mh)] := hl
  unfold wpX10_isWheel at h
  have in_X10 : ∀ x ∈ wsX100, x ∈ wsX10_isWheel := by decide +kernel
  have k182 := C.2.2.2.2.1 (.fieldLink RX10 182 "KnifeBoardModel" "high" "I") (by decide +kernel)
  have k185 := C.2.2.2.2.1 (.fieldLink RX10 185 "KnifeBoardModel" "wide" "I") (by decide +kernel)
  refine lv_aload_n C.1 C.2.1 dX10_isWheel_0 rfl (lv_at hl 0 rfl) ?_
  refine fw_get (w := (mw G mh ad)) C in_X10 hK hG 0 mw_o rfl 16 (by decide) k182 rfl rfl dX10_isWheel_1 ?_
  refine lv_if_le (tgt := 22) C.1 C.2.1 dX10_isWheel_4 (by decide) (fun c1 => ?_) (fun c1 => ?_)
  · have h := h.1 c1
    refine lv_iconst (v := 0) C.1 C.2.1 dX10_isWheel_22 (by decide) ?_
    exact fw_zret C hG (by decide) ⟨h, rfl, rfl⟩ dX10_isWheel_23
  · have h := h.2 c1
    refine lv_aload_n C.1 C.2.1 dX10_isWheel_7 rfl (lv_at hl 0 rfl) ?_
    refine fw_get (w := (mw G mh ad)) C in_X10 hK hG 0 mw_o rfl 16 (by decide) k182 rfl rfl dX10_isWheel_8 ?_
    refine lv_aload_n C.1 C.2.1 dX10_isWheel_11 rfl (lv_at hl 0 rfl) ?_
    refine fw_get (w := (mw G mh ad)) C in_X10 hK hG 0 mw_o rfl 17 (by decide) k185 rfl rfl dX10_isWheel_12 ?_
    refine lv_icmp_ne (tgt := 22) C.1 C.2.1 dX10_isWheel_15 (by decide) (fun c2 => ?_) (fun c2 => ?_)
    · have h := h.1 c2
      refine lv_iconst (v := 0) C.1 C.2.1 dX10_isWheel_22 (by decide) ?_
      exact fw_zret C hG (by decide) ⟨h, rfl, rfl⟩ dX10_isWheel_23
    · have h := h.2 c2
      refine lv_iconst (v := 1) C.1 C.2.1 dX10_isWheel_18 (by decide) ?_
      refine lv_goto (tgt := 23) C.1 C.2.1 dX10_isWheel_19 (by decide) ?_
      exact fw_zret C hG (by decide) ⟨h, rfl, rfl⟩ dX10_isWheel_23
/-! KnifeBoardModel.turnedTo(II)I -/
def rmX10_turnedTo : Room := { frames := 0, cells := 0, slots := 0, locals := 0 }
def wpX10_turnedTo_L18 (x1 : Int32) (x2 : Int32) (iv : fw_F) (ar : fw_R) (Q : Int32 → Prop) (K : Int32 → Int32 → Int32 → Prop) : Nat → Int32 → Int32 → Int32 → Prop
  | 0, _, _, _ => False
  | fu + 1, z3, z4, z5 => (x2 ≤ z5 → (K z3 z4 z5)) ∧ (¬ x2 ≤ z5 → (∀ y6 : Int32, y6 = ((iv 17) - 1) - z4 → (∀ y7 : Int32, y7 = z5 + 1 → (wpX10_turnedTo_L18 x1 x2 iv ar Q K fu y6 z3 y7))))
def wpX10_turnedTo (iv : fw_F) (ar : fw_R) (x1 : Int32) (x2 : Int32) (Q : Int32 → Prop) : Prop := ¬ (iv 17) = 0 ∧ (∀ y2 : Int32, y2 = x1 / (iv 17) → (¬ (iv 17) = 0 ∧ (∀ y4 : Int32, y4 = x1 - x1 / (iv 17) * (iv 17) → (∃ ku : Nat, wpX10_turnedTo_L18 x1 x2 iv ar Q (fun (w8 : Int32) (w9 : Int32) (w10 : Int32) => vp_in (((iv 17) * w8) + w9) 36 ∧ (Q ((ar 18) (((iv 17) * w8) + w9).toNatClampNeg))) ku y2 y4 0))))
set_option maxHeartbeats 4000000 in
set_option maxRecDepth 100000 in
theorem soX10_turnedTo_L18 {p : Program} {l : Launch} {e : Env} {s : State} {m : MethodId} {args : Array Value} {below : List Frame} {meth : Method} {c : Code} {A : Nat → Prop} {G : fw_G} {mh : Nat} {ad : Nat → Nat} {x1 : Int32} {x2 : Int32} {iv : fw_F} {ar : fw_R} {Q : Int32 → Prop} {K : Int32 → Int32 → Int32 → Prop} (C : fw_C p s m args meth c cX10_turnedTo 7 (some .int) wsX10_turnedTo RX10) (hK : fw_K G A s)  (hX : ∀ (z3 : Int32) (z4 : Int32) (z5 : Int32), K z3 z4 z5 → ∀ (H : Heap) (locs : List Loc), fw_H G ((mw G mh ad) iv ar) A s H locs → ∀ (ls : Array Slot), lv_has ls 7 [(5, .int z5), (4, .int z4), (3, .int z3), (0, .ref mh), (2, .int x2)] → W p l e rmX10_turnedTo s m args below meth c H locs 0 0 (MQ below (fw_Qi G (mw G mh ad) (fun r iv1 ar1 => Q r ∧ iv = iv1 ∧ ar = ar1) A) args s 0 0 A) (F0 m 47 ls [])) : ∀ (fu : Nat) (z3 : Int32) (z4 : Int32) (z5 : Int32), wpX10_turnedTo_L18 x1 x2 iv ar Q K fu z3 z4 z5 → ∀ (H : Heap) (locs : List Loc), fw_H G ((mw G mh ad) iv ar) A s H locs → ∀ (ls : Array Slot), lv_has ls 7 [(5, .int z5), (4, .int z4), (3, .int z3), (0, .ref mh), (2, .int x2)] → W p l e rmX10_turnedTo s m args below meth c H locs 0 0 (MQ below (fw_Qi G (mw G mh ad) (fun r iv1 ar1 => Q r ∧ iv = iv1 ∧ ar = ar1) A) args s 0 0 A) (F0 m 18 ls []) := by
  intro fu
  have in_X10 : ∀ x ∈ wsX100, x ∈ wsX10_turnedTo := by decide +kernel
  have k185 := C.2.2.2.2.1 (.fieldLink RX10 185 "KnifeBoardModel" "wide" "I") (by decide +kernel)
  induction fu with
  | zero => intro z3 z4 z5 h; exact h.elim
  | succ fu ih =>
    intro z3 z4 z5 h H locs hG ls hl
    unfold wpX10_turnedTo_L18 at h
    refine lv_iload C.1 C.2.1 dX10_turnedTo_18 (lv_at hl 0 rfl) ?_
    refine lv_iload_n C.1 C.2.1 dX10_turnedTo_20 rfl (lv_at hl 4 rfl) ?_
    refine lv_icmp_ge (tgt := 47) C.1 C.2.1 dX10_turnedTo_21 (by decide) (fun c5 => ?_) (fun c5 => ?_)
    · have h := h.1 c5
      exact hX _ _ _ h _ _ hG ls (lv_sub hl [0, 1, 2, 3, 4] rfl)
    · have h := h.2 c5
      refine lv_iload_n C.1 C.2.1 dX10_turnedTo_24 rfl (lv_at hl 2 rfl) ?_
      refine lv_istore (lv' := [(6, .int z3), (5, .int z5), (4, .int z4), (3, .int z3), (0, .ref mh), (2, .int x2)]) C.1 C.2.1 dX10_turnedTo_25 hl (by decide) rfl (fun ls hl => ?_)
      refine lv_aload_n C.1 C.2.1 dX10_turnedTo_27 rfl (lv_at hl 4 rfl) ?_
      refine fw_get (w := (mw G mh ad)) C in_X10 hK hG 0 mw_o rfl 17 (by decide) k185 rfl rfl dX10_turnedTo_28 ?_
      refine lv_iconst (v := 1) C.1 C.2.1 dX10_turnedTo_31 (by decide) ?_
      refine lv_isub C.1 C.2.1 dX10_turnedTo_32 ?_
      refine lv_iload C.1 C.2.1 dX10_turnedTo_33 (lv_at hl 2 rfl) ?_
      refine lv_isub C.1 C.2.1 dX10_turnedTo_35 ?_
      refine lv_topi (fun y6 ey6 => ?_)
      have h := h y6 ey6
      refine lv_istore_n (lv' := [(3, .int y6), (6, .int z3), (5, .int z5), (4, .int z4), (0, .ref mh), (2, .int x2)]) C.1 C.2.1 dX10_turnedTo_36 rfl hl (by decide) rfl (fun ls hl => ?_)
      refine lv_iload C.1 C.2.1 dX10_turnedTo_37 (lv_at hl 1 rfl) ?_
      refine lv_istore (lv' := [(4, .int z3), (3, .int y6), (6, .int z3), (5, .int z5), (0, .ref mh), (2, .int x2)]) C.1 C.2.1 dX10_turnedTo_39 hl (by decide) rfl (fun ls hl => ?_)
      obtain ⟨y7, ey7⟩ : ∃ z : Int32, z = z5 + 1 := ⟨_, rfl⟩
      have h := h y7 ey7
      refine lv_iinc (v := y7) (lv' := [(5, .int y7), (4, .int z3), (3, .int y6), (6, .int z3), (0, .ref mh), (2, .int x2)]) C.1 C.2.1 dX10_turnedTo_41 hl (k := 3) rfl (by rw [ey7]; rfl) (by decide) rfl (fun ls hl => ?_)
      refine lv_goto (tgt := 18) C.1 C.2.1 dX10_turnedTo_44 (by decide) ?_
      exact ih _ _ _ h _ _ hG ls (lv_sub hl [0, 1, 2, 4, 5] rfl)

set_option maxHeartbeats 4000000 in
set_option maxRecDepth 100000 in
theorem soX10_turnedTo (l : Launch) (G : fw_G) (mh : Nat) (ad : Nat → Nat) (iv : fw_F) (ar : fw_R) (x1 : Int32) (x2 : Int32) (Q : Int32 → Prop)  (h : wpX10_turnedTo iv ar x1 x2 Q) : fw_M l G (mw G mh ad) yX10_turnedTo wsX10_turnedTo rmX10_turnedTo [.ref mh, .int x1, .int x2] iv ar (fw_Qi G (mw G mh ad) (fun r iv1 ar1 => Q r ∧ iv = iv1 ∧ ar = ar1)) := by
  refine fw_start (cc := cX10_turnedTo) (nL := 7) (rt := (some .int)) (by decide) rfl (Nat.le_of_ble_eq_true rfl) ?_
  intro p e s m below meth c A ls H locs C hK hG hl
  obtain ⟨args, ea⟩ : ∃ z : Array Value, z = ([.ref mh, .int x1, .int x2] : List Value).toArray := ⟨_, rfl⟩
  rw [← ea] at C ⊢
  have C : fw_C p s m args meth c cX10_turnedTo 7 (some .int) wsX10_turnedTo RX10 := C
  have hl : lv_has ls 7 [(0, .ref mh), (1, .int x1), (2, .int x2)] := hl
  unfold wpX10_turnedTo at h
  have in_X10 : ∀ x ∈ wsX100, x ∈ wsX10_turnedTo := by decide +kernel
  have k185 := C.2.2.2.2.1 (.fieldLink RX10 185 "KnifeBoardModel" "wide" "I") (by decide +kernel)
  have k37 := C.2.2.2.2.1 (.fieldLink RX10 37 "KnifeBoardModel" "wood" "[I") (by decide +kernel)
  refine lv_iload_n C.1 C.2.1 dX10_turnedTo_0 rfl (lv_at hl 1 rfl) ?_
  refine lv_aload_n C.1 C.2.1 dX10_turnedTo_1 rfl (lv_at hl 0 rfl) ?_
  refine fw_get (w := (mw G mh ad)) C in_X10 hK hG 0 mw_o rfl 17 (by decide) k185 rfl rfl dX10_turnedTo_2 ?_
  obtain ⟨c1, h⟩ := h
  refine lv_idiv C.1 C.2.1 dX10_turnedTo_5 c1 ?_
  refine lv_topi (fun y2 ey2 => ?_)
  have h := h y2 ey2
  refine lv_istore_n (lv' := [(3, .int y2), (0, .ref mh), (1, .int x1), (2, .int x2)]) C.1 C.2.1 dX10_turnedTo_6 rfl hl (by decide) rfl (fun ls hl => ?_)
  refine lv_iload_n C.1 C.2.1 dX10_turnedTo_7 rfl (lv_at hl 2 rfl) ?_
  refine lv_aload_n C.1 C.2.1 dX10_turnedTo_8 rfl (lv_at hl 1 rfl) ?_
  refine fw_get (w := (mw G mh ad)) C in_X10 hK hG 0 mw_o rfl 17 (by decide) k185 rfl rfl dX10_turnedTo_9 ?_
  obtain ⟨c3, h⟩ := h
  refine lv_irem C.1 C.2.1 dX10_turnedTo_12 c3 ?_
  refine lv_topi (fun y4 ey4 => ?_)
  have h := h y4 ey4
  refine lv_istore (lv' := [(4, .int y4), (3, .int y2), (0, .ref mh), (1, .int x1), (2, .int x2)]) C.1 C.2.1 dX10_turnedTo_13 hl (by decide) rfl (fun ls hl => ?_)
  refine lv_iconst (v := 0) C.1 C.2.1 dX10_turnedTo_15 (by decide) ?_
  refine lv_istore (lv' := [(5, .int 0), (4, .int y4), (3, .int y2), (0, .ref mh), (1, .int x1), (2, .int x2)]) C.1 C.2.1 dX10_turnedTo_16 hl (by decide) rfl (fun ls hl => ?_)
  obtain ⟨ku, h⟩ := h
  refine soX10_turnedTo_L18 C hK  ?_ ku _ _ _ h _ _ hG ls (lv_sub hl [0, 1, 2, 3, 5] rfl)
  intro w8 w9 w10 h H locs hG ls hl
  refine lv_aload_n C.1 C.2.1 dX10_turnedTo_47 rfl (lv_at hl 3 rfl) ?_
  refine fw_get (w := (mw G mh ad)) C in_X10 hK hG 0 mw_o rfl 18 (by decide) k37 rfl rfl dX10_turnedTo_48 ?_
  refine lv_aload_n C.1 C.2.1 dX10_turnedTo_51 rfl (lv_at hl 3 rfl) ?_
  refine fw_get (w := (mw G mh ad)) C in_X10 hK hG 0 mw_o rfl 17 (by decide) k185 rfl rfl dX10_turnedTo_52 ?_
  refine lv_iload_n C.1 C.2.1 dX10_turnedTo_55 rfl (lv_at hl 2 rfl) ?_
  refine lv_imul C.1 C.2.1 dX10_turnedTo_56 ?_
  refine lv_iload C.1 C.2.1 dX10_turnedTo_57 (lv_at hl 1 rfl) ?_
  refine lv_iadd C.1 C.2.1 dX10_turnedTo_59 ?_
  obtain ⟨c11, h⟩ := h
  refine fw_iald (w := (mw G mh ad)) C hK hG 10 mw_a18 c11 dX10_turnedTo_60 ?_
  exact fw_iret C hG ⟨h, rfl, rfl⟩ dX10_turnedTo_61
/-! KnifeBoardModel.turned(III)I -/
def rmX10_turned : Room := { frames := 2, cells := 0, slots := 0, locals := 42 }
def wpX10_turned (iv : fw_F) (ar : fw_R) (x1 : Int32) (x2 : Int32) (x3 : Int32) (Q : Int32 → Prop) : Prop := wpX10_isCell iv ar x1 (fun (r1 : Int32) => (¬ r1 = 0 → (wpX10_isTicks x2 (fun (r3 : Int32) => (r3 = 0 → (Q (-2))) ∧ (¬ r3 = 0 → (wpX10_within x3 0 99999 (fun (r5 : Int32) => (¬ r5 = 0 → (wpX10_isWheel iv ar  (fun (r7 : Int32) => (r7 = 0 → (Q (-3))) ∧ (¬ r7 = 0 → (¬ x2 = 0 ∧ (wpX10_turnedTo iv ar x1 ((x3 / x2) - (x3 / x2) / 4 * 4) (fun (r10 : Int32) => Q r10))))))) ∧ (r5 = 0 → (Q (-2))))))))) ∧ (r1 = 0 → (Q (-1))))
set_option maxHeartbeats 4000000 in
set_option maxRecDepth 100000 in
theorem soX10_turned (l : Launch) (G : fw_G) (mh : Nat) (ad : Nat → Nat) (iv : fw_F) (ar : fw_R) (x1 : Int32) (x2 : Int32) (x3 : Int32) (Q : Int32 → Prop)  (h : wpX10_turned iv ar x1 x2 x3 Q) : fw_M l G (mw G mh ad) yX10_turned wsX10_turned rmX10_turned [.ref mh, .int x1, .int x2, .int x3] iv ar (fw_Qi G (mw G mh ad) (fun r iv1 ar1 => Q r ∧ iv = iv1 ∧ ar = ar1)) := by
  refine fw_start (cc := cX10_turned) (nL := 4) (rt := (some .int)) (by decide) rfl (Nat.le_of_ble_eq_true rfl) ?_
  intro p e s m below meth c A ls H locs C hK hG hl
  obtain ⟨args, ea⟩ : ∃ z : Array Value, z = ([.ref mh, .int x1, .int x2, .int x3] : List Value).toArray := ⟨_, rfl⟩
  rw [← ea] at C ⊢
  have C : fw_C p s m args meth c cX10_turned 4 (some .int) wsX10_turned RX10 := C
  have hl : lv_has ls 4 [(0, .ref mh), (1, .int x1), (2, .int x2), (3, .int x3)] := hl
  unfold wpX10_turned at h
  have k261 := C.2.2.2.2.1 (.constant RX10 261 99999) (by decide +kernel)
  refine lv_aload_n C.1 C.2.1 dX10_turned_0 rfl (lv_at hl 0 rfl) ?_
  refine lv_iload_n C.1 C.2.1 dX10_turned_1 rfl (lv_at hl 1 rfl) ?_
  refine fw_rcalli (va_runV (As := [.int x1]) (rest := []) ⟨C.1, C.2.1, C.2.2.2.2.2.2, C.2.2.2.2.2.1, C.2.2.2.2.1⟩ (soX10_isCell l G mh ad iv ar x1 _  h H.size) (cwV 1 C.2.2.2.2.1 gX10_turned_X10_isCell rfl rfl rfl (by decide +kernel) ⟨Nat.le_of_ble_eq_true rfl, Nat.le_of_ble_eq_true rfl⟩) (fw_preV hG hK (ci := 10) rfl mw_o) rfl rfl hl.1 rfl (lv_room (Nat.le_of_ble_eq_true rfl)) dX10_turned_2 ⟨Nat.zero_le _, Nat.zero_le _⟩) hG hK (fun r1  H locs h hG => ?_)
  refine lv_if_ne (tgt := 10) C.1 C.2.1 dX10_turned_5 (by decide) (fun c2 => ?_) (fun c2 => ?_)
  · have h := h.1 c2
    refine lv_iload_n C.1 C.2.1 dX10_turned_10 rfl (lv_at hl 2 rfl) ?_
    refine fw_pcalli (va_runS (As := [.int x2]) (rest := []) ⟨C.1, C.2.1, C.2.2.2.2.2.2, C.2.2.2.2.2.1, C.2.2.2.2.1⟩ (soX10_isTicks l x2 _ h H.size) (va_cwS 1 C.2.2.2.2.1 gX10_turned_X10_isTicks rfl rfl rfl (by decide +kernel) ⟨Nat.le_of_ble_eq_true rfl, Nat.le_of_ble_eq_true rfl⟩) fw_ppre rfl rfl hl.1 rfl (lv_room (Nat.le_of_ble_eq_true rfl)) dX10_turned_11 ⟨Nat.zero_le _, Nat.zero_le _⟩) hG hK (fun r3  H locs h hG => ?_)
    refine lv_if_eq (tgt := 28) C.1 C.2.1 dX10_turned_14 (by decide) (fun c4 => ?_) (fun c4 => ?_)
    · have h := h.1 c4
      refine lv_bipush (v := (-2)) C.1 C.2.1 dX10_turned_28 (by decide) ?_
      exact fw_iret C hG ⟨h, rfl, rfl⟩ dX10_turned_30
    · have h := h.2 c4
      refine lv_iload_n C.1 C.2.1 dX10_turned_17 rfl (lv_at hl 3 rfl) ?_
      refine lv_iconst (v := 0) C.1 C.2.1 dX10_turned_18 (by decide) ?_
      refine lv_ldcw C.1 C.2.1 C.2.2.2.2.2.1 k261 dX10_turned_19 ?_
      refine fw_pcalli (va_runS (As := [.int x3, .int 0, .int 99999]) (rest := []) ⟨C.1, C.2.1, C.2.2.2.2.2.2, C.2.2.2.2.2.1, C.2.2.2.2.1⟩ (soX10_within l x3 0 99999 _ h H.size) (va_cwS 3 C.2.2.2.2.1 gX10_turned_X10_within rfl rfl rfl (by decide +kernel) ⟨Nat.le_of_ble_eq_true rfl, Nat.le_of_ble_eq_true rfl⟩) fw_ppre rfl rfl hl.1 rfl (lv_room (Nat.le_of_ble_eq_true rfl)) dX10_turned_22 ⟨Nat.zero_le _, Nat.zero_le _⟩) hG hK (fun r5  H locs h hG => ?_)
      refine lv_if_ne (tgt := 31) C.1 C.2.1 dX10_turned_25 (by decide) (fun c6 => ?_) (fun c6 => ?_)
      · have h := h.1 c6
        refine lv_aload_n C.1 C.2.1 dX10_turned_31 rfl (lv_at hl 0 rfl) ?_
        refine fw_rcalli (va_runV (As := []) (rest := []) ⟨C.1, C.2.1, C.2.2.2.2.2.2, C.2.2.2.2.2.1, C.2.2.2.2.1⟩ (soX10_isWheel l G mh ad iv ar  _  h H.size) (cwV 0 C.2.2.2.2.1 gX10_turned_X10_isWheel rfl rfl rfl (by decide +kernel) ⟨Nat.le_of_ble_eq_true rfl, Nat.le_of_ble_eq_true rfl⟩) (fw_preV hG hK (ci := 10) rfl mw_o) rfl rfl hl.1 rfl (lv_room (Nat.le_of_ble_eq_true rfl)) dX10_turned_32 ⟨Nat.zero_le _, Nat.zero_le _⟩) hG hK (fun r7  H locs h hG => ?_)
        refine lv_if_eq (tgt := 51) C.1 C.2.1 dX10_turned_35 (by decide) (fun c8 => ?_) (fun c8 => ?_)
        · have h := h.1 c8
          refine lv_bipush (v := (-3)) C.1 C.2.1 dX10_turned_51 (by decide) ?_
          exact fw_iret C hG ⟨h, rfl, rfl⟩ dX10_turned_53
        · have h := h.2 c8
          refine lv_aload_n C.1 C.2.1 dX10_turned_38 rfl (lv_at hl 0 rfl) ?_
          refine lv_iload_n C.1 C.2.1 dX10_turned_39 rfl (lv_at hl 1 rfl) ?_
          refine lv_iload_n C.1 C.2.1 dX10_turned_40 rfl (lv_at hl 3 rfl) ?_
          refine lv_iload_n C.1 C.2.1 dX10_turned_41 rfl (lv_at hl 2 rfl) ?_
          obtain ⟨c9, h⟩ := h
          refine lv_idiv C.1 C.2.1 dX10_turned_42 c9 ?_
          refine lv_iconst (v := 4) C.1 C.2.1 dX10_turned_43 (by decide) ?_
          refine lv_irem C.1 C.2.1 dX10_turned_44 (by decide) ?_
          refine fw_rcalli (va_runV (As := [.int x1, .int ((x3 / x2) - (x3 / x2) / 4 * 4)]) (rest := []) ⟨C.1, C.2.1, C.2.2.2.2.2.2, C.2.2.2.2.2.1, C.2.2.2.2.1⟩ (soX10_turnedTo l G mh ad iv ar x1 ((x3 / x2) - (x3 / x2) / 4 * 4) _  h H.size) (cwV 2 C.2.2.2.2.1 gX10_turned_X10_turnedTo rfl rfl rfl (by decide +kernel) ⟨Nat.le_of_ble_eq_true rfl, Nat.le_of_ble_eq_true rfl⟩) (fw_preV hG hK (ci := 10) rfl mw_o) rfl rfl hl.1 rfl (lv_room (Nat.le_of_ble_eq_true rfl)) dX10_turned_45 ⟨Nat.zero_le _, Nat.zero_le _⟩) hG hK (fun r10  H locs h hG => ?_)
          refine lv_goto (tgt := 53) C.1 C.2.1 dX10_turned_48 (by decide) ?_
          exact fw_iret C hG ⟨h, rfl, rfl⟩ dX10_turned_53
      · have h := h.2 c6
        refine lv_bipush (v := (-2)) C.1 C.2.1 dX10_turned_28 (by decide) ?_
        exact fw_iret C hG ⟨h, rfl, rfl⟩ dX10_turned_30
  · have h := h.2 c2
    refine lv_iconst (v := (-1)) C.1 C.2.1 dX10_turned_8 (by decide) ?_
    exact fw_iret C hG ⟨h, rfl, rfl⟩ dX10_turned_9
/-! KnifeBoardModel.when(IIIIIIII)I -/
def rmX10_when : Room := { frames := 4, cells := 0, slots := 0, locals := 100 }
def wpX10_when_L140 (x1 : Int32) (x2 : Int32) (x3 : Int32) (x4 : Int32) (x5 : Int32) (x6 : Int32) (x7 : Int32) (x8 : Int32) (y25 : Int32) (z10 : Int32) (y23 : Int32) (Q : Int32 → fw_F → fw_R → Prop) (K : Int32 → fw_F → fw_R → Prop) : Nat → Int32 → fw_F → fw_R → Prop
  | 0, _, _, _ => False
  | fu + 1, z12, iv, ar => (((iv 16) * (iv 17)) ≤ z12 → (K z12 iv ar)) ∧ (¬ ((iv 16) * (iv 17)) ≤ z12 → (¬ x4 = 0 ∧ (wpX10_turnedTo iv ar z12 ((y25 / x4) - (y25 / x4) / 4 * 4) (fun (r28 : Int32) => vp_in z12 36 ∧ (∀ ar30 : fw_R, ar30 = va_up ar 22 (upd (ar 22) z12.toNatClampNeg r28) → (∀ y31 : Int32, y31 = z12 + 1 → (wpX10_when_L140 x1 x2 x3 x4 x5 x6 x7 x8 y25 z10 y23 Q K fu y31 iv ar30)))))))
def wpX10_when_L119 (x1 : Int32) (x2 : Int32) (x3 : Int32) (x4 : Int32) (x5 : Int32) (x6 : Int32) (x7 : Int32) (x8 : Int32) (y23 : Int32) (Q : Int32 → fw_F → fw_R → Prop) (K : Int32 → fw_F → fw_R → Prop) : Nat → Int32 → fw_F → fw_R → Prop
  | 0, _, _, _ => False
  | fu + 1, z10, iv, ar => ((x8 + 1000) < z10 → (K z10 iv ar)) ∧ (¬ (x8 + 1000) < z10 → (∀ y25 : Int32, y25 = z10 + y23 → (∃ ku : Nat, wpX10_when_L140 x1 x2 x3 x4 x5 x6 x7 x8 y25 z10 y23 Q (fun (w32 : Int32) (iv33 : fw_F) (ar34 : fw_R) => ¬ x5 = 0 ∧ ((x6 ≤ (y25 - y25 / x5 * x5) → (wpX10_isLow iv33 ar34 x3 0 0 x7 (fun (r37 : Int32) => (r37 = 0 → (∀ y39 : Int32, y39 = z10 + 1 → (wpX10_when_L119 x1 x2 x3 x4 x5 x6 x7 x8 y23 Q K fu y39 iv33 ar34))) ∧ (¬ r37 = 0 → (Q z10 iv33 ar34))))) ∧ (¬ x6 ≤ (y25 - y25 / x5 * x5) → (wpX10_isLow iv33 ar34 x3 0 1 x7 (fun (r40 : Int32) => (r40 = 0 → (∀ y42 : Int32, y42 = z10 + 1 → (wpX10_when_L119 x1 x2 x3 x4 x5 x6 x7 x8 y23 Q K fu y42 iv33 ar34))) ∧ (¬ r40 = 0 → (Q z10 iv33 ar34))))))) ku 0 iv ar)))
def wpX10_when (iv : fw_F) (ar : fw_R) (x1 : Int32) (x2 : Int32) (x3 : Int32) (x4 : Int32) (x5 : Int32) (x6 : Int32) (x7 : Int32) (x8 : Int32) (Q : Int32 → fw_F → fw_R → Prop) : Prop := wpX10_isKnife iv ar x1 (fun (r1 : Int32) => (r1 = 0 → (Q (-1) iv ar)) ∧ (¬ r1 = 0 → (wpX10_isCell iv ar x3 (fun (r3 : Int32) => (¬ r3 = 0 → (wpX10_isFeet x2 (fun (r5 : Int32) => (r5 = 0 → (Q (-2) iv ar)) ∧ (¬ r5 = 0 → (wpX10_isTicks x4 (fun (r7 : Int32) => (r7 = 0 → (Q (-2) iv ar)) ∧ (¬ r7 = 0 → (wpX10_isTicks x5 (fun (r9 : Int32) => (r9 = 0 → (Q (-2) iv ar)) ∧ (¬ r9 = 0 → (wpX10_within x6 0 x5 (fun (r11 : Int32) => (r11 = 0 → (Q (-2) iv ar)) ∧ (¬ r11 = 0 → (wpX10_within x7 0 1000 (fun (r13 : Int32) => (r13 = 0 → (Q (-2) iv ar)) ∧ (¬ r13 = 0 → (wpX10_within x8 0 9999 (fun (r15 : Int32) => (¬ r15 = 0 → (((iv 10) = 0 → (Q (-3) iv ar)) ∧ (¬ (iv 10) = 0 → (wpX10_isWheel iv ar  (fun (r18 : Int32) => (¬ r18 = 0 → (vp_in x1 6 ∧ (vp_in x1 6 ∧ (¬ ((ar 7) x1.toNatClampNeg) = 0 ∧ (∀ y23 : Int32, y23 = ((x2 + ((ar 7) x1.toNatClampNeg)) - 1) / ((ar 7) x1.toNatClampNeg) → (∃ ku : Nat, wpX10_when_L119 x1 x2 x3 x4 x5 x6 x7 x8 y23 Q (fun (w43 : Int32) (iv44 : fw_F) (ar45 : fw_R) => Q (-9) iv44 ar45) ku x8 iv ar)))))) ∧ (r18 = 0 → (Q (-3) iv ar))))))) ∧ (r15 = 0 → (Q (-2) iv ar)))))))))))))))))))) ∧ (r3 = 0 → (Q (-1) iv ar))))))
set_option maxHeartbeats 4000000 in
set_option maxRecDepth 100000 in
theorem soX10_when_L140 {p : Program} {l : Launch} {e : Env} {s : State} {m : MethodId} {args : Array Value} {below : List Frame} {meth : Method} {c : Code} {A : Nat → Prop} {G : fw_G} {mh : Nat} {ad : Nat → Nat} {x1 : Int32} {x2 : Int32} {x3 : Int32} {x4 : Int32} {x5 : Int32} {x6 : Int32} {x7 : Int32} {x8 : Int32} {y25 : Int32} {z10 : Int32} {y23 : Int32} {Q : Int32 → fw_F → fw_R → Prop} {K : Int32 → fw_F → fw_R → Prop} (C : fw_C p s m args meth c cX10_when 13 (some .int) wsX10_when RX10) (hK : fw_K G A s)  (hX : ∀ (z12 : Int32) (iv : fw_F) (ar : fw_R), K z12 iv ar → ∀ (H : Heap) (locs : List Loc), fw_H G ((mw G mh ad) iv ar) A s H locs → ∀ (ls : Array Slot), lv_has ls 13 [(12, .int z12), (11, .int y25), (10, .int z10), (9, .int y23), (0, .ref mh), (3, .int x3), (4, .int x4), (5, .int x5), (6, .int x6), (7, .int x7), (8, .int x8)] → W p l e rmX10_when s m args below meth c H locs 0 0 (MQ below (fw_Qi G (mw G mh ad) Q A) args s 0 0 A) (F0 m 180 ls [])) : ∀ (fu : Nat) (z12 : Int32) (iv : fw_F) (ar : fw_R), wpX10_when_L140 x1 x2 x3 x4 x5 x6 x7 x8 y25 z10 y23 Q K fu z12 iv ar → ∀ (H : Heap) (locs : List Loc), fw_H G ((mw G mh ad) iv ar) A s H locs → ∀ (ls : Array Slot), lv_has ls 13 [(12, .int z12), (11, .int y25), (10, .int z10), (9, .int y23), (0, .ref mh), (3, .int x3), (4, .int x4), (5, .int x5), (6, .int x6), (7, .int x7), (8, .int x8)] → W p l e rmX10_when s m args below meth c H locs 0 0 (MQ below (fw_Qi G (mw G mh ad) Q A) args s 0 0 A) (F0 m 140 ls []) := by
  intro fu
  have in_X10 : ∀ x ∈ wsX100, x ∈ wsX10_when := by decide +kernel
  have k182 := C.2.2.2.2.1 (.fieldLink RX10 182 "KnifeBoardModel" "high" "I") (by decide +kernel)
  have k185 := C.2.2.2.2.1 (.fieldLink RX10 185 "KnifeBoardModel" "wide" "I") (by decide +kernel)
  have k43 := C.2.2.2.2.1 (.fieldLink RX10 43 "KnifeBoardModel" "seen" "[I") (by decide +kernel)
  induction fu with
  | zero => intro z12 iv ar h; exact h.elim
  | succ fu ih =>
    intro z12 iv ar h H locs hG ls hl
    unfold wpX10_when_L140 at h
    refine lv_iload C.1 C.2.1 dX10_when_140 (lv_at hl 0 rfl) ?_
    refine lv_aload_n C.1 C.2.1 dX10_when_142 rfl (lv_at hl 4 rfl) ?_
    refine fw_get (w := (mw G mh ad)) C in_X10 hK hG 0 mw_o rfl 16 (by decide) k182 rfl rfl dX10_when_143 ?_
    refine lv_aload_n C.1 C.2.1 dX10_when_146 rfl (lv_at hl 4 rfl) ?_
    refine fw_get (w := (mw G mh ad)) C in_X10 hK hG 0 mw_o rfl 17 (by decide) k185 rfl rfl dX10_when_147 ?_
    refine lv_imul C.1 C.2.1 dX10_when_150 ?_
    refine lv_icmp_ge (tgt := 180) C.1 C.2.1 dX10_when_151 (by decide) (fun c26 => ?_) (fun c26 => ?_)
    · have h := h.1 c26
      exact hX _ _ _ h _ _ hG ls (lv_sub hl [0, 1, 2, 3, 4, 5, 6, 7, 8, 9, 10] rfl)
    · have h := h.2 c26
      refine lv_aload_n C.1 C.2.1 dX10_when_154 rfl (lv_at hl 4 rfl) ?_
      refine fw_get (w := (mw G mh ad)) C in_X10 hK hG 0 mw_o rfl 22 (by decide) k43 rfl rfl dX10_when_155 ?_
      refine lv_iload C.1 C.2.1 dX10_when_158 (lv_at hl 0 rfl) ?_
      refine lv_aload_n C.1 C.2.1 dX10_when_160 rfl (lv_at hl 4 rfl) ?_
      refine lv_iload C.1 C.2.1 dX10_when_161 (lv_at hl 0 rfl) ?_
      refine lv_iload C.1 C.2.1 dX10_when_163 (lv_at hl 1 rfl) ?_
      refine lv_iload C.1 C.2.1 dX10_when_165 (lv_at hl 6 rfl) ?_
      obtain ⟨c27, h⟩ := h
      refine lv_idiv C.1 C.2.1 dX10_when_167 c27 ?_
      refine lv_iconst (v := 4) C.1 C.2.1 dX10_when_168 (by decide) ?_
      refine lv_irem C.1 C.2.1 dX10_when_169 (by decide) ?_
      refine fw_rcalli (va_runV (As := [.int z12, .int ((y25 / x4) - (y25 / x4) / 4 * 4)]) (rest := [.int z12, .ref (ad 22)]) ⟨C.1, C.2.1, C.2.2.2.2.2.2, C.2.2.2.2.2.1, C.2.2.2.2.1⟩ (soX10_turnedTo l G mh ad iv ar z12 ((y25 / x4) - (y25 / x4) / 4 * 4) _  h H.size) (cwV 2 C.2.2.2.2.1 gX10_when_X10_turnedTo rfl rfl rfl (by decide +kernel) ⟨Nat.le_of_ble_eq_true rfl, Nat.le_of_ble_eq_true rfl⟩) (fw_preV hG hK (ci := 10) rfl mw_o) rfl rfl hl.1 rfl (lv_room (Nat.le_of_ble_eq_true rfl)) dX10_when_170 ⟨Nat.zero_le _, Nat.zero_le _⟩) hG hK (fun r28  H locs h hG => ?_)
      obtain ⟨c29, h⟩ := h
      obtain ⟨ar30, ear30⟩ : ∃ z : fw_R, z = va_up ar 22 (upd (ar 22) z12.toNatClampNeg r28) := ⟨_, rfl⟩
      have h := h ar30 ear30
      refine fw_iast (w := (mw G mh ad)) C hK hG 12 mw_a22 c29 (ar1 := ar30) (by rw [ear30]; exact mw_s22) dX10_when_173 (fun H locs hG => ?_)
      obtain ⟨y31, ey31⟩ : ∃ z : Int32, z = z12 + 1 := ⟨_, rfl⟩
      have h := h y31 ey31
      refine lv_iinc (v := y31) (lv' := [(12, .int y31), (11, .int y25), (10, .int z10), (9, .int y23), (0, .ref mh), (3, .int x3), (4, .int x4), (5, .int x5), (6, .int x6), (7, .int x7), (8, .int x8)]) C.1 C.2.1 dX10_when_174 hl (k := 0) rfl (by rw [ey31]; rfl) (by decide) rfl (fun ls hl => ?_)
      refine lv_goto (tgt := 140) C.1 C.2.1 dX10_when_177 (by decide) ?_
      exact ih _ _ _ h _ _ hG ls (lv_sub hl [0, 1, 2, 3, 4, 5, 6, 7, 8, 9, 10] rfl)

set_option maxHeartbeats 4000000 in
set_option maxRecDepth 100000 in
theorem soX10_when_L119 {p : Program} {l : Launch} {e : Env} {s : State} {m : MethodId} {args : Array Value} {below : List Frame} {meth : Method} {c : Code} {A : Nat → Prop} {G : fw_G} {mh : Nat} {ad : Nat → Nat} {x1 : Int32} {x2 : Int32} {x3 : Int32} {x4 : Int32} {x5 : Int32} {x6 : Int32} {x7 : Int32} {x8 : Int32} {y23 : Int32} {Q : Int32 → fw_F → fw_R → Prop} {K : Int32 → fw_F → fw_R → Prop} (C : fw_C p s m args meth c cX10_when 13 (some .int) wsX10_when RX10) (hK : fw_K G A s)  (hX : ∀ (z10 : Int32) (iv : fw_F) (ar : fw_R), K z10 iv ar → ∀ (H : Heap) (locs : List Loc), fw_H G ((mw G mh ad) iv ar) A s H locs → ∀ (ls : Array Slot), lv_has ls 13 [(10, .int z10), (9, .int y23), (0, .ref mh), (3, .int x3), (4, .int x4), (5, .int x5), (6, .int x6), (7, .int x7), (8, .int x8)] → W p l e rmX10_when s m args below meth c H locs 0 0 (MQ below (fw_Qi G (mw G mh ad) Q A) args s 0 0 A) (F0 m 215 ls [])) : ∀ (fu : Nat) (z10 : Int32) (iv : fw_F) (ar : fw_R), wpX10_when_L119 x1 x2 x3 x4 x5 x6 x7 x8 y23 Q K fu z10 iv ar → ∀ (H : Heap) (locs : List Loc), fw_H G ((mw G mh ad) iv ar) A s H locs → ∀ (ls : Array Slot), lv_has ls 13 [(10, .int z10), (9, .int y23), (0, .ref mh), (3, .int x3), (4, .int x4), (5, .int x5), (6, .int x6), (7, .int x7), (8, .int x8)] → W p l e rmX10_when s m args below meth c H locs 0 0 (MQ below (fw_Qi G (mw G mh ad) Q A) args s 0 0 A) (F0 m 119 ls []) := by
  intro fu
  induction fu with
  | zero => intro z10 iv ar h; exact h.elim
  | succ fu ih =>
    intro z10 iv ar h H locs hG ls hl
    unfold wpX10_when_L119 at h
    refine lv_iload C.1 C.2.1 dX10_when_119 (lv_at hl 0 rfl) ?_
    refine lv_iload C.1 C.2.1 dX10_when_121 (lv_at hl 8 rfl) ?_
    refine lv_sipush (v := 1000) C.1 C.2.1 dX10_when_123 (by decide) ?_
    refine lv_iadd C.1 C.2.1 dX10_when_126 ?_
    refine lv_icmp_gt (tgt := 215) C.1 C.2.1 dX10_when_127 (by decide) (fun c24 => ?_) (fun c24 => ?_)
    · have h := h.1 c24
      exact hX _ _ _ h _ _ hG ls (lv_sub hl [0, 1, 2, 3, 4, 5, 6, 7, 8] rfl)
    · have h := h.2 c24
      refine lv_iload C.1 C.2.1 dX10_when_130 (lv_at hl 0 rfl) ?_
      refine lv_iload C.1 C.2.1 dX10_when_132 (lv_at hl 1 rfl) ?_
      refine lv_iadd C.1 C.2.1 dX10_when_134 ?_
      refine lv_topi (fun y25 ey25 => ?_)
      have h := h y25 ey25
      refine lv_istore (lv' := [(11, .int y25), (10, .int z10), (9, .int y23), (0, .ref mh), (3, .int x3), (4, .int x4), (5, .int x5), (6, .int x6), (7, .int x7), (8, .int x8)]) C.1 C.2.1 dX10_when_135 hl (by decide) rfl (fun ls hl => ?_)
      refine lv_iconst (v := 0) C.1 C.2.1 dX10_when_137 (by decide) ?_
      refine lv_istore (lv' := [(12, .int 0), (11, .int y25), (10, .int z10), (9, .int y23), (0, .ref mh), (3, .int x3), (4, .int x4), (5, .int x5), (6, .int x6), (7, .int x7), (8, .int x8)]) C.1 C.2.1 dX10_when_138 hl (by decide) rfl (fun ls hl => ?_)
      obtain ⟨ku, h⟩ := h
      refine soX10_when_L140 C hK  ?_ ku _ _ _ h _ _ hG ls (lv_sub hl [0, 1, 2, 3, 4, 5, 6, 7, 8, 9, 10] rfl)
      intro w32 iv33 ar34 h H locs hG ls hl
      refine lv_aload_n C.1 C.2.1 dX10_when_180 rfl (lv_at hl 4 rfl) ?_
      refine lv_iload_n C.1 C.2.1 dX10_when_181 rfl (lv_at hl 5 rfl) ?_
      refine lv_iconst (v := 0) C.1 C.2.1 dX10_when_182 (by decide) ?_
      refine lv_iload C.1 C.2.1 dX10_when_183 (lv_at hl 1 rfl) ?_
      refine lv_iload C.1 C.2.1 dX10_when_185 (lv_at hl 7 rfl) ?_
      obtain ⟨c35, h⟩ := h
      refine lv_irem C.1 C.2.1 dX10_when_187 c35 ?_
      refine lv_iload C.1 C.2.1 dX10_when_188 (lv_at hl 8 rfl) ?_
      refine lv_icmp_ge (tgt := 197) C.1 C.2.1 dX10_when_190 (by decide) (fun c36 => ?_) (fun c36 => ?_)
      · have h := h.1 c36
        refine lv_iconst (v := 0) C.1 C.2.1 dX10_when_197 (by decide) ?_
        refine lv_iload C.1 C.2.1 dX10_when_198 (lv_at hl 9 rfl) ?_
        refine fw_rcalli (va_runV (As := [.int x3, .int 0, .int 0, .int x7]) (rest := []) ⟨C.1, C.2.1, C.2.2.2.2.2.2, C.2.2.2.2.2.1, C.2.2.2.2.1⟩ (soX10_isLow l G mh ad iv33 ar34 x3 0 0 x7 _  h H.size) (cwV 4 C.2.2.2.2.1 gX10_when_X10_isLow rfl rfl rfl (by decide +kernel) ⟨Nat.le_of_ble_eq_true rfl, Nat.le_of_ble_eq_true rfl⟩) (fw_preV hG hK (ci := 10) rfl mw_o) rfl rfl hl.1 rfl (lv_room (Nat.le_of_ble_eq_true rfl)) dX10_when_200 ⟨Nat.zero_le _, Nat.zero_le _⟩) hG hK (fun r37  H locs h hG => ?_)
        refine lv_if_eq (tgt := 209) C.1 C.2.1 dX10_when_203 (by decide) (fun c38 => ?_) (fun c38 => ?_)
        · have h := h.1 c38
          obtain ⟨y39, ey39⟩ : ∃ z : Int32, z = z10 + 1 := ⟨_, rfl⟩
          have h := h y39 ey39
          refine lv_iinc (v := y39) (lv' := [(10, .int y39), (12, .int w32), (11, .int y25), (9, .int y23), (0, .ref mh), (3, .int x3), (4, .int x4), (5, .int x5), (6, .int x6), (7, .int x7), (8, .int x8)]) C.1 C.2.1 dX10_when_209 hl (k := 2) rfl (by rw [ey39]; rfl) (by decide) rfl (fun ls hl => ?_)
          refine lv_goto (tgt := 119) C.1 C.2.1 dX10_when_212 (by decide) ?_
          exact ih _ _ _ h _ _ hG ls (lv_sub hl [0, 3, 4, 5, 6, 7, 8, 9, 10] rfl)
        · have h := h.2 c38
          refine lv_iload C.1 C.2.1 dX10_when_206 (lv_at hl 2 rfl) ?_
          exact fw_iret C hG h dX10_when_208
      · have h := h.2 c36
        refine lv_iconst (v := 1) C.1 C.2.1 dX10_when_193 (by decide) ?_
        refine lv_goto (tgt := 198) C.1 C.2.1 dX10_when_194 (by decide) ?_
        refine lv_iload C.1 C.2.1 dX10_when_198 (lv_at hl 9 rfl) ?_
        refine fw_rcalli (va_runV (As := [.int x3, .int 0, .int 1, .int x7]) (rest := []) ⟨C.1, C.2.1, C.2.2.2.2.2.2, C.2.2.2.2.2.1, C.2.2.2.2.1⟩ (soX10_isLow l G mh ad iv33 ar34 x3 0 1 x7 _  h H.size) (cwV 4 C.2.2.2.2.1 gX10_when_X10_isLow rfl rfl rfl (by decide +kernel) ⟨Nat.le_of_ble_eq_true rfl, Nat.le_of_ble_eq_true rfl⟩) (fw_preV hG hK (ci := 10) rfl mw_o) rfl rfl hl.1 rfl (lv_room (Nat.le_of_ble_eq_true rfl)) dX10_when_200 ⟨Nat.zero_le _, Nat.zero_le _⟩) hG hK (fun r40  H locs h hG => ?_)
        refine lv_if_eq (tgt := 209) C.1 C.2.1 dX10_when_203 (by decide) (fun c41 => ?_) (fun c41 => ?_)
        · have h := h.1 c41
          obtain ⟨y42, ey42⟩ : ∃ z : Int32, z = z10 + 1 := ⟨_, rfl⟩
          have h := h y42 ey42
          refine lv_iinc (v := y42) (lv' := [(10, .int y42), (12, .int w32), (11, .int y25), (9, .int y23), (0, .ref mh), (3, .int x3), (4, .int x4), (5, .int x5), (6, .int x6), (7, .int x7), (8, .int x8)]) C.1 C.2.1 dX10_when_209 hl (k := 2) rfl (by rw [ey42]; rfl) (by decide) rfl (fun ls hl => ?_)
          refine lv_goto (tgt := 119) C.1 C.2.1 dX10_when_212 (by decide) ?_
          exact ih _ _ _ h _ _ hG ls (lv_sub hl [0, 3, 4, 5, 6, 7, 8, 9, 10] rfl)
        · have h := h.2 c41
          refine lv_iload C.1 C.2.1 dX10_when_206 (lv_at hl 2 rfl) ?_
          exact fw_iret C hG h dX10_when_208

set_option maxHeartbeats 4000000 in
set_option maxRecDepth 100000 in
theorem soX10_when (l : Launch) (G : fw_G) (mh : Nat) (ad : Nat → Nat) (iv : fw_F) (ar : fw_R) (x1 : Int32) (x2 : Int32) (x3 : Int32) (x4 : Int32) (x5 : Int32) (x6 : Int32) (x7 : Int32) (x8 : Int32) (Q : Int32 → fw_F → fw_R → Prop)  (h : wpX10_when iv ar x1 x2 x3 x4 x5 x6 x7 x8 Q) : fw_M l G (mw G mh ad) yX10_when wsX10_when rmX10_when [.ref mh, .int x1, .int x2, .int x3, .int x4, .int x5, .int x6, .int x7, .int x8] iv ar (fw_Qi G (mw G mh ad) Q) := by
  refine fw_start (cc := cX10_when) (nL := 13) (rt := (some .int)) (by decide) rfl (Nat.le_of_ble_eq_true rfl) ?_
  intro p e s m below meth c A ls H locs C hK hG hl
  obtain ⟨args, ea⟩ : ∃ z : Array Value, z = ([.ref mh, .int x1, .int x2, .int x3, .int x4, .int x5, .int x6, .int x7, .int x8] : List Value).toArray := ⟨_, rfl⟩
  rw [← ea] at C ⊢
  have C : fw_C p s m args meth c cX10_when 13 (some .int) wsX10_when RX10 := C
  have hl : lv_has ls 13 [(0, .ref mh), (1, .int x1), (2, .int x2), (3, .int x3), (4, .int x4), (5, .int x5), (6, .int x6), (7, .int x7), (8, .int x8)] := hl
  unfold wpX10_when at h
  have in_X10 : ∀ x ∈ wsX100, x ∈ wsX10_when := by decide +kernel
  have k146 := C.2.2.2.2.1 (.fieldLink RX10 146 "KnifeBoardModel" "isHand" "Z") (by decide +kernel)
  have k22 := C.2.2.2.2.1 (.fieldLink RX10 22 "KnifeBoardModel" "pace" "[I") (by decide +kernel)
  refine lv_aload_n C.1 C.2.1 dX10_when_0 rfl (lv_at hl 0 rfl) ?_
  refine lv_iload_n C.1 C.2.1 dX10_when_1 rfl (lv_at hl 1 rfl) ?_
  refine fw_rcalli (va_runV (As := [.int x1]) (rest := []) ⟨C.1, C.2.1, C.2.2.2.2.2.2, C.2.2.2.2.2.1, C.2.2.2.2.1⟩ (soX10_isKnife l G mh ad iv ar x1 _  h H.size) (cwV 1 C.2.2.2.2.1 gX10_when_X10_isKnife rfl rfl rfl (by decide +kernel) ⟨Nat.le_of_ble_eq_true rfl, Nat.le_of_ble_eq_true rfl⟩) (fw_preV hG hK (ci := 10) rfl mw_o) rfl rfl hl.1 rfl (lv_room (Nat.le_of_ble_eq_true rfl)) dX10_when_2 ⟨Nat.zero_le _, Nat.zero_le _⟩) hG hK (fun r1  H locs h hG => ?_)
  refine lv_if_eq (tgt := 16) C.1 C.2.1 dX10_when_5 (by decide) (fun c2 => ?_) (fun c2 => ?_)
  · have h := h.1 c2
    refine lv_iconst (v := (-1)) C.1 C.2.1 dX10_when_16 (by decide) ?_
    exact fw_iret C hG h dX10_when_17
  · have h := h.2 c2
    refine lv_aload_n C.1 C.2.1 dX10_when_8 rfl (lv_at hl 0 rfl) ?_
    refine lv_iload_n C.1 C.2.1 dX10_when_9 rfl (lv_at hl 3 rfl) ?_
    refine fw_rcalli (va_runV (As := [.int x3]) (rest := []) ⟨C.1, C.2.1, C.2.2.2.2.2.2, C.2.2.2.2.2.1, C.2.2.2.2.1⟩ (soX10_isCell l G mh ad iv ar x3 _  h H.size) (cwV 1 C.2.2.2.2.1 gX10_when_X10_isCell rfl rfl rfl (by decide +kernel) ⟨Nat.le_of_ble_eq_true rfl, Nat.le_of_ble_eq_true rfl⟩) (fw_preV hG hK (ci := 10) rfl mw_o) rfl rfl hl.1 rfl (lv_room (Nat.le_of_ble_eq_true rfl)) dX10_when_10 ⟨Nat.zero_le _, Nat.zero_le _⟩) hG hK (fun r3  H locs h hG => ?_)
    refine lv_if_ne (tgt := 18) C.1 C.2.1 dX10_when_13 (by decide) (fun c4 => ?_) (fun c4 => ?_)
    · have h := h.1 c4
      refine lv_iload_n C.1 C.2.1 dX10_when_18 rfl (lv_at hl 2 rfl) ?_
      refine fw_pcalli (va_runS (As := [.int x2]) (rest := []) ⟨C.1, C.2.1, C.2.2.2.2.2.2, C.2.2.2.2.2.1, C.2.2.2.2.1⟩ (soX10_isFeet l x2 _ h H.size) (va_cwS 1 C.2.2.2.2.1 gX10_when_X10_isFeet rfl rfl rfl (by decide +kernel) ⟨Nat.le_of_ble_eq_true rfl, Nat.le_of_ble_eq_true rfl⟩) fw_ppre rfl rfl hl.1 rfl (lv_room (Nat.le_of_ble_eq_true rfl)) dX10_when_19 ⟨Nat.zero_le _, Nat.zero_le _⟩) hG hK (fun r5  H locs h hG => ?_)
      refine lv_if_eq (tgt := 76) C.1 C.2.1 dX10_when_22 (by decide) (fun c6 => ?_) (fun c6 => ?_)
      · have h := h.1 c6
        refine lv_bipush (v := (-2)) C.1 C.2.1 dX10_when_76 (by decide) ?_
        exact fw_iret C hG h dX10_when_78
      · have h := h.2 c6
        refine lv_iload C.1 C.2.1 dX10_when_25 (lv_at hl 4 rfl) ?_
        refine fw_pcalli (va_runS (As := [.int x4]) (rest := []) ⟨C.1, C.2.1, C.2.2.2.2.2.2, C.2.2.2.2.2.1, C.2.2.2.2.1⟩ (soX10_isTicks l x4 _ h H.size) (va_cwS 1 C.2.2.2.2.1 gX10_when_X10_isTicks rfl rfl rfl (by decide +kernel) ⟨Nat.le_of_ble_eq_true rfl, Nat.le_of_ble_eq_true rfl⟩) fw_ppre rfl rfl hl.1 rfl (lv_room (Nat.le_of_ble_eq_true rfl)) dX10_when_27 ⟨Nat.zero_le _, Nat.zero_le _⟩) hG hK (fun r7  H locs h hG => ?_)
        refine lv_if_eq (tgt := 76) C.1 C.2.1 dX10_when_30 (by decide) (fun c8 => ?_) (fun c8 => ?_)
        · have h := h.1 c8
          refine lv_bipush (v := (-2)) C.1 C.2.1 dX10_when_76 (by decide) ?_
          exact fw_iret C hG h dX10_when_78
        · have h := h.2 c8
          refine lv_iload C.1 C.2.1 dX10_when_33 (lv_at hl 5 rfl) ?_
          refine fw_pcalli (va_runS (As := [.int x5]) (rest := []) ⟨C.1, C.2.1, C.2.2.2.2.2.2, C.2.2.2.2.2.1, C.2.2.2.2.1⟩ (soX10_isTicks l x5 _ h H.size) (va_cwS 1 C.2.2.2.2.1 gX10_when_X10_isTicks rfl rfl rfl (by decide +kernel) ⟨Nat.le_of_ble_eq_true rfl, Nat.le_of_ble_eq_true rfl⟩) fw_ppre rfl rfl hl.1 rfl (lv_room (Nat.le_of_ble_eq_true rfl)) dX10_when_35 ⟨Nat.zero_le _, Nat.zero_le _⟩) hG hK (fun r9  H locs h hG => ?_)
          refine lv_if_eq (tgt := 76) C.1 C.2.1 dX10_when_38 (by decide) (fun c10 => ?_) (fun c10 => ?_)
          · have h := h.1 c10
            refine lv_bipush (v := (-2)) C.1 C.2.1 dX10_when_76 (by decide) ?_
            exact fw_iret C hG h dX10_when_78
          · have h := h.2 c10
            refine lv_iload C.1 C.2.1 dX10_when_41 (lv_at hl 6 rfl) ?_
            refine lv_iconst (v := 0) C.1 C.2.1 dX10_when_43 (by decide) ?_
            refine lv_iload C.1 C.2.1 dX10_when_44 (lv_at hl 5 rfl) ?_
            refine fw_pcalli (va_runS (As := [.int x6, .int 0, .int x5]) (rest := []) ⟨C.1, C.2.1, C.2.2.2.2.2.2, C.2.2.2.2.2.1, C.2.2.2.2.1⟩ (soX10_within l x6 0 x5 _ h H.size) (va_cwS 3 C.2.2.2.2.1 gX10_when_X10_within rfl rfl rfl (by decide +kernel) ⟨Nat.le_of_ble_eq_true rfl, Nat.le_of_ble_eq_true rfl⟩) fw_ppre rfl rfl hl.1 rfl (lv_room (Nat.le_of_ble_eq_true rfl)) dX10_when_46 ⟨Nat.zero_le _, Nat.zero_le _⟩) hG hK (fun r11  H locs h hG => ?_)
            refine lv_if_eq (tgt := 76) C.1 C.2.1 dX10_when_49 (by decide) (fun c12 => ?_) (fun c12 => ?_)
            · have h := h.1 c12
              refine lv_bipush (v := (-2)) C.1 C.2.1 dX10_when_76 (by decide) ?_
              exact fw_iret C hG h dX10_when_78
            · have h := h.2 c12
              refine lv_iload C.1 C.2.1 dX10_when_52 (lv_at hl 7 rfl) ?_
              refine lv_iconst (v := 0) C.1 C.2.1 dX10_when_54 (by decide) ?_
              refine lv_sipush (v := 1000) C.1 C.2.1 dX10_when_55 (by decide) ?_
              refine fw_pcalli (va_runS (As := [.int x7, .int 0, .int 1000]) (rest := []) ⟨C.1, C.2.1, C.2.2.2.2.2.2, C.2.2.2.2.2.1, C.2.2.2.2.1⟩ (soX10_within l x7 0 1000 _ h H.size) (va_cwS 3 C.2.2.2.2.1 gX10_when_X10_within rfl rfl rfl (by decide +kernel) ⟨Nat.le_of_ble_eq_true rfl, Nat.le_of_ble_eq_true rfl⟩) fw_ppre rfl rfl hl.1 rfl (lv_room (Nat.le_of_ble_eq_true rfl)) dX10_when_58 ⟨Nat.zero_le _, Nat.zero_le _⟩) hG hK (fun r13  H locs h hG => ?_)
              refine lv_if_eq (tgt := 76) C.1 C.2.1 dX10_when_61 (by decide) (fun c14 => ?_) (fun c14 => ?_)
              · have h := h.1 c14
                refine lv_bipush (v := (-2)) C.1 C.2.1 dX10_when_76 (by decide) ?_
                exact fw_iret C hG h dX10_when_78
              · have h := h.2 c14
                refine lv_iload C.1 C.2.1 dX10_when_64 (lv_at hl 8 rfl) ?_
                refine lv_iconst (v := 0) C.1 C.2.1 dX10_when_66 (by decide) ?_
                refine lv_sipush (v := 9999) C.1 C.2.1 dX10_when_67 (by decide) ?_
                refine fw_pcalli (va_runS (As := [.int x8, .int 0, .int 9999]) (rest := []) ⟨C.1, C.2.1, C.2.2.2.2.2.2, C.2.2.2.2.2.1, C.2.2.2.2.1⟩ (soX10_within l x8 0 9999 _ h H.size) (va_cwS 3 C.2.2.2.2.1 gX10_when_X10_within rfl rfl rfl (by decide +kernel) ⟨Nat.le_of_ble_eq_true rfl, Nat.le_of_ble_eq_true rfl⟩) fw_ppre rfl rfl hl.1 rfl (lv_room (Nat.le_of_ble_eq_true rfl)) dX10_when_70 ⟨Nat.zero_le _, Nat.zero_le _⟩) hG hK (fun r15  H locs h hG => ?_)
                refine lv_if_ne (tgt := 79) C.1 C.2.1 dX10_when_73 (by decide) (fun c16 => ?_) (fun c16 => ?_)
                · have h := h.1 c16
                  refine lv_aload_n C.1 C.2.1 dX10_when_79 rfl (lv_at hl 0 rfl) ?_
                  refine fw_get (w := (mw G mh ad)) C in_X10 hK hG 0 mw_o rfl 10 (by decide) k146 rfl rfl dX10_when_80 ?_
                  refine lv_if_eq (tgt := 93) C.1 C.2.1 dX10_when_83 (by decide) (fun c17 => ?_) (fun c17 => ?_)
                  · have h := h.1 c17
                    refine lv_bipush (v := (-3)) C.1 C.2.1 dX10_when_93 (by decide) ?_
                    exact fw_iret C hG h dX10_when_95
                  · have h := h.2 c17
                    refine lv_aload_n C.1 C.2.1 dX10_when_86 rfl (lv_at hl 0 rfl) ?_
                    refine fw_rcalli (va_runV (As := []) (rest := []) ⟨C.1, C.2.1, C.2.2.2.2.2.2, C.2.2.2.2.2.1, C.2.2.2.2.1⟩ (soX10_isWheel l G mh ad iv ar  _  h H.size) (cwV 0 C.2.2.2.2.1 gX10_when_X10_isWheel rfl rfl rfl (by decide +kernel) ⟨Nat.le_of_ble_eq_true rfl, Nat.le_of_ble_eq_true rfl⟩) (fw_preV hG hK (ci := 10) rfl mw_o) rfl rfl hl.1 rfl (lv_room (Nat.le_of_ble_eq_true rfl)) dX10_when_87 ⟨Nat.zero_le _, Nat.zero_le _⟩) hG hK (fun r18  H locs h hG => ?_)
                    refine lv_if_ne (tgt := 96) C.1 C.2.1 dX10_when_90 (by decide) (fun c19 => ?_) (fun c19 => ?_)
                    · have h := h.1 c19
                      refine lv_iload_n C.1 C.2.1 dX10_when_96 rfl (lv_at hl 2 rfl) ?_
                      refine lv_aload_n C.1 C.2.1 dX10_when_97 rfl (lv_at hl 0 rfl) ?_
                      refine fw_get (w := (mw G mh ad)) C in_X10 hK hG 0 mw_o rfl 7 (by decide) k22 rfl rfl dX10_when_98 ?_
                      refine lv_iload_n C.1 C.2.1 dX10_when_101 rfl (lv_at hl 1 rfl) ?_
                      obtain ⟨c20, h⟩ := h
                      refine fw_iald (w := (mw G mh ad)) C hK hG 5 mw_a7 c20 dX10_when_102 ?_
                      refine lv_iadd C.1 C.2.1 dX10_when_103 ?_
                      refine lv_iconst (v := 1) C.1 C.2.1 dX10_when_104 (by decide) ?_
                      refine lv_isub C.1 C.2.1 dX10_when_105 ?_
                      refine lv_aload_n C.1 C.2.1 dX10_when_106 rfl (lv_at hl 0 rfl) ?_
                      refine fw_get (w := (mw G mh ad)) C in_X10 hK hG 0 mw_o rfl 7 (by decide) k22 rfl rfl dX10_when_107 ?_
                      refine lv_iload_n C.1 C.2.1 dX10_when_110 rfl (lv_at hl 1 rfl) ?_
                      obtain ⟨c21, h⟩ := h
                      refine fw_iald (w := (mw G mh ad)) C hK hG 5 mw_a7 c21 dX10_when_111 ?_
                      obtain ⟨c22, h⟩ := h
                      refine lv_idiv C.1 C.2.1 dX10_when_112 c22 ?_
                      refine lv_topi (fun y23 ey23 => ?_)
                      have h := h y23 ey23
                      refine lv_istore (lv' := [(9, .int y23), (0, .ref mh), (1, .int x1), (2, .int x2), (3, .int x3), (4, .int x4), (5, .int x5), (6, .int x6), (7, .int x7), (8, .int x8)]) C.1 C.2.1 dX10_when_113 hl (by decide) rfl (fun ls hl => ?_)
                      refine lv_iload C.1 C.2.1 dX10_when_115 (lv_at hl 9 rfl) ?_
                      refine lv_istore (lv' := [(10, .int x8), (9, .int y23), (0, .ref mh), (1, .int x1), (2, .int x2), (3, .int x3), (4, .int x4), (5, .int x5), (6, .int x6), (7, .int x7), (8, .int x8)]) C.1 C.2.1 dX10_when_117 hl (by decide) rfl (fun ls hl => ?_)
                      obtain ⟨ku, h⟩ := h
                      refine soX10_when_L119 C hK  ?_ ku _ _ _ h _ _ hG ls (lv_sub hl [0, 1, 2, 5, 6, 7, 8, 9, 10] rfl)
                      intro w43 iv44 ar45 h H locs hG ls hl
                      refine lv_bipush (v := (-9)) C.1 C.2.1 dX10_when_215 (by decide) ?_
                      exact fw_iret C hG h dX10_when_217
                    · have h := h.2 c19
                      refine lv_bipush (v := (-3)) C.1 C.2.1 dX10_when_93 (by decide) ?_
                      exact fw_iret C hG h dX10_when_95
                · have h := h.2 c16
                  refine lv_bipush (v := (-2)) C.1 C.2.1 dX10_when_76 (by decide) ?_
                  exact fw_iret C hG h dX10_when_78
    · have h := h.2 c4
      refine lv_iconst (v := (-1)) C.1 C.2.1 dX10_when_16 (by decide) ?_
      exact fw_iret C hG h dX10_when_17
/-! KnifeBoardModel.mark(II)I -/
def rmX10_mark : Room := { frames := 2, cells := 0, slots := 0, locals := 42 }
def wpX10_mark (iv : fw_F) (ar : fw_R) (x1 : Int32) (x2 : Int32) (Q : Int32 → fw_F → fw_R → Prop) : Prop := wpX10_isFeet x1 (fun (r1 : Int32) => (r1 = 0 → (Q (-2) iv ar)) ∧ (¬ r1 = 0 → (wpX10_within x2 0 3 (fun (r3 : Int32) => (¬ r3 = 0 → ((¬ (iv 28) = 10 → (vp_in (iv 28) 10 ∧ (∀ ar7 : fw_R, ar7 = va_up ar 29 (upd (ar 29) (iv 28).toNatClampNeg x1) → (vp_in (iv 28) 10 ∧ (∀ ar9 : fw_R, ar9 = va_up ar7 30 (upd (ar7 30) (iv 28).toNatClampNeg x2) → (∀ iv10 : fw_F, iv10 = va_up iv 28 ((iv 28) + 1) → (Q ((iv10 28) - 1) iv10 ar9))))))) ∧ ((iv 28) = 10 → (Q (-4) iv ar)))) ∧ (r3 = 0 → (Q (-2) iv ar))))))
set_option maxHeartbeats 4000000 in
set_option maxRecDepth 100000 in
theorem soX10_mark (l : Launch) (G : fw_G) (mh : Nat) (ad : Nat → Nat) (iv : fw_F) (ar : fw_R) (x1 : Int32) (x2 : Int32) (Q : Int32 → fw_F → fw_R → Prop)  (h : wpX10_mark iv ar x1 x2 Q) : fw_M l G (mw G mh ad) yX10_mark wsX10_mark rmX10_mark [.ref mh, .int x1, .int x2] iv ar (fw_Qi G (mw G mh ad) Q) := by
  refine fw_start (cc := cX10_mark) (nL := 3) (rt := (some .int)) (by decide) rfl (Nat.le_of_ble_eq_true rfl) ?_
  intro p e s m below meth c A ls H locs C hK hG hl
  obtain ⟨args, ea⟩ : ∃ z : Array Value, z = ([.ref mh, .int x1, .int x2] : List Value).toArray := ⟨_, rfl⟩
  rw [← ea] at C ⊢
  have C : fw_C p s m args meth c cX10_mark 3 (some .int) wsX10_mark RX10 := C
  have hl : lv_has ls 3 [(0, .ref mh), (1, .int x1), (2, .int x2)] := hl
  unfold wpX10_mark at h
  have in_X10 : ∀ x ∈ wsX100, x ∈ wsX10_mark := by decide +kernel
  have k269 := C.2.2.2.2.1 (.fieldLink RX10 269 "KnifeBoardModel" "marks" "I") (by decide +kernel)
  have k58 := C.2.2.2.2.1 (.fieldLink RX10 58 "KnifeBoardModel" "markFeet" "[I") (by decide +kernel)
  have k61 := C.2.2.2.2.1 (.fieldLink RX10 61 "KnifeBoardModel" "markCame" "[I") (by decide +kernel)
  refine lv_iload_n C.1 C.2.1 dX10_mark_0 rfl (lv_at hl 1 rfl) ?_
  refine fw_pcalli (va_runS (As := [.int x1]) (rest := []) ⟨C.1, C.2.1, C.2.2.2.2.2.2, C.2.2.2.2.2.1, C.2.2.2.2.1⟩ (soX10_isFeet l x1 _ h H.size) (va_cwS 1 C.2.2.2.2.1 gX10_mark_X10_isFeet rfl rfl rfl (by decide +kernel) ⟨Nat.le_of_ble_eq_true rfl, Nat.le_of_ble_eq_true rfl⟩) fw_ppre rfl rfl hl.1 rfl (lv_room (Nat.le_of_ble_eq_true rfl)) dX10_mark_1 ⟨Nat.zero_le _, Nat.zero_le _⟩) hG hK (fun r1  H locs h hG => ?_)
  refine lv_if_eq (tgt := 16) C.1 C.2.1 dX10_mark_4 (by decide) (fun c2 => ?_) (fun c2 => ?_)
  · have h := h.1 c2
    refine lv_bipush (v := (-2)) C.1 C.2.1 dX10_mark_16 (by decide) ?_
    exact fw_iret C hG h dX10_mark_18
  · have h := h.2 c2
    refine lv_iload_n C.1 C.2.1 dX10_mark_7 rfl (lv_at hl 2 rfl) ?_
    refine lv_iconst (v := 0) C.1 C.2.1 dX10_mark_8 (by decide) ?_
    refine lv_iconst (v := 3) C.1 C.2.1 dX10_mark_9 (by decide) ?_
    refine fw_pcalli (va_runS (As := [.int x2, .int 0, .int 3]) (rest := []) ⟨C.1, C.2.1, C.2.2.2.2.2.2, C.2.2.2.2.2.1, C.2.2.2.2.1⟩ (soX10_within l x2 0 3 _ h H.size) (va_cwS 3 C.2.2.2.2.1 gX10_mark_X10_within rfl rfl rfl (by decide +kernel) ⟨Nat.le_of_ble_eq_true rfl, Nat.le_of_ble_eq_true rfl⟩) fw_ppre rfl rfl hl.1 rfl (lv_room (Nat.le_of_ble_eq_true rfl)) dX10_mark_10 ⟨Nat.zero_le _, Nat.zero_le _⟩) hG hK (fun r3  H locs h hG => ?_)
    refine lv_if_ne (tgt := 19) C.1 C.2.1 dX10_mark_13 (by decide) (fun c4 => ?_) (fun c4 => ?_)
    · have h := h.1 c4
      refine lv_aload_n C.1 C.2.1 dX10_mark_19 rfl (lv_at hl 0 rfl) ?_
      refine fw_get (w := (mw G mh ad)) C in_X10 hK hG 0 mw_o rfl 28 (by decide) k269 rfl rfl dX10_mark_20 ?_
      refine lv_bipush (v := 10) C.1 C.2.1 dX10_mark_23 (by decide) ?_
      refine lv_icmp_ne (tgt := 31) C.1 C.2.1 dX10_mark_25 (by decide) (fun c5 => ?_) (fun c5 => ?_)
      · have h := h.1 c5
        refine lv_aload_n C.1 C.2.1 dX10_mark_31 rfl (lv_at hl 0 rfl) ?_
        refine fw_get (w := (mw G mh ad)) C in_X10 hK hG 0 mw_o rfl 29 (by decide) k58 rfl rfl dX10_mark_32 ?_
        refine lv_aload_n C.1 C.2.1 dX10_mark_35 rfl (lv_at hl 0 rfl) ?_
        refine fw_get (w := (mw G mh ad)) C in_X10 hK hG 0 mw_o rfl 28 (by decide) k269 rfl rfl dX10_mark_36 ?_
        refine lv_iload_n C.1 C.2.1 dX10_mark_39 rfl (lv_at hl 1 rfl) ?_
        obtain ⟨c6, h⟩ := h
        obtain ⟨ar7, ear7⟩ : ∃ z : fw_R, z = va_up ar 29 (upd (ar 29) (iv 28).toNatClampNeg x1) := ⟨_, rfl⟩
        have h := h ar7 ear7
        refine fw_iast (w := (mw G mh ad)) C hK hG 17 mw_a29 c6 (ar1 := ar7) (by rw [ear7]; exact mw_s29) dX10_mark_40 (fun H locs hG => ?_)
        refine lv_aload_n C.1 C.2.1 dX10_mark_41 rfl (lv_at hl 0 rfl) ?_
        refine fw_get (w := (mw G mh ad)) C in_X10 hK hG 0 mw_o rfl 30 (by decide) k61 rfl rfl dX10_mark_42 ?_
        refine lv_aload_n C.1 C.2.1 dX10_mark_45 rfl (lv_at hl 0 rfl) ?_
        refine fw_get (w := (mw G mh ad)) C in_X10 hK hG 0 mw_o rfl 28 (by decide) k269 rfl rfl dX10_mark_46 ?_
        refine lv_iload_n C.1 C.2.1 dX10_mark_49 rfl (lv_at hl 2 rfl) ?_
        obtain ⟨c8, h⟩ := h
        obtain ⟨ar9, ear9⟩ : ∃ z : fw_R, z = va_up ar7 30 (upd (ar7 30) (iv 28).toNatClampNeg x2) := ⟨_, rfl⟩
        have h := h ar9 ear9
        refine fw_iast (w := (mw G mh ad)) C hK hG 18 mw_a30 c8 (ar1 := ar9) (by rw [ear9]; exact mw_s30) dX10_mark_50 (fun H locs hG => ?_)
        refine lv_aload_n C.1 C.2.1 dX10_mark_51 rfl (lv_at hl 0 rfl) ?_
        refine lv_dup C.1 C.2.1 dX10_mark_52 rfl ?_
        refine fw_get (w := (mw G mh ad)) C in_X10 hK hG 0 mw_o rfl 28 (by decide) k269 rfl rfl dX10_mark_53 ?_
        refine lv_iconst (v := 1) C.1 C.2.1 dX10_mark_56 (by decide) ?_
        refine lv_iadd C.1 C.2.1 dX10_mark_57 ?_
        obtain ⟨iv10, eiv10⟩ : ∃ z : fw_F, z = va_up iv 28 ((iv 28) + 1) := ⟨_, rfl⟩
        have h := h iv10 eiv10
        refine fw_put (w := (mw G mh ad)) C in_X10 tyX10 tyX10_ok nmX10 hK hG 0 mw_o rfl 28 (by decide) k269 rfl rfl (ty := .int) (v := .int ((iv 28) + 1)) (by decide +kernel) rfl rfl (by first | decide | exact Nat.le_of_ble_eq_true rfl) (iv1 := iv10) (by rw [eiv10]; exact mw_p28) dX10_mark_58 (fun H locs hG => ?_)
        refine lv_aload_n C.1 C.2.1 dX10_mark_61 rfl (lv_at hl 0 rfl) ?_
        refine fw_get (w := (mw G mh ad)) C in_X10 hK hG 0 mw_o rfl 28 (by decide) k269 rfl rfl dX10_mark_62 ?_
        refine lv_iconst (v := 1) C.1 C.2.1 dX10_mark_65 (by decide) ?_
        refine lv_isub C.1 C.2.1 dX10_mark_66 ?_
        exact fw_iret C hG h dX10_mark_67
      · have h := h.2 c5
        refine lv_bipush (v := (-4)) C.1 C.2.1 dX10_mark_28 (by decide) ?_
        exact fw_iret C hG h dX10_mark_30
    · have h := h.2 c4
      refine lv_bipush (v := (-2)) C.1 C.2.1 dX10_mark_16 (by decide) ?_
      exact fw_iret C hG h dX10_mark_18
/-! KnifeBoardModel.back(I)I -/
def rmX10_back : Room := { frames := 1, cells := 0, slots := 0, locals := 22 }
def wpX10_back (iv : fw_F) (ar : fw_R) (x1 : Int32) (Q : Int32 → fw_F → fw_R → Prop) : Prop := wpX10_within x1 0 (iv 28) (fun (r1 : Int32) => (¬ r1 = 0 → (∀ iv3 : fw_F, iv3 = va_up iv 28 ((iv 28) - x1) → (Q (iv3 28) iv3 ar))) ∧ (r1 = 0 → (Q (-2) iv ar)))
set_option maxHeartbeats 4000000 in
set_option maxRecDepth 100000 in
theorem soX10_back (l : Launch) (G : fw_G) (mh : Nat) (ad : Nat → Nat) (iv : fw_F) (ar : fw_R) (x1 : Int32) (Q : Int32 → fw_F → fw_R → Prop)  (h : wpX10_back iv ar x1 Q) : fw_M l G (mw G mh ad) yX10_back wsX10_back rmX10_back [.ref mh, .int x1] iv ar (fw_Qi G (mw G mh ad) Q) := by
  refine fw_start (cc := cX10_back) (nL := 2) (rt := (some .int)) (by decide) rfl (Nat.le_of_ble_eq_true rfl) ?_
  intro p e s m below meth c A ls H locs C hK hG hl
  obtain ⟨args, ea⟩ : ∃ z : Array Value, z = ([.ref mh, .int x1] : List Value).toArray := ⟨_, rfl⟩
  rw [← ea] at C ⊢
  have C : fw_C p s m args meth c cX10_back 2 (some .int) wsX10_back RX10 := C
  have hl : lv_has ls 2 [(0, .ref mh), (1, .int x1)] := hl
  unfold wpX10_back at h
  have in_X10 : ∀ x ∈ wsX100, x ∈ wsX10_back := by decide +kernel
  have k269 := C.2.2.2.2.1 (.fieldLink RX10 269 "KnifeBoardModel" "marks" "I") (by decide +kernel)
  refine lv_iload_n C.1 C.2.1 dX10_back_0 rfl (lv_at hl 1 rfl) ?_
  refine lv_iconst (v := 0) C.1 C.2.1 dX10_back_1 (by decide) ?_
  refine lv_aload_n C.1 C.2.1 dX10_back_2 rfl (lv_at hl 0 rfl) ?_
  refine fw_get (w := (mw G mh ad)) C in_X10 hK hG 0 mw_o rfl 28 (by decide) k269 rfl rfl dX10_back_3 ?_
  refine fw_pcalli (va_runS (As := [.int x1, .int 0, .int (iv 28)]) (rest := []) ⟨C.1, C.2.1, C.2.2.2.2.2.2, C.2.2.2.2.2.1, C.2.2.2.2.1⟩ (soX10_within l x1 0 (iv 28) _ h H.size) (va_cwS 3 C.2.2.2.2.1 gX10_back_X10_within rfl rfl rfl (by decide +kernel) ⟨Nat.le_of_ble_eq_true rfl, Nat.le_of_ble_eq_true rfl⟩) fw_ppre rfl rfl hl.1 rfl (lv_room (Nat.le_of_ble_eq_true rfl)) dX10_back_6 ⟨Nat.zero_le _, Nat.zero_le _⟩) hG hK (fun r1  H locs h hG => ?_)
  refine lv_if_ne (tgt := 15) C.1 C.2.1 dX10_back_9 (by decide) (fun c2 => ?_) (fun c2 => ?_)
  · have h := h.1 c2
    refine lv_aload_n C.1 C.2.1 dX10_back_15 rfl (lv_at hl 0 rfl) ?_
    refine lv_dup C.1 C.2.1 dX10_back_16 rfl ?_
    refine fw_get (w := (mw G mh ad)) C in_X10 hK hG 0 mw_o rfl 28 (by decide) k269 rfl rfl dX10_back_17 ?_
    refine lv_iload_n C.1 C.2.1 dX10_back_20 rfl (lv_at hl 1 rfl) ?_
    refine lv_isub C.1 C.2.1 dX10_back_21 ?_
    obtain ⟨iv3, eiv3⟩ : ∃ z : fw_F, z = va_up iv 28 ((iv 28) - x1) := ⟨_, rfl⟩
    have h := h iv3 eiv3
    refine fw_put (w := (mw G mh ad)) C in_X10 tyX10 tyX10_ok nmX10 hK hG 0 mw_o rfl 28 (by decide) k269 rfl rfl (ty := .int) (v := .int ((iv 28) - x1)) (by decide +kernel) rfl rfl (by first | decide | exact Nat.le_of_ble_eq_true rfl) (iv1 := iv3) (by rw [eiv3]; exact mw_p28) dX10_back_22 (fun H locs hG => ?_)
    refine lv_aload_n C.1 C.2.1 dX10_back_25 rfl (lv_at hl 0 rfl) ?_
    refine fw_get (w := (mw G mh ad)) C in_X10 hK hG 0 mw_o rfl 28 (by decide) k269 rfl rfl dX10_back_26 ?_
    exact fw_iret C hG h dX10_back_29
  · have h := h.2 c2
    refine lv_bipush (v := (-2)) C.1 C.2.1 dX10_back_12 (by decide) ?_
    exact fw_iret C hG h dX10_back_14
/-! KnifeBoardModel.cameBy(III)I -/
def rmX10_cameBy : Room := { frames := 2, cells := 0, slots := 0, locals := 47 }
def wpX10_cameBy (iv : fw_F) (ar : fw_R) (x1 : Int32) (x2 : Int32) (x3 : Int32) (Q : Int32 → Prop) : Prop := vp_in x1 6 ∧ (wpX10_round (x2 / 24) ((x2 - x2 / 24 * 24) + 1) x3 ((ar 7) x1.toNatClampNeg) (fun (r2 : Int32) => wpX10_width iv ar x1 (fun (r3 : Int32) => vp_in x1 6 ∧ (wpX10_came r2 r3 ((ar 7) x1.toNatClampNeg) (fun (r5 : Int32) => Q r5)))))
set_option maxHeartbeats 4000000 in
set_option maxRecDepth 100000 in
theorem soX10_cameBy (l : Launch) (G : fw_G) (mh : Nat) (ad : Nat → Nat) (iv : fw_F) (ar : fw_R) (x1 : Int32) (x2 : Int32) (x3 : Int32) (Q : Int32 → Prop)  (h : wpX10_cameBy iv ar x1 x2 x3 Q) : fw_M l G (mw G mh ad) yX10_cameBy wsX10_cameBy rmX10_cameBy [.ref mh, .int x1, .int x2, .int x3] iv ar (fw_Qi G (mw G mh ad) (fun r iv1 ar1 => Q r ∧ iv = iv1 ∧ ar = ar1)) := by
  refine fw_start (cc := cX10_cameBy) (nL := 4) (rt := (some .int)) (by decide) rfl (Nat.le_of_ble_eq_true rfl) ?_
  intro p e s m below meth c A ls H locs C hK hG hl
  obtain ⟨args, ea⟩ : ∃ z : Array Value, z = ([.ref mh, .int x1, .int x2, .int x3] : List Value).toArray := ⟨_, rfl⟩
  rw [← ea] at C ⊢
  have C : fw_C p s m args meth c cX10_cameBy 4 (some .int) wsX10_cameBy RX10 := C
  have hl : lv_has ls 4 [(0, .ref mh), (1, .int x1), (2, .int x2), (3, .int x3)] := hl
  unfold wpX10_cameBy at h
  have in_X10 : ∀ x ∈ wsX100, x ∈ wsX10_cameBy := by decide +kernel
  have k22 := C.2.2.2.2.1 (.fieldLink RX10 22 "KnifeBoardModel" "pace" "[I") (by decide +kernel)
  refine lv_iload_n C.1 C.2.1 dX10_cameBy_0 rfl (lv_at hl 2 rfl) ?_
  refine lv_bipush (v := 24) C.1 C.2.1 dX10_cameBy_1 (by decide) ?_
  refine lv_idiv C.1 C.2.1 dX10_cameBy_3 (by decide) ?_
  refine lv_iload_n C.1 C.2.1 dX10_cameBy_4 rfl (lv_at hl 2 rfl) ?_
  refine lv_bipush (v := 24) C.1 C.2.1 dX10_cameBy_5 (by decide) ?_
  refine lv_irem C.1 C.2.1 dX10_cameBy_7 (by decide) ?_
  refine lv_iconst (v := 1) C.1 C.2.1 dX10_cameBy_8 (by decide) ?_
  refine lv_iadd C.1 C.2.1 dX10_cameBy_9 ?_
  refine lv_iload_n C.1 C.2.1 dX10_cameBy_10 rfl (lv_at hl 3 rfl) ?_
  refine lv_aload_n C.1 C.2.1 dX10_cameBy_11 rfl (lv_at hl 0 rfl) ?_
  refine fw_get (w := (mw G mh ad)) C in_X10 hK hG 0 mw_o rfl 7 (by decide) k22 rfl rfl dX10_cameBy_12 ?_
  refine lv_iload_n C.1 C.2.1 dX10_cameBy_15 rfl (lv_at hl 1 rfl) ?_
  obtain ⟨c1, h⟩ := h
  refine fw_iald (w := (mw G mh ad)) C hK hG 5 mw_a7 c1 dX10_cameBy_16 ?_
  refine fw_pcalli (va_runS (As := [.int (x2 / 24), .int ((x2 - x2 / 24 * 24) + 1), .int x3, .int ((ar 7) x1.toNatClampNeg)]) (rest := []) ⟨C.1, C.2.1, C.2.2.2.2.2.2, C.2.2.2.2.2.1, C.2.2.2.2.1⟩ (soX10_round l (x2 / 24) ((x2 - x2 / 24 * 24) + 1) x3 ((ar 7) x1.toNatClampNeg) _ h H.size) (va_cwS 4 C.2.2.2.2.1 gX10_cameBy_X10_round rfl rfl rfl (by decide +kernel) ⟨Nat.le_of_ble_eq_true rfl, Nat.le_of_ble_eq_true rfl⟩) fw_ppre rfl rfl hl.1 rfl (lv_room (Nat.le_of_ble_eq_true rfl)) dX10_cameBy_17 ⟨Nat.zero_le _, Nat.zero_le _⟩) hG hK (fun r2  H locs h hG => ?_)
  refine lv_aload_n C.1 C.2.1 dX10_cameBy_20 rfl (lv_at hl 0 rfl) ?_
  refine lv_iload_n C.1 C.2.1 dX10_cameBy_21 rfl (lv_at hl 1 rfl) ?_
  refine fw_rcalli (va_runV (As := [.int x1]) (rest := [.int r2]) ⟨C.1, C.2.1, C.2.2.2.2.2.2, C.2.2.2.2.2.1, C.2.2.2.2.1⟩ (soX10_width l G mh ad iv ar x1 _  h H.size) (cwV 1 C.2.2.2.2.1 gX10_cameBy_X10_width rfl rfl rfl (by decide +kernel) ⟨Nat.le_of_ble_eq_true rfl, Nat.le_of_ble_eq_true rfl⟩) (fw_preV hG hK (ci := 10) rfl mw_o) rfl rfl hl.1 rfl (lv_room (Nat.le_of_ble_eq_true rfl)) dX10_cameBy_22 ⟨Nat.zero_le _, Nat.zero_le _⟩) hG hK (fun r3  H locs h hG => ?_)
  refine lv_aload_n C.1 C.2.1 dX10_cameBy_25 rfl (lv_at hl 0 rfl) ?_
  refine fw_get (w := (mw G mh ad)) C in_X10 hK hG 0 mw_o rfl 7 (by decide) k22 rfl rfl dX10_cameBy_26 ?_
  refine lv_iload_n C.1 C.2.1 dX10_cameBy_29 rfl (lv_at hl 1 rfl) ?_
  obtain ⟨c4, h⟩ := h
  refine fw_iald (w := (mw G mh ad)) C hK hG 5 mw_a7 c4 dX10_cameBy_30 ?_
  refine fw_pcalli (va_runS (As := [.int r2, .int r3, .int ((ar 7) x1.toNatClampNeg)]) (rest := []) ⟨C.1, C.2.1, C.2.2.2.2.2.2, C.2.2.2.2.2.1, C.2.2.2.2.1⟩ (soX10_came l r2 r3 ((ar 7) x1.toNatClampNeg) _ h H.size) (va_cwS 3 C.2.2.2.2.1 gX10_cameBy_X10_came rfl rfl rfl (by decide +kernel) ⟨Nat.le_of_ble_eq_true rfl, Nat.le_of_ble_eq_true rfl⟩) fw_ppre rfl rfl hl.1 rfl (lv_room (Nat.le_of_ble_eq_true rfl)) dX10_cameBy_31 ⟨Nat.zero_le _, Nat.zero_le _⟩) hG hK (fun r5  H locs h hG => ?_)
  exact fw_iret C hG ⟨h, rfl, rfl⟩ dX10_cameBy_34
/-! KnifeBoardModel.layFitting(I)I -/
def rmX10_layFitting : Room := { frames := 3, cells := 0, slots := 0, locals := 70 }
def wpX10_layFitting_L17 (x1 : Int32) (z3 : Int32) (z2 : Int32) (iv : fw_F) (ar : fw_R) (Q : Int32 → fw_F → fw_R → Prop) (K : Int32 → Int32 → Prop) : Nat → Int32 → Int32 → Prop
  | 0, _, _ => False
  | fu + 1, z4, z5 => ((iv 28) ≤ z5 → (K z4 z5)) ∧ (¬ (iv 28) ≤ z5 → ((z4 = 0 → (K z4 z5)) ∧ (¬ z4 = 0 → (vp_in z5 10 ∧ (wpX10_cameBy iv ar x1 z3 ((ar 29) z5.toNatClampNeg) (fun (r5 : Int32) => vp_in z5 10 ∧ ((¬ r5 = ((ar 30) z5.toNatClampNeg) → (∀ y8 : Int32, y8 = z5 + 1 → (wpX10_layFitting_L17 x1 z3 z2 iv ar Q K fu 0 y8))) ∧ (r5 = ((ar 30) z5.toNatClampNeg) → (∀ y9 : Int32, y9 = z5 + 1 → (wpX10_layFitting_L17 x1 z3 z2 iv ar Q K fu 1 y9))))))))))
def wpX10_layFitting_L4 (x1 : Int32) (Q : Int32 → fw_F → fw_R → Prop) (K : Int32 → Int32 → fw_F → fw_R → Prop) : Nat → Int32 → Int32 → fw_F → fw_R → Prop
  | 0, _, _, _, _ => False
  | fu + 1, z2, z3, iv, ar => (576 ≤ z3 → (K z2 z3 iv ar)) ∧ (¬ 576 ≤ z3 → (∃ ku : Nat, wpX10_layFitting_L17 x1 z3 z2 iv ar Q (fun (w10 : Int32) (w11 : Int32) => vp_in z3 576 ∧ (∀ ar13 : fw_R, ar13 = va_up ar 31 (upd (ar 31) z3.toNatClampNeg (vp_nar .boolean w10)) → ((w10 = 0 → (∀ y15 : Int32, y15 = z2 + 0 → (∀ y16 : Int32, y16 = z3 + 1 → (wpX10_layFitting_L4 x1 Q K fu y15 y16 iv ar13)))) ∧ (¬ w10 = 0 → (∀ y17 : Int32, y17 = z2 + 1 → (∀ y18 : Int32, y18 = z3 + 1 → (wpX10_layFitting_L4 x1 Q K fu y17 y18 iv ar13))))))) ku 1 0))
def wpX10_layFitting (iv : fw_F) (ar : fw_R) (x1 : Int32) (Q : Int32 → fw_F → fw_R → Prop) : Prop := ∃ ku : Nat, wpX10_layFitting_L4 x1 Q (fun (w19 : Int32) (w20 : Int32) (iv21 : fw_F) (ar22 : fw_R) => Q w19 iv21 ar22) ku 0 0 iv ar
set_option maxHeartbeats 4000000 in
set_option maxRecDepth 100000 in
theorem soX10_layFitting_L17 {p : Program} {l : Launch} {e : Env} {s : State} {m : MethodId} {args : Array Value} {below : List Frame} {meth : Method} {c : Code} {A : Nat → Prop} {G : fw_G} {mh : Nat} {ad : Nat → Nat} {x1 : Int32} {z3 : Int32} {z2 : Int32} {iv : fw_F} {ar : fw_R} {Q : Int32 → fw_F → fw_R → Prop} {K : Int32 → Int32 → Prop} (C : fw_C p s m args meth c cX10_layFitting 6 (some .int) wsX10_layFitting RX10) (hK : fw_K G A s)  (hX : ∀ (z4 : Int32) (z5 : Int32), K z4 z5 → ∀ (H : Heap) (locs : List Loc), fw_H G ((mw G mh ad) iv ar) A s H locs → ∀ (ls : Array Slot), lv_has ls 6 [(5, .int z5), (4, .int z4), (3, .int z3), (2, .int z2), (0, .ref mh), (1, .int x1)] → W p l e rmX10_layFitting s m args below meth c H locs 0 0 (MQ below (fw_Qi G (mw G mh ad) Q A) args s 0 0 A) (F0 m 67 ls [])) : ∀ (fu : Nat) (z4 : Int32) (z5 : Int32), wpX10_layFitting_L17 x1 z3 z2 iv ar Q K fu z4 z5 → ∀ (H : Heap) (locs : List Loc), fw_H G ((mw G mh ad) iv ar) A s H locs → ∀ (ls : Array Slot), lv_has ls 6 [(5, .int z5), (4, .int z4), (3, .int z3), (2, .int z2), (0, .ref mh), (1, .int x1)] → W p l e rmX10_layFitting s m args below meth c H locs 0 0 (MQ below (fw_Qi G (mw G mh ad) Q A) args s 0 0 A) (F0 m 17 ls []) := by
  intro fu
  have in_X10 : ∀ x ∈ wsX100, x ∈ wsX10_layFitting := by decide +kernel
  have k269 := C.2.2.2.2.1 (.fieldLink RX10 269 "KnifeBoardModel" "marks" "I") (by decide +kernel)
  have k58 := C.2.2.2.2.1 (.fieldLink RX10 58 "KnifeBoardModel" "markFeet" "[I") (by decide +kernel)
  have k61 := C.2.2.2.2.1 (.fieldLink RX10 61 "KnifeBoardModel" "markCame" "[I") (by decide +kernel)
  induction fu with
  | zero => intro z4 z5 h; exact h.elim
  | succ fu ih =>
    intro z4 z5 h H locs hG ls hl
    unfold wpX10_layFitting_L17 at h
    refine lv_iload C.1 C.2.1 dX10_layFitting_17 (lv_at hl 0 rfl) ?_
    refine lv_aload_n C.1 C.2.1 dX10_layFitting_19 rfl (lv_at hl 4 rfl) ?_
    refine fw_get (w := (mw G mh ad)) C in_X10 hK hG 0 mw_o rfl 28 (by decide) k269 rfl rfl dX10_layFitting_20 ?_
    refine lv_icmp_ge (tgt := 67) C.1 C.2.1 dX10_layFitting_23 (by decide) (fun c2 => ?_) (fun c2 => ?_)
    · have h := h.1 c2
      exact hX _ _ h _ _ hG ls (lv_sub hl [0, 1, 2, 3, 4, 5] rfl)
    · have h := h.2 c2
      refine lv_iload C.1 C.2.1 dX10_layFitting_26 (lv_at hl 1 rfl) ?_
      refine lv_if_eq (tgt := 67) C.1 C.2.1 dX10_layFitting_28 (by decide) (fun c3 => ?_) (fun c3 => ?_)
      · have h := h.1 c3
        exact hX _ _ h _ _ hG ls (lv_sub hl [0, 1, 2, 3, 4, 5] rfl)
      · have h := h.2 c3
        refine lv_aload_n C.1 C.2.1 dX10_layFitting_31 rfl (lv_at hl 4 rfl) ?_
        refine lv_iload_n C.1 C.2.1 dX10_layFitting_32 rfl (lv_at hl 5 rfl) ?_
        refine lv_iload_n C.1 C.2.1 dX10_layFitting_33 rfl (lv_at hl 2 rfl) ?_
        refine lv_aload_n C.1 C.2.1 dX10_layFitting_34 rfl (lv_at hl 4 rfl) ?_
        refine fw_get (w := (mw G mh ad)) C in_X10 hK hG 0 mw_o rfl 29 (by decide) k58 rfl rfl dX10_layFitting_35 ?_
        refine lv_iload C.1 C.2.1 dX10_layFitting_38 (lv_at hl 0 rfl) ?_
        obtain ⟨c4, h⟩ := h
        refine fw_iald (w := (mw G mh ad)) C hK hG 17 mw_a29 c4 dX10_layFitting_40 ?_
        refine fw_rcalli (va_runV (As := [.int x1, .int z3, .int ((ar 29) z5.toNatClampNeg)]) (rest := []) ⟨C.1, C.2.1, C.2.2.2.2.2.2, C.2.2.2.2.2.1, C.2.2.2.2.1⟩ (soX10_cameBy l G mh ad iv ar x1 z3 ((ar 29) z5.toNatClampNeg) _  h H.size) (cwV 3 C.2.2.2.2.1 gX10_layFitting_X10_cameBy rfl rfl rfl (by decide +kernel) ⟨Nat.le_of_ble_eq_true rfl, Nat.le_of_ble_eq_true rfl⟩) (fw_preV hG hK (ci := 10) rfl mw_o) rfl rfl hl.1 rfl (lv_room (Nat.le_of_ble_eq_true rfl)) dX10_layFitting_41 ⟨Nat.zero_le _, Nat.zero_le _⟩) hG hK (fun r5  H locs h hG => ?_)
        refine lv_aload_n C.1 C.2.1 dX10_layFitting_44 rfl (lv_at hl 4 rfl) ?_
        refine fw_get (w := (mw G mh ad)) C in_X10 hK hG 0 mw_o rfl 30 (by decide) k61 rfl rfl dX10_layFitting_45 ?_
        refine lv_iload C.1 C.2.1 dX10_layFitting_48 (lv_at hl 0 rfl) ?_
        obtain ⟨c6, h⟩ := h
        refine fw_iald (w := (mw G mh ad)) C hK hG 18 mw_a30 c6 dX10_layFitting_50 ?_
        refine lv_icmp_ne (tgt := 58) C.1 C.2.1 dX10_layFitting_51 (by decide) (fun c7 => ?_) (fun c7 => ?_)
        · have h := h.1 c7
          refine lv_iconst (v := 0) C.1 C.2.1 dX10_layFitting_58 (by decide) ?_
          refine lv_istore (lv' := [(4, .int 0), (5, .int z5), (3, .int z3), (2, .int z2), (0, .ref mh), (1, .int x1)]) C.1 C.2.1 dX10_layFitting_59 hl (by decide) rfl (fun ls hl => ?_)
          obtain ⟨y8, ey8⟩ : ∃ z : Int32, z = z5 + 1 := ⟨_, rfl⟩
          have h := h y8 ey8
          refine lv_iinc (v := y8) (lv' := [(5, .int y8), (4, .int 0), (3, .int z3), (2, .int z2), (0, .ref mh), (1, .int x1)]) C.1 C.2.1 dX10_layFitting_61 hl (k := 1) rfl (by rw [ey8]; rfl) (by decide) rfl (fun ls hl => ?_)
          refine lv_goto (tgt := 17) C.1 C.2.1 dX10_layFitting_64 (by decide) ?_
          exact ih _ _ h _ _ hG ls (lv_sub hl [0, 1, 2, 3, 4, 5] rfl)
        · have h := h.2 c7
          refine lv_iconst (v := 1) C.1 C.2.1 dX10_layFitting_54 (by decide) ?_
          refine lv_goto (tgt := 59) C.1 C.2.1 dX10_layFitting_55 (by decide) ?_
          refine lv_istore (lv' := [(4, .int 1), (5, .int z5), (3, .int z3), (2, .int z2), (0, .ref mh), (1, .int x1)]) C.1 C.2.1 dX10_layFitting_59 hl (by decide) rfl (fun ls hl => ?_)
          obtain ⟨y9, ey9⟩ : ∃ z : Int32, z = z5 + 1 := ⟨_, rfl⟩
          have h := h y9 ey9
          refine lv_iinc (v := y9) (lv' := [(5, .int y9), (4, .int 1), (3, .int z3), (2, .int z2), (0, .ref mh), (1, .int x1)]) C.1 C.2.1 dX10_layFitting_61 hl (k := 1) rfl (by rw [ey9]; rfl) (by decide) rfl (fun ls hl => ?_)
          refine lv_goto (tgt := 17) C.1 C.2.1 dX10_layFitting_64 (by decide) ?_
          exact ih _ _ h _ _ hG ls (lv_sub hl [0, 1, 2, 3, 4, 5] rfl)

set_option maxHeartbeats 4000000 in
set_option maxRecDepth 100000 in
theorem soX10_layFitting_L4 {p : Program} {l : Launch} {e : Env} {s : State} {m : MethodId} {args : Array Value} {below : List Frame} {meth : Method} {c : Code} {A : Nat → Prop} {G : fw_G} {mh : Nat} {ad : Nat → Nat} {x1 : Int32} {Q : Int32 → fw_F → fw_R → Prop} {K : Int32 → Int32 → fw_F → fw_R → Prop} (C : fw_C p s m args meth c cX10_layFitting 6 (some .int) wsX10_layFitting RX10) (hK : fw_K G A s)  (hX : ∀ (z2 : Int32) (z3 : Int32) (iv : fw_F) (ar : fw_R), K z2 z3 iv ar → ∀ (H : Heap) (locs : List Loc), fw_H G ((mw G mh ad) iv ar) A s H locs → ∀ (ls : Array Slot), lv_has ls 6 [(3, .int z3), (2, .int z2), (0, .ref mh), (1, .int x1)] → W p l e rmX10_layFitting s m args below meth c H locs 0 0 (MQ below (fw_Qi G (mw G mh ad) Q A) args s 0 0 A) (F0 m 94 ls [])) : ∀ (fu : Nat) (z2 : Int32) (z3 : Int32) (iv : fw_F) (ar : fw_R), wpX10_layFitting_L4 x1 Q K fu z2 z3 iv ar → ∀ (H : Heap) (locs : List Loc), fw_H G ((mw G mh ad) iv ar) A s H locs → ∀ (ls : Array Slot), lv_has ls 6 [(3, .int z3), (2, .int z2), (0, .ref mh), (1, .int x1)] → W p l e rmX10_layFitting s m args below meth c H locs 0 0 (MQ below (fw_Qi G (mw G mh ad) Q A) args s 0 0 A) (F0 m 4 ls []) := by
  intro fu
  have in_X10 : ∀ x ∈ wsX100, x ∈ wsX10_layFitting := by decide +kernel
  have k64 := C.2.2.2.2.1 (.fieldLink RX10 64 "KnifeBoardModel" "fitting" "[Z") (by decide +kernel)
  induction fu with
  | zero => intro z2 z3 iv ar h; exact h.elim
  | succ fu ih =>
    intro z2 z3 iv ar h H locs hG ls hl
    unfold wpX10_layFitting_L4 at h
    refine lv_iload_n C.1 C.2.1 dX10_layFitting_4 rfl (lv_at hl 0 rfl) ?_
    refine lv_sipush (v := 576) C.1 C.2.1 dX10_layFitting_5 (by decide) ?_
    refine lv_icmp_ge (tgt := 94) C.1 C.2.1 dX10_layFitting_8 (by decide) (fun c1 => ?_) (fun c1 => ?_)
    · have h := h.1 c1
      exact hX _ _ _ _ h _ _ hG ls (lv_sub hl [0, 1, 2, 3] rfl)
    · have h := h.2 c1
      refine lv_iconst (v := 1) C.1 C.2.1 dX10_layFitting_11 (by decide) ?_
      refine lv_istore (lv' := [(4, .int 1), (3, .int z3), (2, .int z2), (0, .ref mh), (1, .int x1)]) C.1 C.2.1 dX10_layFitting_12 hl (by decide) rfl (fun ls hl => ?_)
      refine lv_iconst (v := 0) C.1 C.2.1 dX10_layFitting_14 (by decide) ?_
      refine lv_istore (lv' := [(5, .int 0), (4, .int 1), (3, .int z3), (2, .int z2), (0, .ref mh), (1, .int x1)]) C.1 C.2.1 dX10_layFitting_15 hl (by decide) rfl (fun ls hl => ?_)
      obtain ⟨ku, h⟩ := h
      refine soX10_layFitting_L17 C hK  ?_ ku _ _ h _ _ hG ls (lv_sub hl [0, 1, 2, 3, 4, 5] rfl)
      intro w10 w11 h H locs hG ls hl
      refine lv_aload_n C.1 C.2.1 dX10_layFitting_67 rfl (lv_at hl 4 rfl) ?_
      refine fw_get (w := (mw G mh ad)) C in_X10 hK hG 0 mw_o rfl 31 (by decide) k64 rfl rfl dX10_layFitting_68 ?_
      refine lv_iload_n C.1 C.2.1 dX10_layFitting_71 rfl (lv_at hl 2 rfl) ?_
      refine lv_iload C.1 C.2.1 dX10_layFitting_72 (lv_at hl 1 rfl) ?_
      obtain ⟨c12, h⟩ := h
      obtain ⟨ar13, ear13⟩ : ∃ z : fw_R, z = va_up ar 31 (upd (ar 31) z3.toNatClampNeg (vp_nar .boolean w10)) := ⟨_, rfl⟩
      have h := h ar13 ear13
      refine fw_zast (w := (mw G mh ad)) C hK hG 19 mw_a31 c12 (ar1 := ar13) (by rw [ear13]; exact mw_s31) dX10_layFitting_74 (fun H locs hG => ?_)
      refine lv_iload_n C.1 C.2.1 dX10_layFitting_75 rfl (lv_at hl 3 rfl) ?_
      refine lv_iload C.1 C.2.1 dX10_layFitting_76 (lv_at hl 1 rfl) ?_
      refine lv_if_eq (tgt := 85) C.1 C.2.1 dX10_layFitting_78 (by decide) (fun c14 => ?_) (fun c14 => ?_)
      · have h := h.1 c14
        refine lv_iconst (v := 0) C.1 C.2.1 dX10_layFitting_85 (by decide) ?_
        refine lv_iadd C.1 C.2.1 dX10_layFitting_86 ?_
        refine lv_topi (fun y15 ey15 => ?_)
        have h := h y15 ey15
        refine lv_istore_n (lv' := [(2, .int y15), (5, .int w11), (4, .int w10), (3, .int z3), (0, .ref mh), (1, .int x1)]) C.1 C.2.1 dX10_layFitting_87 rfl hl (by decide) rfl (fun ls hl => ?_)
        obtain ⟨y16, ey16⟩ : ∃ z : Int32, z = z3 + 1 := ⟨_, rfl⟩
        have h := h y16 ey16
        refine lv_iinc (v := y16) (lv' := [(3, .int y16), (2, .int y15), (5, .int w11), (4, .int w10), (0, .ref mh), (1, .int x1)]) C.1 C.2.1 dX10_layFitting_88 hl (k := 3) rfl (by rw [ey16]; rfl) (by decide) rfl (fun ls hl => ?_)
        refine lv_goto (tgt := 4) C.1 C.2.1 dX10_layFitting_91 (by decide) ?_
        exact ih _ _ _ _ h _ _ hG ls (lv_sub hl [0, 1, 4, 5] rfl)
      · have h := h.2 c14
        refine lv_iconst (v := 1) C.1 C.2.1 dX10_layFitting_81 (by decide) ?_
        refine lv_goto (tgt := 86) C.1 C.2.1 dX10_layFitting_82 (by decide) ?_
        refine lv_iadd C.1 C.2.1 dX10_layFitting_86 ?_
        refine lv_topi (fun y17 ey17 => ?_)
        have h := h y17 ey17
        refine lv_istore_n (lv' := [(2, .int y17), (5, .int w11), (4, .int w10), (3, .int z3), (0, .ref mh), (1, .int x1)]) C.1 C.2.1 dX10_layFitting_87 rfl hl (by decide) rfl (fun ls hl => ?_)
        obtain ⟨y18, ey18⟩ : ∃ z : Int32, z = z3 + 1 := ⟨_, rfl⟩
        have h := h y18 ey18
        refine lv_iinc (v := y18) (lv' := [(3, .int y18), (2, .int y17), (5, .int w11), (4, .int w10), (0, .ref mh), (1, .int x1)]) C.1 C.2.1 dX10_layFitting_88 hl (k := 3) rfl (by rw [ey18]; rfl) (by decide) rfl (fun ls hl => ?_)
        refine lv_goto (tgt := 4) C.1 C.2.1 dX10_layFitting_91 (by decide) ?_
        exact ih _ _ _ _ h _ _ hG ls (lv_sub hl [0, 1, 4, 5] rfl)

set_option maxHeartbeats 4000000 in
set_option maxRecDepth 100000 in
theorem soX10_layFitting (l : Launch) (G : fw_G) (mh : Nat) (ad : Nat → Nat) (iv : fw_F) (ar : fw_R) (x1 : Int32) (Q : Int32 → fw_F → fw_R → Prop)  (h : wpX10_layFitting iv ar x1 Q) : fw_M l G (mw G mh ad) yX10_layFitting wsX10_layFitting rmX10_layFitting [.ref mh, .int x1] iv ar (fw_Qi G (mw G mh ad) Q) := by
  refine fw_start (cc := cX10_layFitting) (nL := 6) (rt := (some .int)) (by decide) rfl (Nat.le_of_ble_eq_true rfl) ?_
  intro p e s m below meth c A ls H locs C hK hG hl
  obtain ⟨args, ea⟩ : ∃ z : Array Value, z = ([.ref mh, .int x1] : List Value).toArray := ⟨_, rfl⟩
  rw [← ea] at C ⊢
  have C : fw_C p s m args meth c cX10_layFitting 6 (some .int) wsX10_layFitting RX10 := C
  have hl : lv_has ls 6 [(0, .ref mh), (1, .int x1)] := hl
  unfold wpX10_layFitting at h
  refine lv_iconst (v := 0) C.1 C.2.1 dX10_layFitting_0 (by decide) ?_
  refine lv_istore_n (lv' := [(2, .int 0), (0, .ref mh), (1, .int x1)]) C.1 C.2.1 dX10_layFitting_1 rfl hl (by decide) rfl (fun ls hl => ?_)
  refine lv_iconst (v := 0) C.1 C.2.1 dX10_layFitting_2 (by decide) ?_
  refine lv_istore_n (lv' := [(3, .int 0), (2, .int 0), (0, .ref mh), (1, .int x1)]) C.1 C.2.1 dX10_layFitting_3 rfl hl (by decide) rfl (fun ls hl => ?_)
  obtain ⟨ku, h⟩ := h
  refine soX10_layFitting_L4 C hK  ?_ ku _ _ _ _ h _ _ hG ls (lv_sub hl [0, 1, 2, 3] rfl)
  intro w19 w20 iv21 ar22 h H locs hG ls hl
  refine lv_iload_n C.1 C.2.1 dX10_layFitting_94 rfl (lv_at hl 1 rfl) ?_
  exact fw_iret C hG h dX10_layFitting_95
/-! KnifeBoardModel.guessed(II)I -/
def rmX10_guessed : Room := { frames := 4, cells := 0, slots := 0, locals := 95 }
def wpX10_guessed_L37 (x1 : Int32) (x2 : Int32) (iv6 : fw_F) (ar7 : fw_R) (Q : Int32 → fw_F → fw_R → Prop) (K : Int32 → Prop) : Nat → Int32 → Prop
  | 0, _ => False
  | fu + 1, z4 => (576 ≤ z4 → (K z4)) ∧ (¬ 576 ≤ z4 → (vp_in z4 576 ∧ ((((ar7 31) z4.toNatClampNeg) = 0 → (∀ y12 : Int32, y12 = z4 + 1 → (wpX10_guessed_L37 x1 x2 iv6 ar7 Q K fu y12))) ∧ (¬ ((ar7 31) z4.toNatClampNeg) = 0 → (Q (((100 * (z4 / 24)) + (z4 - z4 / 24 * 24)) + 1) iv6 ar7)))))
def wpX10_guessed (iv : fw_F) (ar : fw_R) (x1 : Int32) (x2 : Int32) (Q : Int32 → fw_F → fw_R → Prop) : Prop := wpX10_isKnife iv ar x1 (fun (r1 : Int32) => (¬ r1 = 0 → (wpX10_within x2 0 1 (fun (r3 : Int32) => (¬ r3 = 0 → (wpX10_layFitting iv ar x1 (fun (r5 : Int32) (iv6 : fw_F) (ar7 : fw_R) => (¬ x2 = 0 → (∃ ku : Nat, wpX10_guessed_L37 x1 x2 iv6 ar7 Q (fun (w13 : Int32) => Q (-9) iv6 ar7) ku 0)) ∧ (x2 = 0 → (Q r5 iv6 ar7))))) ∧ (r3 = 0 → (Q (-2) iv ar))))) ∧ (r1 = 0 → (Q (-1) iv ar)))
set_option maxHeartbeats 4000000 in
set_option maxRecDepth 100000 in
theorem soX10_guessed_L37 {p : Program} {l : Launch} {e : Env} {s : State} {m : MethodId} {args : Array Value} {below : List Frame} {meth : Method} {c : Code} {A : Nat → Prop} {G : fw_G} {mh : Nat} {ad : Nat → Nat} {x1 : Int32} {x2 : Int32} {iv6 : fw_F} {ar7 : fw_R} {Q : Int32 → fw_F → fw_R → Prop} {K : Int32 → Prop} (C : fw_C p s m args meth c cX10_guessed 5 (some .int) wsX10_guessed RX10) (hK : fw_K G A s)  (hX : ∀ (z4 : Int32), K z4 → ∀ (H : Heap) (locs : List Loc), fw_H G ((mw G mh ad) iv6 ar7) A s H locs → ∀ (ls : Array Slot), lv_has ls 5 [(4, .int z4), (0, .ref mh)] → W p l e rmX10_guessed s m args below meth c H locs 0 0 (MQ below (fw_Qi G (mw G mh ad) Q A) args s 0 0 A) (F0 m 78 ls [])) : ∀ (fu : Nat) (z4 : Int32), wpX10_guessed_L37 x1 x2 iv6 ar7 Q K fu z4 → ∀ (H : Heap) (locs : List Loc), fw_H G ((mw G mh ad) iv6 ar7) A s H locs → ∀ (ls : Array Slot), lv_has ls 5 [(4, .int z4), (0, .ref mh)] → W p l e rmX10_guessed s m args below meth c H locs 0 0 (MQ below (fw_Qi G (mw G mh ad) Q A) args s 0 0 A) (F0 m 37 ls []) := by
  intro fu
  have in_X10 : ∀ x ∈ wsX100, x ∈ wsX10_guessed := by decide +kernel
  have k64 := C.2.2.2.2.1 (.fieldLink RX10 64 "KnifeBoardModel" "fitting" "[Z") (by decide +kernel)
  induction fu with
  | zero => intro z4 h; exact h.elim
  | succ fu ih =>
    intro z4 h H locs hG ls hl
    unfold wpX10_guessed_L37 at h
    refine lv_iload C.1 C.2.1 dX10_guessed_37 (lv_at hl 0 rfl) ?_
    refine lv_sipush (v := 576) C.1 C.2.1 dX10_guessed_39 (by decide) ?_
    refine lv_icmp_ge (tgt := 78) C.1 C.2.1 dX10_guessed_42 (by decide) (fun c9 => ?_) (fun c9 => ?_)
    · have h := h.1 c9
      exact hX _ h _ _ hG ls (lv_sub hl [0, 1] rfl)
    · have h := h.2 c9
      refine lv_aload_n C.1 C.2.1 dX10_guessed_45 rfl (lv_at hl 1 rfl) ?_
      refine fw_get (w := (mw G mh ad)) C in_X10 hK hG 0 mw_o rfl 31 (by decide) k64 rfl rfl dX10_guessed_46 ?_
      refine lv_iload C.1 C.2.1 dX10_guessed_49 (lv_at hl 0 rfl) ?_
      obtain ⟨c10, h⟩ := h
      refine fw_zald (w := (mw G mh ad)) C hK hG 19 mw_a31 c10 dX10_guessed_51 ?_
      refine lv_if_eq (tgt := 72) C.1 C.2.1 dX10_guessed_52 (by decide) (fun c11 => ?_) (fun c11 => ?_)
      · have h := h.1 c11
        obtain ⟨y12, ey12⟩ : ∃ z : Int32, z = z4 + 1 := ⟨_, rfl⟩
        have h := h y12 ey12
        refine lv_iinc (v := y12) (lv' := [(4, .int y12), (0, .ref mh)]) C.1 C.2.1 dX10_guessed_72 hl (k := 0) rfl (by rw [ey12]; rfl) (by decide) rfl (fun ls hl => ?_)
        refine lv_goto (tgt := 37) C.1 C.2.1 dX10_guessed_75 (by decide) ?_
        exact ih _ h _ _ hG ls (lv_sub hl [0, 1] rfl)
      · have h := h.2 c11
        refine lv_bipush (v := 100) C.1 C.2.1 dX10_guessed_55 (by decide) ?_
        refine lv_iload C.1 C.2.1 dX10_guessed_57 (lv_at hl 0 rfl) ?_
        refine lv_bipush (v := 24) C.1 C.2.1 dX10_guessed_59 (by decide) ?_
        refine lv_idiv C.1 C.2.1 dX10_guessed_61 (by decide) ?_
        refine lv_imul C.1 C.2.1 dX10_guessed_62 ?_
        refine lv_iload C.1 C.2.1 dX10_guessed_63 (lv_at hl 0 rfl) ?_
        refine lv_bipush (v := 24) C.1 C.2.1 dX10_guessed_65 (by decide) ?_
        refine lv_irem C.1 C.2.1 dX10_guessed_67 (by decide) ?_
        refine lv_iadd C.1 C.2.1 dX10_guessed_68 ?_
        refine lv_iconst (v := 1) C.1 C.2.1 dX10_guessed_69 (by decide) ?_
        refine lv_iadd C.1 C.2.1 dX10_guessed_70 ?_
        exact fw_iret C hG h dX10_guessed_71

set_option maxHeartbeats 4000000 in
set_option maxRecDepth 100000 in
theorem soX10_guessed (l : Launch) (G : fw_G) (mh : Nat) (ad : Nat → Nat) (iv : fw_F) (ar : fw_R) (x1 : Int32) (x2 : Int32) (Q : Int32 → fw_F → fw_R → Prop)  (h : wpX10_guessed iv ar x1 x2 Q) : fw_M l G (mw G mh ad) yX10_guessed wsX10_guessed rmX10_guessed [.ref mh, .int x1, .int x2] iv ar (fw_Qi G (mw G mh ad) Q) := by
  refine fw_start (cc := cX10_guessed) (nL := 5) (rt := (some .int)) (by decide) rfl (Nat.le_of_ble_eq_true rfl) ?_
  intro p e s m below meth c A ls H locs C hK hG hl
  obtain ⟨args, ea⟩ : ∃ z : Array Value, z = ([.ref mh, .int x1, .int x2] : List Value).toArray := ⟨_, rfl⟩
  rw [← ea] at C ⊢
  have C : fw_C p s m args meth c cX10_guessed 5 (some .int) wsX10_guessed RX10 := C
  have hl : lv_has ls 5 [(0, .ref mh), (1, .int x1), (2, .int x2)] := hl
  unfold wpX10_guessed at h
  refine lv_aload_n C.1 C.2.1 dX10_guessed_0 rfl (lv_at hl 0 rfl) ?_
  refine lv_iload_n C.1 C.2.1 dX10_guessed_1 rfl (lv_at hl 1 rfl) ?_
  refine fw_rcalli (va_runV (As := [.int x1]) (rest := []) ⟨C.1, C.2.1, C.2.2.2.2.2.2, C.2.2.2.2.2.1, C.2.2.2.2.1⟩ (soX10_isKnife l G mh ad iv ar x1 _  h H.size) (cwV 1 C.2.2.2.2.1 gX10_guessed_X10_isKnife rfl rfl rfl (by decide +kernel) ⟨Nat.le_of_ble_eq_true rfl, Nat.le_of_ble_eq_true rfl⟩) (fw_preV hG hK (ci := 10) rfl mw_o) rfl rfl hl.1 rfl (lv_room (Nat.le_of_ble_eq_true rfl)) dX10_guessed_2 ⟨Nat.zero_le _, Nat.zero_le _⟩) hG hK (fun r1  H locs h hG => ?_)
  refine lv_if_ne (tgt := 10) C.1 C.2.1 dX10_guessed_5 (by decide) (fun c2 => ?_) (fun c2 => ?_)
  · have h := h.1 c2
    refine lv_iload_n C.1 C.2.1 dX10_guessed_10 rfl (lv_at hl 2 rfl) ?_
    refine lv_iconst (v := 0) C.1 C.2.1 dX10_guessed_11 (by decide) ?_
    refine lv_iconst (v := 1) C.1 C.2.1 dX10_guessed_12 (by decide) ?_
    refine fw_pcalli (va_runS (As := [.int x2, .int 0, .int 1]) (rest := []) ⟨C.1, C.2.1, C.2.2.2.2.2.2, C.2.2.2.2.2.1, C.2.2.2.2.1⟩ (soX10_within l x2 0 1 _ h H.size) (va_cwS 3 C.2.2.2.2.1 gX10_guessed_X10_within rfl rfl rfl (by decide +kernel) ⟨Nat.le_of_ble_eq_true rfl, Nat.le_of_ble_eq_true rfl⟩) fw_ppre rfl rfl hl.1 rfl (lv_room (Nat.le_of_ble_eq_true rfl)) dX10_guessed_13 ⟨Nat.zero_le _, Nat.zero_le _⟩) hG hK (fun r3  H locs h hG => ?_)
    refine lv_if_ne (tgt := 22) C.1 C.2.1 dX10_guessed_16 (by decide) (fun c4 => ?_) (fun c4 => ?_)
    · have h := h.1 c4
      refine lv_aload_n C.1 C.2.1 dX10_guessed_22 rfl (lv_at hl 0 rfl) ?_
      refine lv_iload_n C.1 C.2.1 dX10_guessed_23 rfl (lv_at hl 1 rfl) ?_
      refine fw_calli (va_runV (As := [.int x1]) (rest := []) ⟨C.1, C.2.1, C.2.2.2.2.2.2, C.2.2.2.2.2.1, C.2.2.2.2.1⟩ (soX10_layFitting l G mh ad iv ar x1 _  h H.size) (cwV 1 C.2.2.2.2.1 gX10_guessed_X10_layFitting rfl rfl rfl (by decide +kernel) ⟨Nat.le_of_ble_eq_true rfl, Nat.le_of_ble_eq_true rfl⟩) (fw_preV hG hK (ci := 10) rfl mw_o) rfl rfl hl.1 rfl (lv_room (Nat.le_of_ble_eq_true rfl)) dX10_guessed_24 ⟨Nat.zero_le _, Nat.zero_le _⟩) hG hK (fun r5 iv6 ar7 H locs h hG => ?_)
      refine lv_istore_n (lv' := [(3, .int r5), (0, .ref mh), (1, .int x1), (2, .int x2)]) C.1 C.2.1 dX10_guessed_27 rfl hl (by decide) rfl (fun ls hl => ?_)
      refine lv_iload_n C.1 C.2.1 dX10_guessed_28 rfl (lv_at hl 3 rfl) ?_
      refine lv_if_ne (tgt := 34) C.1 C.2.1 dX10_guessed_29 (by decide) (fun c8 => ?_) (fun c8 => ?_)
      · have h := h.1 c8
        refine lv_iconst (v := 0) C.1 C.2.1 dX10_guessed_34 (by decide) ?_
        refine lv_istore (lv' := [(4, .int 0), (3, .int r5), (0, .ref mh), (1, .int x1), (2, .int x2)]) C.1 C.2.1 dX10_guessed_35 hl (by decide) rfl (fun ls hl => ?_)
        obtain ⟨ku, h⟩ := h
        refine soX10_guessed_L37 C hK  ?_ ku _ h _ _ hG ls (lv_sub hl [0, 2] rfl)
        intro w13 h H locs hG ls hl
        refine lv_bipush (v := (-9)) C.1 C.2.1 dX10_guessed_78 (by decide) ?_
        exact fw_iret C hG h dX10_guessed_80
      · have h := h.2 c8
        refine lv_iload_n C.1 C.2.1 dX10_guessed_32 rfl (lv_at hl 0 rfl) ?_
        exact fw_iret C hG h dX10_guessed_33
    · have h := h.2 c4
      refine lv_bipush (v := (-2)) C.1 C.2.1 dX10_guessed_19 (by decide) ?_
      exact fw_iret C hG h dX10_guessed_21
  · have h := h.2 c2
    refine lv_iconst (v := (-1)) C.1 C.2.1 dX10_guessed_8 (by decide) ?_
    exact fw_iret C hG h dX10_guessed_9
/-! KnifeBoardModel.worst(II)I -/
def rmX10_worst : Room := { frames := 3, cells := 0, slots := 0, locals := 70 }
def wpX10_worst_L2 (x1 : Int32) (x2 : Int32) (Q : Int32 → fw_F → fw_R → Prop) (K : Int32 → fw_F → fw_R → Prop) : Nat → Int32 → fw_F → fw_R → Prop
  | 0, _, _, _ => False
  | fu + 1, z3, iv, ar => (4 ≤ z3 → (K z3 iv ar)) ∧ (¬ 4 ≤ z3 → (vp_in z3 4 ∧ (∀ ar3 : fw_R, ar3 = va_up ar 32 (upd (ar 32) z3.toNatClampNeg 0) → (∀ y4 : Int32, y4 = z3 + 1 → (wpX10_worst_L2 x1 x2 Q K fu y4 iv ar3)))))
def wpX10_worst_L25 (x1 : Int32) (x2 : Int32) (Q : Int32 → fw_F → fw_R → Prop) (K : Int32 → Int32 → fw_F → fw_R → Prop) : Nat → Int32 → Int32 → fw_F → fw_R → Prop
  | 0, _, _, _, _ => False
  | fu + 1, z3, z4, iv, ar => (576 ≤ z4 → (K z3 z4 iv ar)) ∧ (¬ 576 ≤ z4 → (vp_in z4 576 ∧ ((((ar 31) z4.toNatClampNeg) = 0 → (∀ y11 : Int32, y11 = z4 + 1 → (wpX10_worst_L25 x1 x2 Q K fu z3 y11 iv ar))) ∧ (¬ ((ar 31) z4.toNatClampNeg) = 0 → (wpX10_cameBy iv ar x1 z4 x2 (fun (r12 : Int32) => vp_in r12 4 ∧ (vp_in r12 4 ∧ (∀ ar15 : fw_R, ar15 = va_up ar 32 (upd (ar 32) r12.toNatClampNeg (((ar 32) r12.toNatClampNeg) + 1)) → (vp_in r12 4 ∧ ((((ar15 32) r12.toNatClampNeg) ≤ z3 → (∀ y18 : Int32, y18 = z4 + 1 → (wpX10_worst_L25 x1 x2 Q K fu z3 y18 iv ar15))) ∧ (¬ ((ar15 32) r12.toNatClampNeg) ≤ z3 → (vp_in r12 4 ∧ (∀ y20 : Int32, y20 = (ar15 32) r12.toNatClampNeg → (∀ y21 : Int32, y21 = z4 + 1 → (wpX10_worst_L25 x1 x2 Q K fu y20 y21 iv ar15)))))))))))))))
def wpX10_worst (iv : fw_F) (ar : fw_R) (x1 : Int32) (x2 : Int32) (Q : Int32 → fw_F → fw_R → Prop) : Prop := ∃ ku : Nat, wpX10_worst_L2 x1 x2 Q (fun (w5 : Int32) (iv6 : fw_F) (ar7 : fw_R) => ∃ ku : Nat, wpX10_worst_L25 x1 x2 Q (fun (w22 : Int32) (w23 : Int32) (iv24 : fw_F) (ar25 : fw_R) => Q w22 iv24 ar25) ku 0 0 iv6 ar7) ku 0 iv ar
set_option maxHeartbeats 4000000 in
set_option maxRecDepth 100000 in
theorem soX10_worst_L2 {p : Program} {l : Launch} {e : Env} {s : State} {m : MethodId} {args : Array Value} {below : List Frame} {meth : Method} {c : Code} {A : Nat → Prop} {G : fw_G} {mh : Nat} {ad : Nat → Nat} {x1 : Int32} {x2 : Int32} {Q : Int32 → fw_F → fw_R → Prop} {K : Int32 → fw_F → fw_R → Prop} (C : fw_C p s m args meth c cX10_worst 6 (some .int) wsX10_worst RX10) (hK : fw_K G A s)  (hX : ∀ (z3 : Int32) (iv : fw_F) (ar : fw_R), K z3 iv ar → ∀ (H : Heap) (locs : List Loc), fw_H G ((mw G mh ad) iv ar) A s H locs → ∀ (ls : Array Slot), lv_has ls 6 [(3, .int z3), (0, .ref mh), (1, .int x1), (2, .int x2)] → W p l e rmX10_worst s m args below meth c H locs 0 0 (MQ below (fw_Qi G (mw G mh ad) Q A) args s 0 0 A) (F0 m 20 ls [])) : ∀ (fu : Nat) (z3 : Int32) (iv : fw_F) (ar : fw_R), wpX10_worst_L2 x1 x2 Q K fu z3 iv ar → ∀ (H : Heap) (locs : List Loc), fw_H G ((mw G mh ad) iv ar) A s H locs → ∀ (ls : Array Slot), lv_has ls 6 [(3, .int z3), (0, .ref mh), (1, .int x1), (2, .int x2)] → W p l e rmX10_worst s m args below meth c H locs 0 0 (MQ below (fw_Qi G (mw G mh ad) Q A) args s 0 0 A) (F0 m 2 ls []) := by
  intro fu
  have in_X10 : ∀ x ∈ wsX100, x ∈ wsX10_worst := by decide +kernel
  have k68 := C.2.2.2.2.1 (.fieldLink RX10 68 "KnifeBoardModel" "leaves" "[I") (by decide +kernel)
  induction fu with
  | zero => intro z3 iv ar h; exact h.elim
  | succ fu ih =>
    intro z3 iv ar h H locs hG ls hl
    unfold wpX10_worst_L2 at h
    refine lv_iload_n C.1 C.2.1 dX10_worst_2 rfl (lv_at hl 0 rfl) ?_
    refine lv_iconst (v := 4) C.1 C.2.1 dX10_worst_3 (by decide) ?_
    refine lv_icmp_ge (tgt := 20) C.1 C.2.1 dX10_worst_4 (by decide) (fun c1 => ?_) (fun c1 => ?_)
    · have h := h.1 c1
      exact hX _ _ _ h _ _ hG ls (lv_sub hl [0, 1, 2, 3] rfl)
    · have h := h.2 c1
      refine lv_aload_n C.1 C.2.1 dX10_worst_7 rfl (lv_at hl 1 rfl) ?_
      refine fw_get (w := (mw G mh ad)) C in_X10 hK hG 0 mw_o rfl 32 (by decide) k68 rfl rfl dX10_worst_8 ?_
      refine lv_iload_n C.1 C.2.1 dX10_worst_11 rfl (lv_at hl 0 rfl) ?_
      refine lv_iconst (v := 0) C.1 C.2.1 dX10_worst_12 (by decide) ?_
      obtain ⟨c2, h⟩ := h
      obtain ⟨ar3, ear3⟩ : ∃ z : fw_R, z = va_up ar 32 (upd (ar 32) z3.toNatClampNeg 0) := ⟨_, rfl⟩
      have h := h ar3 ear3
      refine fw_iast (w := (mw G mh ad)) C hK hG 20 mw_a32 c2 (ar1 := ar3) (by rw [ear3]; exact mw_s32) dX10_worst_13 (fun H locs hG => ?_)
      obtain ⟨y4, ey4⟩ : ∃ z : Int32, z = z3 + 1 := ⟨_, rfl⟩
      have h := h y4 ey4
      refine lv_iinc (v := y4) (lv' := [(3, .int y4), (0, .ref mh), (1, .int x1), (2, .int x2)]) C.1 C.2.1 dX10_worst_14 hl (k := 0) rfl (by rw [ey4]; rfl) (by decide) rfl (fun ls hl => ?_)
      refine lv_goto (tgt := 2) C.1 C.2.1 dX10_worst_17 (by decide) ?_
      exact ih _ _ _ h _ _ hG ls (lv_sub hl [0, 1, 2, 3] rfl)

set_option maxHeartbeats 4000000 in
set_option maxRecDepth 100000 in
theorem soX10_worst_L25 {p : Program} {l : Launch} {e : Env} {s : State} {m : MethodId} {args : Array Value} {below : List Frame} {meth : Method} {c : Code} {A : Nat → Prop} {G : fw_G} {mh : Nat} {ad : Nat → Nat} {x1 : Int32} {x2 : Int32} {Q : Int32 → fw_F → fw_R → Prop} {K : Int32 → Int32 → fw_F → fw_R → Prop} (C : fw_C p s m args meth c cX10_worst 6 (some .int) wsX10_worst RX10) (hK : fw_K G A s)  (hX : ∀ (z3 : Int32) (z4 : Int32) (iv : fw_F) (ar : fw_R), K z3 z4 iv ar → ∀ (H : Heap) (locs : List Loc), fw_H G ((mw G mh ad) iv ar) A s H locs → ∀ (ls : Array Slot), lv_has ls 6 [(4, .int z4), (3, .int z3), (0, .ref mh), (1, .int x1), (2, .int x2)] → W p l e rmX10_worst s m args below meth c H locs 0 0 (MQ below (fw_Qi G (mw G mh ad) Q A) args s 0 0 A) (F0 m 93 ls [])) : ∀ (fu : Nat) (z3 : Int32) (z4 : Int32) (iv : fw_F) (ar : fw_R), wpX10_worst_L25 x1 x2 Q K fu z3 z4 iv ar → ∀ (H : Heap) (locs : List Loc), fw_H G ((mw G mh ad) iv ar) A s H locs → ∀ (ls : Array Slot), lv_has ls 6 [(4, .int z4), (3, .int z3), (0, .ref mh), (1, .int x1), (2, .int x2)] → W p l e rmX10_worst s m args below meth c H locs 0 0 (MQ below (fw_Qi G (mw G mh ad) Q A) args s 0 0 A) (F0 m 25 ls []) := by
  intro fu
  have in_X10 : ∀ x ∈ wsX100, x ∈ wsX10_worst := by decide +kernel
  have k64 := C.2.2.2.2.1 (.fieldLink RX10 64 "KnifeBoardModel" "fitting" "[Z") (by decide +kernel)
  have k68 := C.2.2.2.2.1 (.fieldLink RX10 68 "KnifeBoardModel" "leaves" "[I") (by decide +kernel)
  induction fu with
  | zero => intro z3 z4 iv ar h; exact h.elim
  | succ fu ih =>
    intro z3 z4 iv ar h H locs hG ls hl
    unfold wpX10_worst_L25 at h
    refine lv_iload C.1 C.2.1 dX10_worst_25 (lv_at hl 0 rfl) ?_
    refine lv_sipush (v := 576) C.1 C.2.1 dX10_worst_27 (by decide) ?_
    refine lv_icmp_ge (tgt := 93) C.1 C.2.1 dX10_worst_30 (by decide) (fun c8 => ?_) (fun c8 => ?_)
    · have h := h.1 c8
      exact hX _ _ _ _ h _ _ hG ls (lv_sub hl [0, 1, 2, 3, 4] rfl)
    · have h := h.2 c8
      refine lv_aload_n C.1 C.2.1 dX10_worst_33 rfl (lv_at hl 2 rfl) ?_
      refine fw_get (w := (mw G mh ad)) C in_X10 hK hG 0 mw_o rfl 31 (by decide) k64 rfl rfl dX10_worst_34 ?_
      refine lv_iload C.1 C.2.1 dX10_worst_37 (lv_at hl 0 rfl) ?_
      obtain ⟨c9, h⟩ := h
      refine fw_zald (w := (mw G mh ad)) C hK hG 19 mw_a31 c9 dX10_worst_39 ?_
      refine lv_if_eq (tgt := 87) C.1 C.2.1 dX10_worst_40 (by decide) (fun c10 => ?_) (fun c10 => ?_)
      · have h := h.1 c10
        obtain ⟨y11, ey11⟩ : ∃ z : Int32, z = z4 + 1 := ⟨_, rfl⟩
        have h := h y11 ey11
        refine lv_iinc (v := y11) (lv' := [(4, .int y11), (3, .int z3), (0, .ref mh), (1, .int x1), (2, .int x2)]) C.1 C.2.1 dX10_worst_87 hl (k := 0) rfl (by rw [ey11]; rfl) (by decide) rfl (fun ls hl => ?_)
        refine lv_goto (tgt := 25) C.1 C.2.1 dX10_worst_90 (by decide) ?_
        exact ih _ _ _ _ h _ _ hG ls (lv_sub hl [0, 1, 2, 3, 4] rfl)
      · have h := h.2 c10
        refine lv_aload_n C.1 C.2.1 dX10_worst_43 rfl (lv_at hl 2 rfl) ?_
        refine lv_iload_n C.1 C.2.1 dX10_worst_44 rfl (lv_at hl 3 rfl) ?_
        refine lv_iload C.1 C.2.1 dX10_worst_45 (lv_at hl 0 rfl) ?_
        refine lv_iload_n C.1 C.2.1 dX10_worst_47 rfl (lv_at hl 4 rfl) ?_
        refine fw_rcalli (va_runV (As := [.int x1, .int z4, .int x2]) (rest := []) ⟨C.1, C.2.1, C.2.2.2.2.2.2, C.2.2.2.2.2.1, C.2.2.2.2.1⟩ (soX10_cameBy l G mh ad iv ar x1 z4 x2 _  h H.size) (cwV 3 C.2.2.2.2.1 gX10_worst_X10_cameBy rfl rfl rfl (by decide +kernel) ⟨Nat.le_of_ble_eq_true rfl, Nat.le_of_ble_eq_true rfl⟩) (fw_preV hG hK (ci := 10) rfl mw_o) rfl rfl hl.1 rfl (lv_room (Nat.le_of_ble_eq_true rfl)) dX10_worst_48 ⟨Nat.zero_le _, Nat.zero_le _⟩) hG hK (fun r12  H locs h hG => ?_)
        refine lv_istore (lv' := [(5, .int r12), (4, .int z4), (3, .int z3), (0, .ref mh), (1, .int x1), (2, .int x2)]) C.1 C.2.1 dX10_worst_51 hl (by decide) rfl (fun ls hl => ?_)
        refine lv_aload_n C.1 C.2.1 dX10_worst_53 rfl (lv_at hl 3 rfl) ?_
        refine fw_get (w := (mw G mh ad)) C in_X10 hK hG 0 mw_o rfl 32 (by decide) k68 rfl rfl dX10_worst_54 ?_
        refine lv_iload C.1 C.2.1 dX10_worst_57 (lv_at hl 0 rfl) ?_
        refine lv_dup2_11 C.1 C.2.1 dX10_worst_59 rfl rfl ?_
        obtain ⟨c13, h⟩ := h
        refine fw_iald (w := (mw G mh ad)) C hK hG 20 mw_a32 c13 dX10_worst_60 ?_
        refine lv_iconst (v := 1) C.1 C.2.1 dX10_worst_61 (by decide) ?_
        refine lv_iadd C.1 C.2.1 dX10_worst_62 ?_
        obtain ⟨c14, h⟩ := h
        obtain ⟨ar15, ear15⟩ : ∃ z : fw_R, z = va_up ar 32 (upd (ar 32) r12.toNatClampNeg (((ar 32) r12.toNatClampNeg) + 1)) := ⟨_, rfl⟩
        have h := h ar15 ear15
        refine fw_iast (w := (mw G mh ad)) C hK hG 20 mw_a32 c14 (ar1 := ar15) (by rw [ear15]; exact mw_s32) dX10_worst_63 (fun H locs hG => ?_)
        refine lv_aload_n C.1 C.2.1 dX10_worst_64 rfl (lv_at hl 3 rfl) ?_
        refine fw_get (w := (mw G mh ad)) C in_X10 hK hG 0 mw_o rfl 32 (by decide) k68 rfl rfl dX10_worst_65 ?_
        refine lv_iload C.1 C.2.1 dX10_worst_68 (lv_at hl 0 rfl) ?_
        obtain ⟨c16, h⟩ := h
        refine fw_iald (w := (mw G mh ad)) C hK hG 20 mw_a32 c16 dX10_worst_70 ?_
        refine lv_iload_n C.1 C.2.1 dX10_worst_71 rfl (lv_at hl 2 rfl) ?_
        refine lv_icmp_le (tgt := 85) C.1 C.2.1 dX10_worst_72 (by decide) (fun c17 => ?_) (fun c17 => ?_)
        · have h := h.1 c17
          refine lv_iload_n C.1 C.2.1 dX10_worst_85 rfl (lv_at hl 2 rfl) ?_
          refine lv_istore_n (lv' := [(3, .int z3), (5, .int r12), (4, .int z4), (0, .ref mh), (1, .int x1), (2, .int x2)]) C.1 C.2.1 dX10_worst_86 rfl hl (by decide) rfl (fun ls hl => ?_)
          obtain ⟨y18, ey18⟩ : ∃ z : Int32, z = z4 + 1 := ⟨_, rfl⟩
          have h := h y18 ey18
          refine lv_iinc (v := y18) (lv' := [(4, .int y18), (3, .int z3), (5, .int r12), (0, .ref mh), (1, .int x1), (2, .int x2)]) C.1 C.2.1 dX10_worst_87 hl (k := 2) rfl (by rw [ey18]; rfl) (by decide) rfl (fun ls hl => ?_)
          refine lv_goto (tgt := 25) C.1 C.2.1 dX10_worst_90 (by decide) ?_
          exact ih _ _ _ _ h _ _ hG ls (lv_sub hl [0, 1, 3, 4, 5] rfl)
        · have h := h.2 c17
          refine lv_aload_n C.1 C.2.1 dX10_worst_75 rfl (lv_at hl 3 rfl) ?_
          refine fw_get (w := (mw G mh ad)) C in_X10 hK hG 0 mw_o rfl 32 (by decide) k68 rfl rfl dX10_worst_76 ?_
          refine lv_iload C.1 C.2.1 dX10_worst_79 (lv_at hl 0 rfl) ?_
          obtain ⟨c19, h⟩ := h
          refine fw_iald (w := (mw G mh ad)) C hK hG 20 mw_a32 c19 dX10_worst_81 ?_
          refine lv_goto (tgt := 86) C.1 C.2.1 dX10_worst_82 (by decide) ?_
          refine lv_topi (fun y20 ey20 => ?_)
          have h := h y20 ey20
          refine lv_istore_n (lv' := [(3, .int y20), (5, .int r12), (4, .int z4), (0, .ref mh), (1, .int x1), (2, .int x2)]) C.1 C.2.1 dX10_worst_86 rfl hl (by decide) rfl (fun ls hl => ?_)
          obtain ⟨y21, ey21⟩ : ∃ z : Int32, z = z4 + 1 := ⟨_, rfl⟩
          have h := h y21 ey21
          refine lv_iinc (v := y21) (lv' := [(4, .int y21), (3, .int y20), (5, .int r12), (0, .ref mh), (1, .int x1), (2, .int x2)]) C.1 C.2.1 dX10_worst_87 hl (k := 2) rfl (by rw [ey21]; rfl) (by decide) rfl (fun ls hl => ?_)
          refine lv_goto (tgt := 25) C.1 C.2.1 dX10_worst_90 (by decide) ?_
          exact ih _ _ _ _ h _ _ hG ls (lv_sub hl [0, 1, 3, 4, 5] rfl)

set_option maxHeartbeats 4000000 in
set_option maxRecDepth 100000 in
theorem soX10_worst (l : Launch) (G : fw_G) (mh : Nat) (ad : Nat → Nat) (iv : fw_F) (ar : fw_R) (x1 : Int32) (x2 : Int32) (Q : Int32 → fw_F → fw_R → Prop)  (h : wpX10_worst iv ar x1 x2 Q) : fw_M l G (mw G mh ad) yX10_worst wsX10_worst rmX10_worst [.ref mh, .int x1, .int x2] iv ar (fw_Qi G (mw G mh ad) Q) := by
  refine fw_start (cc := cX10_worst) (nL := 6) (rt := (some .int)) (by decide) rfl (Nat.le_of_ble_eq_true rfl) ?_
  intro p e s m below meth c A ls H locs C hK hG hl
  obtain ⟨args, ea⟩ : ∃ z : Array Value, z = ([.ref mh, .int x1, .int x2] : List Value).toArray := ⟨_, rfl⟩
  rw [← ea] at C ⊢
  have C : fw_C p s m args meth c cX10_worst 6 (some .int) wsX10_worst RX10 := C
  have hl : lv_has ls 6 [(0, .ref mh), (1, .int x1), (2, .int x2)] := hl
  unfold wpX10_worst at h
  refine lv_iconst (v := 0) C.1 C.2.1 dX10_worst_0 (by decide) ?_
  refine lv_istore_n (lv' := [(3, .int 0), (0, .ref mh), (1, .int x1), (2, .int x2)]) C.1 C.2.1 dX10_worst_1 rfl hl (by decide) rfl (fun ls hl => ?_)
  obtain ⟨ku, h⟩ := h
  refine soX10_worst_L2 C hK  ?_ ku _ _ _ h _ _ hG ls (lv_sub hl [0, 1, 2, 3] rfl)
  intro w5 iv6 ar7 h H locs hG ls hl
  refine lv_iconst (v := 0) C.1 C.2.1 dX10_worst_20 (by decide) ?_
  refine lv_istore_n (lv' := [(3, .int 0), (0, .ref mh), (1, .int x1), (2, .int x2)]) C.1 C.2.1 dX10_worst_21 rfl hl (by decide) rfl (fun ls hl => ?_)
  refine lv_iconst (v := 0) C.1 C.2.1 dX10_worst_22 (by decide) ?_
  refine lv_istore (lv' := [(4, .int 0), (3, .int 0), (0, .ref mh), (1, .int x1), (2, .int x2)]) C.1 C.2.1 dX10_worst_23 hl (by decide) rfl (fun ls hl => ?_)
  obtain ⟨ku, h⟩ := h
  refine soX10_worst_L25 C hK  ?_ ku _ _ _ _ h _ _ hG ls (lv_sub hl [0, 1, 2, 3, 4] rfl)
  intro w22 w23 iv24 ar25 h H locs hG ls hl
  refine lv_iload_n C.1 C.2.1 dX10_worst_93 rfl (lv_at hl 1 rfl) ?_
  exact fw_iret C hG h dX10_worst_94
/-! KnifeBoardModel.tells(II)I -/
def rmX10_tells : Room := { frames := 4, cells := 0, slots := 0, locals := 95 }
def wpX10_tells_L46 (x1 : Int32) (x2 : Int32) (Q : Int32 → fw_F → fw_R → Prop) (K : Int32 → Int32 → Int32 → fw_F → fw_R → Prop) : Nat → Int32 → Int32 → Int32 → fw_F → fw_R → Prop
  | 0, _, _, _, _, _ => False
  | fu + 1, z3, z4, z5, iv, ar => (40 < z5 → (K z3 z4 z5 iv ar)) ∧ (¬ 40 < z5 → (wpX10_worst iv ar x1 z5 (fun (r13 : Int32) (iv14 : fw_F) (ar15 : fw_R) => (z4 ≤ r13 → (∀ y17 : Int32, y17 = z5 + 1 → (wpX10_tells_L46 x1 x2 Q K fu z3 z4 y17 iv14 ar15))) ∧ (¬ z4 ≤ r13 → (∀ y18 : Int32, y18 = z5 + 1 → (wpX10_tells_L46 x1 x2 Q K fu z5 r13 y18 iv14 ar15))))))
def wpX10_tells (iv : fw_F) (ar : fw_R) (x1 : Int32) (x2 : Int32) (Q : Int32 → fw_F → fw_R → Prop) : Prop := wpX10_isKnife iv ar x1 (fun (r1 : Int32) => (¬ r1 = 0 → (wpX10_within x2 0 1 (fun (r3 : Int32) => (¬ r3 = 0 → (wpX10_layFitting iv ar x1 (fun (r5 : Int32) (iv6 : fw_F) (ar7 : fw_R) => (¬ r5 = 0 → (wpX10_worst iv6 ar7 x1 1 (fun (r9 : Int32) (iv10 : fw_F) (ar11 : fw_R) => ∃ ku : Nat, wpX10_tells_L46 x1 x2 Q (fun (w19 : Int32) (w20 : Int32) (w21 : Int32) (iv22 : fw_F) (ar23 : fw_R) => (¬ x2 = 0 → (Q w20 iv22 ar23)) ∧ (x2 = 0 → (Q w19 iv22 ar23))) ku 1 r9 2 iv10 ar11))) ∧ (r5 = 0 → (Q (-9) iv6 ar7))))) ∧ (r3 = 0 → (Q (-2) iv ar))))) ∧ (r1 = 0 → (Q (-1) iv ar)))
set_option maxHeartbeats 4000000 in
set_option maxRecDepth 100000 in
theorem soX10_tells_L46 {p : Program} {l : Launch} {e : Env} {s : State} {m : MethodId} {args : Array Value} {below : List Frame} {meth : Method} {c : Code} {A : Nat → Prop} {G : fw_G} {mh : Nat} {ad : Nat → Nat} {x1 : Int32} {x2 : Int32} {Q : Int32 → fw_F → fw_R → Prop} {K : Int32 → Int32 → Int32 → fw_F → fw_R → Prop} (C : fw_C p s m args meth c cX10_tells 7 (some .int) wsX10_tells RX10) (hK : fw_K G A s)  (hX : ∀ (z3 : Int32) (z4 : Int32) (z5 : Int32) (iv : fw_F) (ar : fw_R), K z3 z4 z5 iv ar → ∀ (H : Heap) (locs : List Loc), fw_H G ((mw G mh ad) iv ar) A s H locs → ∀ (ls : Array Slot), lv_has ls 7 [(5, .int z5), (4, .int z4), (3, .int z3), (0, .ref mh), (1, .int x1), (2, .int x2)] → W p l e rmX10_tells s m args below meth c H locs 0 0 (MQ below (fw_Qi G (mw G mh ad) Q A) args s 0 0 A) (F0 m 82 ls [])) : ∀ (fu : Nat) (z3 : Int32) (z4 : Int32) (z5 : Int32) (iv : fw_F) (ar : fw_R), wpX10_tells_L46 x1 x2 Q K fu z3 z4 z5 iv ar → ∀ (H : Heap) (locs : List Loc), fw_H G ((mw G mh ad) iv ar) A s H locs → ∀ (ls : Array Slot), lv_has ls 7 [(5, .int z5), (4, .int z4), (3, .int z3), (0, .ref mh), (1, .int x1), (2, .int x2)] → W p l e rmX10_tells s m args below meth c H locs 0 0 (MQ below (fw_Qi G (mw G mh ad) Q A) args s 0 0 A) (F0 m 46 ls []) := by
  intro fu
  induction fu with
  | zero => intro z3 z4 z5 iv ar h; exact h.elim
  | succ fu ih =>
    intro z3 z4 z5 iv ar h H locs hG ls hl
    unfold wpX10_tells_L46 at h
    refine lv_iload C.1 C.2.1 dX10_tells_46 (lv_at hl 0 rfl) ?_
    refine lv_bipush (v := 40) C.1 C.2.1 dX10_tells_48 (by decide) ?_
    refine lv_icmp_gt (tgt := 82) C.1 C.2.1 dX10_tells_50 (by decide) (fun c12 => ?_) (fun c12 => ?_)
    · have h := h.1 c12
      exact hX _ _ _ _ _ h _ _ hG ls (lv_sub hl [0, 1, 2, 3, 4, 5] rfl)
    · have h := h.2 c12
      refine lv_aload_n C.1 C.2.1 dX10_tells_53 rfl (lv_at hl 3 rfl) ?_
      refine lv_iload_n C.1 C.2.1 dX10_tells_54 rfl (lv_at hl 4 rfl) ?_
      refine lv_iload C.1 C.2.1 dX10_tells_55 (lv_at hl 0 rfl) ?_
      refine fw_calli (va_runV (As := [.int x1, .int z5]) (rest := []) ⟨C.1, C.2.1, C.2.2.2.2.2.2, C.2.2.2.2.2.1, C.2.2.2.2.1⟩ (soX10_worst l G mh ad iv ar x1 z5 _  h H.size) (cwV 2 C.2.2.2.2.1 gX10_tells_X10_worst rfl rfl rfl (by decide +kernel) ⟨Nat.le_of_ble_eq_true rfl, Nat.le_of_ble_eq_true rfl⟩) (fw_preV hG hK (ci := 10) rfl mw_o) rfl rfl hl.1 rfl (lv_room (Nat.le_of_ble_eq_true rfl)) dX10_tells_57 ⟨Nat.zero_le _, Nat.zero_le _⟩) hG hK (fun r13 iv14 ar15 H locs h hG => ?_)
      refine lv_istore (lv' := [(6, .int r13), (5, .int z5), (4, .int z4), (3, .int z3), (0, .ref mh), (1, .int x1), (2, .int x2)]) C.1 C.2.1 dX10_tells_60 hl (by decide) rfl (fun ls hl => ?_)
      refine lv_iload C.1 C.2.1 dX10_tells_62 (lv_at hl 0 rfl) ?_
      refine lv_iload C.1 C.2.1 dX10_tells_64 (lv_at hl 2 rfl) ?_
      refine lv_icmp_ge (tgt := 76) C.1 C.2.1 dX10_tells_66 (by decide) (fun c16 => ?_) (fun c16 => ?_)
      · have h := h.1 c16
        obtain ⟨y17, ey17⟩ : ∃ z : Int32, z = z5 + 1 := ⟨_, rfl⟩
        have h := h y17 ey17
        refine lv_iinc (v := y17) (lv' := [(5, .int y17), (6, .int r13), (4, .int z4), (3, .int z3), (0, .ref mh), (1, .int x1), (2, .int x2)]) C.1 C.2.1 dX10_tells_76 hl (k := 1) rfl (by rw [ey17]; rfl) (by decide) rfl (fun ls hl => ?_)
        refine lv_goto (tgt := 46) C.1 C.2.1 dX10_tells_79 (by decide) ?_
        exact ih _ _ _ _ _ h _ _ hG ls (lv_sub hl [0, 2, 3, 4, 5, 6] rfl)
      · have h := h.2 c16
        refine lv_iload C.1 C.2.1 dX10_tells_69 (lv_at hl 0 rfl) ?_
        refine lv_istore (lv' := [(4, .int r13), (6, .int r13), (5, .int z5), (3, .int z3), (0, .ref mh), (1, .int x1), (2, .int x2)]) C.1 C.2.1 dX10_tells_71 hl (by decide) rfl (fun ls hl => ?_)
        refine lv_iload C.1 C.2.1 dX10_tells_73 (lv_at hl 2 rfl) ?_
        refine lv_istore_n (lv' := [(3, .int z5), (4, .int r13), (6, .int r13), (5, .int z5), (0, .ref mh), (1, .int x1), (2, .int x2)]) C.1 C.2.1 dX10_tells_75 rfl hl (by decide) rfl (fun ls hl => ?_)
        obtain ⟨y18, ey18⟩ : ∃ z : Int32, z = z5 + 1 := ⟨_, rfl⟩
        have h := h y18 ey18
        refine lv_iinc (v := y18) (lv' := [(5, .int y18), (3, .int z5), (4, .int r13), (6, .int r13), (0, .ref mh), (1, .int x1), (2, .int x2)]) C.1 C.2.1 dX10_tells_76 hl (k := 3) rfl (by rw [ey18]; rfl) (by decide) rfl (fun ls hl => ?_)
        refine lv_goto (tgt := 46) C.1 C.2.1 dX10_tells_79 (by decide) ?_
        exact ih _ _ _ _ _ h _ _ hG ls (lv_sub hl [0, 2, 1, 4, 5, 6] rfl)

set_option maxHeartbeats 4000000 in
set_option maxRecDepth 100000 in
theorem soX10_tells (l : Launch) (G : fw_G) (mh : Nat) (ad : Nat → Nat) (iv : fw_F) (ar : fw_R) (x1 : Int32) (x2 : Int32) (Q : Int32 → fw_F → fw_R → Prop)  (h : wpX10_tells iv ar x1 x2 Q) : fw_M l G (mw G mh ad) yX10_tells wsX10_tells rmX10_tells [.ref mh, .int x1, .int x2] iv ar (fw_Qi G (mw G mh ad) Q) := by
  refine fw_start (cc := cX10_tells) (nL := 7) (rt := (some .int)) (by decide) rfl (Nat.le_of_ble_eq_true rfl) ?_
  intro p e s m below meth c A ls H locs C hK hG hl
  obtain ⟨args, ea⟩ : ∃ z : Array Value, z = ([.ref mh, .int x1, .int x2] : List Value).toArray := ⟨_, rfl⟩
  rw [← ea] at C ⊢
  have C : fw_C p s m args meth c cX10_tells 7 (some .int) wsX10_tells RX10 := C
  have hl : lv_has ls 7 [(0, .ref mh), (1, .int x1), (2, .int x2)] := hl
  unfold wpX10_tells at h
  refine lv_aload_n C.1 C.2.1 dX10_tells_0 rfl (lv_at hl 0 rfl) ?_
  refine lv_iload_n C.1 C.2.1 dX10_tells_1 rfl (lv_at hl 1 rfl) ?_
  refine fw_rcalli (va_runV (As := [.int x1]) (rest := []) ⟨C.1, C.2.1, C.2.2.2.2.2.2, C.2.2.2.2.2.1, C.2.2.2.2.1⟩ (soX10_isKnife l G mh ad iv ar x1 _  h H.size) (cwV 1 C.2.2.2.2.1 gX10_tells_X10_isKnife rfl rfl rfl (by decide +kernel) ⟨Nat.le_of_ble_eq_true rfl, Nat.le_of_ble_eq_true rfl⟩) (fw_preV hG hK (ci := 10) rfl mw_o) rfl rfl hl.1 rfl (lv_room (Nat.le_of_ble_eq_true rfl)) dX10_tells_2 ⟨Nat.zero_le _, Nat.zero_le _⟩) hG hK (fun r1  H locs h hG => ?_)
  refine lv_if_ne (tgt := 10) C.1 C.2.1 dX10_tells_5 (by decide) (fun c2 => ?_) (fun c2 => ?_)
  · have h := h.1 c2
    refine lv_iload_n C.1 C.2.1 dX10_tells_10 rfl (lv_at hl 2 rfl) ?_
    refine lv_iconst (v := 0) C.1 C.2.1 dX10_tells_11 (by decide) ?_
    refine lv_iconst (v := 1) C.1 C.2.1 dX10_tells_12 (by decide) ?_
    refine fw_pcalli (va_runS (As := [.int x2, .int 0, .int 1]) (rest := []) ⟨C.1, C.2.1, C.2.2.2.2.2.2, C.2.2.2.2.2.1, C.2.2.2.2.1⟩ (soX10_within l x2 0 1 _ h H.size) (va_cwS 3 C.2.2.2.2.1 gX10_tells_X10_within rfl rfl rfl (by decide +kernel) ⟨Nat.le_of_ble_eq_true rfl, Nat.le_of_ble_eq_true rfl⟩) fw_ppre rfl rfl hl.1 rfl (lv_room (Nat.le_of_ble_eq_true rfl)) dX10_tells_13 ⟨Nat.zero_le _, Nat.zero_le _⟩) hG hK (fun r3  H locs h hG => ?_)
    refine lv_if_ne (tgt := 22) C.1 C.2.1 dX10_tells_16 (by decide) (fun c4 => ?_) (fun c4 => ?_)
    · have h := h.1 c4
      refine lv_aload_n C.1 C.2.1 dX10_tells_22 rfl (lv_at hl 0 rfl) ?_
      refine lv_iload_n C.1 C.2.1 dX10_tells_23 rfl (lv_at hl 1 rfl) ?_
      refine fw_calli (va_runV (As := [.int x1]) (rest := []) ⟨C.1, C.2.1, C.2.2.2.2.2.2, C.2.2.2.2.2.1, C.2.2.2.2.1⟩ (soX10_layFitting l G mh ad iv ar x1 _  h H.size) (cwV 1 C.2.2.2.2.1 gX10_tells_X10_layFitting rfl rfl rfl (by decide +kernel) ⟨Nat.le_of_ble_eq_true rfl, Nat.le_of_ble_eq_true rfl⟩) (fw_preV hG hK (ci := 10) rfl mw_o) rfl rfl hl.1 rfl (lv_room (Nat.le_of_ble_eq_true rfl)) dX10_tells_24 ⟨Nat.zero_le _, Nat.zero_le _⟩) hG hK (fun r5 iv6 ar7 H locs h hG => ?_)
      refine lv_if_ne (tgt := 33) C.1 C.2.1 dX10_tells_27 (by decide) (fun c8 => ?_) (fun c8 => ?_)
      · have h := h.1 c8
        refine lv_iconst (v := 1) C.1 C.2.1 dX10_tells_33 (by decide) ?_
        refine lv_istore_n (lv' := [(3, .int 1), (0, .ref mh), (1, .int x1), (2, .int x2)]) C.1 C.2.1 dX10_tells_34 rfl hl (by decide) rfl (fun ls hl => ?_)
        refine lv_aload_n C.1 C.2.1 dX10_tells_35 rfl (lv_at hl 1 rfl) ?_
        refine lv_iload_n C.1 C.2.1 dX10_tells_36 rfl (lv_at hl 2 rfl) ?_
        refine lv_iconst (v := 1) C.1 C.2.1 dX10_tells_37 (by decide) ?_
        refine fw_calli (va_runV (As := [.int x1, .int 1]) (rest := []) ⟨C.1, C.2.1, C.2.2.2.2.2.2, C.2.2.2.2.2.1, C.2.2.2.2.1⟩ (soX10_worst l G mh ad iv6 ar7 x1 1 _  h H.size) (cwV 2 C.2.2.2.2.1 gX10_tells_X10_worst rfl rfl rfl (by decide +kernel) ⟨Nat.le_of_ble_eq_true rfl, Nat.le_of_ble_eq_true rfl⟩) (fw_preV hG hK (ci := 10) rfl mw_o) rfl rfl hl.1 rfl (lv_room (Nat.le_of_ble_eq_true rfl)) dX10_tells_38 ⟨Nat.zero_le _, Nat.zero_le _⟩) hG hK (fun r9 iv10 ar11 H locs h hG => ?_)
        refine lv_istore (lv' := [(4, .int r9), (3, .int 1), (0, .ref mh), (1, .int x1), (2, .int x2)]) C.1 C.2.1 dX10_tells_41 hl (by decide) rfl (fun ls hl => ?_)
        refine lv_iconst (v := 2) C.1 C.2.1 dX10_tells_43 (by decide) ?_
        refine lv_istore (lv' := [(5, .int 2), (4, .int r9), (3, .int 1), (0, .ref mh), (1, .int x1), (2, .int x2)]) C.1 C.2.1 dX10_tells_44 hl (by decide) rfl (fun ls hl => ?_)
        obtain ⟨ku, h⟩ := h
        refine soX10_tells_L46 C hK  ?_ ku _ _ _ _ _ h _ _ hG ls (lv_sub hl [0, 1, 2, 3, 4, 5] rfl)
        intro w19 w20 w21 iv22 ar23 h H locs hG ls hl
        refine lv_iload_n C.1 C.2.1 dX10_tells_82 rfl (lv_at hl 5 rfl) ?_
        refine lv_if_ne (tgt := 90) C.1 C.2.1 dX10_tells_83 (by decide) (fun c24 => ?_) (fun c24 => ?_)
        · have h := h.1 c24
          refine lv_iload C.1 C.2.1 dX10_tells_90 (lv_at hl 1 rfl) ?_
          exact fw_iret C hG h dX10_tells_92
        · have h := h.2 c24
          refine lv_iload_n C.1 C.2.1 dX10_tells_86 rfl (lv_at hl 2 rfl) ?_
          refine lv_goto (tgt := 92) C.1 C.2.1 dX10_tells_87 (by decide) ?_
          exact fw_iret C hG h dX10_tells_92
      · have h := h.2 c8
        refine lv_bipush (v := (-9)) C.1 C.2.1 dX10_tells_30 (by decide) ?_
        exact fw_iret C hG h dX10_tells_32
    · have h := h.2 c4
      refine lv_bipush (v := (-2)) C.1 C.2.1 dX10_tells_19 (by decide) ?_
      exact fw_iret C hG h dX10_tells_21
  · have h := h.2 c2
    refine lv_iconst (v := (-1)) C.1 C.2.1 dX10_tells_8 (by decide) ?_
    exact fw_iret C hG h dX10_tells_9
