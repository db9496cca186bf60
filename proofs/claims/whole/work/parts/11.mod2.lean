/-! KnifeBoardModel.readHand(I)Z -/
def rmX10_readHand : Room := { frames := 3, cells := 0, slots := 0, locals := 69 }
def wpX10_readHand_L2 (x1 : Int32) (Q : Int32 → fw_F → fw_R → Prop) (K : Int32 → fw_F → fw_R → Prop) : Nat → Int32 → fw_F → fw_R → Prop
  | 0, _, _, _ => False
  | fu + 1, z2, iv, ar => (3 ≤ z2 → (K z2 iv ar)) ∧ (¬ 3 ≤ z2 → ((z2 ≤ 0 → ((¬ z2 = 0 → ((¬ z2 = 1 → (wpX10_isCode iv ar 97 x1 (fun (r5 : Int32) => (¬ r5 = 0 → (∀ iv7 : fw_F, iv7 = va_up iv 13 ((iv 13) + 1) → (wpX10_readRow iv7 ar z2 x1 (fun (r8 : Int32) (iv9 : fw_F) (ar10 : fw_R) => (¬ r8 = 0 → (∀ y12 : Int32, y12 = z2 + 1 → (wpX10_readHand_L2 x1 Q K fu y12 iv9 ar10))) ∧ (r8 = 0 → (Q 0 iv9 ar10)))))) ∧ (r5 = 0 → (Q 0 iv ar))))) ∧ (z2 = 1 → (wpX10_isCode iv ar 117 x1 (fun (r13 : Int32) => (¬ r13 = 0 → (∀ iv15 : fw_F, iv15 = va_up iv 13 ((iv 13) + 1) → (wpX10_readRow iv15 ar z2 x1 (fun (r16 : Int32) (iv17 : fw_F) (ar18 : fw_R) => (¬ r16 = 0 → (∀ y20 : Int32, y20 = z2 + 1 → (wpX10_readHand_L2 x1 Q K fu y20 iv17 ar18))) ∧ (r16 = 0 → (Q 0 iv17 ar18)))))) ∧ (r13 = 0 → (Q 0 iv ar))))))) ∧ (z2 = 0 → (wpX10_isCode iv ar 104 x1 (fun (r21 : Int32) => (¬ r21 = 0 → (∀ iv23 : fw_F, iv23 = va_up iv 13 ((iv 13) + 1) → (wpX10_readRow iv23 ar z2 x1 (fun (r24 : Int32) (iv25 : fw_F) (ar26 : fw_R) => (¬ r24 = 0 → (∀ y28 : Int32, y28 = z2 + 1 → (wpX10_readHand_L2 x1 Q K fu y28 iv25 ar26))) ∧ (r24 = 0 → (Q 0 iv25 ar26)))))) ∧ (r21 = 0 → (Q 0 iv ar))))))) ∧ (¬ z2 ≤ 0 → (wpX10_isCode iv ar 59 x1 (fun (r29 : Int32) => (¬ r29 = 0 → (∀ iv31 : fw_F, iv31 = va_up iv 13 ((iv 13) + 1) → ((¬ z2 = 0 → ((¬ z2 = 1 → (wpX10_isCode iv31 ar 97 x1 (fun (r34 : Int32) => (¬ r34 = 0 → (∀ iv36 : fw_F, iv36 = va_up iv31 13 ((iv31 13) + 1) → (wpX10_readRow iv36 ar z2 x1 (fun (r37 : Int32) (iv38 : fw_F) (ar39 : fw_R) => (¬ r37 = 0 → (∀ y41 : Int32, y41 = z2 + 1 → (wpX10_readHand_L2 x1 Q K fu y41 iv38 ar39))) ∧ (r37 = 0 → (Q 0 iv38 ar39)))))) ∧ (r34 = 0 → (Q 0 iv31 ar))))) ∧ (z2 = 1 → (wpX10_isCode iv31 ar 117 x1 (fun (r42 : Int32) => (¬ r42 = 0 → (∀ iv44 : fw_F, iv44 = va_up iv31 13 ((iv31 13) + 1) → (wpX10_readRow iv44 ar z2 x1 (fun (r45 : Int32) (iv46 : fw_F) (ar47 : fw_R) => (¬ r45 = 0 → (∀ y49 : Int32, y49 = z2 + 1 → (wpX10_readHand_L2 x1 Q K fu y49 iv46 ar47))) ∧ (r45 = 0 → (Q 0 iv46 ar47)))))) ∧ (r42 = 0 → (Q 0 iv31 ar))))))) ∧ (z2 = 0 → (wpX10_isCode iv31 ar 104 x1 (fun (r50 : Int32) => (¬ r50 = 0 → (∀ iv52 : fw_F, iv52 = va_up iv31 13 ((iv31 13) + 1) → (wpX10_readRow iv52 ar z2 x1 (fun (r53 : Int32) (iv54 : fw_F) (ar55 : fw_R) => (¬ r53 = 0 → (∀ y57 : Int32, y57 = z2 + 1 → (wpX10_readHand_L2 x1 Q K fu y57 iv54 ar55))) ∧ (r53 = 0 → (Q 0 iv54 ar55)))))) ∧ (r50 = 0 → (Q 0 iv31 ar)))))))) ∧ (r29 = 0 → (Q 0 iv ar)))))))
def wpX10_readHand (iv : fw_F) (ar : fw_R) (x1 : Int32) (Q : Int32 → fw_F → fw_R → Prop) : Prop := ∃ ku : Nat, wpX10_readHand_L2 x1 Q (fun (w58 : Int32) (iv59 : fw_F) (ar60 : fw_R) => ∀ iv61 : fw_F, iv61 = va_up iv59 14 0 → ((¬ (iv61 13) = x1 → (wpX10_isCode iv61 ar60 59 x1 (fun (r63 : Int32) => (¬ r63 = 0 → (∀ iv65 : fw_F, iv65 = va_up iv61 13 ((iv61 13) + 1) → (wpX10_isCode iv65 ar60 116 x1 (fun (r66 : Int32) => (¬ r66 = 0 → (∀ iv68 : fw_F, iv68 = va_up iv65 13 ((iv65 13) + 1) → (wpX10_digitAt iv68 ar60 (iv68 13) x1 (fun (r69 : Int32) => ∀ iv70 : fw_F, iv70 = va_up iv68 14 r69 → ((1 ≤ (iv70 14) → (∀ iv72 : fw_F, iv72 = va_up iv70 13 ((iv70 13) + 1) → ((¬ (iv72 13) = x1 → (Q 0 iv72 ar60)) ∧ ((iv72 13) = x1 → (Q 1 iv72 ar60))))) ∧ (¬ 1 ≤ (iv70 14) → (Q 0 iv70 ar60))))))) ∧ (r66 = 0 → (Q 0 iv65 ar60)))))) ∧ (r63 = 0 → (Q 0 iv61 ar60))))) ∧ ((iv61 13) = x1 → (Q 1 iv61 ar60)))) ku 0 iv ar
set_option maxHeartbeats 4000000 in
set_option maxRecDepth 100000 in
theorem soX10_readHand_L2 {p : Program} {l : Launch} {e : Env} {s : State} {m : MethodId} {args : Array Value} {below : List Frame} {meth : Method} {c : Code} {A : Nat → Prop} {G : fw_G} {mh : Nat} {ad : Nat → Nat} {x1 : Int32} {Q : Int32 → fw_F → fw_R → Prop} {K : Int32 → fw_F → fw_R → Prop} (C : fw_C p s m args meth c cX10_readHand 3 (some .boolean) wsX10_readHand RX10) (hK : fw_K G A s)  (hX : ∀ (z2 : Int32) (iv : fw_F) (ar : fw_R), K z2 iv ar → ∀ (H : Heap) (locs : List Loc), fw_H G ((mw G mh ad) iv ar) A s H locs → ∀ (ls : Array Slot), lv_has ls 3 [(2, .int z2), (0, .ref mh), (1, .int x1)] → W p l e rmX10_readHand s m args below meth c H locs 0 0 (MQ below (fw_Qi G (mw G mh ad) Q A) args s 0 0 A) (F0 m 91 ls [])) : ∀ (fu : Nat) (z2 : Int32) (iv : fw_F) (ar : fw_R), wpX10_readHand_L2 x1 Q K fu z2 iv ar → ∀ (H : Heap) (locs : List Loc), fw_H G ((mw G mh ad) iv ar) A s H locs → ∀ (ls : Array Slot), lv_has ls 3 [(2, .int z2), (0, .ref mh), (1, .int x1)] → W p l e rmX10_readHand s m args below meth c H locs 0 0 (MQ below (fw_Qi G (mw G mh ad) Q A) args s 0 0 A) (F0 m 2 ls []) := by
  intro fu
  have in_X10 : ∀ x ∈ wsX100, x ∈ wsX10_readHand := by decide +kernel
  have k127 := C.2.2.2.2.1 (.fieldLink RX10 127 "KnifeBoardModel" "at" "I") (by decide +kernel)
  induction fu with
  | zero => intro z2 iv ar h; exact h.elim
  | succ fu ih =>
    intro z2 iv ar h H locs hG ls hl
    unfold wpX10_readHand_L2 at h
    refine lv_iload_n C.1 C.2.1 dX10_readHand_2 rfl (lv_at hl 0 rfl) ?_
    refine lv_iconst (v := 3) C.1 C.2.1 dX10_readHand_3 (by decide) ?_
    refine lv_icmp_ge (tgt := 91) C.1 C.2.1 dX10_readHand_4 (by decide) (fun c1 => ?_) (fun c1 => ?_)
    · have h := h.1 c1
      exact hX _ _ _ h _ _ hG ls (lv_sub hl [0, 1, 2] rfl)
    · have h := h.2 c1
      refine lv_iload_n C.1 C.2.1 dX10_readHand_7 rfl (lv_at hl 0 rfl) ?_
      refine lv_if_le (tgt := 33) C.1 C.2.1 dX10_readHand_8 (by decide) (fun c2 => ?_) (fun c2 => ?_)
      · have h := h.1 c2
        refine lv_aload_n C.1 C.2.1 dX10_readHand_33 rfl (lv_at hl 1 rfl) ?_
        refine lv_iload_n C.1 C.2.1 dX10_readHand_34 rfl (lv_at hl 0 rfl) ?_
        refine lv_if_ne (tgt := 43) C.1 C.2.1 dX10_readHand_35 (by decide) (fun c3 => ?_) (fun c3 => ?_)
        · have h := h.1 c3
          refine lv_iload_n C.1 C.2.1 dX10_readHand_43 rfl (lv_at hl 0 rfl) ?_
          refine lv_iconst (v := 1) C.1 C.2.1 dX10_readHand_44 (by decide) ?_
          refine lv_icmp_ne (tgt := 53) C.1 C.2.1 dX10_readHand_45 (by decide) (fun c4 => ?_) (fun c4 => ?_)
          · have h := h.1 c4
            refine lv_bipush (v := 97) C.1 C.2.1 dX10_readHand_53 (by decide) ?_
            refine lv_iload_n C.1 C.2.1 dX10_readHand_55 rfl (lv_at hl 2 rfl) ?_
            refine fw_rcalli (va_runV (As := [.int 97, .int x1]) (rest := []) ⟨C.1, C.2.1, C.2.2.2.2.2.2, C.2.2.2.2.2.1, C.2.2.2.2.1⟩ (soX10_isCode l G mh ad iv ar 97 x1 _  h H.size) (cwV 2 C.2.2.2.2.1 gX10_readHand_X10_isCode rfl rfl rfl (by decide +kernel) ⟨Nat.le_of_ble_eq_true rfl, Nat.le_of_ble_eq_true rfl⟩) (fw_preV hG hK (ci := 10) rfl mw_o) rfl rfl hl.1 rfl (lv_room (Nat.le_of_ble_eq_true rfl)) dX10_readHand_56 ⟨Nat.zero_le _, Nat.zero_le _⟩) hG hK (fun r5  H locs h hG => ?_)
            refine lv_if_ne (tgt := 64) C.1 C.2.1 dX10_readHand_59 (by decide) (fun c6 => ?_) (fun c6 => ?_)
            · have h := h.1 c6
              refine lv_aload_n C.1 C.2.1 dX10_readHand_64 rfl (lv_at hl 1 rfl) ?_
              refine lv_dup C.1 C.2.1 dX10_readHand_65 rfl ?_
              refine fw_get (w := (mw G mh ad)) C in_X10 hK hG 0 mw_o rfl 13 (by decide) k127 rfl rfl dX10_readHand_66 ?_
              refine lv_iconst (v := 1) C.1 C.2.1 dX10_readHand_69 (by decide) ?_
              refine lv_iadd C.1 C.2.1 dX10_readHand_70 ?_
              obtain ⟨iv7, eiv7⟩ : ∃ z : fw_F, z = va_up iv 13 ((iv 13) + 1) := ⟨_, rfl⟩
              have h := h iv7 eiv7
              refine fw_put (w := (mw G mh ad)) C in_X10 tyX10 tyX10_ok nmX10 hK hG 0 mw_o rfl 13 (by decide) k127 rfl rfl (ty := .int) (v := .int ((iv 13) + 1)) (by decide +kernel) rfl rfl (by first | decide | exact Nat.le_of_ble_eq_true rfl) (iv1 := iv7) (by rw [eiv7]; exact mw_p13) dX10_readHand_71 (fun H locs hG => ?_)
              refine lv_aload_n C.1 C.2.1 dX10_readHand_74 rfl (lv_at hl 1 rfl) ?_
              refine lv_iload_n C.1 C.2.1 dX10_readHand_75 rfl (lv_at hl 0 rfl) ?_
              refine lv_iload_n C.1 C.2.1 dX10_readHand_76 rfl (lv_at hl 2 rfl) ?_
              refine fw_calli (va_runV (As := [.int z2, .int x1]) (rest := []) ⟨C.1, C.2.1, C.2.2.2.2.2.2, C.2.2.2.2.2.1, C.2.2.2.2.1⟩ (soX10_readRow l G mh ad iv7 ar z2 x1 _  h H.size) (cwV 2 C.2.2.2.2.1 gX10_readHand_X10_readRow rfl rfl rfl (by decide +kernel) ⟨Nat.le_of_ble_eq_true rfl, Nat.le_of_ble_eq_true rfl⟩) (fw_preV hG hK (ci := 10) rfl mw_o) rfl rfl hl.1 rfl (lv_room (Nat.le_of_ble_eq_true rfl)) dX10_readHand_77 ⟨Nat.zero_le _, Nat.zero_le _⟩) hG hK (fun r8 iv9 ar10 H locs h hG => ?_)
              refine lv_if_ne (tgt := 85) C.1 C.2.1 dX10_readHand_80 (by decide) (fun c11 => ?_) (fun c11 => ?_)
              · have h := h.1 c11
                obtain ⟨y12, ey12⟩ : ∃ z : Int32, z = z2 + 1 := ⟨_, rfl⟩
                have h := h y12 ey12
                refine lv_iinc (v := y12) (lv' := [(2, .int y12), (0, .ref mh), (1, .int x1)]) C.1 C.2.1 dX10_readHand_85 hl (k := 0) rfl (by rw [ey12]; rfl) (by decide) rfl (fun ls hl => ?_)
                refine lv_goto (tgt := 2) C.1 C.2.1 dX10_readHand_88 (by decide) ?_
                exact ih _ _ _ h _ _ hG ls (lv_sub hl [0, 1, 2] rfl)
              · have h := h.2 c11
                refine lv_iconst (v := 0) C.1 C.2.1 dX10_readHand_83 (by decide) ?_
                exact fw_zret C hG (by decide) h dX10_readHand_84
            · have h := h.2 c6
              refine lv_iconst (v := 0) C.1 C.2.1 dX10_readHand_62 (by decide) ?_
              exact fw_zret C hG (by decide) h dX10_readHand_63
          · have h := h.2 c4
            refine lv_bipush (v := 117) C.1 C.2.1 dX10_readHand_48 (by decide) ?_
            refine lv_goto (tgt := 55) C.1 C.2.1 dX10_readHand_50 (by decide) ?_
            refine lv_iload_n C.1 C.2.1 dX10_readHand_55 rfl (lv_at hl 2 rfl) ?_
            refine fw_rcalli (va_runV (As := [.int 117, .int x1]) (rest := []) ⟨C.1, C.2.1, C.2.2.2.2.2.2, C.2.2.2.2.2.1, C.2.2.2.2.1⟩ (soX10_isCode l G mh ad iv ar 117 x1 _  h H.size) (cwV 2 C.2.2.2.2.1 gX10_readHand_X10_isCode rfl rfl rfl (by decide +kernel) ⟨Nat.le_of_ble_eq_true rfl, Nat.le_of_ble_eq_true rfl⟩) (fw_preV hG hK (ci := 10) rfl mw_o) rfl rfl hl.1 rfl (lv_room (Nat.le_of_ble_eq_true rfl)) dX10_readHand_56 ⟨Nat.zero_le _, Nat.zero_le _⟩) hG hK (fun r13  H locs h hG => ?_)
            refine lv_if_ne (tgt := 64) C.1 C.2.1 dX10_readHand_59 (by decide) (fun c14 => ?_) (fun c14 => ?_)
            · have h := h.1 c14
              refine lv_aload_n C.1 C.2.1 dX10_readHand_64 rfl (lv_at hl 1 rfl) ?_
              refine lv_dup C.1 C.2.1 dX10_readHand_65 rfl ?_
              refine fw_get (w := (mw G mh ad)) C in_X10 hK hG 0 mw_o rfl 13 (by decide) k127 rfl rfl dX10_readHand_66 ?_
              refine lv_iconst (v := 1) C.1 C.2.1 dX10_readHand_69 (by decide) ?_
              refine lv_iadd C.1 C.2.1 dX10_readHand_70 ?_
              obtain ⟨iv15, eiv15⟩ : ∃ z : fw_F, z = va_up iv 13 ((iv 13) + 1) := ⟨_, rfl⟩
              have h := h iv15 eiv15
              refine fw_put (w := (mw G mh ad)) C in_X10 tyX10 tyX10_ok nmX10 hK hG 0 mw_o rfl 13 (by decide) k127 rfl rfl (ty := .int) (v := .int ((iv 13) + 1)) (by decide +kernel) rfl rfl (by first | decide | exact Nat.le_of_ble_eq_true rfl) (iv1 := iv15) (by rw [eiv15]; exact mw_p13) dX10_readHand_71 (fun H locs hG => ?_)
              refine lv_aload_n C.1 C.2.1 dX10_readHand_74 rfl (lv_at hl 1 rfl) ?_
              refine lv_iload_n C.1 C.2.1 dX10_readHand_75 rfl (lv_at hl 0 rfl) ?_
              refine lv_iload_n C.1 C.2.1 dX10_readHand_76 rfl (lv_at hl 2 rfl) ?_
              refine fw_calli (va_runV (As := [.int z2, .int x1]) (rest := []) ⟨C.1, C.2.1, C.2.2.2.2.2.2, C.2.2.2.2.2.1, C.2.2.2.2.1⟩ (soX10_readRow l G mh ad iv15 ar z2 x1 _  h H.size) (cwV 2 C.2.2.2.2.1 gX10_readHand_X10_readRow rfl rfl rfl (by decide +kernel) ⟨Nat.le_of_ble_eq_true rfl, Nat.le_of_ble_eq_true rfl⟩) (fw_preV hG hK (ci := 10) rfl mw_o) rfl rfl hl.1 rfl (lv_room (Nat.le_of_ble_eq_true rfl)) dX10_readHand_77 ⟨Nat.zero_le _, Nat.zero_le _⟩) hG hK (fun r16 iv17 ar18 H locs h hG => ?_)
              refine lv_if_ne (tgt := 85) C.1 C.2.1 dX10_readHand_80 (by decide) (fun c19 => ?_) (fun c19 => ?_)
              · have h := h.1 c19
                obtain ⟨y20, ey20⟩ : ∃ z : Int32, z = z2 + 1 := ⟨_, rfl⟩
                have h := h y20 ey20
                refine lv_iinc (v := y20) (lv' := [(2, .int y20), (0, .ref mh), (1, .int x1)]) C.1 C.2.1 dX10_readHand_85 hl (k := 0) rfl (by rw [ey20]; rfl) (by decide) rfl (fun ls hl => ?_)
                refine lv_goto (tgt := 2) C.1 C.2.1 dX10_readHand_88 (by decide) ?_
                exact ih _ _ _ h _ _ hG ls (lv_sub hl [0, 1, 2] rfl)
              · have h := h.2 c19
                refine lv_iconst (v := 0) C.1 C.2.1 dX10_readHand_83 (by decide) ?_
                exact fw_zret C hG (by decide) h dX10_readHand_84
            · have h := h.2 c14
              refine lv_iconst (v := 0) C.1 C.2.1 dX10_readHand_62 (by decide) ?_
              exact fw_zret C hG (by decide) h dX10_readHand_63
        · have h := h.2 c3
          refine lv_bipush (v := 104) C.1 C.2.1 dX10_readHand_38 (by decide) ?_
          refine lv_goto (tgt := 55) C.1 C.2.1 dX10_readHand_40 (by decide) ?_
          refine lv_iload_n C.1 C.2.1 dX10_readHand_55 rfl (lv_at hl 2 rfl) ?_
          refine fw_rcalli (va_runV (As := [.int 104, .int x1]) (rest := []) ⟨C.1, C.2.1, C.2.2.2.2.2.2, C.2.2.2.2.2.1, C.2.2.2.2.1⟩ (soX10_isCode l G mh ad iv ar 104 x1 _  h H.size) (cwV 2 C.2.2.2.2.1 gX10_readHand_X10_isCode rfl rfl rfl (by decide +kernel) ⟨Nat.le_of_ble_eq_true rfl, Nat.le_of_ble_eq_true rfl⟩) (fw_preV hG hK (ci := 10) rfl mw_o) rfl rfl hl.1 rfl (lv_room (Nat.le_of_ble_eq_true rfl)) dX10_readHand_56 ⟨Nat.zero_le _, Nat.zero_le _⟩) hG hK (fun r21  H locs h hG => ?_)
          refine lv_if_ne (tgt := 64) C.1 C.2.1 dX10_readHand_59 (by decide) (fun c22 => ?_) (fun c22 => ?_)
          · have h := h.1 c22
            refine lv_aload_n C.1 C.2.1 dX10_readHand_64 rfl (lv_at hl 1 rfl) ?_
            refine lv_dup C.1 C.2.1 dX10_readHand_65 rfl ?_
            refine fw_get (w := (mw G mh ad)) C in_X10 hK hG 0 mw_o rfl 13 (by decide) k127 rfl rfl dX10_readHand_66 ?_
            refine lv_iconst (v := 1) C.1 C.2.1 dX10_readHand_69 (by decide) ?_
            refine lv_iadd C.1 C.2.1 dX10_readHand_70 ?_
            obtain ⟨iv23, eiv23⟩ : ∃ z : fw_F, z = va_up iv 13 ((iv 13) + 1) := ⟨_, rfl⟩
            have h := h iv23 eiv23
            refine fw_put (w := (mw G mh ad)) C in_X10 tyX10 tyX10_ok nmX10 hK hG 0 mw_o rfl 13 (by decide) k127 rfl rfl (ty := .int) (v := .int ((iv 13) + 1)) (by decide +kernel) rfl rfl (by first | decide | exact Nat.le_of_ble_eq_true rfl) (iv1 := iv23) (by rw [eiv23]; exact mw_p13) dX10_readHand_71 (fun H locs hG => ?_)
            refine lv_aload_n C.1 C.2.1 dX10_readHand_74 rfl (lv_at hl 1 rfl) ?_
            refine lv_iload_n C.1 C.2.1 dX10_readHand_75 rfl (lv_at hl 0 rfl) ?_
            refine lv_iload_n C.1 C.2.1 dX10_readHand_76 rfl (lv_at hl 2 rfl) ?_
            refine fw_calli (va_runV (As := [.int z2, .int x1]) (rest := []) ⟨C.1, C.2.1, C.2.2.2.2.2.2, C.2.2.2.2.2.1, C.2.2.2.2.1⟩ (soX10_readRow l G mh ad iv23 ar z2 x1 _  h H.size) (cwV 2 C.2.2.2.2.1 gX10_readHand_X10_readRow rfl rfl rfl (by decide +kernel) ⟨Nat.le_of_ble_eq_true rfl, Nat.le_of_ble_eq_true rfl⟩) (fw_preV hG hK (ci := 10) rfl mw_o) rfl rfl hl.1 rfl (lv_room (Nat.le_of_ble_eq_true rfl)) dX10_readHand_77 ⟨Nat.zero_le _, Nat.zero_le _⟩) hG hK (fun r24 iv25 ar26 H locs h hG => ?_)
            refine lv_if_ne (tgt := 85) C.1 C.2.1 dX10_readHand_80 (by decide) (fun c27 => ?_) (fun c27 => ?_)
            · have h := h.1 c27
              obtain ⟨y28, ey28⟩ : ∃ z : Int32, z = z2 + 1 := ⟨_, rfl⟩
              have h := h y28 ey28
              refine lv_iinc (v := y28) (lv' := [(2, .int y28), (0, .ref mh), (1, .int x1)]) C.1 C.2.1 dX10_readHand_85 hl (k := 0) rfl (by rw [ey28]; rfl) (by decide) rfl (fun ls hl => ?_)
              refine lv_goto (tgt := 2) C.1 C.2.1 dX10_readHand_88 (by decide) ?_
              exact ih _ _ _ h _ _ hG ls (lv_sub hl [0, 1, 2] rfl)
            · have h := h.2 c27
              refine lv_iconst (v := 0) C.1 C.2.1 dX10_readHand_83 (by decide) ?_
              exact fw_zret C hG (by decide) h dX10_readHand_84
          · have h := h.2 c22
            refine lv_iconst (v := 0) C.1 C.2.1 dX10_readHand_62 (by decide) ?_
            exact fw_zret C hG (by decide) h dX10_readHand_63
      · have h := h.2 c2
        refine lv_aload_n C.1 C.2.1 dX10_readHand_11 rfl (lv_at hl 1 rfl) ?_
        refine lv_bipush (v := 59) C.1 C.2.1 dX10_readHand_12 (by decide) ?_
        refine lv_iload_n C.1 C.2.1 dX10_readHand_14 rfl (lv_at hl 2 rfl) ?_
        refine fw_rcalli (va_runV (As := [.int 59, .int x1]) (rest := []) ⟨C.1, C.2.1, C.2.2.2.2.2.2, C.2.2.2.2.2.1, C.2.2.2.2.1⟩ (soX10_isCode l G mh ad iv ar 59 x1 _  h H.size) (cwV 2 C.2.2.2.2.1 gX10_readHand_X10_isCode rfl rfl rfl (by decide +kernel) ⟨Nat.le_of_ble_eq_true rfl, Nat.le_of_ble_eq_true rfl⟩) (fw_preV hG hK (ci := 10) rfl mw_o) rfl rfl hl.1 rfl (lv_room (Nat.le_of_ble_eq_true rfl)) dX10_readHand_15 ⟨Nat.zero_le _, Nat.zero_le _⟩) hG hK (fun r29  H locs h hG => ?_)
        refine lv_if_ne (tgt := 23) C.1 C.2.1 dX10_readHand_18 (by decide) (fun c30 => ?_) (fun c30 => ?_)
        · have h := h.1 c30
          refine lv_aload_n C.1 C.2.1 dX10_readHand_23 rfl (lv_at hl 1 rfl) ?_
          refine lv_dup C.1 C.2.1 dX10_readHand_24 rfl ?_
          refine fw_get (w := (mw G mh ad)) C in_X10 hK hG 0 mw_o rfl 13 (by decide) k127 rfl rfl dX10_readHand_25 ?_
          refine lv_iconst (v := 1) C.1 C.2.1 dX10_readHand_28 (by decide) ?_
          refine lv_iadd C.1 C.2.1 dX10_readHand_29 ?_
          obtain ⟨iv31, eiv31⟩ : ∃ z : fw_F, z = va_up iv 13 ((iv 13) + 1) := ⟨_, rfl⟩
          have h := h iv31 eiv31
          refine fw_put (w := (mw G mh ad)) C in_X10 tyX10 tyX10_ok nmX10 hK hG 0 mw_o rfl 13 (by decide) k127 rfl rfl (ty := .int) (v := .int ((iv 13) + 1)) (by decide +kernel) rfl rfl (by first | decide | exact Nat.le_of_ble_eq_true rfl) (iv1 := iv31) (by rw [eiv31]; exact mw_p13) dX10_readHand_30 (fun H locs hG => ?_)
          refine lv_aload_n C.1 C.2.1 dX10_readHand_33 rfl (lv_at hl 1 rfl) ?_
          refine lv_iload_n C.1 C.2.1 dX10_readHand_34 rfl (lv_at hl 0 rfl) ?_
          refine lv_if_ne (tgt := 43) C.1 C.2.1 dX10_readHand_35 (by decide) (fun c32 => ?_) (fun c32 => ?_)
          · have h := h.1 c32
            refine lv_iload_n C.1 C.2.1 dX10_readHand_43 rfl (lv_at hl 0 rfl) ?_
            refine lv_iconst (v := 1) C.1 C.2.1 dX10_readHand_44 (by decide) ?_
            refine lv_icmp_ne (tgt := 53) C.1 C.2.1 dX10_readHand_45 (by decide) (fun c33 => ?_) (fun c33 => ?_)
            · have h := h.1 c33
              refine lv_bipush (v := 97) C.1 C.2.1 dX10_readHand_53 (by decide) ?_
              refine lv_iload_n C.1 C.2.1 dX10_readHand_55 rfl (lv_at hl 2 rfl) ?_
              refine fw_rcalli (va_runV (As := [.int 97, .int x1]) (rest := []) ⟨C.1, C.2.1, C.2.2.2.2.2.2, C.2.2.2.2.2.1, C.2.2.2.2.1⟩ (soX10_isCode l G mh ad iv31 ar 97 x1 _  h H.size) (cwV 2 C.2.2.2.2.1 gX10_readHand_X10_isCode rfl rfl rfl (by decide +kernel) ⟨Nat.le_of_ble_eq_true rfl, Nat.le_of_ble_eq_true rfl⟩) (fw_preV hG hK (ci := 10) rfl mw_o) rfl rfl hl.1 rfl (lv_room (Nat.le_of_ble_eq_true rfl)) dX10_readHand_56 ⟨Nat.zero_le _, Nat.zero_le _⟩) hG hK (fun r34  H locs h hG => ?_)
              refine lv_if_ne (tgt := 64) C.1 C.2.1 dX10_readHand_59 (by decide) (fun c35 => ?_) (fun c35 => ?_)
              · have h := h.1 c35
                refine lv_aload_n C.1 C.2.1 dX10_readHand_64 rfl (lv_at hl 1 rfl) ?_
                refine lv_dup C.1 C.2.1 dX10_readHand_65 rfl ?_
                refine fw_get (w := (mw G mh ad)) C in_X10 hK hG 0 mw_o rfl 13 (by decide) k127 rfl rfl dX10_readHand_66 ?_
                refine lv_iconst (v := 1) C.1 C.2.1 dX10_readHand_69 (by decide) ?_
                refine lv_iadd C.1 C.2.1 dX10_readHand_70 ?_
                obtain ⟨iv36, eiv36⟩ : ∃ z : fw_F, z = va_up iv31 13 ((iv31 13) + 1) := ⟨_, rfl⟩
                have h := h iv36 eiv36
                refine fw_put (w := (mw G mh ad)) C in_X10 tyX10 tyX10_ok nmX10 hK hG 0 mw_o rfl 13 (by decide) k127 rfl rfl (ty := .int) (v := .int ((iv31 13) + 1)) (by decide +kernel) rfl rfl (by first | decide | exact Nat.le_of_ble_eq_true rfl) (iv1 := iv36) (by rw [eiv36]; exact mw_p13) dX10_readHand_71 (fun H locs hG => ?_)
                refine lv_aload_n C.1 C.2.1 dX10_readHand_74 rfl (lv_at hl 1 rfl) ?_
                refine lv_iload_n C.1 C.2.1 dX10_readHand_75 rfl (lv_at hl 0 rfl) ?_
                refine lv_iload_n C.1 C.2.1 dX10_readHand_76 rfl (lv_at hl 2 rfl) ?_
                refine fw_calli (va_runV (As := [.int z2, .int x1]) (rest := []) ⟨C.1, C.2.1, C.2.2.2.2.2.2, C.2.2.2.2.2.1, C.2.2.2.2.1⟩ (soX10_readRow l G mh ad iv36 ar z2 x1 _  h H.size) (cwV 2 C.2.2.2.2.1 gX10_readHand_X10_readRow rfl rfl rfl (by decide +kernel) ⟨Nat.le_of_ble_eq_true rfl, Nat.le_of_ble_eq_true rfl⟩) (fw_preV hG hK (ci := 10) rfl mw_o) rfl rfl hl.1 rfl (lv_room (Nat.le_of_ble_eq_true rfl)) dX10_readHand_77 ⟨Nat.zero_le _, Nat.zero_le _⟩) hG hK (fun r37 iv38 ar39 H locs h hG => ?_)
                refine lv_if_ne (tgt := 85) C.1 C.2.1 dX10_readHand_80 (by decide) (fun c40 => ?_) (fun c40 => ?_)
                · have h := h.1 c40
                  obtain ⟨y41, ey41⟩ : ∃ z : Int32, z = z2 + 1 := ⟨_, rfl⟩
                  have h := h y41 ey41
                  refine lv_iinc (v := y41) (lv' := [(2, .int y41), (0, .ref mh), (1, .int x1)]) C.1 C.2.1 dX10_readHand_85 hl (k := 0) rfl (by rw [ey41]; rfl) (by decide) rfl (fun ls hl => ?_)
                  refine lv_goto (tgt := 2) C.1 C.2.1 dX10_readHand_88 (by decide) ?_
                  exact ih _ _ _ h _ _ hG ls (lv_sub hl [0, 1, 2] rfl)
                · have h := h.2 c40
                  refine lv_iconst (v := 0) C.1 C.2.1 dX10_readHand_83 (by decide) ?_
                  exact fw_zret C hG (by decide) h dX10_readHand_84
              · have h := h.2 c35
                refine lv_iconst (v := 0) C.1 C.2.1 dX10_readHand_62 (by decide) ?_
                exact fw_zret C hG (by decide) h dX10_readHand_63
            · have h := h.2 c33
              refine lv_bipush (v := 117) C.1 C.2.1 dX10_readHand_48 (by decide) ?_
              refine lv_goto (tgt := 55) C.1 C.2.1 dX10_readHand_50 (by decide) ?_
              refine lv_iload_n C.1 C.2.1 dX10_readHand_55 rfl (lv_at hl 2 rfl) ?_
              refine fw_rcalli (va_runV (As := [.int 117, .int x1]) (rest := []) ⟨C.1, C.2.1, C.2.2.2.2.2.2, C.2.2.2.2.2.1, C.2.2.2.2.1⟩ (soX10_isCode l G mh ad iv31 ar 117 x1 _  h H.size) (cwV 2 C.2.2.2.2.1 gX10_readHand_X10_isCode rfl rfl rfl (by decide +kernel) ⟨Nat.le_of_ble_eq_true rfl, Nat.le_of_ble_eq_true rfl⟩) (fw_preV hG hK (ci := 10) rfl mw_o) rfl rfl hl.1 rfl (lv_room (Nat.le_of_ble_eq_true rfl)) dX10_readHand_56 ⟨Nat.zero_le _, Nat.zero_le _⟩) hG hK (fun r42  H locs h hG => ?_)
              refine lv_if_ne (tgt := 64) C.1 C.2.1 dX10_readHand_59 (by decide) (fun c43 => ?_) (fun c43 => ?_)
              · have h := h.1 c43
                refine lv_aload_n C.1 C.2.1 dX10_readHand_64 rfl (lv_at hl 1 rfl) ?_
                refine lv_dup C.1 C.2.1 dX10_readHand_65 rfl ?_
                refine fw_get (w := (mw G mh ad)) C in_X10 hK hG 0 mw_o rfl 13 (by decide) k127 rfl rfl dX10_readHand_66 ?_
                refine lv_iconst (v := 1) C.1 C.2.1 dX10_readHand_69 (by decide) ?_
                refine lv_iadd C.1 C.2.1 dX10_readHand_70 ?_
                obtain ⟨iv44, eiv44⟩ : ∃ z : fw_F, z = va_up iv31 13 ((iv31 13) + 1) := ⟨_, rfl⟩
                have h := h iv44 eiv44
                refine fw_put (w := (mw G mh ad)) C in_X10 tyX10 tyX10_ok nmX10 hK hG 0 mw_o rfl 13 (by decide) k127 rfl rfl (ty := .int) (v := .int ((iv31 13) + 1)) (by decide +kernel) rfl rfl (by first | decide | exact Nat.le_of_ble_eq_true rfl) (iv1 := iv44) (by rw [eiv44]; exact mw_p13) dX10_readHand_71 (fun H locs hG => ?_)
                refine lv_aload_n C.1 C.2.1 dX10_readHand_74 rfl (lv_at hl 1 rfl) ?_
                refine lv_iload_n C.1 C.2.1 dX10_readHand_75 rfl (lv_at hl 0 rfl) ?_
                refine lv_iload_n C.1 C.2.1 dX10_readHand_76 rfl (lv_at hl 2 rfl) ?_
                refine fw_calli (va_runV (As := [.int z2, .int x1]) (rest := []) ⟨C.1, C.2.1, C.2.2.2.2.2.2, C.2.2.2.2.2.1, C.2.2.2.2.1⟩ (soX10_readRow l G mh ad iv44 ar z2 x1 _  h H.size) (cwV 2 C.2.2.2.2.1 gX10_readHand_X10_readRow rfl rfl rfl (by decide +kernel) ⟨Nat.le_of_ble_eq_true rfl, Nat.le_of_ble_eq_true rfl⟩) (fw_preV hG hK (ci := 10) rfl mw_o) rfl rfl hl.1 rfl (lv_room (Nat.le_of_ble_eq_true rfl)) dX10_readHand_77 ⟨Nat.zero_le _, Nat.zero_le _⟩) hG hK (fun r45 iv46 ar47 H locs h hG => ?_)
                refine lv_if_ne (tgt := 85) C.1 C.2.1 dX10_readHand_80 (by decide) (fun c48 => ?_) (fun c48 => ?_)
                · have h := h.1 c48
                  obtain ⟨y49, ey49⟩ : ∃ z : Int32, z = z2 + 1 := ⟨_, rfl⟩
                  have h := h y49 ey49
                  refine lv_iinc (v := y49) (lv' := [(2, .int y49), (0, .ref mh), (1, .int x1)]) C.1 C.2.1 dX10_readHand_85 hl (k := 0) rfl (by rw [ey49]; rfl) (by decide) rfl (fun ls hl => ?_)
                  refine lv_goto (tgt := 2) C.1 C.2.1 dX10_readHand_88 (by decide) ?_
                  exact ih _ _ _ h _ _ hG ls (lv_sub hl [0, 1, 2] rfl)
                · have h := h.2 c48
                  refine lv_iconst (v := 0) C.1 C.2.1 dX10_readHand_83 (by decide) ?_
                  exact fw_zret C hG (by decide) h dX10_readHand_84
              · have h := h.2 c43
                refine lv_iconst (v := 0) C.1 C.2.1 dX10_readHand_62 (by decide) ?_
                exact fw_zret C hG (by decide) h dX10_readHand_63
          · have h := h.2 c32
            refine lv_bipush (v := 104) C.1 C.2.1 dX10_readHand_38 (by decide) ?_
            refine lv_goto (tgt := 55) C.1 C.2.1 dX10_readHand_40 (by decide) ?_
            refine lv_iload_n C.1 C.2.1 dX10_readHand_55 rfl (lv_at hl 2 rfl) ?_
            refine fw_rcalli (va_runV (As := [.int 104, .int x1]) (rest := []) ⟨C.1, C.2.1, C.2.2.2.2.2.2, C.2.2.2.2.2.1, C.2.2.2.2.1⟩ (soX10_isCode l G mh ad iv31 ar 104 x1 _  h H.size) (cwV 2 C.2.2.2.2.1 gX10_readHand_X10_isCode rfl rfl rfl (by decide +kernel) ⟨Nat.le_of_ble_eq_true rfl, Nat.le_of_ble_eq_true rfl⟩) (fw_preV hG hK (ci := 10) rfl mw_o) rfl rfl hl.1 rfl (lv_room (Nat.le_of_ble_eq_true rfl)) dX10_readHand_56 ⟨Nat.zero_le _, Nat.zero_le _⟩) hG hK (fun r50  H locs h hG => ?_)
            refine lv_if_ne (tgt := 64) C.1 C.2.1 dX10_readHand_59 (by decide) (fun c51 => ?_) (fun c51 => ?_)
            · have h := h.1 c51
              refine lv_aload_n C.1 C.2.1 dX10_readHand_64 rfl (lv_at hl 1 rfl) ?_
              refine lv_dup C.1 C.2.1 dX10_readHand_65 rfl ?_
              refine fw_get (w := (mw G mh ad)) C in_X10 hK hG 0 mw_o rfl 13 (by decide) k127 rfl rfl dX10_readHand_66 ?_
              refine lv_iconst (v := 1) C.1 C.2.1 dX10_readHand_69 (by decide) ?_
              refine lv_iadd C.1 C.2.1 dX10_readHand_70 ?_
              obtain ⟨iv52, eiv52⟩ : ∃ z : fw_F, z = va_up iv31 13 ((iv31 13) + 1) := ⟨_, rfl⟩
              have h := h iv52 eiv52
              refine fw_put (w := (mw G mh ad)) C in_X10 tyX10 tyX10_ok nmX10 hK hG 0 mw_o rfl 13 (by decide) k127 rfl rfl (ty := .int) (v := .int ((iv31 13) + 1)) (by decide +kernel) rfl rfl (by first | decide | exact Nat.le_of_ble_eq_true rfl) (iv1 := iv52) (by rw [eiv52]; exact mw_p13) dX10_readHand_71 (fun H locs hG => ?_)
              refine lv_aload_n C.1 C.2.1 dX10_readHand_74 rfl (lv_at hl 1 rfl) ?_
              refine lv_iload_n C.1 C.2.1 dX10_readHand_75 rfl (lv_at hl 0 rfl) ?_
              refine lv_iload_n C.1 C.2.1 dX10_readHand_76 rfl (lv_at hl 2 rfl) ?_
              refine fw_calli (va_runV (As := [.int z2, .int x1]) (rest := []) ⟨C.1, C.2.1, C.2.2.2.2.2.2, C.2.2.2.2.2.1, C.2.2.2.2.1⟩ (soX10_readRow l G mh ad iv52 ar z2 x1 _  h H.size) (cwV 2 C.2.2.2.2.1 gX10_readHand_X10_readRow rfl rfl rfl (by decide +kernel) ⟨Nat.le_of_ble_eq_true rfl, Nat.le_of_ble_eq_true rfl⟩) (fw_preV hG hK (ci := 10) rfl mw_o) rfl rfl hl.1 rfl (lv_room (Nat.le_of_ble_eq_true rfl)) dX10_readHand_77 ⟨Nat.zero_le _, Nat.zero_le _⟩) hG hK (fun r53 iv54 ar55 H locs h hG => ?_)
              refine lv_if_ne (tgt := 85) C.1 C.2.1 dX10_readHand_80 (by decide) (fun c56 => ?_) (fun c56 => ?_)
              · have h := h.1 c56
                obtain ⟨y57, ey57⟩ : ∃ z : Int32, z = z2 + 1 := ⟨_, rfl⟩
                have h := h y57 ey57
                refine lv_iinc (v := y57) (lv' := [(2, .int y57), (0, .ref mh), (1, .int x1)]) C.1 C.2.1 dX10_readHand_85 hl (k := 0) rfl (by rw [ey57]; rfl) (by decide) rfl (fun ls hl => ?_)
                refine lv_goto (tgt := 2) C.1 C.2.1 dX10_readHand_88 (by decide) ?_
                exact ih _ _ _ h _ _ hG ls (lv_sub hl [0, 1, 2] rfl)
              · have h := h.2 c56
                refine lv_iconst (v := 0) C.1 C.2.1 dX10_readHand_83 (by decide) ?_
                exact fw_zret C hG (by decide) h dX10_readHand_84
            · have h := h.2 c51
              refine lv_iconst (v := 0) C.1 C.2.1 dX10_readHand_62 (by decide) ?_
              exact fw_zret C hG (by decide) h dX10_readHand_63
        · have h := h.2 c30
          refine lv_iconst (v := 0) C.1 C.2.1 dX10_readHand_21 (by decide) ?_
          exact fw_zret C hG (by decide) h dX10_readHand_22

set_option maxHeartbeats 4000000 in
set_option maxRecDepth 100000 in
theorem soX10_readHand (l : Launch) (G : fw_G) (mh : Nat) (ad : Nat → Nat) (iv : fw_F) (ar : fw_R) (x1 : Int32) (Q : Int32 → fw_F → fw_R → Prop)  (h : wpX10_readHand iv ar x1 Q) : fw_M l G (mw G mh ad) yX10_readHand wsX10_readHand rmX10_readHand [.ref mh, .int x1] iv ar (fw_Qi G (mw G mh ad) Q) := by
  refine fw_start (cc := cX10_readHand) (nL := 3) (rt := (some .boolean)) (by decide) rfl (Nat.le_of_ble_eq_true rfl) ?_
  intro p e s m below meth c A ls H locs C hK hG hl
  obtain ⟨args, ea⟩ : ∃ z : Array Value, z = ([.ref mh, .int x1] : List Value).toArray := ⟨_, rfl⟩
  rw [← ea] at C ⊢
  have C : fw_C p s m args meth c cX10_readHand 3 (some .boolean) wsX10_readHand RX10 := C
  have hl : lv_has ls 3 [(0, .ref mh), (1, .int x1)] := hl
  unfold wpX10_readHand at h
  have in_X10 : ∀ x ∈ wsX100, x ∈ wsX10_readHand := by decide +kernel
  have k127 := C.2.2.2.2.1 (.fieldLink RX10 127 "KnifeBoardModel" "at" "I") (by decide +kernel)
  have k150 := C.2.2.2.2.1 (.fieldLink RX10 150 "KnifeBoardModel" "readTires" "I") (by decide +kernel)
  refine lv_iconst (v := 0) C.1 C.2.1 dX10_readHand_0 (by decide) ?_
  refine lv_istore_n (lv' := [(2, .int 0), (0, .ref mh), (1, .int x1)]) C.1 C.2.1 dX10_readHand_1 rfl hl (by decide) rfl (fun ls hl => ?_)
  obtain ⟨ku, h⟩ := h
  refine soX10_readHand_L2 C hK  ?_ ku _ _ _ h _ _ hG ls (lv_sub hl [0, 1, 2] rfl)
  intro w58 iv59 ar60 h H locs hG ls hl
  refine lv_aload_n C.1 C.2.1 dX10_readHand_91 rfl (lv_at hl 1 rfl) ?_
  refine lv_iconst (v := 0) C.1 C.2.1 dX10_readHand_92 (by decide) ?_
  obtain ⟨iv61, eiv61⟩ : ∃ z : fw_F, z = va_up iv59 14 0 := ⟨_, rfl⟩
  have h := h iv61 eiv61
  refine fw_put (w := (mw G mh ad)) C in_X10 tyX10 tyX10_ok nmX10 hK hG 0 mw_o rfl 14 (by decide) k150 rfl rfl (ty := .int) (v := .int 0) (by decide +kernel) rfl rfl (by first | decide | exact Nat.le_of_ble_eq_true rfl) (iv1 := iv61) (by rw [eiv61]; exact mw_p14) dX10_readHand_93 (fun H locs hG => ?_)
  refine lv_aload_n C.1 C.2.1 dX10_readHand_96 rfl (lv_at hl 1 rfl) ?_
  refine fw_get (w := (mw G mh ad)) C in_X10 hK hG 0 mw_o rfl 13 (by decide) k127 rfl rfl dX10_readHand_97 ?_
  refine lv_iload_n C.1 C.2.1 dX10_readHand_100 rfl (lv_at hl 2 rfl) ?_
  refine lv_icmp_ne (tgt := 106) C.1 C.2.1 dX10_readHand_101 (by decide) (fun c62 => ?_) (fun c62 => ?_)
  · have h := h.1 c62
    refine lv_aload_n C.1 C.2.1 dX10_readHand_106 rfl (lv_at hl 1 rfl) ?_
    refine lv_bipush (v := 59) C.1 C.2.1 dX10_readHand_107 (by decide) ?_
    refine lv_iload_n C.1 C.2.1 dX10_readHand_109 rfl (lv_at hl 2 rfl) ?_
    refine fw_rcalli (va_runV (As := [.int 59, .int x1]) (rest := []) ⟨C.1, C.2.1, C.2.2.2.2.2.2, C.2.2.2.2.2.1, C.2.2.2.2.1⟩ (soX10_isCode l G mh ad iv61 ar60 59 x1 _  h H.size) (cwV 2 C.2.2.2.2.1 gX10_readHand_X10_isCode rfl rfl rfl (by decide +kernel) ⟨Nat.le_of_ble_eq_true rfl, Nat.le_of_ble_eq_true rfl⟩) (fw_preV hG hK (ci := 10) rfl mw_o) rfl rfl hl.1 rfl (lv_room (Nat.le_of_ble_eq_true rfl)) dX10_readHand_110 ⟨Nat.zero_le _, Nat.zero_le _⟩) hG hK (fun r63  H locs h hG => ?_)
    refine lv_if_ne (tgt := 118) C.1 C.2.1 dX10_readHand_113 (by decide) (fun c64 => ?_) (fun c64 => ?_)
    · have h := h.1 c64
      refine lv_aload_n C.1 C.2.1 dX10_readHand_118 rfl (lv_at hl 1 rfl) ?_
      refine lv_dup C.1 C.2.1 dX10_readHand_119 rfl ?_
      refine fw_get (w := (mw G mh ad)) C in_X10 hK hG 0 mw_o rfl 13 (by decide) k127 rfl rfl dX10_readHand_120 ?_
      refine lv_iconst (v := 1) C.1 C.2.1 dX10_readHand_123 (by decide) ?_
      refine lv_iadd C.1 C.2.1 dX10_readHand_124 ?_
      obtain ⟨iv65, eiv65⟩ : ∃ z : fw_F, z = va_up iv61 13 ((iv61 13) + 1) := ⟨_, rfl⟩
      have h := h iv65 eiv65
      refine fw_put (w := (mw G mh ad)) C in_X10 tyX10 tyX10_ok nmX10 hK hG 0 mw_o rfl 13 (by decide) k127 rfl rfl (ty := .int) (v := .int ((iv61 13) + 1)) (by decide +kernel) rfl rfl (by first | decide | exact Nat.le_of_ble_eq_true rfl) (iv1 := iv65) (by rw [eiv65]; exact mw_p13) dX10_readHand_125 (fun H locs hG => ?_)
      refine lv_aload_n C.1 C.2.1 dX10_readHand_128 rfl (lv_at hl 1 rfl) ?_
      refine lv_bipush (v := 116) C.1 C.2.1 dX10_readHand_129 (by decide) ?_
      refine lv_iload_n C.1 C.2.1 dX10_readHand_131 rfl (lv_at hl 2 rfl) ?_
      refine fw_rcalli (va_runV (As := [.int 116, .int x1]) (rest := []) ⟨C.1, C.2.1, C.2.2.2.2.2.2, C.2.2.2.2.2.1, C.2.2.2.2.1⟩ (soX10_isCode l G mh ad iv65 ar60 116 x1 _  h H.size) (cwV 2 C.2.2.2.2.1 gX10_readHand_X10_isCode rfl rfl rfl (by decide +kernel) ⟨Nat.le_of_ble_eq_true rfl, Nat.le_of_ble_eq_true rfl⟩) (fw_preV hG hK (ci := 10) rfl mw_o) rfl rfl hl.1 rfl (lv_room (Nat.le_of_ble_eq_true rfl)) dX10_readHand_132 ⟨Nat.zero_le _, Nat.zero_le _⟩) hG hK (fun r66  H locs h hG => ?_)
      refine lv_if_ne (tgt := 140) C.1 C.2.1 dX10_readHand_135 (by decide) (fun c67 => ?_) (fun c67 => ?_)
      · have h := h.1 c67
        refine lv_aload_n C.1 C.2.1 dX10_readHand_140 rfl (lv_at hl 1 rfl) ?_
        refine lv_dup C.1 C.2.1 dX10_readHand_141 rfl ?_
        refine fw_get (w := (mw G mh ad)) C in_X10 hK hG 0 mw_o rfl 13 (by decide) k127 rfl rfl dX10_readHand_142 ?_
        refine lv_iconst (v := 1) C.1 C.2.1 dX10_readHand_145 (by decide) ?_
        refine lv_iadd C.1 C.2.1 dX10_readHand_146 ?_
        obtain ⟨iv68, eiv68⟩ : ∃ z : fw_F, z = va_up iv65 13 ((iv65 13) + 1) := ⟨_, rfl⟩
        have h := h iv68 eiv68
        refine fw_put (w := (mw G mh ad)) C in_X10 tyX10 tyX10_ok nmX10 hK hG 0 mw_o rfl 13 (by decide) k127 rfl rfl (ty := .int) (v := .int ((iv65 13) + 1)) (by decide +kernel) rfl rfl (by first | decide | exact Nat.le_of_ble_eq_true rfl) (iv1 := iv68) (by rw [eiv68]; exact mw_p13) dX10_readHand_147 (fun H locs hG => ?_)
        refine lv_aload_n C.1 C.2.1 dX10_readHand_150 rfl (lv_at hl 1 rfl) ?_
        refine lv_aload_n C.1 C.2.1 dX10_readHand_151 rfl (lv_at hl 1 rfl) ?_
        refine lv_aload_n C.1 C.2.1 dX10_readHand_152 rfl (lv_at hl 1 rfl) ?_
        refine fw_get (w := (mw G mh ad)) C in_X10 hK hG 0 mw_o rfl 13 (by decide) k127 rfl rfl dX10_readHand_153 ?_
        refine lv_iload_n C.1 C.2.1 dX10_readHand_156 rfl (lv_at hl 2 rfl) ?_
        refine fw_rcalli (va_runV (As := [.int (iv68 13), .int x1]) (rest := [.ref mh]) ⟨C.1, C.2.1, C.2.2.2.2.2.2, C.2.2.2.2.2.1, C.2.2.2.2.1⟩ (soX10_digitAt l G mh ad iv68 ar60 (iv68 13) x1 _  h H.size) (cwV 2 C.2.2.2.2.1 gX10_readHand_X10_digitAt rfl rfl rfl (by decide +kernel) ⟨Nat.le_of_ble_eq_true rfl, Nat.le_of_ble_eq_true rfl⟩) (fw_preV hG hK (ci := 10) rfl mw_o) rfl rfl hl.1 rfl (lv_room (Nat.le_of_ble_eq_true rfl)) dX10_readHand_157 ⟨Nat.zero_le _, Nat.zero_le _⟩) hG hK (fun r69  H locs h hG => ?_)
        obtain ⟨iv70, eiv70⟩ : ∃ z : fw_F, z = va_up iv68 14 r69 := ⟨_, rfl⟩
        have h := h iv70 eiv70
        refine fw_put (w := (mw G mh ad)) C in_X10 tyX10 tyX10_ok nmX10 hK hG 0 mw_o rfl 14 (by decide) k150 rfl rfl (ty := .int) (v := .int r69) (by decide +kernel) rfl rfl (by first | decide | exact Nat.le_of_ble_eq_true rfl) (iv1 := iv70) (by rw [eiv70]; exact mw_p14) dX10_readHand_160 (fun H locs hG => ?_)
        refine lv_aload_n C.1 C.2.1 dX10_readHand_163 rfl (lv_at hl 1 rfl) ?_
        refine fw_get (w := (mw G mh ad)) C in_X10 hK hG 0 mw_o rfl 14 (by decide) k150 rfl rfl dX10_readHand_164 ?_
        refine lv_iconst (v := 1) C.1 C.2.1 dX10_readHand_167 (by decide) ?_
        refine lv_icmp_ge (tgt := 173) C.1 C.2.1 dX10_readHand_168 (by decide) (fun c71 => ?_) (fun c71 => ?_)
        · have h := h.1 c71
          refine lv_aload_n C.1 C.2.1 dX10_readHand_173 rfl (lv_at hl 1 rfl) ?_
          refine lv_dup C.1 C.2.1 dX10_readHand_174 rfl ?_
          refine fw_get (w := (mw G mh ad)) C in_X10 hK hG 0 mw_o rfl 13 (by decide) k127 rfl rfl dX10_readHand_175 ?_
          refine lv_iconst (v := 1) C.1 C.2.1 dX10_readHand_178 (by decide) ?_
          refine lv_iadd C.1 C.2.1 dX10_readHand_179 ?_
          obtain ⟨iv72, eiv72⟩ : ∃ z : fw_F, z = va_up iv70 13 ((iv70 13) + 1) := ⟨_, rfl⟩
          have h := h iv72 eiv72
          refine fw_put (w := (mw G mh ad)) C in_X10 tyX10 tyX10_ok nmX10 hK hG 0 mw_o rfl 13 (by decide) k127 rfl rfl (ty := .int) (v := .int ((iv70 13) + 1)) (by decide +kernel) rfl rfl (by first | decide | exact Nat.le_of_ble_eq_true rfl) (iv1 := iv72) (by rw [eiv72]; exact mw_p13) dX10_readHand_180 (fun H locs hG => ?_)
          refine lv_aload_n C.1 C.2.1 dX10_readHand_183 rfl (lv_at hl 1 rfl) ?_
          refine fw_get (w := (mw G mh ad)) C in_X10 hK hG 0 mw_o rfl 13 (by decide) k127 rfl rfl dX10_readHand_184 ?_
          refine lv_iload_n C.1 C.2.1 dX10_readHand_187 rfl (lv_at hl 2 rfl) ?_
          refine lv_icmp_ne (tgt := 195) C.1 C.2.1 dX10_readHand_188 (by decide) (fun c73 => ?_) (fun c73 => ?_)
          · have h := h.1 c73
            refine lv_iconst (v := 0) C.1 C.2.1 dX10_readHand_195 (by decide) ?_
            exact fw_zret C hG (by decide) h dX10_readHand_196
          · have h := h.2 c73
            refine lv_iconst (v := 1) C.1 C.2.1 dX10_readHand_191 (by decide) ?_
            refine lv_goto (tgt := 196) C.1 C.2.1 dX10_readHand_192 (by decide) ?_
            exact fw_zret C hG (by decide) h dX10_readHand_196
        · have h := h.2 c71
          refine lv_iconst (v := 0) C.1 C.2.1 dX10_readHand_171 (by decide) ?_
          exact fw_zret C hG (by decide) h dX10_readHand_172
      · have h := h.2 c67
        refine lv_iconst (v := 0) C.1 C.2.1 dX10_readHand_138 (by decide) ?_
        exact fw_zret C hG (by decide) h dX10_readHand_139
    · have h := h.2 c64
      refine lv_iconst (v := 0) C.1 C.2.1 dX10_readHand_116 (by decide) ?_
      exact fw_zret C hG (by decide) h dX10_readHand_117
  · have h := h.2 c62
    refine lv_iconst (v := 1) C.1 C.2.1 dX10_readHand_104 (by decide) ?_
    exact fw_zret C hG (by decide) h dX10_readHand_105
/-! KnifeBoardModel.hand(IIII)I -/
def rmX10_hand : Room := { frames := 4, cells := 0, slots := 0, locals := 91 }
def wpX10_hand_L101 (x1 : Int32) (x2 : Int32) (x3 : Int32) (x4 : Int32) (Q : Int32 → fw_F → fw_R → Prop) (K : Int32 → fw_F → fw_R → Prop) : Nat → Int32 → fw_F → fw_R → Prop
  | 0, _, _, _ => False
  | fu + 1, z7, iv, ar => (15 ≤ z7 → (K z7 iv ar)) ∧ (¬ 15 ≤ z7 → (vp_in z7 15 ∧ (vp_in z7 15 ∧ (∀ ar19 : fw_R, ar19 = va_up ar 12 (upd (ar 12) z7.toNatClampNeg ((ar 15) z7.toNatClampNeg)) → (∀ y20 : Int32, y20 = z7 + 1 → (wpX10_hand_L101 x1 x2 x3 x4 Q K fu y20 iv ar19))))))
def wpX10_hand (iv : fw_F) (ar : fw_R) (x1 : Int32) (x2 : Int32) (x3 : Int32) (x4 : Int32) (Q : Int32 → fw_F → fw_R → Prop) : Prop := ∀ iv1 : fw_F, iv1 = va_up iv 0 0 → (wpX10_isSheet x1 (fun (r2 : Int32) => (¬ r2 = 0 → (wpX10_isSort x2 (fun (r4 : Int32) => (¬ r4 = 0 → (wpX10_against iv1 ar x1 x2 x3 x4 1 (fun (r6 : Int32) => (r6 = 0 → (∀ y8 : Int32, y8 = (80 * x1) + x3 → (∀ iv9 : fw_F, iv9 = va_up iv1 13 y8 → (wpX10_readHand iv9 ar (y8 + x4) (fun (r10 : Int32) (iv11 : fw_F) (ar12 : fw_R) => (¬ r10 = 0 → (∀ iv14 : fw_F, iv14 = va_up iv11 10 1 → (∀ iv15 : fw_F, iv15 = va_up iv14 11 (iv14 14) → (∃ ku : Nat, wpX10_hand_L101 x1 x2 x3 x4 Q (fun (w21 : Int32) (iv22 : fw_F) (ar23 : fw_R) => Q 1 iv22 ar23) ku 0 iv15 ar12)))) ∧ (r10 = 0 → (Q ((-100) - ((iv11 13) - y8)) iv11 ar12))))))) ∧ (¬ r6 = 0 → (wpX10_fails iv1 ar r6 (fun (r24 : Int32) (iv25 : fw_F) (ar26 : fw_R) => Q r24 iv25 ar26)))))) ∧ (r4 = 0 → (Q (-2) iv1 ar))))) ∧ (r2 = 0 → (Q (-1) iv1 ar))))
set_option maxHeartbeats 4000000 in
set_option maxRecDepth 100000 in
theorem soX10_hand_L101 {p : Program} {l : Launch} {e : Env} {s : State} {m : MethodId} {args : Array Value} {below : List Frame} {meth : Method} {c : Code} {A : Nat → Prop} {G : fw_G} {mh : Nat} {ad : Nat → Nat} {x1 : Int32} {x2 : Int32} {x3 : Int32} {x4 : Int32} {Q : Int32 → fw_F → fw_R → Prop} {K : Int32 → fw_F → fw_R → Prop} (C : fw_C p s m args meth c cX10_hand 8 (some .int) wsX10_hand RX10) (hK : fw_K G A s)  (hX : ∀ (z7 : Int32) (iv : fw_F) (ar : fw_R), K z7 iv ar → ∀ (H : Heap) (locs : List Loc), fw_H G ((mw G mh ad) iv ar) A s H locs → ∀ (ls : Array Slot), lv_has ls 8 [(7, .int z7), (0, .ref mh)] → W p l e rmX10_hand s m args below meth c H locs 0 0 (MQ below (fw_Qi G (mw G mh ad) Q A) args s 0 0 A) (F0 m 128 ls [])) : ∀ (fu : Nat) (z7 : Int32) (iv : fw_F) (ar : fw_R), wpX10_hand_L101 x1 x2 x3 x4 Q K fu z7 iv ar → ∀ (H : Heap) (locs : List Loc), fw_H G ((mw G mh ad) iv ar) A s H locs → ∀ (ls : Array Slot), lv_has ls 8 [(7, .int z7), (0, .ref mh)] → W p l e rmX10_hand s m args below meth c H locs 0 0 (MQ below (fw_Qi G (mw G mh ad) Q A) args s 0 0 A) (F0 m 101 ls []) := by
  intro fu
  have in_X10 : ∀ x ∈ wsX100, x ∈ wsX10_hand := by decide +kernel
  have k31 := C.2.2.2.2.1 (.fieldLink RX10 31 "KnifeBoardModel" "strays" "[I") (by decide +kernel)
  have k34 := C.2.2.2.2.1 (.fieldLink RX10 34 "KnifeBoardModel" "readStrays" "[I") (by decide +kernel)
  induction fu with
  | zero => intro z7 iv ar h; exact h.elim
  | succ fu ih =>
    intro z7 iv ar h H locs hG ls hl
    unfold wpX10_hand_L101 at h
    refine lv_iload C.1 C.2.1 dX10_hand_101 (lv_at hl 0 rfl) ?_
    refine lv_bipush (v := 15) C.1 C.2.1 dX10_hand_103 (by decide) ?_
    refine lv_icmp_ge (tgt := 128) C.1 C.2.1 dX10_hand_105 (by decide) (fun c16 => ?_) (fun c16 => ?_)
    · have h := h.1 c16
      exact hX _ _ _ h _ _ hG ls (lv_sub hl [0, 1] rfl)
    · have h := h.2 c16
      refine lv_aload_n C.1 C.2.1 dX10_hand_108 rfl (lv_at hl 1 rfl) ?_
      refine fw_get (w := (mw G mh ad)) C in_X10 hK hG 0 mw_o rfl 12 (by decide) k31 rfl rfl dX10_hand_109 ?_
      refine lv_iload C.1 C.2.1 dX10_hand_112 (lv_at hl 0 rfl) ?_
      refine lv_aload_n C.1 C.2.1 dX10_hand_114 rfl (lv_at hl 1 rfl) ?_
      refine fw_get (w := (mw G mh ad)) C in_X10 hK hG 0 mw_o rfl 15 (by decide) k34 rfl rfl dX10_hand_115 ?_
      refine lv_iload C.1 C.2.1 dX10_hand_118 (lv_at hl 0 rfl) ?_
      obtain ⟨c17, h⟩ := h
      refine fw_iald (w := (mw G mh ad)) C hK hG 9 mw_a15 c17 dX10_hand_120 ?_
      obtain ⟨c18, h⟩ := h
      obtain ⟨ar19, ear19⟩ : ∃ z : fw_R, z = va_up ar 12 (upd (ar 12) z7.toNatClampNeg ((ar 15) z7.toNatClampNeg)) := ⟨_, rfl⟩
      have h := h ar19 ear19
      refine fw_iast (w := (mw G mh ad)) C hK hG 8 mw_a12 c18 (ar1 := ar19) (by rw [ear19]; exact mw_s12) dX10_hand_121 (fun H locs hG => ?_)
      obtain ⟨y20, ey20⟩ : ∃ z : Int32, z = z7 + 1 := ⟨_, rfl⟩
      have h := h y20 ey20
      refine lv_iinc (v := y20) (lv' := [(7, .int y20), (0, .ref mh)]) C.1 C.2.1 dX10_hand_122 hl (k := 0) rfl (by rw [ey20]; rfl) (by decide) rfl (fun ls hl => ?_)
      refine lv_goto (tgt := 101) C.1 C.2.1 dX10_hand_125 (by decide) ?_
      exact ih _ _ _ h _ _ hG ls (lv_sub hl [0, 1] rfl)

set_option maxHeartbeats 4000000 in
set_option maxRecDepth 100000 in
theorem soX10_hand (l : Launch) (G : fw_G) (mh : Nat) (ad : Nat → Nat) (iv : fw_F) (ar : fw_R) (x1 : Int32) (x2 : Int32) (x3 : Int32) (x4 : Int32) (Q : Int32 → fw_F → fw_R → Prop)  (h : wpX10_hand iv ar x1 x2 x3 x4 Q) : fw_M l G (mw G mh ad) yX10_hand wsX10_hand rmX10_hand [.ref mh, .int x1, .int x2, .int x3, .int x4] iv ar (fw_Qi G (mw G mh ad) Q) := by
  refine fw_start (cc := cX10_hand) (nL := 8) (rt := (some .int)) (by decide) rfl (Nat.le_of_ble_eq_true rfl) ?_
  intro p e s m below meth c A ls H locs C hK hG hl
  obtain ⟨args, ea⟩ : ∃ z : Array Value, z = ([.ref mh, .int x1, .int x2, .int x3, .int x4] : List Value).toArray := ⟨_, rfl⟩
  rw [← ea] at C ⊢
  have C : fw_C p s m args meth c cX10_hand 8 (some .int) wsX10_hand RX10 := C
  have hl : lv_has ls 8 [(0, .ref mh), (1, .int x1), (2, .int x2), (3, .int x3), (4, .int x4)] := hl
  unfold wpX10_hand at h
  have in_X10 : ∀ x ∈ wsX100, x ∈ wsX10_hand := by decide +kernel
  have k127 := C.2.2.2.2.1 (.fieldLink RX10 127 "KnifeBoardModel" "at" "I") (by decide +kernel)
  have k146 := C.2.2.2.2.1 (.fieldLink RX10 146 "KnifeBoardModel" "isHand" "Z") (by decide +kernel)
  have k150 := C.2.2.2.2.1 (.fieldLink RX10 150 "KnifeBoardModel" "readTires" "I") (by decide +kernel)
  have k153 := C.2.2.2.2.1 (.fieldLink RX10 153 "KnifeBoardModel" "tires" "I") (by decide +kernel)
  have k71 := C.2.2.2.2.1 (.fieldLink RX10 71 "KnifeBoardModel" "fault" "I") (by decide +kernel)
  refine lv_aload_n C.1 C.2.1 dX10_hand_0 rfl (lv_at hl 0 rfl) ?_
  refine lv_iconst (v := 0) C.1 C.2.1 dX10_hand_1 (by decide) ?_
  obtain ⟨iv1, eiv1⟩ : ∃ z : fw_F, z = va_up iv 0 0 := ⟨_, rfl⟩
  have h := h iv1 eiv1
  refine fw_put (w := (mw G mh ad)) C in_X10 tyX10 tyX10_ok nmX10 hK hG 0 mw_o rfl 0 (by decide) k71 rfl rfl (ty := .int) (v := .int 0) (by decide +kernel) rfl rfl (by first | decide | exact Nat.le_of_ble_eq_true rfl) (iv1 := iv1) (by rw [eiv1]; exact mw_p0) dX10_hand_2 (fun H locs hG => ?_)
  refine lv_iload_n C.1 C.2.1 dX10_hand_5 rfl (lv_at hl 1 rfl) ?_
  refine fw_pcalli (va_runS (As := [.int x1]) (rest := []) ⟨C.1, C.2.1, C.2.2.2.2.2.2, C.2.2.2.2.2.1, C.2.2.2.2.1⟩ (soX10_isSheet l x1 _ h H.size) (va_cwS 1 C.2.2.2.2.1 gX10_hand_X10_isSheet rfl rfl rfl (by decide +kernel) ⟨Nat.le_of_ble_eq_true rfl, Nat.le_of_ble_eq_true rfl⟩) fw_ppre rfl rfl hl.1 rfl (lv_room (Nat.le_of_ble_eq_true rfl)) dX10_hand_6 ⟨Nat.zero_le _, Nat.zero_le _⟩) hG hK (fun r2  H locs h hG => ?_)
  refine lv_if_ne (tgt := 14) C.1 C.2.1 dX10_hand_9 (by decide) (fun c3 => ?_) (fun c3 => ?_)
  · have h := h.1 c3
    refine lv_iload_n C.1 C.2.1 dX10_hand_14 rfl (lv_at hl 2 rfl) ?_
    refine fw_pcalli (va_runS (As := [.int x2]) (rest := []) ⟨C.1, C.2.1, C.2.2.2.2.2.2, C.2.2.2.2.2.1, C.2.2.2.2.1⟩ (soX10_isSort l x2 _ h H.size) (va_cwS 1 C.2.2.2.2.1 gX10_hand_X10_isSort rfl rfl rfl (by decide +kernel) ⟨Nat.le_of_ble_eq_true rfl, Nat.le_of_ble_eq_true rfl⟩) fw_ppre rfl rfl hl.1 rfl (lv_room (Nat.le_of_ble_eq_true rfl)) dX10_hand_15 ⟨Nat.zero_le _, Nat.zero_le _⟩) hG hK (fun r4  H locs h hG => ?_)
    refine lv_if_ne (tgt := 24) C.1 C.2.1 dX10_hand_18 (by decide) (fun c5 => ?_) (fun c5 => ?_)
    · have h := h.1 c5
      refine lv_aload_n C.1 C.2.1 dX10_hand_24 rfl (lv_at hl 0 rfl) ?_
      refine lv_iload_n C.1 C.2.1 dX10_hand_25 rfl (lv_at hl 1 rfl) ?_
      refine lv_iload_n C.1 C.2.1 dX10_hand_26 rfl (lv_at hl 2 rfl) ?_
      refine lv_iload_n C.1 C.2.1 dX10_hand_27 rfl (lv_at hl 3 rfl) ?_
      refine lv_iload C.1 C.2.1 dX10_hand_28 (lv_at hl 4 rfl) ?_
      refine lv_iconst (v := 1) C.1 C.2.1 dX10_hand_30 (by decide) ?_
      refine fw_rcalli (va_runV (As := [.int x1, .int x2, .int x3, .int x4, .int 1]) (rest := []) ⟨C.1, C.2.1, C.2.2.2.2.2.2, C.2.2.2.2.2.1, C.2.2.2.2.1⟩ (soX10_against l G mh ad iv1 ar x1 x2 x3 x4 1 _  h H.size) (cwV 5 C.2.2.2.2.1 gX10_hand_X10_against rfl rfl rfl (by decide +kernel) ⟨Nat.le_of_ble_eq_true rfl, Nat.le_of_ble_eq_true rfl⟩) (fw_preV hG hK (ci := 10) rfl mw_o) rfl rfl hl.1 rfl (lv_room (Nat.le_of_ble_eq_true rfl)) dX10_hand_31 ⟨Nat.zero_le _, Nat.zero_le _⟩) hG hK (fun r6  H locs h hG => ?_)
      refine lv_istore (lv' := [(5, .int r6), (0, .ref mh), (1, .int x1), (2, .int x2), (3, .int x3), (4, .int x4)]) C.1 C.2.1 dX10_hand_34 hl (by decide) rfl (fun ls hl => ?_)
      refine lv_iload C.1 C.2.1 dX10_hand_36 (lv_at hl 0 rfl) ?_
      refine lv_if_eq (tgt := 48) C.1 C.2.1 dX10_hand_38 (by decide) (fun c7 => ?_) (fun c7 => ?_)
      · have h := h.1 c7
        refine lv_bipush (v := 80) C.1 C.2.1 dX10_hand_48 (by decide) ?_
        refine lv_iload_n C.1 C.2.1 dX10_hand_50 rfl (lv_at hl 2 rfl) ?_
        refine lv_imul C.1 C.2.1 dX10_hand_51 ?_
        refine lv_iload_n C.1 C.2.1 dX10_hand_52 rfl (lv_at hl 4 rfl) ?_
        refine lv_iadd C.1 C.2.1 dX10_hand_53 ?_
        refine lv_topi (fun y8 ey8 => ?_)
        have h := h y8 ey8
        refine lv_istore (lv' := [(6, .int y8), (5, .int r6), (0, .ref mh), (1, .int x1), (2, .int x2), (3, .int x3), (4, .int x4)]) C.1 C.2.1 dX10_hand_54 hl (by decide) rfl (fun ls hl => ?_)
        refine lv_aload_n C.1 C.2.1 dX10_hand_56 rfl (lv_at hl 2 rfl) ?_
        refine lv_iload C.1 C.2.1 dX10_hand_57 (lv_at hl 0 rfl) ?_
        obtain ⟨iv9, eiv9⟩ : ∃ z : fw_F, z = va_up iv1 13 y8 := ⟨_, rfl⟩
        have h := h iv9 eiv9
        refine fw_put (w := (mw G mh ad)) C in_X10 tyX10 tyX10_ok nmX10 hK hG 0 mw_o rfl 13 (by decide) k127 rfl rfl (ty := .int) (v := .int y8) (by decide +kernel) rfl rfl (by first | decide | exact Nat.le_of_ble_eq_true rfl) (iv1 := iv9) (by rw [eiv9]; exact mw_p13) dX10_hand_59 (fun H locs hG => ?_)
        refine lv_aload_n C.1 C.2.1 dX10_hand_62 rfl (lv_at hl 2 rfl) ?_
        refine lv_iload C.1 C.2.1 dX10_hand_63 (lv_at hl 0 rfl) ?_
        refine lv_iload C.1 C.2.1 dX10_hand_65 (lv_at hl 6 rfl) ?_
        refine lv_iadd C.1 C.2.1 dX10_hand_67 ?_
        refine fw_calli (va_runV (As := [.int (y8 + x4)]) (rest := []) ⟨C.1, C.2.1, C.2.2.2.2.2.2, C.2.2.2.2.2.1, C.2.2.2.2.1⟩ (soX10_readHand l G mh ad iv9 ar (y8 + x4) _  h H.size) (cwV 1 C.2.2.2.2.1 gX10_hand_X10_readHand rfl rfl rfl (by decide +kernel) ⟨Nat.le_of_ble_eq_true rfl, Nat.le_of_ble_eq_true rfl⟩) (fw_preV hG hK (ci := 10) rfl mw_o) rfl rfl hl.1 rfl (lv_room (Nat.le_of_ble_eq_true rfl)) dX10_hand_68 ⟨Nat.zero_le _, Nat.zero_le _⟩) hG hK (fun r10 iv11 ar12 H locs h hG => ?_)
        refine lv_if_ne (tgt := 85) C.1 C.2.1 dX10_hand_71 (by decide) (fun c13 => ?_) (fun c13 => ?_)
        · have h := h.1 c13
          refine lv_aload_n C.1 C.2.1 dX10_hand_85 rfl (lv_at hl 2 rfl) ?_
          refine lv_iconst (v := 1) C.1 C.2.1 dX10_hand_86 (by decide) ?_
          obtain ⟨iv14, eiv14⟩ : ∃ z : fw_F, z = va_up iv11 10 1 := ⟨_, rfl⟩
          have h := h iv14 eiv14
          refine fw_put (w := (mw G mh ad)) C in_X10 tyX10 tyX10_ok nmX10 hK hG 0 mw_o rfl 10 (by decide) k146 rfl rfl (ty := .boolean) (v := .int 1) (by decide +kernel) (by decide) (by decide) (by first | decide | exact Nat.le_of_ble_eq_true rfl) (iv1 := iv14) (by rw [eiv14]; exact mw_p10) dX10_hand_87 (fun H locs hG => ?_)
          refine lv_aload_n C.1 C.2.1 dX10_hand_90 rfl (lv_at hl 2 rfl) ?_
          refine lv_aload_n C.1 C.2.1 dX10_hand_91 rfl (lv_at hl 2 rfl) ?_
          refine fw_get (w := (mw G mh ad)) C in_X10 hK hG 0 mw_o rfl 14 (by decide) k150 rfl rfl dX10_hand_92 ?_
          obtain ⟨iv15, eiv15⟩ : ∃ z : fw_F, z = va_up iv14 11 (iv14 14) := ⟨_, rfl⟩
          have h := h iv15 eiv15
          refine fw_put (w := (mw G mh ad)) C in_X10 tyX10 tyX10_ok nmX10 hK hG 0 mw_o rfl 11 (by decide) k153 rfl rfl (ty := .int) (v := .int (iv14 14)) (by decide +kernel) rfl rfl (by first | decide | exact Nat.le_of_ble_eq_true rfl) (iv1 := iv15) (by rw [eiv15]; exact mw_p11) dX10_hand_95 (fun H locs hG => ?_)
          refine lv_iconst (v := 0) C.1 C.2.1 dX10_hand_98 (by decide) ?_
          refine lv_istore (lv' := [(7, .int 0), (6, .int y8), (5, .int r6), (0, .ref mh), (1, .int x1), (2, .int x2), (3, .int x3), (4, .int x4)]) C.1 C.2.1 dX10_hand_99 hl (by decide) rfl (fun ls hl => ?_)
          obtain ⟨ku, h⟩ := h
          refine soX10_hand_L101 C hK  ?_ ku _ _ _ h _ _ hG ls (lv_sub hl [0, 3] rfl)
          intro w21 iv22 ar23 h H locs hG ls hl
          refine lv_iconst (v := 1) C.1 C.2.1 dX10_hand_128 (by decide) ?_
          exact fw_iret C hG h dX10_hand_129
        · have h := h.2 c13
          refine lv_bipush (v := (-100)) C.1 C.2.1 dX10_hand_74 (by decide) ?_
          refine lv_aload_n C.1 C.2.1 dX10_hand_76 rfl (lv_at hl 2 rfl) ?_
          refine fw_get (w := (mw G mh ad)) C in_X10 hK hG 0 mw_o rfl 13 (by decide) k127 rfl rfl dX10_hand_77 ?_
          refine lv_iload C.1 C.2.1 dX10_hand_80 (lv_at hl 0 rfl) ?_
          refine lv_isub C.1 C.2.1 dX10_hand_82 ?_
          refine lv_isub C.1 C.2.1 dX10_hand_83 ?_
          exact fw_iret C hG h dX10_hand_84
      · have h := h.2 c7
        refine lv_aload_n C.1 C.2.1 dX10_hand_41 rfl (lv_at hl 1 rfl) ?_
        refine lv_iload C.1 C.2.1 dX10_hand_42 (lv_at hl 0 rfl) ?_
        refine fw_calli (va_runV (As := [.int r6]) (rest := []) ⟨C.1, C.2.1, C.2.2.2.2.2.2, C.2.2.2.2.2.1, C.2.2.2.2.1⟩ (soX10_fails l G mh ad iv1 ar r6 _  h H.size) (cwV 1 C.2.2.2.2.1 gX10_hand_X10_fails rfl rfl rfl (by decide +kernel) ⟨Nat.le_of_ble_eq_true rfl, Nat.le_of_ble_eq_true rfl⟩) (fw_preV hG hK (ci := 10) rfl mw_o) rfl rfl hl.1 rfl (lv_room (Nat.le_of_ble_eq_true rfl)) dX10_hand_44 ⟨Nat.zero_le _, Nat.zero_le _⟩) hG hK (fun r24 iv25 ar26 H locs h hG => ?_)
        exact fw_iret C hG h dX10_hand_47
    · have h := h.2 c5
      refine lv_bipush (v := (-2)) C.1 C.2.1 dX10_hand_21 (by decide) ?_
      exact fw_iret C hG h dX10_hand_23
  · have h := h.2 c3
    refine lv_iconst (v := (-1)) C.1 C.2.1 dX10_hand_12 (by decide) ?_
    exact fw_iret C hG h dX10_hand_13
/-! KnifeBoardModel.isStage(I)Z -/
def rmX10_isStage : Room := { frames := 1, cells := 0, slots := 0, locals := 22 }
def wpX10_isStage (x0 : Int32) (Q : Int32 → Prop) : Prop := wpX10_within x0 0 9 (fun (r1 : Int32) => (r1 = 0 ∨ r1 = 1) ∧ Q r1)
set_option maxHeartbeats 4000000 in
set_option maxRecDepth 100000 in
theorem soX10_isStage (l : Launch) (x0 : Int32) (Q : Int32 → Prop) (h : wpX10_isStage x0 Q) : fw_pM l yX10_isStage wsX10_isStage rmX10_isStage [.int x0] (fw_pQi Q) := by
  refine fw_pstart (cc := cX10_isStage) (nL := 1) (rt := (some .boolean)) (by decide) rfl (Nat.le_of_ble_eq_true rfl) ?_
  intro p e s m below meth c A ls H locs C hA hS hl
  obtain ⟨args, ea⟩ : ∃ z : Array Value, z = ([.int x0] : List Value).toArray := ⟨_, rfl⟩
  rw [← ea] at C ⊢
  have C : fw_C p s m args meth c cX10_isStage 1 (some .boolean) wsX10_isStage RX10 := C
  have hl : lv_has ls 1 [(0, .int x0)] := hl
  unfold wpX10_isStage at h
  refine lv_iload_n C.1 C.2.1 dX10_isStage_0 rfl (lv_at hl 0 rfl) ?_
  refine lv_iconst (v := 0) C.1 C.2.1 dX10_isStage_1 (by decide) ?_
  refine lv_bipush (v := 9) C.1 C.2.1 dX10_isStage_2 (by decide) ?_
  refine fw_ppcalli (va_runS (As := [.int x0, .int 0, .int 9]) (rest := []) ⟨C.1, C.2.1, C.2.2.2.2.2.2, C.2.2.2.2.2.1, C.2.2.2.2.1⟩ (soX10_within l x0 0 9 _ h H.size) (va_cwS 3 C.2.2.2.2.1 gX10_isStage_X10_within rfl rfl rfl (by decide +kernel) ⟨Nat.le_of_ble_eq_true rfl, Nat.le_of_ble_eq_true rfl⟩) fw_ppre rfl rfl hl.1 rfl (lv_room (Nat.le_of_ble_eq_true rfl)) dX10_isStage_4 ⟨Nat.zero_le _, Nat.zero_le _⟩) hS hA (fun r1  H locs h hS => ?_)
  obtain ⟨cb, h⟩ := h
  exact fw_pzret C hS (fw_nb cb) h dX10_isStage_7
/-! KnifeBoardModel.weightOf(III)I -/
def rmX10_weightOf : Room := { frames := 0, cells := 0, slots := 0, locals := 0 }
def wpX10_weightOf (iv : fw_F) (ar : fw_R) (x1 : Int32) (x2 : Int32) (x3 : Int32) (Q : Int32 → Prop) : Prop := vp_in ((5 * x1) + x2) 15 ∧ (∀ y2 : Int32, y2 = (ar 12) ((5 * x1) + x2).toNatClampNeg → ((¬ x2 = 2 → (((y2 + x3) ≤ 9 → (Q (y2 + x3))) ∧ (¬ (y2 + x3) ≤ 9 → (Q 9)))) ∧ (x2 = 2 → (Q y2))))
set_option maxHeartbeats 4000000 in
set_option maxRecDepth 100000 in
theorem soX10_weightOf (l : Launch) (G : fw_G) (mh : Nat) (ad : Nat → Nat) (iv : fw_F) (ar : fw_R) (x1 : Int32) (x2 : Int32) (x3 : Int32) (Q : Int32 → Prop)  (h : wpX10_weightOf iv ar x1 x2 x3 Q) : fw_M l G (mw G mh ad) yX10_weightOf wsX10_weightOf rmX10_weightOf [.ref mh, .int x1, .int x2, .int x3] iv ar (fw_Qi G (mw G mh ad) (fun r iv1 ar1 => Q r ∧ iv = iv1 ∧ ar = ar1)) := by
  refine fw_start (cc := cX10_weightOf) (nL := 5) (rt := (some .int)) (by decide) rfl (Nat.le_of_ble_eq_true rfl) ?_
  intro p e s m below meth c A ls H locs C hK hG hl
  obtain ⟨args, ea⟩ : ∃ z : Array Value, z = ([.ref mh, .int x1, .int x2, .int x3] : List Value).toArray := ⟨_, rfl⟩
  rw [← ea] at C ⊢
  have C : fw_C p s m args meth c cX10_weightOf 5 (some .int) wsX10_weightOf RX10 := C
  have hl : lv_has ls 5 [(0, .ref mh), (1, .int x1), (2, .int x2), (3, .int x3)] := hl
  unfold wpX10_weightOf at h
  have in_X10 : ∀ x ∈ wsX100, x ∈ wsX10_weightOf := by decide +kernel
  have k31 := C.2.2.2.2.1 (.fieldLink RX10 31 "KnifeBoardModel" "strays" "[I") (by decide +kernel)
  refine lv_aload_n C.1 C.2.1 dX10_weightOf_0 rfl (lv_at hl 0 rfl) ?_
  refine fw_get (w := (mw G mh ad)) C in_X10 hK hG 0 mw_o rfl 12 (by decide) k31 rfl rfl dX10_weightOf_1 ?_
  refine lv_iconst (v := 5) C.1 C.2.1 dX10_weightOf_4 (by decide) ?_
  refine lv_iload_n C.1 C.2.1 dX10_weightOf_5 rfl (lv_at hl 1 rfl) ?_
  refine lv_imul C.1 C.2.1 dX10_weightOf_6 ?_
  refine lv_iload_n C.1 C.2.1 dX10_weightOf_7 rfl (lv_at hl 2 rfl) ?_
  refine lv_iadd C.1 C.2.1 dX10_weightOf_8 ?_
  obtain ⟨c1, h⟩ := h
  refine fw_iald (w := (mw G mh ad)) C hK hG 8 mw_a12 c1 dX10_weightOf_9 ?_
  refine lv_topi (fun y2 ey2 => ?_)
  have h := h y2 ey2
  refine lv_istore (lv' := [(4, .int y2), (0, .ref mh), (1, .int x1), (2, .int x2), (3, .int x3)]) C.1 C.2.1 dX10_weightOf_10 hl (by decide) rfl (fun ls hl => ?_)
  refine lv_iload_n C.1 C.2.1 dX10_weightOf_12 rfl (lv_at hl 3 rfl) ?_
  refine lv_iconst (v := 2) C.1 C.2.1 dX10_weightOf_13 (by decide) ?_
  refine lv_icmp_ne (tgt := 20) C.1 C.2.1 dX10_weightOf_14 (by decide) (fun c3 => ?_) (fun c3 => ?_)
  · have h := h.1 c3
    refine lv_iload C.1 C.2.1 dX10_weightOf_20 (lv_at hl 0 rfl) ?_
    refine lv_iload_n C.1 C.2.1 dX10_weightOf_22 rfl (lv_at hl 4 rfl) ?_
    refine lv_iadd C.1 C.2.1 dX10_weightOf_23 ?_
    refine lv_bipush (v := 9) C.1 C.2.1 dX10_weightOf_24 (by decide) ?_
    refine lv_icmp_le (tgt := 34) C.1 C.2.1 dX10_weightOf_26 (by decide) (fun c4 => ?_) (fun c4 => ?_)
    · have h := h.1 c4
      refine lv_iload C.1 C.2.1 dX10_weightOf_34 (lv_at hl 0 rfl) ?_
      refine lv_iload_n C.1 C.2.1 dX10_weightOf_36 rfl (lv_at hl 4 rfl) ?_
      refine lv_iadd C.1 C.2.1 dX10_weightOf_37 ?_
      exact fw_iret C hG ⟨h, rfl, rfl⟩ dX10_weightOf_38
    · have h := h.2 c4
      refine lv_bipush (v := 9) C.1 C.2.1 dX10_weightOf_29 (by decide) ?_
      refine lv_goto (tgt := 38) C.1 C.2.1 dX10_weightOf_31 (by decide) ?_
      exact fw_iret C hG ⟨h, rfl, rfl⟩ dX10_weightOf_38
  · have h := h.2 c3
    refine lv_iload C.1 C.2.1 dX10_weightOf_17 (lv_at hl 0 rfl) ?_
    exact fw_iret C hG ⟨h, rfl, rfl⟩ dX10_weightOf_19
/-! KnifeBoardModel.sumOf(II)I -/
def rmX10_sumOf : Room := { frames := 1, cells := 0, slots := 0, locals := 24 }
def wpX10_sumOf_L5 (x1 : Int32) (x2 : Int32) (iv : fw_F) (ar : fw_R) (Q : Int32 → Prop) (K : Int32 → Int32 → Prop) : Nat → Int32 → Int32 → Prop
  | 0, _, _ => False
  | fu + 1, z3, z4 => (5 ≤ z4 → (K z3 z4)) ∧ (¬ 5 ≤ z4 → (wpX10_weightOf iv ar x1 z4 x2 (fun (r2 : Int32) => ∀ y3 : Int32, y3 = z3 + r2 → (∀ y4 : Int32, y4 = z4 + 1 → (wpX10_sumOf_L5 x1 x2 iv ar Q K fu y3 y4)))))
def wpX10_sumOf (iv : fw_F) (ar : fw_R) (x1 : Int32) (x2 : Int32) (Q : Int32 → Prop) : Prop := ∃ ku : Nat, wpX10_sumOf_L5 x1 x2 iv ar Q (fun (w5 : Int32) (w6 : Int32) => Q w5) ku 0 0
set_option maxHeartbeats 4000000 in
set_option maxRecDepth 100000 in
theorem soX10_sumOf_L5 {p : Program} {l : Launch} {e : Env} {s : State} {m : MethodId} {args : Array Value} {below : List Frame} {meth : Method} {c : Code} {A : Nat → Prop} {G : fw_G} {mh : Nat} {ad : Nat → Nat} {x1 : Int32} {x2 : Int32} {iv : fw_F} {ar : fw_R} {Q : Int32 → Prop} {K : Int32 → Int32 → Prop} (C : fw_C p s m args meth c cX10_sumOf 5 (some .int) wsX10_sumOf RX10) (hK : fw_K G A s)  (hX : ∀ (z3 : Int32) (z4 : Int32), K z3 z4 → ∀ (H : Heap) (locs : List Loc), fw_H G ((mw G mh ad) iv ar) A s H locs → ∀ (ls : Array Slot), lv_has ls 5 [(4, .int z4), (3, .int z3), (0, .ref mh), (1, .int x1), (2, .int x2)] → W p l e rmX10_sumOf s m args below meth c H locs 0 0 (MQ below (fw_Qi G (mw G mh ad) (fun r iv1 ar1 => Q r ∧ iv = iv1 ∧ ar = ar1) A) args s 0 0 A) (F0 m 28 ls [])) : ∀ (fu : Nat) (z3 : Int32) (z4 : Int32), wpX10_sumOf_L5 x1 x2 iv ar Q K fu z3 z4 → ∀ (H : Heap) (locs : List Loc), fw_H G ((mw G mh ad) iv ar) A s H locs → ∀ (ls : Array Slot), lv_has ls 5 [(4, .int z4), (3, .int z3), (0, .ref mh), (1, .int x1), (2, .int x2)] → W p l e rmX10_sumOf s m args below meth c H locs 0 0 (MQ below (fw_Qi G (mw G mh ad) (fun r iv1 ar1 => Q r ∧ iv = iv1 ∧ ar = ar1) A) args s 0 0 A) (F0 m 5 ls []) := by
  intro fu
  induction fu with
  | zero => intro z3 z4 h; exact h.elim
  | succ fu ih =>
    intro z3 z4 h H locs hG ls hl
    unfold wpX10_sumOf_L5 at h
    refine lv_iload C.1 C.2.1 dX10_sumOf_5 (lv_at hl 0 rfl) ?_
    refine lv_iconst (v := 5) C.1 C.2.1 dX10_sumOf_7 (by decide) ?_
    refine lv_icmp_ge (tgt := 28) C.1 C.2.1 dX10_sumOf_8 (by decide) (fun c1 => ?_) (fun c1 => ?_)
    · have h := h.1 c1
      exact hX _ _ h _ _ hG ls (lv_sub hl [0, 1, 2, 3, 4] rfl)
    · have h := h.2 c1
      refine lv_iload_n C.1 C.2.1 dX10_sumOf_11 rfl (lv_at hl 1 rfl) ?_
      refine lv_aload_n C.1 C.2.1 dX10_sumOf_12 rfl (lv_at hl 2 rfl) ?_
      refine lv_iload_n C.1 C.2.1 dX10_sumOf_13 rfl (lv_at hl 3 rfl) ?_
      refine lv_iload C.1 C.2.1 dX10_sumOf_14 (lv_at hl 0 rfl) ?_
      refine lv_iload_n C.1 C.2.1 dX10_sumOf_16 rfl (lv_at hl 4 rfl) ?_
      refine fw_rcalli (va_runV (As := [.int x1, .int z4, .int x2]) (rest := [.int z3]) ⟨C.1, C.2.1, C.2.2.2.2.2.2, C.2.2.2.2.2.1, C.2.2.2.2.1⟩ (soX10_weightOf l G mh ad iv ar x1 z4 x2 _  h H.size) (cwV 3 C.2.2.2.2.1 gX10_sumOf_X10_weightOf rfl rfl rfl (by decide +kernel) ⟨Nat.le_of_ble_eq_true rfl, Nat.le_of_ble_eq_true rfl⟩) (fw_preV hG hK (ci := 10) rfl mw_o) rfl rfl hl.1 rfl (lv_room (Nat.le_of_ble_eq_true rfl)) dX10_sumOf_17 ⟨Nat.zero_le _, Nat.zero_le _⟩) hG hK (fun r2  H locs h hG => ?_)
      refine lv_iadd C.1 C.2.1 dX10_sumOf_20 ?_
      refine lv_topi (fun y3 ey3 => ?_)
      have h := h y3 ey3
      refine lv_istore_n (lv' := [(3, .int y3), (4, .int z4), (0, .ref mh), (1, .int x1), (2, .int x2)]) C.1 C.2.1 dX10_sumOf_21 rfl hl (by decide) rfl (fun ls hl => ?_)
      obtain ⟨y4, ey4⟩ : ∃ z : Int32, z = z4 + 1 := ⟨_, rfl⟩
      have h := h y4 ey4
      refine lv_iinc (v := y4) (lv' := [(4, .int y4), (3, .int y3), (0, .ref mh), (1, .int x1), (2, .int x2)]) C.1 C.2.1 dX10_sumOf_22 hl (k := 1) rfl (by rw [ey4]; rfl) (by decide) rfl (fun ls hl => ?_)
      refine lv_goto (tgt := 5) C.1 C.2.1 dX10_sumOf_25 (by decide) ?_
      exact ih _ _ h _ _ hG ls (lv_sub hl [0, 1, 2, 3, 4] rfl)

set_option maxHeartbeats 4000000 in
set_option maxRecDepth 100000 in
theorem soX10_sumOf (l : Launch) (G : fw_G) (mh : Nat) (ad : Nat → Nat) (iv : fw_F) (ar : fw_R) (x1 : Int32) (x2 : Int32) (Q : Int32 → Prop)  (h : wpX10_sumOf iv ar x1 x2 Q) : fw_M l G (mw G mh ad) yX10_sumOf wsX10_sumOf rmX10_sumOf [.ref mh, .int x1, .int x2] iv ar (fw_Qi G (mw G mh ad) (fun r iv1 ar1 => Q r ∧ iv = iv1 ∧ ar = ar1)) := by
  refine fw_start (cc := cX10_sumOf) (nL := 5) (rt := (some .int)) (by decide) rfl (Nat.le_of_ble_eq_true rfl) ?_
  intro p e s m below meth c A ls H locs C hK hG hl
  obtain ⟨args, ea⟩ : ∃ z : Array Value, z = ([.ref mh, .int x1, .int x2] : List Value).toArray := ⟨_, rfl⟩
  rw [← ea] at C ⊢
  have C : fw_C p s m args meth c cX10_sumOf 5 (some .int) wsX10_sumOf RX10 := C
  have hl : lv_has ls 5 [(0, .ref mh), (1, .int x1), (2, .int x2)] := hl
  unfold wpX10_sumOf at h
  refine lv_iconst (v := 0) C.1 C.2.1 dX10_sumOf_0 (by decide) ?_
  refine lv_istore_n (lv' := [(3, .int 0), (0, .ref mh), (1, .int x1), (2, .int x2)]) C.1 C.2.1 dX10_sumOf_1 rfl hl (by decide) rfl (fun ls hl => ?_)
  refine lv_iconst (v := 0) C.1 C.2.1 dX10_sumOf_2 (by decide) ?_
  refine lv_istore (lv' := [(4, .int 0), (3, .int 0), (0, .ref mh), (1, .int x1), (2, .int x2)]) C.1 C.2.1 dX10_sumOf_3 hl (by decide) rfl (fun ls hl => ?_)
  obtain ⟨ku, h⟩ := h
  refine soX10_sumOf_L5 C hK  ?_ ku _ _ h _ _ hG ls (lv_sub hl [0, 1, 2, 3, 4] rfl)
  intro w5 w6 h H locs hG ls hl
  refine lv_iload_n C.1 C.2.1 dX10_sumOf_28 rfl (lv_at hl 1 rfl) ?_
  exact fw_iret C hG ⟨h, rfl, rfl⟩ dX10_sumOf_29
/-! KnifeBoardModel.weight(III)I -/
def rmX10_weight : Room := { frames := 2, cells := 0, slots := 0, locals := 42 }
def wpX10_weight (iv : fw_F) (ar : fw_R) (x1 : Int32) (x2 : Int32) (x3 : Int32) (Q : Int32 → Prop) : Prop := wpX10_within x1 0 2 (fun (r1 : Int32) => (¬ r1 = 0 → (wpX10_within x2 (-2) 2 (fun (r3 : Int32) => (r3 = 0 → (Q (-2))) ∧ (¬ r3 = 0 → (wpX10_isStage x3 (fun (r5 : Int32) => (¬ r5 = 0 → (((iv 10) = 0 → (Q (-3))) ∧ (¬ (iv 10) = 0 → (wpX10_weightOf iv ar x1 (x2 + 2) x3 (fun (r8 : Int32) => Q r8))))) ∧ (r5 = 0 → (Q (-2))))))))) ∧ (r1 = 0 → (Q (-1))))
set_option maxHeartbeats 4000000 in
set_option maxRecDepth 100000 in
theorem soX10_weight (l : Launch) (G : fw_G) (mh : Nat) (ad : Nat → Nat) (iv : fw_F) (ar : fw_R) (x1 : Int32) (x2 : Int32) (x3 : Int32) (Q : Int32 → Prop)  (h : wpX10_weight iv ar x1 x2 x3 Q) : fw_M l G (mw G mh ad) yX10_weight wsX10_weight rmX10_weight [.ref mh, .int x1, .int x2, .int x3] iv ar (fw_Qi G (mw G mh ad) (fun r iv1 ar1 => Q r ∧ iv = iv1 ∧ ar = ar1)) := by
  refine fw_start (cc := cX10_weight) (nL := 4) (rt := (some .int)) (by decide) rfl (Nat.le_of_ble_eq_true rfl) ?_
  intro p e s m below meth c A ls H locs C hK hG hl
  obtain ⟨args, ea⟩ : ∃ z : Array Value, z = ([.ref mh, .int x1, .int x2, .int x3] : List Value).toArray := ⟨_, rfl⟩
  rw [← ea] at C ⊢
  have C : fw_C p s m args meth c cX10_weight 4 (some .int) wsX10_weight RX10 := C
  have hl : lv_has ls 4 [(0, .ref mh), (1, .int x1), (2, .int x2), (3, .int x3)] := hl
  unfold wpX10_weight at h
  have in_X10 : ∀ x ∈ wsX100, x ∈ wsX10_weight := by decide +kernel
  have k146 := C.2.2.2.2.1 (.fieldLink RX10 146 "KnifeBoardModel" "isHand" "Z") (by decide +kernel)
  refine lv_iload_n C.1 C.2.1 dX10_weight_0 rfl (lv_at hl 1 rfl) ?_
  refine lv_iconst (v := 0) C.1 C.2.1 dX10_weight_1 (by decide) ?_
  refine lv_iconst (v := 2) C.1 C.2.1 dX10_weight_2 (by decide) ?_
  refine fw_pcalli (va_runS (As := [.int x1, .int 0, .int 2]) (rest := []) ⟨C.1, C.2.1, C.2.2.2.2.2.2, C.2.2.2.2.2.1, C.2.2.2.2.1⟩ (soX10_within l x1 0 2 _ h H.size) (va_cwS 3 C.2.2.2.2.1 gX10_weight_X10_within rfl rfl rfl (by decide +kernel) ⟨Nat.le_of_ble_eq_true rfl, Nat.le_of_ble_eq_true rfl⟩) fw_ppre rfl rfl hl.1 rfl (lv_room (Nat.le_of_ble_eq_true rfl)) dX10_weight_3 ⟨Nat.zero_le _, Nat.zero_le _⟩) hG hK (fun r1  H locs h hG => ?_)
  refine lv_if_ne (tgt := 11) C.1 C.2.1 dX10_weight_6 (by decide) (fun c2 => ?_) (fun c2 => ?_)
  · have h := h.1 c2
    refine lv_iload_n C.1 C.2.1 dX10_weight_11 rfl (lv_at hl 2 rfl) ?_
    refine lv_bipush (v := (-2)) C.1 C.2.1 dX10_weight_12 (by decide) ?_
    refine lv_iconst (v := 2) C.1 C.2.1 dX10_weight_14 (by decide) ?_
    refine fw_pcalli (va_runS (As := [.int x2, .int (-2), .int 2]) (rest := []) ⟨C.1, C.2.1, C.2.2.2.2.2.2, C.2.2.2.2.2.1, C.2.2.2.2.1⟩ (soX10_within l x2 (-2) 2 _ h H.size) (va_cwS 3 C.2.2.2.2.1 gX10_weight_X10_within rfl rfl rfl (by decide +kernel) ⟨Nat.le_of_ble_eq_true rfl, Nat.le_of_ble_eq_true rfl⟩) fw_ppre rfl rfl hl.1 rfl (lv_room (Nat.le_of_ble_eq_true rfl)) dX10_weight_15 ⟨Nat.zero_le _, Nat.zero_le _⟩) hG hK (fun r3  H locs h hG => ?_)
    refine lv_if_eq (tgt := 28) C.1 C.2.1 dX10_weight_18 (by decide) (fun c4 => ?_) (fun c4 => ?_)
    · have h := h.1 c4
      refine lv_bipush (v := (-2)) C.1 C.2.1 dX10_weight_28 (by decide) ?_
      exact fw_iret C hG ⟨h, rfl, rfl⟩ dX10_weight_30
    · have h := h.2 c4
      refine lv_iload_n C.1 C.2.1 dX10_weight_21 rfl (lv_at hl 3 rfl) ?_
      refine fw_pcalli (va_runS (As := [.int x3]) (rest := []) ⟨C.1, C.2.1, C.2.2.2.2.2.2, C.2.2.2.2.2.1, C.2.2.2.2.1⟩ (soX10_isStage l x3 _ h H.size) (va_cwS 1 C.2.2.2.2.1 gX10_weight_X10_isStage rfl rfl rfl (by decide +kernel) ⟨Nat.le_of_ble_eq_true rfl, Nat.le_of_ble_eq_true rfl⟩) fw_ppre rfl rfl hl.1 rfl (lv_room (Nat.le_of_ble_eq_true rfl)) dX10_weight_22 ⟨Nat.zero_le _, Nat.zero_le _⟩) hG hK (fun r5  H locs h hG => ?_)
      refine lv_if_ne (tgt := 31) C.1 C.2.1 dX10_weight_25 (by decide) (fun c6 => ?_) (fun c6 => ?_)
      · have h := h.1 c6
        refine lv_aload_n C.1 C.2.1 dX10_weight_31 rfl (lv_at hl 0 rfl) ?_
        refine fw_get (w := (mw G mh ad)) C in_X10 hK hG 0 mw_o rfl 10 (by decide) k146 rfl rfl dX10_weight_32 ?_
        refine lv_if_eq (tgt := 50) C.1 C.2.1 dX10_weight_35 (by decide) (fun c7 => ?_) (fun c7 => ?_)
        · have h := h.1 c7
          refine lv_bipush (v := (-3)) C.1 C.2.1 dX10_weight_50 (by decide) ?_
          exact fw_iret C hG ⟨h, rfl, rfl⟩ dX10_weight_52
        · have h := h.2 c7
          refine lv_aload_n C.1 C.2.1 dX10_weight_38 rfl (lv_at hl 0 rfl) ?_
          refine lv_iload_n C.1 C.2.1 dX10_weight_39 rfl (lv_at hl 1 rfl) ?_
          refine lv_iload_n C.1 C.2.1 dX10_weight_40 rfl (lv_at hl 2 rfl) ?_
          refine lv_iconst (v := 2) C.1 C.2.1 dX10_weight_41 (by decide) ?_
          refine lv_iadd C.1 C.2.1 dX10_weight_42 ?_
          refine lv_iload_n C.1 C.2.1 dX10_weight_43 rfl (lv_at hl 3 rfl) ?_
          refine fw_rcalli (va_runV (As := [.int x1, .int (x2 + 2), .int x3]) (rest := []) ⟨C.1, C.2.1, C.2.2.2.2.2.2, C.2.2.2.2.2.1, C.2.2.2.2.1⟩ (soX10_weightOf l G mh ad iv ar x1 (x2 + 2) x3 _  h H.size) (cwV 3 C.2.2.2.2.1 gX10_weight_X10_weightOf rfl rfl rfl (by decide +kernel) ⟨Nat.le_of_ble_eq_true rfl, Nat.le_of_ble_eq_true rfl⟩) (fw_preV hG hK (ci := 10) rfl mw_o) rfl rfl hl.1 rfl (lv_room (Nat.le_of_ble_eq_true rfl)) dX10_weight_44 ⟨Nat.zero_le _, Nat.zero_le _⟩) hG hK (fun r8  H locs h hG => ?_)
          refine lv_goto (tgt := 52) C.1 C.2.1 dX10_weight_47 (by decide) ?_
          exact fw_iret C hG ⟨h, rfl, rfl⟩ dX10_weight_52
      · have h := h.2 c6
        refine lv_bipush (v := (-2)) C.1 C.2.1 dX10_weight_28 (by decide) ?_
        exact fw_iret C hG ⟨h, rfl, rfl⟩ dX10_weight_30
  · have h := h.2 c2
    refine lv_iconst (v := (-1)) C.1 C.2.1 dX10_weight_9 (by decide) ?_
    exact fw_iret C hG ⟨h, rfl, rfl⟩ dX10_weight_10
/-! KnifeBoardModel.stageOf(I)I -/
def rmX10_stageOf : Room := { frames := 0, cells := 0, slots := 0, locals := 0 }
def wpX10_stageOf (iv : fw_F) (ar : fw_R) (x1 : Int32) (Q : Int32 → Prop) : Prop := (¬ (iv 11) = 0 → (¬ (iv 11) = 0 ∧ (∀ y3 : Int32, y3 = x1 / (iv 11) → ((y3 ≤ 9 → (Q y3)) ∧ (¬ y3 ≤ 9 → (Q 9)))))) ∧ ((iv 11) = 0 → (Q 0))
set_option maxHeartbeats 4000000 in
set_option maxRecDepth 100000 in
theorem soX10_stageOf (l : Launch) (G : fw_G) (mh : Nat) (ad : Nat → Nat) (iv : fw_F) (ar : fw_R) (x1 : Int32) (Q : Int32 → Prop)  (h : wpX10_stageOf iv ar x1 Q) : fw_M l G (mw G mh ad) yX10_stageOf wsX10_stageOf rmX10_stageOf [.ref mh, .int x1] iv ar (fw_Qi G (mw G mh ad) (fun r iv1 ar1 => Q r ∧ iv = iv1 ∧ ar = ar1)) := by
  refine fw_start (cc := cX10_stageOf) (nL := 3) (rt := (some .int)) (by decide) rfl (Nat.le_of_ble_eq_true rfl) ?_
  intro p e s m below meth c A ls H locs C hK hG hl
  obtain ⟨args, ea⟩ : ∃ z : Array Value, z = ([.ref mh, .int x1] : List Value).toArray := ⟨_, rfl⟩
  rw [← ea] at C ⊢
  have C : fw_C p s m args meth c cX10_stageOf 3 (some .int) wsX10_stageOf RX10 := C
  have hl : lv_has ls 3 [(0, .ref mh), (1, .int x1)] := hl
  unfold wpX10_stageOf at h
  have in_X10 : ∀ x ∈ wsX100, x ∈ wsX10_stageOf := by decide +kernel
  have k153 := C.2.2.2.2.1 (.fieldLink RX10 153 "KnifeBoardModel" "tires" "I") (by decide +kernel)
  refine lv_aload_n C.1 C.2.1 dX10_stageOf_0 rfl (lv_at hl 0 rfl) ?_
  refine fw_get (w := (mw G mh ad)) C in_X10 hK hG 0 mw_o rfl 11 (by decide) k153 rfl rfl dX10_stageOf_1 ?_
  refine lv_if_ne (tgt := 11) C.1 C.2.1 dX10_stageOf_4 (by decide) (fun c1 => ?_) (fun c1 => ?_)
  · have h := h.1 c1
    refine lv_iload_n C.1 C.2.1 dX10_stageOf_11 rfl (lv_at hl 1 rfl) ?_
    refine lv_aload_n C.1 C.2.1 dX10_stageOf_12 rfl (lv_at hl 0 rfl) ?_
    refine fw_get (w := (mw G mh ad)) C in_X10 hK hG 0 mw_o rfl 11 (by decide) k153 rfl rfl dX10_stageOf_13 ?_
    obtain ⟨c2, h⟩ := h
    refine lv_idiv C.1 C.2.1 dX10_stageOf_16 c2 ?_
    refine lv_topi (fun y3 ey3 => ?_)
    have h := h y3 ey3
    refine lv_istore_n (lv' := [(2, .int y3), (0, .ref mh), (1, .int x1)]) C.1 C.2.1 dX10_stageOf_17 rfl hl (by decide) rfl (fun ls hl => ?_)
    refine lv_iload_n C.1 C.2.1 dX10_stageOf_18 rfl (lv_at hl 0 rfl) ?_
    refine lv_bipush (v := 9) C.1 C.2.1 dX10_stageOf_19 (by decide) ?_
    refine lv_icmp_le (tgt := 29) C.1 C.2.1 dX10_stageOf_21 (by decide) (fun c4 => ?_) (fun c4 => ?_)
    · have h := h.1 c4
      refine lv_iload_n C.1 C.2.1 dX10_stageOf_29 rfl (lv_at hl 0 rfl) ?_
      exact fw_iret C hG ⟨h, rfl, rfl⟩ dX10_stageOf_30
    · have h := h.2 c4
      refine lv_bipush (v := 9) C.1 C.2.1 dX10_stageOf_24 (by decide) ?_
      refine lv_goto (tgt := 30) C.1 C.2.1 dX10_stageOf_26 (by decide) ?_
      exact fw_iret C hG ⟨h, rfl, rfl⟩ dX10_stageOf_30
  · have h := h.2 c1
    refine lv_iconst (v := 0) C.1 C.2.1 dX10_stageOf_7 (by decide) ?_
    refine lv_goto (tgt := 17) C.1 C.2.1 dX10_stageOf_8 (by decide) ?_
    refine lv_istore_n (lv' := [(2, .int 0), (0, .ref mh), (1, .int x1)]) C.1 C.2.1 dX10_stageOf_17 rfl hl (by decide) rfl (fun ls hl => ?_)
    refine lv_iload_n C.1 C.2.1 dX10_stageOf_18 rfl (lv_at hl 0 rfl) ?_
    refine lv_bipush (v := 9) C.1 C.2.1 dX10_stageOf_19 (by decide) ?_
    refine lv_icmp_le (tgt := 29) C.1 C.2.1 dX10_stageOf_21 (by decide) (fun c5 => ?_) (fun c5 => ?_)
    · refine lv_iload_n C.1 C.2.1 dX10_stageOf_29 rfl (lv_at hl 0 rfl) ?_
      exact fw_iret C hG ⟨h, rfl, rfl⟩ dX10_stageOf_30
    · exact absurd c5 (by decide)
/-! KnifeBoardModel.stage(I)I -/
def rmX10_stage : Room := { frames := 1, cells := 0, slots := 0, locals := 22 }
def wpX10_stage (iv : fw_F) (ar : fw_R) (x1 : Int32) (Q : Int32 → Prop) : Prop := wpX10_within x1 0 9999 (fun (r1 : Int32) => (¬ r1 = 0 → (((iv 10) = 0 → (Q (-3))) ∧ (¬ (iv 10) = 0 → (wpX10_stageOf iv ar x1 (fun (r4 : Int32) => Q r4))))) ∧ (r1 = 0 → (Q (-2))))
set_option maxHeartbeats 4000000 in
set_option maxRecDepth 100000 in
theorem soX10_stage (l : Launch) (G : fw_G) (mh : Nat) (ad : Nat → Nat) (iv : fw_F) (ar : fw_R) (x1 : Int32) (Q : Int32 → Prop)  (h : wpX10_stage iv ar x1 Q) : fw_M l G (mw G mh ad) yX10_stage wsX10_stage rmX10_stage [.ref mh, .int x1] iv ar (fw_Qi G (mw G mh ad) (fun r iv1 ar1 => Q r ∧ iv = iv1 ∧ ar = ar1)) := by
  refine fw_start (cc := cX10_stage) (nL := 2) (rt := (some .int)) (by decide) rfl (Nat.le_of_ble_eq_true rfl) ?_
  intro p e s m below meth c A ls H locs C hK hG hl
  obtain ⟨args, ea⟩ : ∃ z : Array Value, z = ([.ref mh, .int x1] : List Value).toArray := ⟨_, rfl⟩
  rw [← ea] at C ⊢
  have C : fw_C p s m args meth c cX10_stage 2 (some .int) wsX10_stage RX10 := C
  have hl : lv_has ls 2 [(0, .ref mh), (1, .int x1)] := hl
  unfold wpX10_stage at h
  have in_X10 : ∀ x ∈ wsX100, x ∈ wsX10_stage := by decide +kernel
  have k146 := C.2.2.2.2.1 (.fieldLink RX10 146 "KnifeBoardModel" "isHand" "Z") (by decide +kernel)
  refine lv_iload_n C.1 C.2.1 dX10_stage_0 rfl (lv_at hl 1 rfl) ?_
  refine lv_iconst (v := 0) C.1 C.2.1 dX10_stage_1 (by decide) ?_
  refine lv_sipush (v := 9999) C.1 C.2.1 dX10_stage_2 (by decide) ?_
  refine fw_pcalli (va_runS (As := [.int x1, .int 0, .int 9999]) (rest := []) ⟨C.1, C.2.1, C.2.2.2.2.2.2, C.2.2.2.2.2.1, C.2.2.2.2.1⟩ (soX10_within l x1 0 9999 _ h H.size) (va_cwS 3 C.2.2.2.2.1 gX10_stage_X10_within rfl rfl rfl (by decide +kernel) ⟨Nat.le_of_ble_eq_true rfl, Nat.le_of_ble_eq_true rfl⟩) fw_ppre rfl rfl hl.1 rfl (lv_room (Nat.le_of_ble_eq_true rfl)) dX10_stage_5 ⟨Nat.zero_le _, Nat.zero_le _⟩) hG hK (fun r1  H locs h hG => ?_)
  refine lv_if_ne (tgt := 14) C.1 C.2.1 dX10_stage_8 (by decide) (fun c2 => ?_) (fun c2 => ?_)
  · have h := h.1 c2
    refine lv_aload_n C.1 C.2.1 dX10_stage_14 rfl (lv_at hl 0 rfl) ?_
    refine fw_get (w := (mw G mh ad)) C in_X10 hK hG 0 mw_o rfl 10 (by decide) k146 rfl rfl dX10_stage_15 ?_
    refine lv_if_eq (tgt := 29) C.1 C.2.1 dX10_stage_18 (by decide) (fun c3 => ?_) (fun c3 => ?_)
    · have h := h.1 c3
      refine lv_bipush (v := (-3)) C.1 C.2.1 dX10_stage_29 (by decide) ?_
      exact fw_iret C hG ⟨h, rfl, rfl⟩ dX10_stage_31
    · have h := h.2 c3
      refine lv_aload_n C.1 C.2.1 dX10_stage_21 rfl (lv_at hl 0 rfl) ?_
      refine lv_iload_n C.1 C.2.1 dX10_stage_22 rfl (lv_at hl 1 rfl) ?_
      refine fw_rcalli (va_runV (As := [.int x1]) (rest := []) ⟨C.1, C.2.1, C.2.2.2.2.2.2, C.2.2.2.2.2.1, C.2.2.2.2.1⟩ (soX10_stageOf l G mh ad iv ar x1 _  h H.size) (cwV 1 C.2.2.2.2.1 gX10_stage_X10_stageOf rfl rfl rfl (by decide +kernel) ⟨Nat.le_of_ble_eq_true rfl, Nat.le_of_ble_eq_true rfl⟩) (fw_preV hG hK (ci := 10) rfl mw_o) rfl rfl hl.1 rfl (lv_room (Nat.le_of_ble_eq_true rfl)) dX10_stage_23 ⟨Nat.zero_le _, Nat.zero_le _⟩) hG hK (fun r4  H locs h hG => ?_)
      refine lv_goto (tgt := 31) C.1 C.2.1 dX10_stage_26 (by decide) ?_
      exact fw_iret C hG ⟨h, rfl, rfl⟩ dX10_stage_31
  · have h := h.2 c2
    refine lv_bipush (v := (-2)) C.1 C.2.1 dX10_stage_11 (by decide) ?_
    exact fw_iret C hG ⟨h, rfl, rfl⟩ dX10_stage_13
/-! KnifeBoardModel.stuckBy(IIII)I -/
def rmX10_stuckBy : Room := { frames := 4, cells := 0, slots := 0, locals := 94 }
def wpX10_stuckBy_L6 (x1 : Int32) (x2 : Int32) (x3 : Int32) (x4 : Int32) (iv : fw_F) (ar : fw_R) (Q : Int32 → Prop) (K : Int32 → Int32 → Prop) : Nat → Int32 → Int32 → Prop
  | 0, _, _ => False
  | fu + 1, z5, z6 => (5 ≤ z6 → (K z5 z6)) ∧ (¬ 5 ≤ z6 → (wpX10_isStuck iv ar x1 ((((x2 + z6) + 24) - 2) - (((x2 + z6) + 24) - 2) / 24 * 24) x3 (fun (r2 : Int32) => (r2 = 0 → (∀ y4 : Int32, y4 = z5 + 0 → (∀ y5 : Int32, y5 = z6 + 1 → (wpX10_stuckBy_L6 x1 x2 x3 x4 iv ar Q K fu y4 y5)))) ∧ (¬ r2 = 0 → (wpX10_weightOf iv ar 0 z6 x4 (fun (r6 : Int32) => ∀ y7 : Int32, y7 = z5 + r6 → (∀ y8 : Int32, y8 = z6 + 1 → (wpX10_stuckBy_L6 x1 x2 x3 x4 iv ar Q K fu y7 y8))))))))
def wpX10_stuckBy (iv : fw_F) (ar : fw_R) (x1 : Int32) (x2 : Int32) (x3 : Int32) (x4 : Int32) (Q : Int32 → Prop) : Prop := ∃ ku : Nat, wpX10_stuckBy_L6 x1 x2 x3 x4 iv ar Q (fun (w9 : Int32) (w10 : Int32) => Q w9) ku 0 0
set_option maxHeartbeats 4000000 in
set_option maxRecDepth 100000 in
theorem soX10_stuckBy_L6 {p : Program} {l : Launch} {e : Env} {s : State} {m : MethodId} {args : Array Value} {below : List Frame} {meth : Method} {c : Code} {A : Nat → Prop} {G : fw_G} {mh : Nat} {ad : Nat → Nat} {x1 : Int32} {x2 : Int32} {x3 : Int32} {x4 : Int32} {iv : fw_F} {ar : fw_R} {Q : Int32 → Prop} {K : Int32 → Int32 → Prop} (C : fw_C p s m args meth c cX10_stuckBy 7 (some .int) wsX10_stuckBy RX10) (hK : fw_K G A s)  (hX : ∀ (z5 : Int32) (z6 : Int32), K z5 z6 → ∀ (H : Heap) (locs : List Loc), fw_H G ((mw G mh ad) iv ar) A s H locs → ∀ (ls : Array Slot), lv_has ls 7 [(6, .int z6), (5, .int z5), (0, .ref mh), (1, .int x1), (2, .int x2), (3, .int x3), (4, .int x4)] → W p l e rmX10_stuckBy s m args below meth c H locs 0 0 (MQ below (fw_Qi G (mw G mh ad) (fun r iv1 ar1 => Q r ∧ iv = iv1 ∧ ar = ar1) A) args s 0 0 A) (F0 m 57 ls [])) : ∀ (fu : Nat) (z5 : Int32) (z6 : Int32), wpX10_stuckBy_L6 x1 x2 x3 x4 iv ar Q K fu z5 z6 → ∀ (H : Heap) (locs : List Loc), fw_H G ((mw G mh ad) iv ar) A s H locs → ∀ (ls : Array Slot), lv_has ls 7 [(6, .int z6), (5, .int z5), (0, .ref mh), (1, .int x1), (2, .int x2), (3, .int x3), (4, .int x4)] → W p l e rmX10_stuckBy s m args below meth c H locs 0 0 (MQ below (fw_Qi G (mw G mh ad) (fun r iv1 ar1 => Q r ∧ iv = iv1 ∧ ar = ar1) A) args s 0 0 A) (F0 m 6 ls []) := by
  intro fu
  induction fu with
  | zero => intro z5 z6 h; exact h.elim
  | succ fu ih =>
    intro z5 z6 h H locs hG ls hl
    unfold wpX10_stuckBy_L6 at h
    refine lv_iload C.1 C.2.1 dX10_stuckBy_6 (lv_at hl 0 rfl) ?_
    refine lv_iconst (v := 5) C.1 C.2.1 dX10_stuckBy_8 (by decide) ?_
    refine lv_icmp_ge (tgt := 57) C.1 C.2.1 dX10_stuckBy_9 (by decide) (fun c1 => ?_) (fun c1 => ?_)
    · have h := h.1 c1
      exact hX _ _ h _ _ hG ls (lv_sub hl [0, 1, 2, 3, 4, 5, 6] rfl)
    · have h := h.2 c1
      refine lv_iload C.1 C.2.1 dX10_stuckBy_12 (lv_at hl 1 rfl) ?_
      refine lv_aload_n C.1 C.2.1 dX10_stuckBy_14 rfl (lv_at hl 2 rfl) ?_
      refine lv_iload_n C.1 C.2.1 dX10_stuckBy_15 rfl (lv_at hl 3 rfl) ?_
      refine lv_iload_n C.1 C.2.1 dX10_stuckBy_16 rfl (lv_at hl 4 rfl) ?_
      refine lv_iload C.1 C.2.1 dX10_stuckBy_17 (lv_at hl 0 rfl) ?_
      refine lv_iadd C.1 C.2.1 dX10_stuckBy_19 ?_
      refine lv_bipush (v := 24) C.1 C.2.1 dX10_stuckBy_20 (by decide) ?_
      refine lv_iadd C.1 C.2.1 dX10_stuckBy_22 ?_
      refine lv_iconst (v := 2) C.1 C.2.1 dX10_stuckBy_23 (by decide) ?_
      refine lv_isub C.1 C.2.1 dX10_stuckBy_24 ?_
      refine lv_bipush (v := 24) C.1 C.2.1 dX10_stuckBy_25 (by decide) ?_
      refine lv_irem C.1 C.2.1 dX10_stuckBy_27 (by decide) ?_
      refine lv_iload_n C.1 C.2.1 dX10_stuckBy_28 rfl (lv_at hl 5 rfl) ?_
      refine fw_rcalli (va_runV (As := [.int x1, .int ((((x2 + z6) + 24) - 2) - (((x2 + z6) + 24) - 2) / 24 * 24), .int x3]) (rest := [.int z5]) ⟨C.1, C.2.1, C.2.2.2.2.2.2, C.2.2.2.2.2.1, C.2.2.2.2.1⟩ (soX10_isStuck l G mh ad iv ar x1 ((((x2 + z6) + 24) - 2) - (((x2 + z6) + 24) - 2) / 24 * 24) x3 _  h H.size) (cwV 3 C.2.2.2.2.1 gX10_stuckBy_X10_isStuck rfl rfl rfl (by decide +kernel) ⟨Nat.le_of_ble_eq_true rfl, Nat.le_of_ble_eq_true rfl⟩) (fw_preV hG hK (ci := 10) rfl mw_o) rfl rfl hl.1 rfl (lv_room (Nat.le_of_ble_eq_true rfl)) dX10_stuckBy_29 ⟨Nat.zero_le _, Nat.zero_le _⟩) hG hK (fun r2  H locs h hG => ?_)
      refine lv_if_eq (tgt := 47) C.1 C.2.1 dX10_stuckBy_32 (by decide) (fun c3 => ?_) (fun c3 => ?_)
      · have h := h.1 c3
        refine lv_iconst (v := 0) C.1 C.2.1 dX10_stuckBy_47 (by decide) ?_
        refine lv_iadd C.1 C.2.1 dX10_stuckBy_48 ?_
        refine lv_topi (fun y4 ey4 => ?_)
        have h := h y4 ey4
        refine lv_istore (lv' := [(5, .int y4), (6, .int z6), (0, .ref mh), (1, .int x1), (2, .int x2), (3, .int x3), (4, .int x4)]) C.1 C.2.1 dX10_stuckBy_49 hl (by decide) rfl (fun ls hl => ?_)
        obtain ⟨y5, ey5⟩ : ∃ z : Int32, z = z6 + 1 := ⟨_, rfl⟩
        have h := h y5 ey5
        refine lv_iinc (v := y5) (lv' := [(6, .int y5), (5, .int y4), (0, .ref mh), (1, .int x1), (2, .int x2), (3, .int x3), (4, .int x4)]) C.1 C.2.1 dX10_stuckBy_51 hl (k := 1) rfl (by rw [ey5]; rfl) (by decide) rfl (fun ls hl => ?_)
        refine lv_goto (tgt := 6) C.1 C.2.1 dX10_stuckBy_54 (by decide) ?_
        exact ih _ _ h _ _ hG ls (lv_sub hl [0, 1, 2, 3, 4, 5, 6] rfl)
      · have h := h.2 c3
        refine lv_aload_n C.1 C.2.1 dX10_stuckBy_35 rfl (lv_at hl 2 rfl) ?_
        refine lv_iconst (v := 0) C.1 C.2.1 dX10_stuckBy_36 (by decide) ?_
        refine lv_iload C.1 C.2.1 dX10_stuckBy_37 (lv_at hl 0 rfl) ?_
        refine lv_iload C.1 C.2.1 dX10_stuckBy_39 (lv_at hl 6 rfl) ?_
        refine fw_rcalli (va_runV (As := [.int 0, .int z6, .int x4]) (rest := [.int z5]) ⟨C.1, C.2.1, C.2.2.2.2.2.2, C.2.2.2.2.2.1, C.2.2.2.2.1⟩ (soX10_weightOf l G mh ad iv ar 0 z6 x4 _  h H.size) (cwV 3 C.2.2.2.2.1 gX10_stuckBy_X10_weightOf rfl rfl rfl (by decide +kernel) ⟨Nat.le_of_ble_eq_true rfl, Nat.le_of_ble_eq_true rfl⟩) (fw_preV hG hK (ci := 10) rfl mw_o) rfl rfl hl.1 rfl (lv_room (Nat.le_of_ble_eq_true rfl)) dX10_stuckBy_41 ⟨Nat.zero_le _, Nat.zero_le _⟩) hG hK (fun r6  H locs h hG => ?_)
        refine lv_goto (tgt := 48) C.1 C.2.1 dX10_stuckBy_44 (by decide) ?_
        refine lv_iadd C.1 C.2.1 dX10_stuckBy_48 ?_
        refine lv_topi (fun y7 ey7 => ?_)
        have h := h y7 ey7
        refine lv_istore (lv' := [(5, .int y7), (6, .int z6), (0, .ref mh), (1, .int x1), (2, .int x2), (3, .int x3), (4, .int x4)]) C.1 C.2.1 dX10_stuckBy_49 hl (by decide) rfl (fun ls hl => ?_)
        obtain ⟨y8, ey8⟩ : ∃ z : Int32, z = z6 + 1 := ⟨_, rfl⟩
        have h := h y8 ey8
        refine lv_iinc (v := y8) (lv' := [(6, .int y8), (5, .int y7), (0, .ref mh), (1, .int x1), (2, .int x2), (3, .int x3), (4, .int x4)]) C.1 C.2.1 dX10_stuckBy_51 hl (k := 1) rfl (by rw [ey8]; rfl) (by decide) rfl (fun ls hl => ?_)
        refine lv_goto (tgt := 6) C.1 C.2.1 dX10_stuckBy_54 (by decide) ?_
        exact ih _ _ h _ _ hG ls (lv_sub hl [0, 1, 2, 3, 4, 5, 6] rfl)

set_option maxHeartbeats 4000000 in
set_option maxRecDepth 100000 in
theorem soX10_stuckBy (l : Launch) (G : fw_G) (mh : Nat) (ad : Nat → Nat) (iv : fw_F) (ar : fw_R) (x1 : Int32) (x2 : Int32) (x3 : Int32) (x4 : Int32) (Q : Int32 → Prop)  (h : wpX10_stuckBy iv ar x1 x2 x3 x4 Q) : fw_M l G (mw G mh ad) yX10_stuckBy wsX10_stuckBy rmX10_stuckBy [.ref mh, .int x1, .int x2, .int x3, .int x4] iv ar (fw_Qi G (mw G mh ad) (fun r iv1 ar1 => Q r ∧ iv = iv1 ∧ ar = ar1)) := by
  refine fw_start (cc := cX10_stuckBy) (nL := 7) (rt := (some .int)) (by decide) rfl (Nat.le_of_ble_eq_true rfl) ?_
  intro p e s m below meth c A ls H locs C hK hG hl
  obtain ⟨args, ea⟩ : ∃ z : Array Value, z = ([.ref mh, .int x1, .int x2, .int x3, .int x4] : List Value).toArray := ⟨_, rfl⟩
  rw [← ea] at C ⊢
  have C : fw_C p s m args meth c cX10_stuckBy 7 (some .int) wsX10_stuckBy RX10 := C
  have hl : lv_has ls 7 [(0, .ref mh), (1, .int x1), (2, .int x2), (3, .int x3), (4, .int x4)] := hl
  unfold wpX10_stuckBy at h
  refine lv_iconst (v := 0) C.1 C.2.1 dX10_stuckBy_0 (by decide) ?_
  refine lv_istore (lv' := [(5, .int 0), (0, .ref mh), (1, .int x1), (2, .int x2), (3, .int x3), (4, .int x4)]) C.1 C.2.1 dX10_stuckBy_1 hl (by decide) rfl (fun ls hl => ?_)
  refine lv_iconst (v := 0) C.1 C.2.1 dX10_stuckBy_3 (by decide) ?_
  refine lv_istore (lv' := [(6, .int 0), (5, .int 0), (0, .ref mh), (1, .int x1), (2, .int x2), (3, .int x3), (4, .int x4)]) C.1 C.2.1 dX10_stuckBy_4 hl (by decide) rfl (fun ls hl => ?_)
  obtain ⟨ku, h⟩ := h
  refine soX10_stuckBy_L6 C hK  ?_ ku _ _ h _ _ hG ls (lv_sub hl [0, 1, 2, 3, 4, 5, 6] rfl)
  intro w9 w10 h H locs hG ls hl
  refine lv_iload C.1 C.2.1 dX10_stuckBy_57 (lv_at hl 1 rfl) ?_
  exact fw_iret C hG ⟨h, rfl, rfl⟩ dX10_stuckBy_59
/-! KnifeBoardModel.likely(IIIII)J -/
def rmX10_likely : Room := { frames := 5, cells := 0, slots := 0, locals := 120 }
def wpX10_likely (iv : fw_F) (ar : fw_R) (x1 : Int32) (x2 : Int32) (x3 : Int32) (x4 : Int32) (x5 : Int32) (Q : Int64 → Prop) : Prop := wpX10_isKnife iv ar x1 (fun (r1 : Int32) => (r1 = 0 → (Q (-9223372036854775808))) ∧ (¬ r1 = 0 → (wpX10_isStart x2 (fun (r3 : Int32) => (r3 = 0 → (Q (-9223372036854775808))) ∧ (¬ r3 = 0 → (wpX10_isFeet x3 (fun (r5 : Int32) => (r5 = 0 → (Q (-9223372036854775808))) ∧ (¬ r5 = 0 → (wpX10_isStage x4 (fun (r7 : Int32) => (r7 = 0 → (Q (-9223372036854775808))) ∧ (¬ r7 = 0 → (wpX10_isWhich x5 (fun (r9 : Int32) => (r9 = 0 → (Q (-9223372036854775808))) ∧ (¬ r9 = 0 → ((¬ (iv 10) = 0 → (wpX10_stuckBy iv ar x1 x2 x3 x4 (fun (r12 : Int32) => wpX10_sumOf iv ar 0 x4 (fun (r13 : Int32) => wpX10_share r12.toInt64 r13.toInt64 x5 (fun (r14 : Int64) => Q r14))))) ∧ ((iv 10) = 0 → (Q (-9223372036854775808))))))))))))))))))
set_option maxHeartbeats 4000000 in
set_option maxRecDepth 100000 in
theorem soX10_likely (l : Launch) (G : fw_G) (mh : Nat) (ad : Nat → Nat) (iv : fw_F) (ar : fw_R) (x1 : Int32) (x2 : Int32) (x3 : Int32) (x4 : Int32) (x5 : Int32) (Q : Int64 → Prop)  (h : wpX10_likely iv ar x1 x2 x3 x4 x5 Q) : fw_M l G (mw G mh ad) yX10_likely wsX10_likely rmX10_likely [.ref mh, .int x1, .int x2, .int x3, .int x4, .int x5] iv ar (fw_Ql G (mw G mh ad) (fun r iv1 ar1 => Q r ∧ iv = iv1 ∧ ar = ar1)) := by
  refine fw_start (cc := cX10_likely) (nL := 6) (rt := (some .long)) (by decide) rfl (Nat.le_of_ble_eq_true rfl) ?_
  intro p e s m below meth c A ls H locs C hK hG hl
  obtain ⟨args, ea⟩ : ∃ z : Array Value, z = ([.ref mh, .int x1, .int x2, .int x3, .int x4, .int x5] : List Value).toArray := ⟨_, rfl⟩
  rw [← ea] at C ⊢
  have C : fw_C p s m args meth c cX10_likely 6 (some .long) wsX10_likely RX10 := C
  have hl : lv_has ls 6 [(0, .ref mh), (1, .int x1), (2, .int x2), (3, .int x3), (4, .int x4), (5, .int x5)] := hl
  unfold wpX10_likely at h
  have in_X10 : ∀ x ∈ wsX100, x ∈ wsX10_likely := by decide +kernel
  have k146 := C.2.2.2.2.1 (.fieldLink RX10 146 "KnifeBoardModel" "isHand" "Z") (by decide +kernel)
  have k75 := C.2.2.2.2.1 (.constantLong RX10 75 (-9223372036854775808)) (by decide +kernel)
  refine lv_aload_n C.1 C.2.1 dX10_likely_0 rfl (lv_at hl 0 rfl) ?_
  refine lv_iload_n C.1 C.2.1 dX10_likely_1 rfl (lv_at hl 1 rfl) ?_
  refine fw_rcalli (va_runV (As := [.int x1]) (rest := []) ⟨C.1, C.2.1, C.2.2.2.2.2.2, C.2.2.2.2.2.1, C.2.2.2.2.1⟩ (soX10_isKnife l G mh ad iv ar x1 _  h H.size) (cwV 1 C.2.2.2.2.1 gX10_likely_X10_isKnife rfl rfl rfl (by decide +kernel) ⟨Nat.le_of_ble_eq_true rfl, Nat.le_of_ble_eq_true rfl⟩) (fw_preV hG hK (ci := 10) rfl mw_o) rfl rfl hl.1 rfl (lv_room (Nat.le_of_ble_eq_true rfl)) dX10_likely_2 ⟨Nat.zero_le _, Nat.zero_le _⟩) hG hK (fun r1  H locs h hG => ?_)
  refine lv_if_eq (tgt := 45) C.1 C.2.1 dX10_likely_5 (by decide) (fun c2 => ?_) (fun c2 => ?_)
  · have h := h.1 c2
    refine lv_ldc2 C.1 C.2.1 C.2.2.2.2.2.1 k75 dX10_likely_45 ?_
    exact fw_lret C hG ⟨h, rfl, rfl⟩ dX10_likely_48
  · have h := h.2 c2
    refine lv_iload_n C.1 C.2.1 dX10_likely_8 rfl (lv_at hl 2 rfl) ?_
    refine fw_pcalli (va_runS (As := [.int x2]) (rest := []) ⟨C.1, C.2.1, C.2.2.2.2.2.2, C.2.2.2.2.2.1, C.2.2.2.2.1⟩ (soX10_isStart l x2 _ h H.size) (va_cwS 1 C.2.2.2.2.1 gX10_likely_X10_isStart rfl rfl rfl (by decide +kernel) ⟨Nat.le_of_ble_eq_true rfl, Nat.le_of_ble_eq_true rfl⟩) fw_ppre rfl rfl hl.1 rfl (lv_room (Nat.le_of_ble_eq_true rfl)) dX10_likely_9 ⟨Nat.zero_le _, Nat.zero_le _⟩) hG hK (fun r3  H locs h hG => ?_)
    refine lv_if_eq (tgt := 45) C.1 C.2.1 dX10_likely_12 (by decide) (fun c4 => ?_) (fun c4 => ?_)
    · have h := h.1 c4
      refine lv_ldc2 C.1 C.2.1 C.2.2.2.2.2.1 k75 dX10_likely_45 ?_
      exact fw_lret C hG ⟨h, rfl, rfl⟩ dX10_likely_48
    · have h := h.2 c4
      refine lv_iload_n C.1 C.2.1 dX10_likely_15 rfl (lv_at hl 3 rfl) ?_
      refine fw_pcalli (va_runS (As := [.int x3]) (rest := []) ⟨C.1, C.2.1, C.2.2.2.2.2.2, C.2.2.2.2.2.1, C.2.2.2.2.1⟩ (soX10_isFeet l x3 _ h H.size) (va_cwS 1 C.2.2.2.2.1 gX10_likely_X10_isFeet rfl rfl rfl (by decide +kernel) ⟨Nat.le_of_ble_eq_true rfl, Nat.le_of_ble_eq_true rfl⟩) fw_ppre rfl rfl hl.1 rfl (lv_room (Nat.le_of_ble_eq_true rfl)) dX10_likely_16 ⟨Nat.zero_le _, Nat.zero_le _⟩) hG hK (fun r5  H locs h hG => ?_)
      refine lv_if_eq (tgt := 45) C.1 C.2.1 dX10_likely_19 (by decide) (fun c6 => ?_) (fun c6 => ?_)
      · have h := h.1 c6
        refine lv_ldc2 C.1 C.2.1 C.2.2.2.2.2.1 k75 dX10_likely_45 ?_
        exact fw_lret C hG ⟨h, rfl, rfl⟩ dX10_likely_48
      · have h := h.2 c6
        refine lv_iload C.1 C.2.1 dX10_likely_22 (lv_at hl 4 rfl) ?_
        refine fw_pcalli (va_runS (As := [.int x4]) (rest := []) ⟨C.1, C.2.1, C.2.2.2.2.2.2, C.2.2.2.2.2.1, C.2.2.2.2.1⟩ (soX10_isStage l x4 _ h H.size) (va_cwS 1 C.2.2.2.2.1 gX10_likely_X10_isStage rfl rfl rfl (by decide +kernel) ⟨Nat.le_of_ble_eq_true rfl, Nat.le_of_ble_eq_true rfl⟩) fw_ppre rfl rfl hl.1 rfl (lv_room (Nat.le_of_ble_eq_true rfl)) dX10_likely_24 ⟨Nat.zero_le _, Nat.zero_le _⟩) hG hK (fun r7  H locs h hG => ?_)
        refine lv_if_eq (tgt := 45) C.1 C.2.1 dX10_likely_27 (by decide) (fun c8 => ?_) (fun c8 => ?_)
        · have h := h.1 c8
          refine lv_ldc2 C.1 C.2.1 C.2.2.2.2.2.1 k75 dX10_likely_45 ?_
          exact fw_lret C hG ⟨h, rfl, rfl⟩ dX10_likely_48
        · have h := h.2 c8
          refine lv_iload C.1 C.2.1 dX10_likely_30 (lv_at hl 5 rfl) ?_
          refine fw_pcalli (va_runS (As := [.int x5]) (rest := []) ⟨C.1, C.2.1, C.2.2.2.2.2.2, C.2.2.2.2.2.1, C.2.2.2.2.1⟩ (soX10_isWhich l x5 _ h H.size) (va_cwS 1 C.2.2.2.2.1 gX10_likely_X10_isWhich rfl rfl rfl (by decide +kernel) ⟨Nat.le_of_ble_eq_true rfl, Nat.le_of_ble_eq_true rfl⟩) fw_ppre rfl rfl hl.1 rfl (lv_room (Nat.le_of_ble_eq_true rfl)) dX10_likely_32 ⟨Nat.zero_le _, Nat.zero_le _⟩) hG hK (fun r9  H locs h hG => ?_)
          refine lv_if_eq (tgt := 45) C.1 C.2.1 dX10_likely_35 (by decide) (fun c10 => ?_) (fun c10 => ?_)
          · have h := h.1 c10
            refine lv_ldc2 C.1 C.2.1 C.2.2.2.2.2.1 k75 dX10_likely_45 ?_
            exact fw_lret C hG ⟨h, rfl, rfl⟩ dX10_likely_48
          · have h := h.2 c10
            refine lv_aload_n C.1 C.2.1 dX10_likely_38 rfl (lv_at hl 0 rfl) ?_
            refine fw_get (w := (mw G mh ad)) C in_X10 hK hG 0 mw_o rfl 10 (by decide) k146 rfl rfl dX10_likely_39 ?_
            refine lv_if_ne (tgt := 49) C.1 C.2.1 dX10_likely_42 (by decide) (fun c11 => ?_) (fun c11 => ?_)
            · have h := h.1 c11
              refine lv_aload_n C.1 C.2.1 dX10_likely_49 rfl (lv_at hl 0 rfl) ?_
              refine lv_iload_n C.1 C.2.1 dX10_likely_50 rfl (lv_at hl 1 rfl) ?_
              refine lv_iload_n C.1 C.2.1 dX10_likely_51 rfl (lv_at hl 2 rfl) ?_
              refine lv_iload_n C.1 C.2.1 dX10_likely_52 rfl (lv_at hl 3 rfl) ?_
              refine lv_iload C.1 C.2.1 dX10_likely_53 (lv_at hl 4 rfl) ?_
              refine fw_rcalli (va_runV (As := [.int x1, .int x2, .int x3, .int x4]) (rest := []) ⟨C.1, C.2.1, C.2.2.2.2.2.2, C.2.2.2.2.2.1, C.2.2.2.2.1⟩ (soX10_stuckBy l G mh ad iv ar x1 x2 x3 x4 _  h H.size) (cwV 4 C.2.2.2.2.1 gX10_likely_X10_stuckBy rfl rfl rfl (by decide +kernel) ⟨Nat.le_of_ble_eq_true rfl, Nat.le_of_ble_eq_true rfl⟩) (fw_preV hG hK (ci := 10) rfl mw_o) rfl rfl hl.1 rfl (lv_room (Nat.le_of_ble_eq_true rfl)) dX10_likely_55 ⟨Nat.zero_le _, Nat.zero_le _⟩) hG hK (fun r12  H locs h hG => ?_)
              refine lv_i2l C.1 C.2.1 dX10_likely_58 rfl ?_
              refine lv_aload_n C.1 C.2.1 dX10_likely_59 rfl (lv_at hl 0 rfl) ?_
              refine lv_iconst (v := 0) C.1 C.2.1 dX10_likely_60 (by decide) ?_
              refine lv_iload C.1 C.2.1 dX10_likely_61 (lv_at hl 4 rfl) ?_
              refine fw_rcalli (va_runV (As := [.int 0, .int x4]) (rest := [.long r12.toInt64]) ⟨C.1, C.2.1, C.2.2.2.2.2.2, C.2.2.2.2.2.1, C.2.2.2.2.1⟩ (soX10_sumOf l G mh ad iv ar 0 x4 _  h H.size) (cwV 2 C.2.2.2.2.1 gX10_likely_X10_sumOf rfl rfl rfl (by decide +kernel) ⟨Nat.le_of_ble_eq_true rfl, Nat.le_of_ble_eq_true rfl⟩) (fw_preV hG hK (ci := 10) rfl mw_o) rfl rfl hl.1 rfl (lv_room (Nat.le_of_ble_eq_true rfl)) dX10_likely_63 ⟨Nat.zero_le _, Nat.zero_le _⟩) hG hK (fun r13  H locs h hG => ?_)
              refine lv_i2l C.1 C.2.1 dX10_likely_66 rfl ?_
              refine lv_iload C.1 C.2.1 dX10_likely_67 (lv_at hl 5 rfl) ?_
              refine fw_pcalll (va_runS (As := [.long r12.toInt64, .long r13.toInt64, .int x5]) (rest := []) ⟨C.1, C.2.1, C.2.2.2.2.2.2, C.2.2.2.2.2.1, C.2.2.2.2.1⟩ (soX10_share l r12.toInt64 r13.toInt64 x5 _ h H.size) (va_cwS 3 C.2.2.2.2.1 gX10_likely_X10_share rfl rfl rfl (by decide +kernel) ⟨Nat.le_of_ble_eq_true rfl, Nat.le_of_ble_eq_true rfl⟩) fw_ppre rfl rfl hl.1 rfl (lv_room (Nat.le_of_ble_eq_true rfl)) dX10_likely_69 ⟨Nat.zero_le _, Nat.zero_le _⟩) hG hK (fun r14  H locs h hG => ?_)
              exact fw_lret C hG ⟨h, rfl, rfl⟩ dX10_likely_72
            · have h := h.2 c11
              refine lv_ldc2 C.1 C.2.1 C.2.2.2.2.2.1 k75 dX10_likely_45 ?_
              exact fw_lret C hG ⟨h, rfl, rfl⟩ dX10_likely_48
/-! KnifeBoardModel.best(III)I -/
def rmX10_best : Room := { frames := 5, cells := 0, slots := 0, locals := 120 }
def wpX10_best_L61 (x1 : Int32) (x2 : Int32) (x3 : Int32) (z7 : Int32) (iv : fw_F) (ar : fw_R) (Q : Int32 → Prop) (K : Int32 → Int32 → Int32 → Int32 → Prop) : Nat → Int32 → Int32 → Int32 → Int32 → Prop
  | 0, _, _, _, _ => False
  | fu + 1, z4, z5, z6, z8 => (24 ≤ z8 → (K z4 z5 z6 z8)) ∧ (¬ 24 ≤ z8 → (wpX10_stuckBy iv ar x1 z8 z7 x2 (fun (r10 : Int32) => (r10 ≤ z4 → (∀ y12 : Int32, y12 = z8 + 1 → (wpX10_best_L61 x1 x2 x3 z7 iv ar Q K fu z4 z5 z6 y12))) ∧ (¬ r10 ≤ z4 → (∀ y13 : Int32, y13 = z8 + 1 → (wpX10_best_L61 x1 x2 x3 z7 iv ar Q K fu r10 z7 z8 y13))))))
def wpX10_best_L51 (x1 : Int32) (x2 : Int32) (x3 : Int32) (iv : fw_F) (ar : fw_R) (Q : Int32 → Prop) (K : Int32 → Int32 → Int32 → Int32 → Prop) : Nat → Int32 → Int32 → Int32 → Int32 → Prop
  | 0, _, _, _, _ => False
  | fu + 1, z4, z5, z6, z7 => (40 < z7 → (K z4 z5 z6 z7)) ∧ (¬ 40 < z7 → (∃ ku : Nat, wpX10_best_L61 x1 x2 x3 z7 iv ar Q (fun (w14 : Int32) (w15 : Int32) (w16 : Int32) (w17 : Int32) => ∀ y18 : Int32, y18 = z7 + 1 → (wpX10_best_L51 x1 x2 x3 iv ar Q K fu w14 w15 w16 y18)) ku z4 z5 z6 0))
def wpX10_best (iv : fw_F) (ar : fw_R) (x1 : Int32) (x2 : Int32) (x3 : Int32) (Q : Int32 → Prop) : Prop := wpX10_isKnife iv ar x1 (fun (r1 : Int32) => (¬ r1 = 0 → (wpX10_isStage x2 (fun (r3 : Int32) => (r3 = 0 → (Q (-2))) ∧ (¬ r3 = 0 → (wpX10_within x3 0 1 (fun (r5 : Int32) => (¬ r5 = 0 → ((¬ (iv 10) = 0 → (∃ ku : Nat, wpX10_best_L51 x1 x2 x3 iv ar Q (fun (w19 : Int32) (w20 : Int32) (w21 : Int32) (w22 : Int32) => (¬ x3 = 0 → (Q w21)) ∧ (x3 = 0 → (Q w20))) ku (-1) 0 0 1)) ∧ ((iv 10) = 0 → (Q (-3))))) ∧ (r5 = 0 → (Q (-2))))))))) ∧ (r1 = 0 → (Q (-1))))
set_option maxHeartbeats 4000000 in
set_option maxRecDepth 100000 in
theorem soX10_best_L61 {p : Program} {l : Launch} {e : Env} {s : State} {m : MethodId} {args : Array Value} {below : List Frame} {meth : Method} {c : Code} {A : Nat → Prop} {G : fw_G} {mh : Nat} {ad : Nat → Nat} {x1 : Int32} {x2 : Int32} {x3 : Int32} {z7 : Int32} {iv : fw_F} {ar : fw_R} {Q : Int32 → Prop} {K : Int32 → Int32 → Int32 → Int32 → Prop} (C : fw_C p s m args meth c cX10_best 10 (some .int) wsX10_best RX10) (hK : fw_K G A s)  (hX : ∀ (z4 : Int32) (z5 : Int32) (z6 : Int32) (z8 : Int32), K z4 z5 z6 z8 → ∀ (H : Heap) (locs : List Loc), fw_H G ((mw G mh ad) iv ar) A s H locs → ∀ (ls : Array Slot), lv_has ls 10 [(8, .int z8), (7, .int z7), (6, .int z6), (5, .int z5), (4, .int z4), (0, .ref mh), (1, .int x1), (2, .int x2), (3, .int x3)] → W p l e rmX10_best s m args below meth c H locs 0 0 (MQ below (fw_Qi G (mw G mh ad) (fun r iv1 ar1 => Q r ∧ iv = iv1 ∧ ar = ar1) A) args s 0 0 A) (F0 m 105 ls [])) : ∀ (fu : Nat) (z4 : Int32) (z5 : Int32) (z6 : Int32) (z8 : Int32), wpX10_best_L61 x1 x2 x3 z7 iv ar Q K fu z4 z5 z6 z8 → ∀ (H : Heap) (locs : List Loc), fw_H G ((mw G mh ad) iv ar) A s H locs → ∀ (ls : Array Slot), lv_has ls 10 [(8, .int z8), (7, .int z7), (6, .int z6), (5, .int z5), (4, .int z4), (0, .ref mh), (1, .int x1), (2, .int x2), (3, .int x3)] → W p l e rmX10_best s m args below meth c H locs 0 0 (MQ below (fw_Qi G (mw G mh ad) (fun r iv1 ar1 => Q r ∧ iv = iv1 ∧ ar = ar1) A) args s 0 0 A) (F0 m 61 ls []) := by
  intro fu
  induction fu with
  | zero => intro z4 z5 z6 z8 h; exact h.elim
  | succ fu ih =>
    intro z4 z5 z6 z8 h H locs hG ls hl
    unfold wpX10_best_L61 at h
    refine lv_iload C.1 C.2.1 dX10_best_61 (lv_at hl 0 rfl) ?_
    refine lv_bipush (v := 24) C.1 C.2.1 dX10_best_63 (by decide) ?_
    refine lv_icmp_ge (tgt := 105) C.1 C.2.1 dX10_best_65 (by decide) (fun c9 => ?_) (fun c9 => ?_)
    · have h := h.1 c9
      exact hX _ _ _ _ h _ _ hG ls (lv_sub hl [0, 1, 2, 3, 4, 5, 6, 7, 8] rfl)
    · have h := h.2 c9
      refine lv_aload_n C.1 C.2.1 dX10_best_68 rfl (lv_at hl 5 rfl) ?_
      refine lv_iload_n C.1 C.2.1 dX10_best_69 rfl (lv_at hl 6 rfl) ?_
      refine lv_iload C.1 C.2.1 dX10_best_70 (lv_at hl 0 rfl) ?_
      refine lv_iload C.1 C.2.1 dX10_best_72 (lv_at hl 1 rfl) ?_
      refine lv_iload_n C.1 C.2.1 dX10_best_74 rfl (lv_at hl 7 rfl) ?_
      refine fw_rcalli (va_runV (As := [.int x1, .int z8, .int z7, .int x2]) (rest := []) ⟨C.1, C.2.1, C.2.2.2.2.2.2, C.2.2.2.2.2.1, C.2.2.2.2.1⟩ (soX10_stuckBy l G mh ad iv ar x1 z8 z7 x2 _  h H.size) (cwV 4 C.2.2.2.2.1 gX10_best_X10_stuckBy rfl rfl rfl (by decide +kernel) ⟨Nat.le_of_ble_eq_true rfl, Nat.le_of_ble_eq_true rfl⟩) (fw_preV hG hK (ci := 10) rfl mw_o) rfl rfl hl.1 rfl (lv_room (Nat.le_of_ble_eq_true rfl)) dX10_best_75 ⟨Nat.zero_le _, Nat.zero_le _⟩) hG hK (fun r10  H locs h hG => ?_)
      refine lv_istore (lv' := [(9, .int r10), (8, .int z8), (7, .int z7), (6, .int z6), (5, .int z5), (4, .int z4), (0, .ref mh), (1, .int x1), (2, .int x2), (3, .int x3)]) C.1 C.2.1 dX10_best_78 hl (by decide) rfl (fun ls hl => ?_)
      refine lv_iload C.1 C.2.1 dX10_best_80 (lv_at hl 0 rfl) ?_
      refine lv_iload C.1 C.2.1 dX10_best_82 (lv_at hl 5 rfl) ?_
      refine lv_icmp_le (tgt := 99) C.1 C.2.1 dX10_best_84 (by decide) (fun c11 => ?_) (fun c11 => ?_)
      · have h := h.1 c11
        obtain ⟨y12, ey12⟩ : ∃ z : Int32, z = z8 + 1 := ⟨_, rfl⟩
        have h := h y12 ey12
        refine lv_iinc (v := y12) (lv' := [(8, .int y12), (9, .int r10), (7, .int z7), (6, .int z6), (5, .int z5), (4, .int z4), (0, .ref mh), (1, .int x1), (2, .int x2), (3, .int x3)]) C.1 C.2.1 dX10_best_99 hl (k := 1) rfl (by rw [ey12]; rfl) (by decide) rfl (fun ls hl => ?_)
        refine lv_goto (tgt := 61) C.1 C.2.1 dX10_best_102 (by decide) ?_
        exact ih _ _ _ _ h _ _ hG ls (lv_sub hl [0, 2, 3, 4, 5, 6, 7, 8, 9] rfl)
      · have h := h.2 c11
        refine lv_iload C.1 C.2.1 dX10_best_87 (lv_at hl 0 rfl) ?_
        refine lv_istore (lv' := [(4, .int r10), (9, .int r10), (8, .int z8), (7, .int z7), (6, .int z6), (5, .int z5), (0, .ref mh), (1, .int x1), (2, .int x2), (3, .int x3)]) C.1 C.2.1 dX10_best_89 hl (by decide) rfl (fun ls hl => ?_)
        refine lv_iload C.1 C.2.1 dX10_best_91 (lv_at hl 3 rfl) ?_
        refine lv_istore (lv' := [(5, .int z7), (4, .int r10), (9, .int r10), (8, .int z8), (7, .int z7), (6, .int z6), (0, .ref mh), (1, .int x1), (2, .int x2), (3, .int x3)]) C.1 C.2.1 dX10_best_93 hl (by decide) rfl (fun ls hl => ?_)
        refine lv_iload C.1 C.2.1 dX10_best_95 (lv_at hl 3 rfl) ?_
        refine lv_istore (lv' := [(6, .int z8), (5, .int z7), (4, .int r10), (9, .int r10), (8, .int z8), (7, .int z7), (0, .ref mh), (1, .int x1), (2, .int x2), (3, .int x3)]) C.1 C.2.1 dX10_best_97 hl (by decide) rfl (fun ls hl => ?_)
        obtain ⟨y13, ey13⟩ : ∃ z : Int32, z = z8 + 1 := ⟨_, rfl⟩
        have h := h y13 ey13
        refine lv_iinc (v := y13) (lv' := [(8, .int y13), (6, .int z8), (5, .int z7), (4, .int r10), (9, .int r10), (7, .int z7), (0, .ref mh), (1, .int x1), (2, .int x2), (3, .int x3)]) C.1 C.2.1 dX10_best_99 hl (k := 4) rfl (by rw [ey13]; rfl) (by decide) rfl (fun ls hl => ?_)
        refine lv_goto (tgt := 61) C.1 C.2.1 dX10_best_102 (by decide) ?_
        exact ih _ _ _ _ h _ _ hG ls (lv_sub hl [0, 5, 1, 2, 3, 6, 7, 8, 9] rfl)

set_option maxHeartbeats 4000000 in
set_option maxRecDepth 100000 in
theorem soX10_best_L51 {p : Program} {l : Launch} {e : Env} {s : State} {m : MethodId} {args : Array Value} {below : List Frame} {meth : Method} {c : Code} {A : Nat → Prop} {G : fw_G} {mh : Nat} {ad : Nat → Nat} {x1 : Int32} {x2 : Int32} {x3 : Int32} {iv : fw_F} {ar : fw_R} {Q : Int32 → Prop} {K : Int32 → Int32 → Int32 → Int32 → Prop} (C : fw_C p s m args meth c cX10_best 10 (some .int) wsX10_best RX10) (hK : fw_K G A s)  (hX : ∀ (z4 : Int32) (z5 : Int32) (z6 : Int32) (z7 : Int32), K z4 z5 z6 z7 → ∀ (H : Heap) (locs : List Loc), fw_H G ((mw G mh ad) iv ar) A s H locs → ∀ (ls : Array Slot), lv_has ls 10 [(7, .int z7), (6, .int z6), (5, .int z5), (4, .int z4), (0, .ref mh), (1, .int x1), (2, .int x2), (3, .int x3)] → W p l e rmX10_best s m args below meth c H locs 0 0 (MQ below (fw_Qi G (mw G mh ad) (fun r iv1 ar1 => Q r ∧ iv = iv1 ∧ ar = ar1) A) args s 0 0 A) (F0 m 111 ls [])) : ∀ (fu : Nat) (z4 : Int32) (z5 : Int32) (z6 : Int32) (z7 : Int32), wpX10_best_L51 x1 x2 x3 iv ar Q K fu z4 z5 z6 z7 → ∀ (H : Heap) (locs : List Loc), fw_H G ((mw G mh ad) iv ar) A s H locs → ∀ (ls : Array Slot), lv_has ls 10 [(7, .int z7), (6, .int z6), (5, .int z5), (4, .int z4), (0, .ref mh), (1, .int x1), (2, .int x2), (3, .int x3)] → W p l e rmX10_best s m args below meth c H locs 0 0 (MQ below (fw_Qi G (mw G mh ad) (fun r iv1 ar1 => Q r ∧ iv = iv1 ∧ ar = ar1) A) args s 0 0 A) (F0 m 51 ls []) := by
  intro fu
  induction fu with
  | zero => intro z4 z5 z6 z7 h; exact h.elim
  | succ fu ih =>
    intro z4 z5 z6 z7 h H locs hG ls hl
    unfold wpX10_best_L51 at h
    refine lv_iload C.1 C.2.1 dX10_best_51 (lv_at hl 0 rfl) ?_
    refine lv_bipush (v := 40) C.1 C.2.1 dX10_best_53 (by decide) ?_
    refine lv_icmp_gt (tgt := 111) C.1 C.2.1 dX10_best_55 (by decide) (fun c8 => ?_) (fun c8 => ?_)
    · have h := h.1 c8
      exact hX _ _ _ _ h _ _ hG ls (lv_sub hl [0, 1, 2, 3, 4, 5, 6, 7] rfl)
    · have h := h.2 c8
      refine lv_iconst (v := 0) C.1 C.2.1 dX10_best_58 (by decide) ?_
      refine lv_istore (lv' := [(8, .int 0), (7, .int z7), (6, .int z6), (5, .int z5), (4, .int z4), (0, .ref mh), (1, .int x1), (2, .int x2), (3, .int x3)]) C.1 C.2.1 dX10_best_59 hl (by decide) rfl (fun ls hl => ?_)
      obtain ⟨ku, h⟩ := h
      refine soX10_best_L61 C hK  ?_ ku _ _ _ _ h _ _ hG ls (lv_sub hl [0, 1, 2, 3, 4, 5, 6, 7, 8] rfl)
      intro w14 w15 w16 w17 h H locs hG ls hl
      obtain ⟨y18, ey18⟩ : ∃ z : Int32, z = z7 + 1 := ⟨_, rfl⟩
      have h := h y18 ey18
      refine lv_iinc (v := y18) (lv' := [(7, .int y18), (8, .int w17), (6, .int w16), (5, .int w15), (4, .int w14), (0, .ref mh), (1, .int x1), (2, .int x2), (3, .int x3)]) C.1 C.2.1 dX10_best_105 hl (k := 1) rfl (by rw [ey18]; rfl) (by decide) rfl (fun ls hl => ?_)
      refine lv_goto (tgt := 51) C.1 C.2.1 dX10_best_108 (by decide) ?_
      exact ih _ _ _ _ h _ _ hG ls (lv_sub hl [0, 2, 3, 4, 5, 6, 7, 8] rfl)

set_option maxHeartbeats 4000000 in
set_option maxRecDepth 100000 in
theorem soX10_best (l : Launch) (G : fw_G) (mh : Nat) (ad : Nat → Nat) (iv : fw_F) (ar : fw_R) (x1 : Int32) (x2 : Int32) (x3 : Int32) (Q : Int32 → Prop)  (h : wpX10_best iv ar x1 x2 x3 Q) : fw_M l G (mw G mh ad) yX10_best wsX10_best rmX10_best [.ref mh, .int x1, .int x2, .int x3] iv ar (fw_Qi G (mw G mh ad) (fun r iv1 ar1 => Q r ∧ iv = iv1 ∧ ar = ar1)) := by
  refine fw_start (cc := cX10_best) (nL := 10) (rt := (some .int)) (by decide) rfl (Nat.le_of_ble_eq_true rfl) ?_
  intro p e s m below meth c A ls H locs C hK hG hl
  obtain ⟨args, ea⟩ : ∃ z : Array Value, z = ([.ref mh, .int x1, .int x2, .int x3] : List Value).toArray := ⟨_, rfl⟩
  rw [← ea] at C ⊢
  have C : fw_C p s m args meth c cX10_best 10 (some .int) wsX10_best RX10 := C
  have hl : lv_has ls 10 [(0, .ref mh), (1, .int x1), (2, .int x2), (3, .int x3)] := hl
  unfold wpX10_best at h
  have in_X10 : ∀ x ∈ wsX100, x ∈ wsX10_best := by decide +kernel
  have k146 := C.2.2.2.2.1 (.fieldLink RX10 146 "KnifeBoardModel" "isHand" "Z") (by decide +kernel)
  refine lv_aload_n C.1 C.2.1 dX10_best_0 rfl (lv_at hl 0 rfl) ?_
  refine lv_iload_n C.1 C.2.1 dX10_best_1 rfl (lv_at hl 1 rfl) ?_
  refine fw_rcalli (va_runV (As := [.int x1]) (rest := []) ⟨C.1, C.2.1, C.2.2.2.2.2.2, C.2.2.2.2.2.1, C.2.2.2.2.1⟩ (soX10_isKnife l G mh ad iv ar x1 _  h H.size) (cwV 1 C.2.2.2.2.1 gX10_best_X10_isKnife rfl rfl rfl (by decide +kernel) ⟨Nat.le_of_ble_eq_true rfl, Nat.le_of_ble_eq_true rfl⟩) (fw_preV hG hK (ci := 10) rfl mw_o) rfl rfl hl.1 rfl (lv_room (Nat.le_of_ble_eq_true rfl)) dX10_best_2 ⟨Nat.zero_le _, Nat.zero_le _⟩) hG hK (fun r1  H locs h hG => ?_)
  refine lv_if_ne (tgt := 10) C.1 C.2.1 dX10_best_5 (by decide) (fun c2 => ?_) (fun c2 => ?_)
  · have h := h.1 c2
    refine lv_iload_n C.1 C.2.1 dX10_best_10 rfl (lv_at hl 2 rfl) ?_
    refine fw_pcalli (va_runS (As := [.int x2]) (rest := []) ⟨C.1, C.2.1, C.2.2.2.2.2.2, C.2.2.2.2.2.1, C.2.2.2.2.1⟩ (soX10_isStage l x2 _ h H.size) (va_cwS 1 C.2.2.2.2.1 gX10_best_X10_isStage rfl rfl rfl (by decide +kernel) ⟨Nat.le_of_ble_eq_true rfl, Nat.le_of_ble_eq_true rfl⟩) fw_ppre rfl rfl hl.1 rfl (lv_room (Nat.le_of_ble_eq_true rfl)) dX10_best_11 ⟨Nat.zero_le _, Nat.zero_le _⟩) hG hK (fun r3  H locs h hG => ?_)
    refine lv_if_eq (tgt := 26) C.1 C.2.1 dX10_best_14 (by decide) (fun c4 => ?_) (fun c4 => ?_)
    · have h := h.1 c4
      refine lv_bipush (v := (-2)) C.1 C.2.1 dX10_best_26 (by decide) ?_
      exact fw_iret C hG ⟨h, rfl, rfl⟩ dX10_best_28
    · have h := h.2 c4
      refine lv_iload_n C.1 C.2.1 dX10_best_17 rfl (lv_at hl 3 rfl) ?_
      refine lv_iconst (v := 0) C.1 C.2.1 dX10_best_18 (by decide) ?_
      refine lv_iconst (v := 1) C.1 C.2.1 dX10_best_19 (by decide) ?_
      refine fw_pcalli (va_runS (As := [.int x3, .int 0, .int 1]) (rest := []) ⟨C.1, C.2.1, C.2.2.2.2.2.2, C.2.2.2.2.2.1, C.2.2.2.2.1⟩ (soX10_within l x3 0 1 _ h H.size) (va_cwS 3 C.2.2.2.2.1 gX10_best_X10_within rfl rfl rfl (by decide +kernel) ⟨Nat.le_of_ble_eq_true rfl, Nat.le_of_ble_eq_true rfl⟩) fw_ppre rfl rfl hl.1 rfl (lv_room (Nat.le_of_ble_eq_true rfl)) dX10_best_20 ⟨Nat.zero_le _, Nat.zero_le _⟩) hG hK (fun r5  H locs h hG => ?_)
      refine lv_if_ne (tgt := 29) C.1 C.2.1 dX10_best_23 (by decide) (fun c6 => ?_) (fun c6 => ?_)
      · have h := h.1 c6
        refine lv_aload_n C.1 C.2.1 dX10_best_29 rfl (lv_at hl 0 rfl) ?_
        refine fw_get (w := (mw G mh ad)) C in_X10 hK hG 0 mw_o rfl 10 (by decide) k146 rfl rfl dX10_best_30 ?_
        refine lv_if_ne (tgt := 39) C.1 C.2.1 dX10_best_33 (by decide) (fun c7 => ?_) (fun c7 => ?_)
        · have h := h.1 c7
          refine lv_iconst (v := (-1)) C.1 C.2.1 dX10_best_39 (by decide) ?_
          refine lv_istore (lv' := [(4, .int (-1)), (0, .ref mh), (1, .int x1), (2, .int x2), (3, .int x3)]) C.1 C.2.1 dX10_best_40 hl (by decide) rfl (fun ls hl => ?_)
          refine lv_iconst (v := 0) C.1 C.2.1 dX10_best_42 (by decide) ?_
          refine lv_istore (lv' := [(5, .int 0), (4, .int (-1)), (0, .ref mh), (1, .int x1), (2, .int x2), (3, .int x3)]) C.1 C.2.1 dX10_best_43 hl (by decide) rfl (fun ls hl => ?_)
          refine lv_iconst (v := 0) C.1 C.2.1 dX10_best_45 (by decide) ?_
          refine lv_istore (lv' := [(6, .int 0), (5, .int 0), (4, .int (-1)), (0, .ref mh), (1, .int x1), (2, .int x2), (3, .int x3)]) C.1 C.2.1 dX10_best_46 hl (by decide) rfl (fun ls hl => ?_)
          refine lv_iconst (v := 1) C.1 C.2.1 dX10_best_48 (by decide) ?_
          refine lv_istore (lv' := [(7, .int 1), (6, .int 0), (5, .int 0), (4, .int (-1)), (0, .ref mh), (1, .int x1), (2, .int x2), (3, .int x3)]) C.1 C.2.1 dX10_best_49 hl (by decide) rfl (fun ls hl => ?_)
          obtain ⟨ku, h⟩ := h
          refine soX10_best_L51 C hK  ?_ ku _ _ _ _ h _ _ hG ls (lv_sub hl [0, 1, 2, 3, 4, 5, 6, 7] rfl)
          intro w19 w20 w21 w22 h H locs hG ls hl
          refine lv_iload_n C.1 C.2.1 dX10_best_111 rfl (lv_at hl 7 rfl) ?_
          refine lv_if_ne (tgt := 120) C.1 C.2.1 dX10_best_112 (by decide) (fun c23 => ?_) (fun c23 => ?_)
          · have h := h.1 c23
            refine lv_iload C.1 C.2.1 dX10_best_120 (lv_at hl 1 rfl) ?_
            exact fw_iret C hG ⟨h, rfl, rfl⟩ dX10_best_122
          · have h := h.2 c23
            refine lv_iload C.1 C.2.1 dX10_best_115 (lv_at hl 2 rfl) ?_
            refine lv_goto (tgt := 122) C.1 C.2.1 dX10_best_117 (by decide) ?_
            exact fw_iret C hG ⟨h, rfl, rfl⟩ dX10_best_122
        · have h := h.2 c7
          refine lv_bipush (v := (-3)) C.1 C.2.1 dX10_best_36 (by decide) ?_
          exact fw_iret C hG ⟨h, rfl, rfl⟩ dX10_best_38
      · have h := h.2 c6
        refine lv_bipush (v := (-2)) C.1 C.2.1 dX10_best_26 (by decide) ?_
        exact fw_iret C hG ⟨h, rfl, rfl⟩ dX10_best_28
  · have h := h.2 c2
    refine lv_iconst (v := (-1)) C.1 C.2.1 dX10_best_8 (by decide) ?_
    exact fw_iret C hG ⟨h, rfl, rfl⟩ dX10_best_9
/-! KnifeBoardModel.isCell(I)Z -/
def rmX10_isCell : Room := { frames := 0, cells := 0, slots := 0, locals := 0 }
def wpX10_isCell (iv : fw_F) (ar : fw_R) (x1 : Int32) (Q : Int32 → Prop) : Prop := (x1 < 0 → (Q 0)) ∧ (¬ x1 < 0 → ((((iv 16) * (iv 17)) ≤ x1 → (Q 0)) ∧ (¬ ((iv 16) * (iv 17)) ≤ x1 → (Q 1))))
set_option maxHeartbeats 4000000 in
set_option maxRecDepth 100000 in
theorem soX10_isCell (l : Launch) (G : fw_G) (mh : Nat) (ad : Nat → Nat) (iv : fw_F) (ar : fw_R) (x1 : Int32) (Q : Int32 → Prop)  (h : wpX10_isCell iv ar x1 Q) : fw_M l G (mw G mh ad) yX10_isCell wsX10_isCell rmX10_isCell [.ref mh, .int x1] iv ar (fw_Qi G (mw G mh ad) (fun r iv1 ar1 => Q r ∧ iv = iv1 ∧ ar = ar1)) := by
  refine fw_start (cc := cX10_isCell) (nL := 2) (rt := (some .boolean)) (by decide) rfl (Nat.le_of_ble_eq_true rfl) ?_
  intro p e s m below meth c A ls H locs C hK hG hl
  obtain ⟨args, ea⟩ : ∃ z : Array Value, z = ([.ref mh, .int x1] : List Value).toArray := ⟨_, rfl⟩
  rw [← ea] at C ⊢
  have C : fw_C p s m args meth c cX10_isCell 2 (some .boolean) wsX10_isCell RX10 := C
  have hl : lv_has ls 2 [(0, .ref mh), (1, .int x1)] := hl
  unfold wpX10_isCell at h
  have in_X10 : ∀ x ∈ wsX100, x ∈ wsX10_isCell := by decide +kernel
  have k182 := C.2.2.2.2.1 (.fieldLink RX10 182 "KnifeBoardModel" "high" "I") (by decide +kernel)
  have k185 := C.2.2.2.2.1 (.fieldLink RX10 185 "KnifeBoardModel" "wide" "I") (by decide +kernel)
  refine lv_iload_n C.1 C.2.1 dX10_isCell_0 rfl (lv_at hl 1 rfl) ?_
  refine lv_if_lt (tgt := 21) C.1 C.2.1 dX10_isCell_1 (by decide) (fun c1 => ?_) (fun c1 => ?_)
  · have h := h.1 c1
    refine lv_iconst (v := 0) C.1 C.2.1 dX10_isCell_21 (by decide) ?_
    exact fw_zret C hG (by decide) ⟨h, rfl, rfl⟩ dX10_isCell_22
  · have h := h.2 c1
    refine lv_iload_n C.1 C.2.1 dX10_isCell_4 rfl (lv_at hl 1 rfl) ?_
    refine lv_aload_n C.1 C.2.1 dX10_isCell_5 rfl (lv_at hl 0 rfl) ?_
    refine fw_get (w := (mw G mh ad)) C in_X10 hK hG 0 mw_o rfl 16 (by decide) k182 rfl rfl dX10_isCell_6 ?_
    refine lv_aload_n C.1 C.2.1 dX10_isCell_9 rfl (lv_at hl 0 rfl) ?_
    refine fw_get (w := (mw G mh ad)) C in_X10 hK hG 0 mw_o rfl 17 (by decide) k185 rfl rfl dX10_isCell_10 ?_
    refine lv_imul C.1 C.2.1 dX10_isCell_13 ?_
    refine lv_icmp_ge (tgt := 21) C.1 C.2.1 dX10_isCell_14 (by decide) (fun c2 => ?_) (fun c2 => ?_)
    · have h := h.1 c2
      refine lv_iconst (v := 0) C.1 C.2.1 dX10_isCell_21 (by decide) ?_
      exact fw_zret C hG (by decide) ⟨h, rfl, rfl⟩ dX10_isCell_22
    · have h := h.2 c2
      refine lv_iconst (v := 1) C.1 C.2.1 dX10_isCell_17 (by decide) ?_
      refine lv_goto (tgt := 22) C.1 C.2.1 dX10_isCell_18 (by decide) ?_
      exact fw_zret C hG (by decide) ⟨h, rfl, rfl⟩ dX10_isCell_22
/-! KnifeBoardModel.letterOf(I)I -/
def rmX10_letterOf : Room := { frames := 0, cells := 0, slots := 0, locals := 0 }
def wpX10_letterOf (x0 : Int32) (Q : Int32 → Prop) : Prop := (x0 = 107 → (Q 1)) ∧ (x0 = 119 → (Q 0)) ∧ (x0 = 120 → (Q 2)) ∧ (x0 = 121 → (Q 3)) ∧ (¬ x0 = 107 → (¬ x0 = 119 → (¬ x0 = 120 → (¬ x0 = 121 → (Q (-9))))))
set_option maxHeartbeats 4000000 in
set_option maxRecDepth 100000 in
theorem soX10_letterOf (l : Launch) (x0 : Int32) (Q : Int32 → Prop) (h : wpX10_letterOf x0 Q) : fw_pM l yX10_letterOf wsX10_letterOf rmX10_letterOf [.int x0] (fw_pQi Q) := by
  refine fw_pstart (cc := cX10_letterOf) (nL := 1) (rt := (some .int)) (by decide) rfl (Nat.le_of_ble_eq_true rfl) ?_
  intro p e s m below meth c A ls H locs C hA hS hl
  obtain ⟨args, ea⟩ : ∃ z : Array Value, z = ([.int x0] : List Value).toArray := ⟨_, rfl⟩
  rw [← ea] at C ⊢
  have C : fw_C p s m args meth c cX10_letterOf 1 (some .int) wsX10_letterOf RX10 := C
  have hl : lv_has ls 1 [(0, .int x0)] := hl
  unfold wpX10_letterOf at h
  refine lv_iload_n C.1 C.2.1 dX10_letterOf_0 rfl (lv_at hl 0 rfl) ?_
  by_cases c1 : x0 = 107
  · have h := h.1 c1
    refine W.eq (g2 := F0 m 1 ls (.int 107 :: [])) (by rw [c1]) ?_
    refine lv_lookup (off := 45) (tgt := 46) C.1 C.2.1 dX10_letterOf_1 (by decide) (by decide) (by decide) ?_
    refine lv_iconst (v := 1) C.1 C.2.1 dX10_letterOf_46 (by decide) ?_
    exact fw_piret C hS h dX10_letterOf_47
  have h := h.2
  by_cases c2 : x0 = 119
  · have h := h.1 c2
    refine W.eq (g2 := F0 m 1 ls (.int 119 :: [])) (by rw [c2]) ?_
    refine lv_lookup (off := 43) (tgt := 44) C.1 C.2.1 dX10_letterOf_1 (by decide) (by decide) (by decide) ?_
    refine lv_iconst (v := 0) C.1 C.2.1 dX10_letterOf_44 (by decide) ?_
    exact fw_piret C hS h dX10_letterOf_45
  have h := h.2
  by_cases c3 : x0 = 120
  · have h := h.1 c3
    refine W.eq (g2 := F0 m 1 ls (.int 120 :: [])) (by rw [c3]) ?_
    refine lv_lookup (off := 47) (tgt := 48) C.1 C.2.1 dX10_letterOf_1 (by decide) (by decide) (by decide) ?_
    refine lv_iconst (v := 2) C.1 C.2.1 dX10_letterOf_48 (by decide) ?_
    exact fw_piret C hS h dX10_letterOf_49
  have h := h.2
  by_cases c4 : x0 = 121
  · have h := h.1 c4
    refine W.eq (g2 := F0 m 1 ls (.int 121 :: [])) (by rw [c4]) ?_
    refine lv_lookup (off := 49) (tgt := 50) C.1 C.2.1 dX10_letterOf_1 (by decide) (by decide) (by decide) ?_
    refine lv_iconst (v := 3) C.1 C.2.1 dX10_letterOf_50 (by decide) ?_
    exact fw_piret C hS h dX10_letterOf_51
  have h := h.2
  have h := h c1
  have h := h c2
  have h := h c3
  have h := h c4
  have nc1 : x0.toInt ≠ 107 := fun z => c1 (Int32.toInt_inj.mp (z.trans (by decide)))
  have nc2 : x0.toInt ≠ 119 := fun z => c2 (Int32.toInt_inj.mp (z.trans (by decide)))
  have nc3 : x0.toInt ≠ 120 := fun z => c3 (Int32.toInt_inj.mp (z.trans (by decide)))
  have nc4 : x0.toInt ≠ 121 := fun z => c4 (Int32.toInt_inj.mp (z.trans (by decide)))
  refine lv_lookup (off := 51) (tgt := 52) C.1 C.2.1 dX10_letterOf_1 (by decide) (by simp [Op.lookupswitch.offset, nc1, Ne.symm nc1, nc2, Ne.symm nc2, nc3, Ne.symm nc3, nc4, Ne.symm nc4]) (by decide) ?_
  refine lv_bipush (v := (-9)) C.1 C.2.1 dX10_letterOf_52 (by decide) ?_
  exact fw_piret C hS h dX10_letterOf_54
/-! KnifeBoardModel.readBoard(I)Z -/
def rmX10_readBoard : Room := { frames := 2, cells := 0, slots := 0, locals := 44 }
def wpX10_readBoard_L132 (x1 : Int32) (z2 : Int32) (Q : Int32 → fw_F → fw_R → Prop) (K : Int32 → fw_F → fw_R → Prop) : Nat → Int32 → fw_F → fw_R → Prop
  | 0, _, _, _ => False
  | fu + 1, z3, iv, ar => ((iv 20) ≤ z3 → (K z3 iv ar)) ∧ (¬ (iv 20) ≤ z3 → ((x1 ≤ (iv 13) → (Q 0 iv ar)) ∧ (¬ x1 ≤ (iv 13) → (vp_in (iv 13) 320 ∧ (wpX10_letterOf ((ar 4) (iv 13).toNatClampNeg) (fun (r22 : Int32) => (¬ r22 = (-9) → (vp_in (((iv 20) * z2) + z3) 36 ∧ (∀ ar25 : fw_R, ar25 = va_up ar 21 (upd (ar 21) (((iv 20) * z2) + z3).toNatClampNeg r22) → (∀ iv26 : fw_F, iv26 = va_up iv 13 ((iv 13) + 1) → (∀ y27 : Int32, y27 = z3 + 1 → (wpX10_readBoard_L132 x1 z2 Q K fu y27 iv26 ar25)))))) ∧ (r22 = (-9) → (Q 0 iv ar))))))))
def wpX10_readBoard_L100 (x1 : Int32) (Q : Int32 → fw_F → fw_R → Prop) (K : Int32 → fw_F → fw_R → Prop) : Nat → Int32 → fw_F → fw_R → Prop
  | 0, _, _, _ => False
  | fu + 1, z2, iv, ar => ((iv 19) ≤ z2 → (K z2 iv ar)) ∧ (¬ (iv 19) ≤ z2 → (wpX10_isCode iv ar 59 x1 (fun (r15 : Int32) => (¬ r15 = 0 → (∀ iv17 : fw_F, iv17 = va_up iv 13 ((iv 13) + 1) → (∃ ku : Nat, wpX10_readBoard_L132 x1 z2 Q (fun (w28 : Int32) (iv29 : fw_F) (ar30 : fw_R) => ∀ y31 : Int32, y31 = z2 + 1 → (wpX10_readBoard_L100 x1 Q K fu y31 iv29 ar30)) ku 0 iv17 ar))) ∧ (r15 = 0 → (Q 0 iv ar)))))
def wpX10_readBoard (iv : fw_F) (ar : fw_R) (x1 : Int32) (Q : Int32 → fw_F → fw_R → Prop) : Prop := wpX10_isCode iv ar 98 x1 (fun (r1 : Int32) => (¬ r1 = 0 → (∀ iv3 : fw_F, iv3 = va_up iv 13 ((iv 13) + 1) → (wpX10_digitAt iv3 ar (iv3 13) x1 (fun (r4 : Int32) => ∀ iv5 : fw_F, iv5 = va_up iv3 19 r4 → (wpX10_within (iv5 19) 1 6 (fun (r6 : Int32) => (¬ r6 = 0 → (∀ iv8 : fw_F, iv8 = va_up iv5 13 ((iv5 13) + 1) → (wpX10_digitAt iv8 ar (iv8 13) x1 (fun (r9 : Int32) => ∀ iv10 : fw_F, iv10 = va_up iv8 20 r9 → (wpX10_within (iv10 20) 1 6 (fun (r11 : Int32) => (¬ r11 = 0 → (∀ iv13 : fw_F, iv13 = va_up iv10 13 ((iv10 13) + 1) → (∃ ku : Nat, wpX10_readBoard_L100 x1 Q (fun (w32 : Int32) (iv33 : fw_F) (ar34 : fw_R) => (¬ (iv33 13) = x1 → (Q 0 iv33 ar34)) ∧ ((iv33 13) = x1 → (Q 1 iv33 ar34))) ku 0 iv13 ar))) ∧ (r11 = 0 → (Q 0 iv10 ar)))))))) ∧ (r6 = 0 → (Q 0 iv5 ar)))))))) ∧ (r1 = 0 → (Q 0 iv ar)))
set_option maxHeartbeats 4000000 in
set_option maxRecDepth 100000 in
theorem soX10_readBoard_L132 {p : Program} {l : Launch} {e : Env} {s : State} {m : MethodId} {args : Array Value} {below : List Frame} {meth : Method} {c : Code} {A : Nat → Prop} {G : fw_G} {mh : Nat} {ad : Nat → Nat} {x1 : Int32} {z2 : Int32} {Q : Int32 → fw_F → fw_R → Prop} {K : Int32 → fw_F → fw_R → Prop} (C : fw_C p s m args meth c cX10_readBoard 5 (some .boolean) wsX10_readBoard RX10) (hK : fw_K G A s)  (hX : ∀ (z3 : Int32) (iv : fw_F) (ar : fw_R), K z3 iv ar → ∀ (H : Heap) (locs : List Loc), fw_H G ((mw G mh ad) iv ar) A s H locs → ∀ (ls : Array Slot), lv_has ls 5 [(3, .int z3), (2, .int z2), (0, .ref mh), (1, .int x1)] → W p l e rmX10_readBoard s m args below meth c H locs 0 0 (MQ below (fw_Qi G (mw G mh ad) Q A) args s 0 0 A) (F0 m 207 ls [])) : ∀ (fu : Nat) (z3 : Int32) (iv : fw_F) (ar : fw_R), wpX10_readBoard_L132 x1 z2 Q K fu z3 iv ar → ∀ (H : Heap) (locs : List Loc), fw_H G ((mw G mh ad) iv ar) A s H locs → ∀ (ls : Array Slot), lv_has ls 5 [(3, .int z3), (2, .int z2), (0, .ref mh), (1, .int x1)] → W p l e rmX10_readBoard s m args below meth c H locs 0 0 (MQ below (fw_Qi G (mw G mh ad) Q A) args s 0 0 A) (F0 m 132 ls []) := by
  intro fu
  have in_X10 : ∀ x ∈ wsX100, x ∈ wsX10_readBoard := by decide +kernel
  have k127 := C.2.2.2.2.1 (.fieldLink RX10 127 "KnifeBoardModel" "at" "I") (by decide +kernel)
  have k16 := C.2.2.2.2.1 (.fieldLink RX10 16 "KnifeBoardModel" "cells" "[I") (by decide +kernel)
  have k194 := C.2.2.2.2.1 (.fieldLink RX10 194 "KnifeBoardModel" "readWide" "I") (by decide +kernel)
  have k40 := C.2.2.2.2.1 (.fieldLink RX10 40 "KnifeBoardModel" "readWood" "[I") (by decide +kernel)
  induction fu with
  | zero => intro z3 iv ar h; exact h.elim
  | succ fu ih =>
    intro z3 iv ar h H locs hG ls hl
    unfold wpX10_readBoard_L132 at h
    refine lv_iload_n C.1 C.2.1 dX10_readBoard_132 rfl (lv_at hl 0 rfl) ?_
    refine lv_aload_n C.1 C.2.1 dX10_readBoard_133 rfl (lv_at hl 2 rfl) ?_
    refine fw_get (w := (mw G mh ad)) C in_X10 hK hG 0 mw_o rfl 20 (by decide) k194 rfl rfl dX10_readBoard_134 ?_
    refine lv_icmp_ge (tgt := 207) C.1 C.2.1 dX10_readBoard_137 (by decide) (fun c18 => ?_) (fun c18 => ?_)
    · have h := h.1 c18
      exact hX _ _ _ h _ _ hG ls (lv_sub hl [0, 1, 2, 3] rfl)
    · have h := h.2 c18
      refine lv_aload_n C.1 C.2.1 dX10_readBoard_140 rfl (lv_at hl 2 rfl) ?_
      refine fw_get (w := (mw G mh ad)) C in_X10 hK hG 0 mw_o rfl 13 (by decide) k127 rfl rfl dX10_readBoard_141 ?_
      refine lv_iload_n C.1 C.2.1 dX10_readBoard_144 rfl (lv_at hl 3 rfl) ?_
      refine lv_icmp_ge (tgt := 163) C.1 C.2.1 dX10_readBoard_145 (by decide) (fun c19 => ?_) (fun c19 => ?_)
      · have h := h.1 c19
        refine lv_bipush (v := (-9)) C.1 C.2.1 dX10_readBoard_163 (by decide) ?_
        refine lv_istore (lv' := [(4, .int (-9)), (3, .int z3), (2, .int z2), (0, .ref mh), (1, .int x1)]) C.1 C.2.1 dX10_readBoard_165 hl (by decide) rfl (fun ls hl => ?_)
        refine lv_iload C.1 C.2.1 dX10_readBoard_167 (lv_at hl 0 rfl) ?_
        refine lv_bipush (v := (-9)) C.1 C.2.1 dX10_readBoard_169 (by decide) ?_
        refine lv_icmp_ne (tgt := 176) C.1 C.2.1 dX10_readBoard_171 (by decide) (fun c20 => ?_) (fun c20 => ?_)
        · exact absurd c20 (by decide)
        · refine lv_iconst (v := 0) C.1 C.2.1 dX10_readBoard_174 (by decide) ?_
          exact fw_zret C hG (by decide) h dX10_readBoard_175
      · have h := h.2 c19
        refine lv_aload_n C.1 C.2.1 dX10_readBoard_148 rfl (lv_at hl 2 rfl) ?_
        refine fw_get (w := (mw G mh ad)) C in_X10 hK hG 0 mw_o rfl 4 (by decide) k16 rfl rfl dX10_readBoard_149 ?_
        refine lv_aload_n C.1 C.2.1 dX10_readBoard_152 rfl (lv_at hl 2 rfl) ?_
        refine fw_get (w := (mw G mh ad)) C in_X10 hK hG 0 mw_o rfl 13 (by decide) k127 rfl rfl dX10_readBoard_153 ?_
        obtain ⟨c21, h⟩ := h
        refine fw_iald (w := (mw G mh ad)) C hK hG 3 mw_a4 c21 dX10_readBoard_156 ?_
        refine fw_pcalli (va_runS (As := [.int ((ar 4) (iv 13).toNatClampNeg)]) (rest := []) ⟨C.1, C.2.1, C.2.2.2.2.2.2, C.2.2.2.2.2.1, C.2.2.2.2.1⟩ (soX10_letterOf l ((ar 4) (iv 13).toNatClampNeg) _ h H.size) (va_cwS 1 C.2.2.2.2.1 gX10_readBoard_X10_letterOf rfl rfl rfl (by decide +kernel) ⟨Nat.le_of_ble_eq_true rfl, Nat.le_of_ble_eq_true rfl⟩) fw_ppre rfl rfl hl.1 rfl (lv_room (Nat.le_of_ble_eq_true rfl)) dX10_readBoard_157 ⟨Nat.zero_le _, Nat.zero_le _⟩) hG hK (fun r22  H locs h hG => ?_)
        refine lv_goto (tgt := 165) C.1 C.2.1 dX10_readBoard_160 (by decide) ?_
        refine lv_istore (lv' := [(4, .int r22), (3, .int z3), (2, .int z2), (0, .ref mh), (1, .int x1)]) C.1 C.2.1 dX10_readBoard_165 hl (by decide) rfl (fun ls hl => ?_)
        refine lv_iload C.1 C.2.1 dX10_readBoard_167 (lv_at hl 0 rfl) ?_
        refine lv_bipush (v := (-9)) C.1 C.2.1 dX10_readBoard_169 (by decide) ?_
        refine lv_icmp_ne (tgt := 176) C.1 C.2.1 dX10_readBoard_171 (by decide) (fun c23 => ?_) (fun c23 => ?_)
        · have h := h.1 c23
          refine lv_aload_n C.1 C.2.1 dX10_readBoard_176 rfl (lv_at hl 3 rfl) ?_
          refine fw_get (w := (mw G mh ad)) C in_X10 hK hG 0 mw_o rfl 21 (by decide) k40 rfl rfl dX10_readBoard_177 ?_
          refine lv_aload_n C.1 C.2.1 dX10_readBoard_180 rfl (lv_at hl 3 rfl) ?_
          refine fw_get (w := (mw G mh ad)) C in_X10 hK hG 0 mw_o rfl 20 (by decide) k194 rfl rfl dX10_readBoard_181 ?_
          refine lv_iload_n C.1 C.2.1 dX10_readBoard_184 rfl (lv_at hl 2 rfl) ?_
          refine lv_imul C.1 C.2.1 dX10_readBoard_185 ?_
          refine lv_iload_n C.1 C.2.1 dX10_readBoard_186 rfl (lv_at hl 1 rfl) ?_
          refine lv_iadd C.1 C.2.1 dX10_readBoard_187 ?_
          refine lv_iload C.1 C.2.1 dX10_readBoard_188 (lv_at hl 0 rfl) ?_
          obtain ⟨c24, h⟩ := h
          obtain ⟨ar25, ear25⟩ : ∃ z : fw_R, z = va_up ar 21 (upd (ar 21) (((iv 20) * z2) + z3).toNatClampNeg r22) := ⟨_, rfl⟩
          have h := h ar25 ear25
          refine fw_iast (w := (mw G mh ad)) C hK hG 11 mw_a21 c24 (ar1 := ar25) (by rw [ear25]; exact mw_s21) dX10_readBoard_190 (fun H locs hG => ?_)
          refine lv_aload_n C.1 C.2.1 dX10_readBoard_191 rfl (lv_at hl 3 rfl) ?_
          refine lv_dup C.1 C.2.1 dX10_readBoard_192 rfl ?_
          refine fw_get (w := (mw G mh ad)) C in_X10 hK hG 0 mw_o rfl 13 (by decide) k127 rfl rfl dX10_readBoard_193 ?_
          refine lv_iconst (v := 1) C.1 C.2.1 dX10_readBoard_196 (by decide) ?_
          refine lv_iadd C.1 C.2.1 dX10_readBoard_197 ?_
          obtain ⟨iv26, eiv26⟩ : ∃ z : fw_F, z = va_up iv 13 ((iv 13) + 1) := ⟨_, rfl⟩
          have h := h iv26 eiv26
          refine fw_put (w := (mw G mh ad)) C in_X10 tyX10 tyX10_ok nmX10 hK hG 0 mw_o rfl 13 (by decide) k127 rfl rfl (ty := .int) (v := .int ((iv 13) + 1)) (by decide +kernel) rfl rfl (by first | decide | exact Nat.le_of_ble_eq_true rfl) (iv1 := iv26) (by rw [eiv26]; exact mw_p13) dX10_readBoard_198 (fun H locs hG => ?_)
          obtain ⟨y27, ey27⟩ : ∃ z : Int32, z = z3 + 1 := ⟨_, rfl⟩
          have h := h y27 ey27
          refine lv_iinc (v := y27) (lv' := [(3, .int y27), (4, .int r22), (2, .int z2), (0, .ref mh), (1, .int x1)]) C.1 C.2.1 dX10_readBoard_201 hl (k := 1) rfl (by rw [ey27]; rfl) (by decide) rfl (fun ls hl => ?_)
          refine lv_goto (tgt := 132) C.1 C.2.1 dX10_readBoard_204 (by decide) ?_
          exact ih _ _ _ h _ _ hG ls (lv_sub hl [0, 2, 3, 4] rfl)
        · have h := h.2 c23
          refine lv_iconst (v := 0) C.1 C.2.1 dX10_readBoard_174 (by decide) ?_
          exact fw_zret C hG (by decide) h dX10_readBoard_175

set_option maxHeartbeats 4000000 in
set_option maxRecDepth 100000 in
theorem soX10_readBoard_L100 {p : Program} {l : Launch} {e : Env} {s : State} {m : MethodId} {args : Array Value} {below : List Frame} {meth : Method} {c : Code} {A : Nat → Prop} {G : fw_G} {mh : Nat} {ad : Nat → Nat} {x1 : Int32} {Q : Int32 → fw_F → fw_R → Prop} {K : Int32 → fw_F → fw_R → Prop} (C : fw_C p s m args meth c cX10_readBoard 5 (some .boolean) wsX10_readBoard RX10) (hK : fw_K G A s)  (hX : ∀ (z2 : Int32) (iv : fw_F) (ar : fw_R), K z2 iv ar → ∀ (H : Heap) (locs : List Loc), fw_H G ((mw G mh ad) iv ar) A s H locs → ∀ (ls : Array Slot), lv_has ls 5 [(2, .int z2), (0, .ref mh), (1, .int x1)] → W p l e rmX10_readBoard s m args below meth c H locs 0 0 (MQ below (fw_Qi G (mw G mh ad) Q A) args s 0 0 A) (F0 m 213 ls [])) : ∀ (fu : Nat) (z2 : Int32) (iv : fw_F) (ar : fw_R), wpX10_readBoard_L100 x1 Q K fu z2 iv ar → ∀ (H : Heap) (locs : List Loc), fw_H G ((mw G mh ad) iv ar) A s H locs → ∀ (ls : Array Slot), lv_has ls 5 [(2, .int z2), (0, .ref mh), (1, .int x1)] → W p l e rmX10_readBoard s m args below meth c H locs 0 0 (MQ below (fw_Qi G (mw G mh ad) Q A) args s 0 0 A) (F0 m 100 ls []) := by
  intro fu
  have in_X10 : ∀ x ∈ wsX100, x ∈ wsX10_readBoard := by decide +kernel
  have k127 := C.2.2.2.2.1 (.fieldLink RX10 127 "KnifeBoardModel" "at" "I") (by decide +kernel)
  have k191 := C.2.2.2.2.1 (.fieldLink RX10 191 "KnifeBoardModel" "readHigh" "I") (by decide +kernel)
  induction fu with
  | zero => intro z2 iv ar h; exact h.elim
  | succ fu ih =>
    intro z2 iv ar h H locs hG ls hl
    unfold wpX10_readBoard_L100 at h
    refine lv_iload_n C.1 C.2.1 dX10_readBoard_100 rfl (lv_at hl 0 rfl) ?_
    refine lv_aload_n C.1 C.2.1 dX10_readBoard_101 rfl (lv_at hl 1 rfl) ?_
    refine fw_get (w := (mw G mh ad)) C in_X10 hK hG 0 mw_o rfl 19 (by decide) k191 rfl rfl dX10_readBoard_102 ?_
    refine lv_icmp_ge (tgt := 213) C.1 C.2.1 dX10_readBoard_105 (by decide) (fun c14 => ?_) (fun c14 => ?_)
    · have h := h.1 c14
      exact hX _ _ _ h _ _ hG ls (lv_sub hl [0, 1, 2] rfl)
    · have h := h.2 c14
      refine lv_aload_n C.1 C.2.1 dX10_readBoard_108 rfl (lv_at hl 1 rfl) ?_
      refine lv_bipush (v := 59) C.1 C.2.1 dX10_readBoard_109 (by decide) ?_
      refine lv_iload_n C.1 C.2.1 dX10_readBoard_111 rfl (lv_at hl 2 rfl) ?_
      refine fw_rcalli (va_runV (As := [.int 59, .int x1]) (rest := []) ⟨C.1, C.2.1, C.2.2.2.2.2.2, C.2.2.2.2.2.1, C.2.2.2.2.1⟩ (soX10_isCode l G mh ad iv ar 59 x1 _  h H.size) (cwV 2 C.2.2.2.2.1 gX10_readBoard_X10_isCode rfl rfl rfl (by decide +kernel) ⟨Nat.le_of_ble_eq_true rfl, Nat.le_of_ble_eq_true rfl⟩) (fw_preV hG hK (ci := 10) rfl mw_o) rfl rfl hl.1 rfl (lv_room (Nat.le_of_ble_eq_true rfl)) dX10_readBoard_112 ⟨Nat.zero_le _, Nat.zero_le _⟩) hG hK (fun r15  H locs h hG => ?_)
      refine lv_if_ne (tgt := 120) C.1 C.2.1 dX10_readBoard_115 (by decide) (fun c16 => ?_) (fun c16 => ?_)
      · have h := h.1 c16
        refine lv_aload_n C.1 C.2.1 dX10_readBoard_120 rfl (lv_at hl 1 rfl) ?_
        refine lv_dup C.1 C.2.1 dX10_readBoard_121 rfl ?_
        refine fw_get (w := (mw G mh ad)) C in_X10 hK hG 0 mw_o rfl 13 (by decide) k127 rfl rfl dX10_readBoard_122 ?_
        refine lv_iconst (v := 1) C.1 C.2.1 dX10_readBoard_125 (by decide) ?_
        refine lv_iadd C.1 C.2.1 dX10_readBoard_126 ?_
        obtain ⟨iv17, eiv17⟩ : ∃ z : fw_F, z = va_up iv 13 ((iv 13) + 1) := ⟨_, rfl⟩
        have h := h iv17 eiv17
        refine fw_put (w := (mw G mh ad)) C in_X10 tyX10 tyX10_ok nmX10 hK hG 0 mw_o rfl 13 (by decide) k127 rfl rfl (ty := .int) (v := .int ((iv 13) + 1)) (by decide +kernel) rfl rfl (by first | decide | exact Nat.le_of_ble_eq_true rfl) (iv1 := iv17) (by rw [eiv17]; exact mw_p13) dX10_readBoard_127 (fun H locs hG => ?_)
        refine lv_iconst (v := 0) C.1 C.2.1 dX10_readBoard_130 (by decide) ?_
        refine lv_istore_n (lv' := [(3, .int 0), (2, .int z2), (0, .ref mh), (1, .int x1)]) C.1 C.2.1 dX10_readBoard_131 rfl hl (by decide) rfl (fun ls hl => ?_)
        obtain ⟨ku, h⟩ := h
        refine soX10_readBoard_L132 C hK  ?_ ku _ _ _ h _ _ hG ls (lv_sub hl [0, 1, 2, 3] rfl)
        intro w28 iv29 ar30 h H locs hG ls hl
        obtain ⟨y31, ey31⟩ : ∃ z : Int32, z = z2 + 1 := ⟨_, rfl⟩
        have h := h y31 ey31
        refine lv_iinc (v := y31) (lv' := [(2, .int y31), (3, .int w28), (0, .ref mh), (1, .int x1)]) C.1 C.2.1 dX10_readBoard_207 hl (k := 1) rfl (by rw [ey31]; rfl) (by decide) rfl (fun ls hl => ?_)
        refine lv_goto (tgt := 100) C.1 C.2.1 dX10_readBoard_210 (by decide) ?_
        exact ih _ _ _ h _ _ hG ls (lv_sub hl [0, 2, 3] rfl)
      · have h := h.2 c16
        refine lv_iconst (v := 0) C.1 C.2.1 dX10_readBoard_118 (by decide) ?_
        exact fw_zret C hG (by decide) h dX10_readBoard_119

set_option maxHeartbeats 4000000 in
set_option maxRecDepth 100000 in
theorem soX10_readBoard (l : Launch) (G : fw_G) (mh : Nat) (ad : Nat → Nat) (iv : fw_F) (ar : fw_R) (x1 : Int32) (Q : Int32 → fw_F → fw_R → Prop)  (h : wpX10_readBoard iv ar x1 Q) : fw_M l G (mw G mh ad) yX10_readBoard wsX10_readBoard rmX10_readBoard [.ref mh, .int x1] iv ar (fw_Qi G (mw G mh ad) Q) := by
  refine fw_start (cc := cX10_readBoard) (nL := 5) (rt := (some .boolean)) (by decide) rfl (Nat.le_of_ble_eq_true rfl) ?_
  intro p e s m below meth c A ls H locs C hK hG hl
  obtain ⟨args, ea⟩ : ∃ z : Array Value, z = ([.ref mh, .int x1] : List Value).toArray := ⟨_, rfl⟩
  rw [← ea] at C ⊢
  have C : fw_C p s m args meth c cX10_readBoard 5 (some .boolean) wsX10_readBoard RX10 := C
  have hl : lv_has ls 5 [(0, .ref mh), (1, .int x1)] := hl
  unfold wpX10_readBoard at h
  have in_X10 : ∀ x ∈ wsX100, x ∈ wsX10_readBoard := by decide +kernel
  have k127 := C.2.2.2.2.1 (.fieldLink RX10 127 "KnifeBoardModel" "at" "I") (by decide +kernel)
  have k191 := C.2.2.2.2.1 (.fieldLink RX10 191 "KnifeBoardModel" "readHigh" "I") (by decide +kernel)
  have k194 := C.2.2.2.2.1 (.fieldLink RX10 194 "KnifeBoardModel" "readWide" "I") (by decide +kernel)
  refine lv_aload_n C.1 C.2.1 dX10_readBoard_0 rfl (lv_at hl 0 rfl) ?_
  refine lv_bipush (v := 98) C.1 C.2.1 dX10_readBoard_1 (by decide) ?_
  refine lv_iload_n C.1 C.2.1 dX10_readBoard_3 rfl (lv_at hl 1 rfl) ?_
  refine fw_rcalli (va_runV (As := [.int 98, .int x1]) (rest := []) ⟨C.1, C.2.1, C.2.2.2.2.2.2, C.2.2.2.2.2.1, C.2.2.2.2.1⟩ (soX10_isCode l G mh ad iv ar 98 x1 _  h H.size) (cwV 2 C.2.2.2.2.1 gX10_readBoard_X10_isCode rfl rfl rfl (by decide +kernel) ⟨Nat.le_of_ble_eq_true rfl, Nat.le_of_ble_eq_true rfl⟩) (fw_preV hG hK (ci := 10) rfl mw_o) rfl rfl hl.1 rfl (lv_room (Nat.le_of_ble_eq_true rfl)) dX10_readBoard_4 ⟨Nat.zero_le _, Nat.zero_le _⟩) hG hK (fun r1  H locs h hG => ?_)
  refine lv_if_ne (tgt := 12) C.1 C.2.1 dX10_readBoard_7 (by decide) (fun c2 => ?_) (fun c2 => ?_)
  · have h := h.1 c2
    refine lv_aload_n C.1 C.2.1 dX10_readBoard_12 rfl (lv_at hl 0 rfl) ?_
    refine lv_dup C.1 C.2.1 dX10_readBoard_13 rfl ?_
    refine fw_get (w := (mw G mh ad)) C in_X10 hK hG 0 mw_o rfl 13 (by decide) k127 rfl rfl dX10_readBoard_14 ?_
    refine lv_iconst (v := 1) C.1 C.2.1 dX10_readBoard_17 (by decide) ?_
    refine lv_iadd C.1 C.2.1 dX10_readBoard_18 ?_
    obtain ⟨iv3, eiv3⟩ : ∃ z : fw_F, z = va_up iv 13 ((iv 13) + 1) := ⟨_, rfl⟩
    have h := h iv3 eiv3
    refine fw_put (w := (mw G mh ad)) C in_X10 tyX10 tyX10_ok nmX10 hK hG 0 mw_o rfl 13 (by decide) k127 rfl rfl (ty := .int) (v := .int ((iv 13) + 1)) (by decide +kernel) rfl rfl (by first | decide | exact Nat.le_of_ble_eq_true rfl) (iv1 := iv3) (by rw [eiv3]; exact mw_p13) dX10_readBoard_19 (fun H locs hG => ?_)
    refine lv_aload_n C.1 C.2.1 dX10_readBoard_22 rfl (lv_at hl 0 rfl) ?_
    refine lv_aload_n C.1 C.2.1 dX10_readBoard_23 rfl (lv_at hl 0 rfl) ?_
    refine lv_aload_n C.1 C.2.1 dX10_readBoard_24 rfl (lv_at hl 0 rfl) ?_
    refine fw_get (w := (mw G mh ad)) C in_X10 hK hG 0 mw_o rfl 13 (by decide) k127 rfl rfl dX10_readBoard_25 ?_
    refine lv_iload_n C.1 C.2.1 dX10_readBoard_28 rfl (lv_at hl 1 rfl) ?_
    refine fw_rcalli (va_runV (As := [.int (iv3 13), .int x1]) (rest := [.ref mh]) ⟨C.1, C.2.1, C.2.2.2.2.2.2, C.2.2.2.2.2.1, C.2.2.2.2.1⟩ (soX10_digitAt l G mh ad iv3 ar (iv3 13) x1 _  h H.size) (cwV 2 C.2.2.2.2.1 gX10_readBoard_X10_digitAt rfl rfl rfl (by decide +kernel) ⟨Nat.le_of_ble_eq_true rfl, Nat.le_of_ble_eq_true rfl⟩) (fw_preV hG hK (ci := 10) rfl mw_o) rfl rfl hl.1 rfl (lv_room (Nat.le_of_ble_eq_true rfl)) dX10_readBoard_29 ⟨Nat.zero_le _, Nat.zero_le _⟩) hG hK (fun r4  H locs h hG => ?_)
    obtain ⟨iv5, eiv5⟩ : ∃ z : fw_F, z = va_up iv3 19 r4 := ⟨_, rfl⟩
    have h := h iv5 eiv5
    refine fw_put (w := (mw G mh ad)) C in_X10 tyX10 tyX10_ok nmX10 hK hG 0 mw_o rfl 19 (by decide) k191 rfl rfl (ty := .int) (v := .int r4) (by decide +kernel) rfl rfl (by first | decide | exact Nat.le_of_ble_eq_true rfl) (iv1 := iv5) (by rw [eiv5]; exact mw_p19) dX10_readBoard_32 (fun H locs hG => ?_)
    refine lv_aload_n C.1 C.2.1 dX10_readBoard_35 rfl (lv_at hl 0 rfl) ?_
    refine fw_get (w := (mw G mh ad)) C in_X10 hK hG 0 mw_o rfl 19 (by decide) k191 rfl rfl dX10_readBoard_36 ?_
    refine lv_iconst (v := 1) C.1 C.2.1 dX10_readBoard_39 (by decide) ?_
    refine lv_bipush (v := 6) C.1 C.2.1 dX10_readBoard_40 (by decide) ?_
    refine fw_pcalli (va_runS (As := [.int (iv5 19), .int 1, .int 6]) (rest := []) ⟨C.1, C.2.1, C.2.2.2.2.2.2, C.2.2.2.2.2.1, C.2.2.2.2.1⟩ (soX10_within l (iv5 19) 1 6 _ h H.size) (va_cwS 3 C.2.2.2.2.1 gX10_readBoard_X10_within rfl rfl rfl (by decide +kernel) ⟨Nat.le_of_ble_eq_true rfl, Nat.le_of_ble_eq_true rfl⟩) fw_ppre rfl rfl hl.1 rfl (lv_room (Nat.le_of_ble_eq_true rfl)) dX10_readBoard_42 ⟨Nat.zero_le _, Nat.zero_le _⟩) hG hK (fun r6  H locs h hG => ?_)
    refine lv_if_ne (tgt := 50) C.1 C.2.1 dX10_readBoard_45 (by decide) (fun c7 => ?_) (fun c7 => ?_)
    · have h := h.1 c7
      refine lv_aload_n C.1 C.2.1 dX10_readBoard_50 rfl (lv_at hl 0 rfl) ?_
      refine lv_dup C.1 C.2.1 dX10_readBoard_51 rfl ?_
      refine fw_get (w := (mw G mh ad)) C in_X10 hK hG 0 mw_o rfl 13 (by decide) k127 rfl rfl dX10_readBoard_52 ?_
      refine lv_iconst (v := 1) C.1 C.2.1 dX10_readBoard_55 (by decide) ?_
      refine lv_iadd C.1 C.2.1 dX10_readBoard_56 ?_
      obtain ⟨iv8, eiv8⟩ : ∃ z : fw_F, z = va_up iv5 13 ((iv5 13) + 1) := ⟨_, rfl⟩
      have h := h iv8 eiv8
      refine fw_put (w := (mw G mh ad)) C in_X10 tyX10 tyX10_ok nmX10 hK hG 0 mw_o rfl 13 (by decide) k127 rfl rfl (ty := .int) (v := .int ((iv5 13) + 1)) (by decide +kernel) rfl rfl (by first | decide | exact Nat.le_of_ble_eq_true rfl) (iv1 := iv8) (by rw [eiv8]; exact mw_p13) dX10_readBoard_57 (fun H locs hG => ?_)
      refine lv_aload_n C.1 C.2.1 dX10_readBoard_60 rfl (lv_at hl 0 rfl) ?_
      refine lv_aload_n C.1 C.2.1 dX10_readBoard_61 rfl (lv_at hl 0 rfl) ?_
      refine lv_aload_n C.1 C.2.1 dX10_readBoard_62 rfl (lv_at hl 0 rfl) ?_
      refine fw_get (w := (mw G mh ad)) C in_X10 hK hG 0 mw_o rfl 13 (by decide) k127 rfl rfl dX10_readBoard_63 ?_
      refine lv_iload_n C.1 C.2.1 dX10_readBoard_66 rfl (lv_at hl 1 rfl) ?_
      refine fw_rcalli (va_runV (As := [.int (iv8 13), .int x1]) (rest := [.ref mh]) ⟨C.1, C.2.1, C.2.2.2.2.2.2, C.2.2.2.2.2.1, C.2.2.2.2.1⟩ (soX10_digitAt l G mh ad iv8 ar (iv8 13) x1 _  h H.size) (cwV 2 C.2.2.2.2.1 gX10_readBoard_X10_digitAt rfl rfl rfl (by decide +kernel) ⟨Nat.le_of_ble_eq_true rfl, Nat.le_of_ble_eq_true rfl⟩) (fw_preV hG hK (ci := 10) rfl mw_o) rfl rfl hl.1 rfl (lv_room (Nat.le_of_ble_eq_true rfl)) dX10_readBoard_67 ⟨Nat.zero_le _, Nat.zero_le _⟩) hG hK (fun r9  H locs h hG => ?_)
      obtain ⟨iv10, eiv10⟩ : ∃ z : fw_F, z = va_up iv8 20 r9 := ⟨_, rfl⟩
      have h := h iv10 eiv10
      refine fw_put (w := (mw G mh ad)) C in_X10 tyX10 tyX10_ok nmX10 hK hG 0 mw_o rfl 20 (by decide) k194 rfl rfl (ty := .int) (v := .int r9) (by decide +kernel) rfl rfl (by first | decide | exact Nat.le_of_ble_eq_true rfl) (iv1 := iv10) (by rw [eiv10]; exact mw_p20) dX10_readBoard_70 (fun H locs hG => ?_)
      refine lv_aload_n C.1 C.2.1 dX10_readBoard_73 rfl (lv_at hl 0 rfl) ?_
      refine fw_get (w := (mw G mh ad)) C in_X10 hK hG 0 mw_o rfl 20 (by decide) k194 rfl rfl dX10_readBoard_74 ?_
      refine lv_iconst (v := 1) C.1 C.2.1 dX10_readBoard_77 (by decide) ?_
      refine lv_bipush (v := 6) C.1 C.2.1 dX10_readBoard_78 (by decide) ?_
      refine fw_pcalli (va_runS (As := [.int (iv10 20), .int 1, .int 6]) (rest := []) ⟨C.1, C.2.1, C.2.2.2.2.2.2, C.2.2.2.2.2.1, C.2.2.2.2.1⟩ (soX10_within l (iv10 20) 1 6 _ h H.size) (va_cwS 3 C.2.2.2.2.1 gX10_readBoard_X10_within rfl rfl rfl (by decide +kernel) ⟨Nat.le_of_ble_eq_true rfl, Nat.le_of_ble_eq_true rfl⟩) fw_ppre rfl rfl hl.1 rfl (lv_room (Nat.le_of_ble_eq_true rfl)) dX10_readBoard_80 ⟨Nat.zero_le _, Nat.zero_le _⟩) hG hK (fun r11  H locs h hG => ?_)
      refine lv_if_ne (tgt := 88) C.1 C.2.1 dX10_readBoard_83 (by decide) (fun c12 => ?_) (fun c12 => ?_)
      · have h := h.1 c12
        refine lv_aload_n C.1 C.2.1 dX10_readBoard_88 rfl (lv_at hl 0 rfl) ?_
        refine lv_dup C.1 C.2.1 dX10_readBoard_89 rfl ?_
        refine fw_get (w := (mw G mh ad)) C in_X10 hK hG 0 mw_o rfl 13 (by decide) k127 rfl rfl dX10_readBoard_90 ?_
        refine lv_iconst (v := 1) C.1 C.2.1 dX10_readBoard_93 (by decide) ?_
        refine lv_iadd C.1 C.2.1 dX10_readBoard_94 ?_
        obtain ⟨iv13, eiv13⟩ : ∃ z : fw_F, z = va_up iv10 13 ((iv10 13) + 1) := ⟨_, rfl⟩
        have h := h iv13 eiv13
        refine fw_put (w := (mw G mh ad)) C in_X10 tyX10 tyX10_ok nmX10 hK hG 0 mw_o rfl 13 (by decide) k127 rfl rfl (ty := .int) (v := .int ((iv10 13) + 1)) (by decide +kernel) rfl rfl (by first | decide | exact Nat.le_of_ble_eq_true rfl) (iv1 := iv13) (by rw [eiv13]; exact mw_p13) dX10_readBoard_95 (fun H locs hG => ?_)
        refine lv_iconst (v := 0) C.1 C.2.1 dX10_readBoard_98 (by decide) ?_
        refine lv_istore_n (lv' := [(2, .int 0), (0, .ref mh), (1, .int x1)]) C.1 C.2.1 dX10_readBoard_99 rfl hl (by decide) rfl (fun ls hl => ?_)
        obtain ⟨ku, h⟩ := h
        refine soX10_readBoard_L100 C hK  ?_ ku _ _ _ h _ _ hG ls (lv_sub hl [0, 1, 2] rfl)
        intro w32 iv33 ar34 h H locs hG ls hl
        refine lv_aload_n C.1 C.2.1 dX10_readBoard_213 rfl (lv_at hl 1 rfl) ?_
        refine fw_get (w := (mw G mh ad)) C in_X10 hK hG 0 mw_o rfl 13 (by decide) k127 rfl rfl dX10_readBoard_214 ?_
        refine lv_iload_n C.1 C.2.1 dX10_readBoard_217 rfl (lv_at hl 2 rfl) ?_
        refine lv_icmp_ne (tgt := 225) C.1 C.2.1 dX10_readBoard_218 (by decide) (fun c35 => ?_) (fun c35 => ?_)
        · have h := h.1 c35
          refine lv_iconst (v := 0) C.1 C.2.1 dX10_readBoard_225 (by decide) ?_
          exact fw_zret C hG (by decide) h dX10_readBoard_226
        · have h := h.2 c35
          refine lv_iconst (v := 1) C.1 C.2.1 dX10_readBoard_221 (by decide) ?_
          refine lv_goto (tgt := 226) C.1 C.2.1 dX10_readBoard_222 (by decide) ?_
          exact fw_zret C hG (by decide) h dX10_readBoard_226
      · have h := h.2 c12
        refine lv_iconst (v := 0) C.1 C.2.1 dX10_readBoard_86 (by decide) ?_
        exact fw_zret C hG (by decide) h dX10_readBoard_87
    · have h := h.2 c7
      refine lv_iconst (v := 0) C.1 C.2.1 dX10_readBoard_48 (by decide) ?_
      exact fw_zret C hG (by decide) h dX10_readBoard_49
  · have h := h.2 c2
    refine lv_iconst (v := 0) C.1 C.2.1 dX10_readBoard_10 (by decide) ?_
    exact fw_zret C hG (by decide) h dX10_readBoard_11
/-! KnifeBoardModel.board(IIII)I -/
def rmX10_board : Room := { frames := 3, cells := 0, slots := 0, locals := 68 }
def wpX10_board_L104 (x1 : Int32) (x2 : Int32) (x3 : Int32) (x4 : Int32) (Q : Int32 → fw_F → fw_R → Prop) (K : Int32 → fw_F → fw_R → Prop) : Nat → Int32 → fw_F → fw_R → Prop
  | 0, _, _, _ => False
  | fu + 1, z7, iv, ar => (((iv 16) * (iv 17)) ≤ z7 → (K z7 iv ar)) ∧ (¬ ((iv 16) * (iv 17)) ≤ z7 → (vp_in z7 36 ∧ (vp_in z7 36 ∧ (∀ ar19 : fw_R, ar19 = va_up ar 18 (upd (ar 18) z7.toNatClampNeg ((ar 21) z7.toNatClampNeg)) → (∀ y20 : Int32, y20 = z7 + 1 → (wpX10_board_L104 x1 x2 x3 x4 Q K fu y20 iv ar19))))))
def wpX10_board (iv : fw_F) (ar : fw_R) (x1 : Int32) (x2 : Int32) (x3 : Int32) (x4 : Int32) (Q : Int32 → fw_F → fw_R → Prop) : Prop := ∀ iv1 : fw_F, iv1 = va_up iv 0 0 → (wpX10_isSheet x1 (fun (r2 : Int32) => (¬ r2 = 0 → (wpX10_isSort x2 (fun (r4 : Int32) => (¬ r4 = 0 → (wpX10_against iv1 ar x1 x2 x3 x4 1 (fun (r6 : Int32) => (r6 = 0 → (∀ y8 : Int32, y8 = (80 * x1) + x3 → (∀ iv9 : fw_F, iv9 = va_up iv1 13 y8 → (wpX10_readBoard iv9 ar (y8 + x4) (fun (r10 : Int32) (iv11 : fw_F) (ar12 : fw_R) => (¬ r10 = 0 → (∀ iv14 : fw_F, iv14 = va_up iv11 16 (iv11 19) → (∀ iv15 : fw_F, iv15 = va_up iv14 17 (iv14 20) → (∃ ku : Nat, wpX10_board_L104 x1 x2 x3 x4 Q (fun (w21 : Int32) (iv22 : fw_F) (ar23 : fw_R) => Q ((iv22 16) * (iv22 17)) iv22 ar23) ku 0 iv15 ar12)))) ∧ (r10 = 0 → (Q ((-100) - ((iv11 13) - y8)) iv11 ar12))))))) ∧ (¬ r6 = 0 → (wpX10_fails iv1 ar r6 (fun (r24 : Int32) (iv25 : fw_F) (ar26 : fw_R) => Q r24 iv25 ar26)))))) ∧ (r4 = 0 → (Q (-2) iv1 ar))))) ∧ (r2 = 0 → (Q (-1) iv1 ar))))
set_option maxHeartbeats 4000000 in
set_option maxRecDepth 100000 in
theorem soX10_board_L104 {p : Program} {l : Launch} {e : Env} {s : State} {m : MethodId} {args : Array Value} {below : List Frame} {meth : Method} {c : Code} {A : Nat → Prop} {G : fw_G} {mh : Nat} {ad : Nat → Nat} {x1 : Int32} {x2 : Int32} {x3 : Int32} {x4 : Int32} {Q : Int32 → fw_F → fw_R → Prop} {K : Int32 → fw_F → fw_R → Prop} (C : fw_C p s m args meth c cX10_board 8 (some .int) wsX10_board RX10) (hK : fw_K G A s)  (hX : ∀ (z7 : Int32) (iv : fw_F) (ar : fw_R), K z7 iv ar → ∀ (H : Heap) (locs : List Loc), fw_H G ((mw G mh ad) iv ar) A s H locs → ∀ (ls : Array Slot), lv_has ls 8 [(7, .int z7), (0, .ref mh)] → W p l e rmX10_board s m args below meth c H locs 0 0 (MQ below (fw_Qi G (mw G mh ad) Q A) args s 0 0 A) (F0 m 138 ls [])) : ∀ (fu : Nat) (z7 : Int32) (iv : fw_F) (ar : fw_R), wpX10_board_L104 x1 x2 x3 x4 Q K fu z7 iv ar → ∀ (H : Heap) (locs : List Loc), fw_H G ((mw G mh ad) iv ar) A s H locs → ∀ (ls : Array Slot), lv_has ls 8 [(7, .int z7), (0, .ref mh)] → W p l e rmX10_board s m args below meth c H locs 0 0 (MQ below (fw_Qi G (mw G mh ad) Q A) args s 0 0 A) (F0 m 104 ls []) := by
  intro fu
  have in_X10 : ∀ x ∈ wsX100, x ∈ wsX10_board := by decide +kernel
  have k182 := C.2.2.2.2.1 (.fieldLink RX10 182 "KnifeBoardModel" "high" "I") (by decide +kernel)
  have k185 := C.2.2.2.2.1 (.fieldLink RX10 185 "KnifeBoardModel" "wide" "I") (by decide +kernel)
  have k37 := C.2.2.2.2.1 (.fieldLink RX10 37 "KnifeBoardModel" "wood" "[I") (by decide +kernel)
  have k40 := C.2.2.2.2.1 (.fieldLink RX10 40 "KnifeBoardModel" "readWood" "[I") (by decide +kernel)
  induction fu with
  | zero => intro z7 iv ar h; exact h.elim
  | succ fu ih =>
    intro z7 iv ar h H locs hG ls hl
    unfold wpX10_board_L104 at h
    refine lv_iload C.1 C.2.1 dX10_board_104 (lv_at hl 0 rfl) ?_
    refine lv_aload_n C.1 C.2.1 dX10_board_106 rfl (lv_at hl 1 rfl) ?_
    refine fw_get (w := (mw G mh ad)) C in_X10 hK hG 0 mw_o rfl 16 (by decide) k182 rfl rfl dX10_board_107 ?_
    refine lv_aload_n C.1 C.2.1 dX10_board_110 rfl (lv_at hl 1 rfl) ?_
    refine fw_get (w := (mw G mh ad)) C in_X10 hK hG 0 mw_o rfl 17 (by decide) k185 rfl rfl dX10_board_111 ?_
    refine lv_imul C.1 C.2.1 dX10_board_114 ?_
    refine lv_icmp_ge (tgt := 138) C.1 C.2.1 dX10_board_115 (by decide) (fun c16 => ?_) (fun c16 => ?_)
    · have h := h.1 c16
      exact hX _ _ _ h _ _ hG ls (lv_sub hl [0, 1] rfl)
    · have h := h.2 c16
      refine lv_aload_n C.1 C.2.1 dX10_board_118 rfl (lv_at hl 1 rfl) ?_
      refine fw_get (w := (mw G mh ad)) C in_X10 hK hG 0 mw_o rfl 18 (by decide) k37 rfl rfl dX10_board_119 ?_
      refine lv_iload C.1 C.2.1 dX10_board_122 (lv_at hl 0 rfl) ?_
      refine lv_aload_n C.1 C.2.1 dX10_board_124 rfl (lv_at hl 1 rfl) ?_
      refine fw_get (w := (mw G mh ad)) C in_X10 hK hG 0 mw_o rfl 21 (by decide) k40 rfl rfl dX10_board_125 ?_
      refine lv_iload C.1 C.2.1 dX10_board_128 (lv_at hl 0 rfl) ?_
      obtain ⟨c17, h⟩ := h
      refine fw_iald (w := (mw G mh ad)) C hK hG 11 mw_a21 c17 dX10_board_130 ?_
      obtain ⟨c18, h⟩ := h
      obtain ⟨ar19, ear19⟩ : ∃ z : fw_R, z = va_up ar 18 (upd (ar 18) z7.toNatClampNeg ((ar 21) z7.toNatClampNeg)) := ⟨_, rfl⟩
      have h := h ar19 ear19
      refine fw_iast (w := (mw G mh ad)) C hK hG 10 mw_a18 c18 (ar1 := ar19) (by rw [ear19]; exact mw_s18) dX10_board_131 (fun H locs hG => ?_)
      obtain ⟨y20, ey20⟩ : ∃ z : Int32, z = z7 + 1 := ⟨_, rfl⟩
      have h := h y20 ey20
      refine lv_iinc (v := y20) (lv' := [(7, .int y20), (0, .ref mh)]) C.1 C.2.1 dX10_board_132 hl (k := 0) rfl (by rw [ey20]; rfl) (by decide) rfl (fun ls hl => ?_)
      refine lv_goto (tgt := 104) C.1 C.2.1 dX10_board_135 (by decide) ?_
      exact ih _ _ _ h _ _ hG ls (lv_sub hl [0, 1] rfl)

set_option maxHeartbeats 4000000 in
set_option maxRecDepth 100000 in
theorem soX10_board (l : Launch) (G : fw_G) (mh : Nat) (ad : Nat → Nat) (iv : fw_F) (ar : fw_R) (x1 : Int32) (x2 : Int32) (x3 : Int32) (x4 : Int32) (Q : Int32 → fw_F → fw_R → Prop)  (h : wpX10_board iv ar x1 x2 x3 x4 Q) : fw_M l G (mw G mh ad) yX10_board wsX10_board rmX10_board [.ref mh, .int x1, .int x2, .int x3, .int x4] iv ar (fw_Qi G (mw G mh ad) Q) := by
  refine fw_start (cc := cX10_board) (nL := 8) (rt := (some .int)) (by decide) rfl (Nat.le_of_ble_eq_true rfl) ?_
  intro p e s m below meth c A ls H locs C hK hG hl
  obtain ⟨args, ea⟩ : ∃ z : Array Value, z = ([.ref mh, .int x1, .int x2, .int x3, .int x4] : List Value).toArray := ⟨_, rfl⟩
  rw [← ea] at C ⊢
  have C : fw_C p s m args meth c cX10_board 8 (some .int) wsX10_board RX10 := C
  have hl : lv_has ls 8 [(0, .ref mh), (1, .int x1), (2, .int x2), (3, .int x3), (4, .int x4)] := hl
  unfold wpX10_board at h
  have in_X10 : ∀ x ∈ wsX100, x ∈ wsX10_board := by decide +kernel
  have k127 := C.2.2.2.2.1 (.fieldLink RX10 127 "KnifeBoardModel" "at" "I") (by decide +kernel)
  have k182 := C.2.2.2.2.1 (.fieldLink RX10 182 "KnifeBoardModel" "high" "I") (by decide +kernel)
  have k185 := C.2.2.2.2.1 (.fieldLink RX10 185 "KnifeBoardModel" "wide" "I") (by decide +kernel)
  have k191 := C.2.2.2.2.1 (.fieldLink RX10 191 "KnifeBoardModel" "readHigh" "I") (by decide +kernel)
  have k194 := C.2.2.2.2.1 (.fieldLink RX10 194 "KnifeBoardModel" "readWide" "I") (by decide +kernel)
  have k71 := C.2.2.2.2.1 (.fieldLink RX10 71 "KnifeBoardModel" "fault" "I") (by decide +kernel)
  refine lv_aload_n C.1 C.2.1 dX10_board_0 rfl (lv_at hl 0 rfl) ?_
  refine lv_iconst (v := 0) C.1 C.2.1 dX10_board_1 (by decide) ?_
  obtain ⟨iv1, eiv1⟩ : ∃ z : fw_F, z = va_up iv 0 0 := ⟨_, rfl⟩
  have h := h iv1 eiv1
  refine fw_put (w := (mw G mh ad)) C in_X10 tyX10 tyX10_ok nmX10 hK hG 0 mw_o rfl 0 (by decide) k71 rfl rfl (ty := .int) (v := .int 0) (by decide +kernel) rfl rfl (by first | decide | exact Nat.le_of_ble_eq_true rfl) (iv1 := iv1) (by rw [eiv1]; exact mw_p0) dX10_board_2 (fun H locs hG => ?_)
  refine lv_iload_n C.1 C.2.1 dX10_board_5 rfl (lv_at hl 1 rfl) ?_
  refine fw_pcalli (va_runS (As := [.int x1]) (rest := []) ⟨C.1, C.2.1, C.2.2.2.2.2.2, C.2.2.2.2.2.1, C.2.2.2.2.1⟩ (soX10_isSheet l x1 _ h H.size) (va_cwS 1 C.2.2.2.2.1 gX10_board_X10_isSheet rfl rfl rfl (by decide +kernel) ⟨Nat.le_of_ble_eq_true rfl, Nat.le_of_ble_eq_true rfl⟩) fw_ppre rfl rfl hl.1 rfl (lv_room (Nat.le_of_ble_eq_true rfl)) dX10_board_6 ⟨Nat.zero_le _, Nat.zero_le _⟩) hG hK (fun r2  H locs h hG => ?_)
  refine lv_if_ne (tgt := 14) C.1 C.2.1 dX10_board_9 (by decide) (fun c3 => ?_) (fun c3 => ?_)
  · have h := h.1 c3
    refine lv_iload_n C.1 C.2.1 dX10_board_14 rfl (lv_at hl 2 rfl) ?_
    refine fw_pcalli (va_runS (As := [.int x2]) (rest := []) ⟨C.1, C.2.1, C.2.2.2.2.2.2, C.2.2.2.2.2.1, C.2.2.2.2.1⟩ (soX10_isSort l x2 _ h H.size) (va_cwS 1 C.2.2.2.2.1 gX10_board_X10_isSort rfl rfl rfl (by decide +kernel) ⟨Nat.le_of_ble_eq_true rfl, Nat.le_of_ble_eq_true rfl⟩) fw_ppre rfl rfl hl.1 rfl (lv_room (Nat.le_of_ble_eq_true rfl)) dX10_board_15 ⟨Nat.zero_le _, Nat.zero_le _⟩) hG hK (fun r4  H locs h hG => ?_)
    refine lv_if_ne (tgt := 24) C.1 C.2.1 dX10_board_18 (by decide) (fun c5 => ?_) (fun c5 => ?_)
    · have h := h.1 c5
      refine lv_aload_n C.1 C.2.1 dX10_board_24 rfl (lv_at hl 0 rfl) ?_
      refine lv_iload_n C.1 C.2.1 dX10_board_25 rfl (lv_at hl 1 rfl) ?_
      refine lv_iload_n C.1 C.2.1 dX10_board_26 rfl (lv_at hl 2 rfl) ?_
      refine lv_iload_n C.1 C.2.1 dX10_board_27 rfl (lv_at hl 3 rfl) ?_
      refine lv_iload C.1 C.2.1 dX10_board_28 (lv_at hl 4 rfl) ?_
      refine lv_iconst (v := 1) C.1 C.2.1 dX10_board_30 (by decide) ?_
      refine fw_rcalli (va_runV (As := [.int x1, .int x2, .int x3, .int x4, .int 1]) (rest := []) ⟨C.1, C.2.1, C.2.2.2.2.2.2, C.2.2.2.2.2.1, C.2.2.2.2.1⟩ (soX10_against l G mh ad iv1 ar x1 x2 x3 x4 1 _  h H.size) (cwV 5 C.2.2.2.2.1 gX10_board_X10_against rfl rfl rfl (by decide +kernel) ⟨Nat.le_of_ble_eq_true rfl, Nat.le_of_ble_eq_true rfl⟩) (fw_preV hG hK (ci := 10) rfl mw_o) rfl rfl hl.1 rfl (lv_room (Nat.le_of_ble_eq_true rfl)) dX10_board_31 ⟨Nat.zero_le _, Nat.zero_le _⟩) hG hK (fun r6  H locs h hG => ?_)
      refine lv_istore (lv' := [(5, .int r6), (0, .ref mh), (1, .int x1), (2, .int x2), (3, .int x3), (4, .int x4)]) C.1 C.2.1 dX10_board_34 hl (by decide) rfl (fun ls hl => ?_)
      refine lv_iload C.1 C.2.1 dX10_board_36 (lv_at hl 0 rfl) ?_
      refine lv_if_eq (tgt := 48) C.1 C.2.1 dX10_board_38 (by decide) (fun c7 => ?_) (fun c7 => ?_)
      · have h := h.1 c7
        refine lv_bipush (v := 80) C.1 C.2.1 dX10_board_48 (by decide) ?_
        refine lv_iload_n C.1 C.2.1 dX10_board_50 rfl (lv_at hl 2 rfl) ?_
        refine lv_imul C.1 C.2.1 dX10_board_51 ?_
        refine lv_iload_n C.1 C.2.1 dX10_board_52 rfl (lv_at hl 4 rfl) ?_
        refine lv_iadd C.1 C.2.1 dX10_board_53 ?_
        refine lv_topi (fun y8 ey8 => ?_)
        have h := h y8 ey8
        refine lv_istore (lv' := [(6, .int y8), (5, .int r6), (0, .ref mh), (1, .int x1), (2, .int x2), (3, .int x3), (4, .int x4)]) C.1 C.2.1 dX10_board_54 hl (by decide) rfl (fun ls hl => ?_)
        refine lv_aload_n C.1 C.2.1 dX10_board_56 rfl (lv_at hl 2 rfl) ?_
        refine lv_iload C.1 C.2.1 dX10_board_57 (lv_at hl 0 rfl) ?_
        obtain ⟨iv9, eiv9⟩ : ∃ z : fw_F, z = va_up iv1 13 y8 := ⟨_, rfl⟩
        have h := h iv9 eiv9
        refine fw_put (w := (mw G mh ad)) C in_X10 tyX10 tyX10_ok nmX10 hK hG 0 mw_o rfl 13 (by decide) k127 rfl rfl (ty := .int) (v := .int y8) (by decide +kernel) rfl rfl (by first | decide | exact Nat.le_of_ble_eq_true rfl) (iv1 := iv9) (by rw [eiv9]; exact mw_p13) dX10_board_59 (fun H locs hG => ?_)
        refine lv_aload_n C.1 C.2.1 dX10_board_62 rfl (lv_at hl 2 rfl) ?_
        refine lv_iload C.1 C.2.1 dX10_board_63 (lv_at hl 0 rfl) ?_
        refine lv_iload C.1 C.2.1 dX10_board_65 (lv_at hl 6 rfl) ?_
        refine lv_iadd C.1 C.2.1 dX10_board_67 ?_
        refine fw_calli (va_runV (As := [.int (y8 + x4)]) (rest := []) ⟨C.1, C.2.1, C.2.2.2.2.2.2, C.2.2.2.2.2.1, C.2.2.2.2.1⟩ (soX10_readBoard l G mh ad iv9 ar (y8 + x4) _  h H.size) (cwV 1 C.2.2.2.2.1 gX10_board_X10_readBoard rfl rfl rfl (by decide +kernel) ⟨Nat.le_of_ble_eq_true rfl, Nat.le_of_ble_eq_true rfl⟩) (fw_preV hG hK (ci := 10) rfl mw_o) rfl rfl hl.1 rfl (lv_room (Nat.le_of_ble_eq_true rfl)) dX10_board_68 ⟨Nat.zero_le _, Nat.zero_le _⟩) hG hK (fun r10 iv11 ar12 H locs h hG => ?_)
        refine lv_if_ne (tgt := 85) C.1 C.2.1 dX10_board_71 (by decide) (fun c13 => ?_) (fun c13 => ?_)
        · have h := h.1 c13
          refine lv_aload_n C.1 C.2.1 dX10_board_85 rfl (lv_at hl 2 rfl) ?_
          refine lv_aload_n C.1 C.2.1 dX10_board_86 rfl (lv_at hl 2 rfl) ?_
          refine fw_get (w := (mw G mh ad)) C in_X10 hK hG 0 mw_o rfl 19 (by decide) k191 rfl rfl dX10_board_87 ?_
          obtain ⟨iv14, eiv14⟩ : ∃ z : fw_F, z = va_up iv11 16 (iv11 19) := ⟨_, rfl⟩
          have h := h iv14 eiv14
          refine fw_put (w := (mw G mh ad)) C in_X10 tyX10 tyX10_ok nmX10 hK hG 0 mw_o rfl 16 (by decide) k182 rfl rfl (ty := .int) (v := .int (iv11 19)) (by decide +kernel) rfl rfl (by first | decide | exact Nat.le_of_ble_eq_true rfl) (iv1 := iv14) (by rw [eiv14]; exact mw_p16) dX10_board_90 (fun H locs hG => ?_)
          refine lv_aload_n C.1 C.2.1 dX10_board_93 rfl (lv_at hl 2 rfl) ?_
          refine lv_aload_n C.1 C.2.1 dX10_board_94 rfl (lv_at hl 2 rfl) ?_
          refine fw_get (w := (mw G mh ad)) C in_X10 hK hG 0 mw_o rfl 20 (by decide) k194 rfl rfl dX10_board_95 ?_
          obtain ⟨iv15, eiv15⟩ : ∃ z : fw_F, z = va_up iv14 17 (iv14 20) := ⟨_, rfl⟩
          have h := h iv15 eiv15
          refine fw_put (w := (mw G mh ad)) C in_X10 tyX10 tyX10_ok nmX10 hK hG 0 mw_o rfl 17 (by decide) k185 rfl rfl (ty := .int) (v := .int (iv14 20)) (by decide +kernel) rfl rfl (by first | decide | exact Nat.le_of_ble_eq_true rfl) (iv1 := iv15) (by rw [eiv15]; exact mw_p17) dX10_board_98 (fun H locs hG => ?_)
          refine lv_iconst (v := 0) C.1 C.2.1 dX10_board_101 (by decide) ?_
          refine lv_istore (lv' := [(7, .int 0), (6, .int y8), (5, .int r6), (0, .ref mh), (1, .int x1), (2, .int x2), (3, .int x3), (4, .int x4)]) C.1 C.2.1 dX10_board_102 hl (by decide) rfl (fun ls hl => ?_)
          obtain ⟨ku, h⟩ := h
          refine soX10_board_L104 C hK  ?_ ku _ _ _ h _ _ hG ls (lv_sub hl [0, 3] rfl)
          intro w21 iv22 ar23 h H locs hG ls hl
          refine lv_aload_n C.1 C.2.1 dX10_board_138 rfl (lv_at hl 1 rfl) ?_
          refine fw_get (w := (mw G mh ad)) C in_X10 hK hG 0 mw_o rfl 16 (by decide) k182 rfl rfl dX10_board_139 ?_
          refine lv_aload_n C.1 C.2.1 dX10_board_142 rfl (lv_at hl 1 rfl) ?_
          refine fw_get (w := (mw G mh ad)) C in_X10 hK hG 0 mw_o rfl 17 (by decide) k185 rfl rfl dX10_board_143 ?_
          refine lv_imul C.1 C.2.1 dX10_board_146 ?_
          exact fw_iret C hG h dX10_board_147
        · have h := h.2 c13
          refine lv_bipush (v := (-100)) C.1 C.2.1 dX10_board_74 (by decide) ?_
          refine lv_aload_n C.1 C.2.1 dX10_board_76 rfl (lv_at hl 2 rfl) ?_
          refine fw_get (w := (mw G mh ad)) C in_X10 hK hG 0 mw_o rfl 13 (by decide) k127 rfl rfl dX10_board_77 ?_
          refine lv_iload C.1 C.2.1 dX10_board_80 (lv_at hl 0 rfl) ?_
          refine lv_isub C.1 C.2.1 dX10_board_82 ?_
          refine lv_isub C.1 C.2.1 dX10_board_83 ?_
          exact fw_iret C hG h dX10_board_84
      · have h := h.2 c7
        refine lv_aload_n C.1 C.2.1 dX10_board_41 rfl (lv_at hl 1 rfl) ?_
        refine lv_iload C.1 C.2.1 dX10_board_42 (lv_at hl 0 rfl) ?_
        refine fw_calli (va_runV (As := [.int r6]) (rest := []) ⟨C.1, C.2.1, C.2.2.2.2.2.2, C.2.2.2.2.2.1, C.2.2.2.2.1⟩ (soX10_fails l G mh ad iv1 ar r6 _  h H.size) (cwV 1 C.2.2.2.2.1 gX10_board_X10_fails rfl rfl rfl (by decide +kernel) ⟨Nat.le_of_ble_eq_true rfl, Nat.le_of_ble_eq_true rfl⟩) (fw_preV hG hK (ci := 10) rfl mw_o) rfl rfl hl.1 rfl (lv_room (Nat.le_of_ble_eq_true rfl)) dX10_board_44 ⟨Nat.zero_le _, Nat.zero_le _⟩) hG hK (fun r24 iv25 ar26 H locs h hG => ?_)
        exact fw_iret C hG h dX10_board_47
    · have h := h.2 c5
      refine lv_bipush (v := (-2)) C.1 C.2.1 dX10_board_21 (by decide) ?_
      exact fw_iret C hG h dX10_board_23
  · have h := h.2 c3
    refine lv_iconst (v := (-1)) C.1 C.2.1 dX10_board_12 (by decide) ?_
    exact fw_iret C hG h dX10_board_13
