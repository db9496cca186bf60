/-! KnifeBoard$Board.<init> -/
def rmX0_init : Room := { frames := 1, cells := 1, slots := 36, locals := 12 }
def cw_X0 (G : fw_G) (a : Nat) (u : Nat → Nat) : va_W := [(a, .inr (0, [.ref (u 0), .int 0, .int 0])), ((u 0), .inl (G.2.1.1, 36, .inl (fun _ => 0)))]
set_option maxHeartbeats 8000000 in
set_option maxRecDepth 100000 in
theorem cnX0_init (l : Launch) (G : fw_G) (a : Nat) (sz : Nat) : Met l yX0_init wsX0_init rmX0_init (fw_Pc G [(a, .inr (0, [.null, .int 0, .int 0]))] [.ref a] sz) (va_Qv (fun _ : Nat → Nat => True) (fx_B G (cw_X0 G a) (va_A [(a, .inr (0, [.null, .int 0, .int 0]))] sz)) (va_A [(a, .inr (0, [.null, .int 0, .int 0]))] sz)) 1 36 (va_A [(a, .inr (0, [.null, .int 0, .int 0]))] sz) := by
  refine fx_start (cc := cX0_init) (nL := 1) (rt := none) (Qc := fun A => va_Qv (fun _ : Nat → Nat => True) (fx_B G (cw_X0 G a) A) A) (by decide) rfl (Nat.le_of_ble_eq_true rfl) ?_ sz
  intro p e s m below meth c A ls H locs C hin hK hG hl
  obtain ⟨args, ea⟩ : ∃ z : Array Value, z = ([.ref a] : List Value).toArray := ⟨_, rfl⟩
  rw [← ea] at C ⊢
  have C : fw_C p s m args meth c cX0_init 1 none wsX0_init RX0 := C
  have hin : meth.name = "<init>" := hin
  have hl : lv_has ls 1 [(0, .ref a)] := hl
  have in_X0 : ∀ x ∈ wsX00, x ∈ wsX0_init := by decide +kernel
  have k15 := C.2.2.2.2.1 (.fieldLink RX0 15 "KnifeBoard$Board" "high" "I") (by decide +kernel)
  have k19 := C.2.2.2.2.1 (.fieldLink RX0 19 "KnifeBoard$Board" "wide" "I") (by decide +kernel)
  have k9 := C.2.2.2.2.1 (.fieldLink RX0 9 "KnifeBoard$Board" "letters" "[I") (by decide +kernel)
  have naI := C.2.2.2.2.1 (.arrayClass .int) (by decide +kernel)
  have oi1 := C.2.2.2.2.1 (.methodLink RX0 3 objectInit) (by decide +kernel)
  have oi2 := C.2.2.2.2.1 (.instanceMethod objectInit) (by decide +kernel)
  have oi3 : (Cond.code objectInit ⟨#[0xb1]⟩ 1 none).before args s = true := C.2.2.2.2.1 _ (by decide +kernel)
  refine lv_aload_n C.1 C.2.1 dX0_init_0 rfl (lv_at hl 0 rfl) ?_
  refine fx_obj C hl oi1 oi2 oi3 dX0_init_1 (Nat.le_of_ble_eq_true rfl) (Nat.le_of_ble_eq_true rfl) ?_
  refine lv_aload_n C.1 C.2.1 dX0_init_4 rfl (lv_at hl 0 rfl) ?_
  refine lv_bipush (v := 36) C.1 C.2.1 dX0_init_5 (by decide) ?_
  refine fx_newI (N := 36) C naI hK hG (by decide) (by decide) (by decide) (Nat.le_of_ble_eq_true rfl) (Nat.le_of_ble_eq_true rfl) dX0_init_7 (fun q1 H hG => ?_)
  have hG : fw_H G [(a, .inr (0, [.null, .int 0, .int 0])), (q1, .inl (G.2.1.1, 36, .inl (fun _ => 0)))] A s H locs := hG
  refine W.widen (k := 1) (n := 36) (by decide) (by decide) ?_
  refine fx_putF (ty := .array .int) (v := .ref q1) C in_X0 tyX0 tyX0_ok nmX0 hK hG 0 rfl rfl 0 (by decide) k9 rfl rfl hin rfl (by decide +kernel) rfl rfl (Nat.le_of_ble_eq_true rfl) dX0_init_9 (fun H locs hG => ?_)
  have hG : fw_H G [(a, .inr (0, [.ref q1, .int 0, .int 0])), (q1, .inl (G.2.1.1, 36, .inl (fun _ => 0)))] A s H locs := hG
  refine lv_aload_n C.1 C.2.1 dX0_init_12 rfl (lv_at hl 0 rfl) ?_
  refine lv_iconst (v := 0) C.1 C.2.1 dX0_init_13 (by decide) ?_
  refine fx_put (ty := .int) (v := .int 0) C in_X0 tyX0 tyX0_ok nmX0 hK hG 0 rfl rfl 1 (by decide) k15 rfl rfl (by decide +kernel) rfl rfl (Nat.le_of_ble_eq_true rfl) dX0_init_14 (fun H locs hG => ?_)
  have hG : fw_H G [(a, .inr (0, [.ref q1, .int 0, .int 0])), (q1, .inl (G.2.1.1, 36, .inl (fun _ => 0)))] A s H locs := hG
  refine lv_aload_n C.1 C.2.1 dX0_init_17 rfl (lv_at hl 0 rfl) ?_
  refine lv_iconst (v := 0) C.1 C.2.1 dX0_init_18 (by decide) ?_
  refine fx_put (ty := .int) (v := .int 0) C in_X0 tyX0 tyX0_ok nmX0 hK hG 0 rfl rfl 2 (by decide) k19 rfl rfl (by decide +kernel) rfl rfl (Nat.le_of_ble_eq_true rfl) dX0_init_19 (fun H locs hG => ?_)
  have hG : fw_H G [(a, .inr (0, [.ref q1, .int 0, .int 0])), (q1, .inl (G.2.1.1, 36, .inl (fun _ => 0)))] A s H locs := hG
  exact fx_vret (w1 := cw_X0 G a) (fun i => [q1].getD i 0) C hG trivial dX0_init_22
/-! KnifeBoard$Hand.<init> -/
def rmX1_init : Room := { frames := 1, cells := 1, slots := 15, locals := 12 }
def cw_X1 (G : fw_G) (a : Nat) (u : Nat → Nat) : va_W := [(a, .inr (1, [.ref (u 0), .int 0, .int 0])), ((u 0), .inl (G.2.1.1, 15, .inl (fun _ => 0)))]
set_option maxHeartbeats 8000000 in
set_option maxRecDepth 100000 in
theorem cnX1_init (l : Launch) (G : fw_G) (a : Nat) (sz : Nat) : Met l yX1_init wsX1_init rmX1_init (fw_Pc G [(a, .inr (1, [.null, .int 0, .int 0]))] [.ref a] sz) (va_Qv (fun _ : Nat → Nat => True) (fx_B G (cw_X1 G a) (va_A [(a, .inr (1, [.null, .int 0, .int 0]))] sz)) (va_A [(a, .inr (1, [.null, .int 0, .int 0]))] sz)) 1 15 (va_A [(a, .inr (1, [.null, .int 0, .int 0]))] sz) := by
  refine fx_start (cc := cX1_init) (nL := 1) (rt := none) (Qc := fun A => va_Qv (fun _ : Nat → Nat => True) (fx_B G (cw_X1 G a) A) A) (by decide) rfl (Nat.le_of_ble_eq_true rfl) ?_ sz
  intro p e s m below meth c A ls H locs C hin hK hG hl
  obtain ⟨args, ea⟩ : ∃ z : Array Value, z = ([.ref a] : List Value).toArray := ⟨_, rfl⟩
  rw [← ea] at C ⊢
  have C : fw_C p s m args meth c cX1_init 1 none wsX1_init RX1 := C
  have hin : meth.name = "<init>" := hin
  have hl : lv_has ls 1 [(0, .ref a)] := hl
  have in_X1 : ∀ x ∈ wsX10, x ∈ wsX1_init := by decide +kernel
  have k15 := C.2.2.2.2.1 (.fieldLink RX1 15 "KnifeBoard$Hand" "told" "Z") (by decide +kernel)
  have k19 := C.2.2.2.2.1 (.fieldLink RX1 19 "KnifeBoard$Hand" "tires" "I") (by decide +kernel)
  have k9 := C.2.2.2.2.1 (.fieldLink RX1 9 "KnifeBoard$Hand" "weights" "[I") (by decide +kernel)
  have naI := C.2.2.2.2.1 (.arrayClass .int) (by decide +kernel)
  have oi1 := C.2.2.2.2.1 (.methodLink RX1 3 objectInit) (by decide +kernel)
  have oi2 := C.2.2.2.2.1 (.instanceMethod objectInit) (by decide +kernel)
  have oi3 : (Cond.code objectInit ⟨#[0xb1]⟩ 1 none).before args s = true := C.2.2.2.2.1 _ (by decide +kernel)
  refine lv_aload_n C.1 C.2.1 dX1_init_0 rfl (lv_at hl 0 rfl) ?_
  refine fx_obj C hl oi1 oi2 oi3 dX1_init_1 (Nat.le_of_ble_eq_true rfl) (Nat.le_of_ble_eq_true rfl) ?_
  refine lv_aload_n C.1 C.2.1 dX1_init_4 rfl (lv_at hl 0 rfl) ?_
  refine lv_bipush (v := 15) C.1 C.2.1 dX1_init_5 (by decide) ?_
  refine fx_newI (N := 15) C naI hK hG (by decide) (by decide) (by decide) (Nat.le_of_ble_eq_true rfl) (Nat.le_of_ble_eq_true rfl) dX1_init_7 (fun q1 H hG => ?_)
  have hG : fw_H G [(a, .inr (1, [.null, .int 0, .int 0])), (q1, .inl (G.2.1.1, 15, .inl (fun _ => 0)))] A s H locs := hG
  refine W.widen (k := 1) (n := 15) (by decide) (by decide) ?_
  refine fx_putF (ty := .array .int) (v := .ref q1) C in_X1 tyX1 tyX1_ok nmX1 hK hG 0 rfl rfl 0 (by decide) k9 rfl rfl hin rfl (by decide +kernel) rfl rfl (Nat.le_of_ble_eq_true rfl) dX1_init_9 (fun H locs hG => ?_)
  have hG : fw_H G [(a, .inr (1, [.ref q1, .int 0, .int 0])), (q1, .inl (G.2.1.1, 15, .inl (fun _ => 0)))] A s H locs := hG
  refine lv_aload_n C.1 C.2.1 dX1_init_12 rfl (lv_at hl 0 rfl) ?_
  refine lv_iconst (v := 0) C.1 C.2.1 dX1_init_13 (by decide) ?_
  refine fx_put (ty := .boolean) (v := .int 0) C in_X1 tyX1 tyX1_ok nmX1 hK hG 0 rfl rfl 1 (by decide) k15 rfl rfl (by decide +kernel) rfl rfl (Nat.le_of_ble_eq_true rfl) dX1_init_14 (fun H locs hG => ?_)
  have hG : fw_H G [(a, .inr (1, [.ref q1, .int 0, .int 0])), (q1, .inl (G.2.1.1, 15, .inl (fun _ => 0)))] A s H locs := hG
  refine lv_aload_n C.1 C.2.1 dX1_init_17 rfl (lv_at hl 0 rfl) ?_
  refine lv_iconst (v := 0) C.1 C.2.1 dX1_init_18 (by decide) ?_
  refine fx_put (ty := .int) (v := .int 0) C in_X1 tyX1 tyX1_ok nmX1 hK hG 0 rfl rfl 2 (by decide) k19 rfl rfl (by decide +kernel) rfl rfl (Nat.le_of_ble_eq_true rfl) dX1_init_19 (fun H locs hG => ?_)
  have hG : fw_H G [(a, .inr (1, [.ref q1, .int 0, .int 0])), (q1, .inl (G.2.1.1, 15, .inl (fun _ => 0)))] A s H locs := hG
  exact fx_vret (w1 := cw_X1 G a) (fun i => [q1].getD i 0) C hG trivial dX1_init_22
/-! KnifeBoard$Marks.<init> -/
def rmX4_init : Room := { frames := 1, cells := 5, slots := 1176, locals := 12 }
def cw_X4 (G : fw_G) (a : Nat) (u : Nat → Nat) : va_W := [(a, .inr (4, [.ref (u 0), .ref (u 1), .int 0, .ref (u 2), .ref (u 3), .ref (u 4), .int 0])), ((u 0), .inl (G.2.1.1, 10, .inl (fun _ => 0))), ((u 1), .inl (G.2.1.1, 10, .inl (fun _ => 0))), ((u 2), .inl (G.2.1.1, 576, .inl (fun _ => 0))), ((u 3), .inl (G.2.1.1, 576, .inl (fun _ => 0))), ((u 4), .inl (G.2.1.1, 4, .inl (fun _ => 0)))]
set_option maxHeartbeats 8000000 in
set_option maxRecDepth 100000 in
theorem cnX4_init (l : Launch) (G : fw_G) (a : Nat) (sz : Nat) : Met l yX4_init wsX4_init rmX4_init (fw_Pc G [(a, .inr (4, [.null, .null, .int 0, .null, .null, .null, .int 0]))] [.ref a] sz) (va_Qv (fun _ : Nat → Nat => True) (fx_B G (cw_X4 G a) (va_A [(a, .inr (4, [.null, .null, .int 0, .null, .null, .null, .int 0]))] sz)) (va_A [(a, .inr (4, [.null, .null, .int 0, .null, .null, .null, .int 0]))] sz)) 5 1176 (va_A [(a, .inr (4, [.null, .null, .int 0, .null, .null, .null, .int 0]))] sz) := by
  refine fx_start (cc := cX4_init) (nL := 1) (rt := none) (Qc := fun A => va_Qv (fun _ : Nat → Nat => True) (fx_B G (cw_X4 G a) A) A) (by decide) rfl (Nat.le_of_ble_eq_true rfl) ?_ sz
  intro p e s m below meth c A ls H locs C hin hK hG hl
  obtain ⟨args, ea⟩ : ∃ z : Array Value, z = ([.ref a] : List Value).toArray := ⟨_, rfl⟩
  rw [← ea] at C ⊢
  have C : fw_C p s m args meth c cX4_init 1 none wsX4_init RX4 := C
  have hin : meth.name = "<init>" := hin
  have hl : lv_has ls 1 [(0, .ref a)] := hl
  have in_X4 : ∀ x ∈ wsX40, x ∈ wsX4_init := by decide +kernel
  have k15 := C.2.2.2.2.1 (.fieldLink RX4 15 "KnifeBoard$Marks" "came" "[I") (by decide +kernel)
  have k18 := C.2.2.2.2.1 (.fieldLink RX4 18 "KnifeBoard$Marks" "count" "I") (by decide +kernel)
  have k22 := C.2.2.2.2.1 (.fieldLink RX4 22 "KnifeBoard$Marks" "starts" "[I") (by decide +kernel)
  have k25 := C.2.2.2.2.1 (.fieldLink RX4 25 "KnifeBoard$Marks" "turns" "[I") (by decide +kernel)
  have k28 := C.2.2.2.2.1 (.fieldLink RX4 28 "KnifeBoard$Marks" "leftBy" "[I") (by decide +kernel)
  have k31 := C.2.2.2.2.1 (.fieldLink RX4 31 "KnifeBoard$Marks" "left" "I") (by decide +kernel)
  have k9 := C.2.2.2.2.1 (.fieldLink RX4 9 "KnifeBoard$Marks" "feet" "[I") (by decide +kernel)
  have naI := C.2.2.2.2.1 (.arrayClass .int) (by decide +kernel)
  have oi1 := C.2.2.2.2.1 (.methodLink RX4 3 objectInit) (by decide +kernel)
  have oi2 := C.2.2.2.2.1 (.instanceMethod objectInit) (by decide +kernel)
  have oi3 : (Cond.code objectInit ⟨#[0xb1]⟩ 1 none).before args s = true := C.2.2.2.2.1 _ (by decide +kernel)
  refine lv_aload_n C.1 C.2.1 dX4_init_0 rfl (lv_at hl 0 rfl) ?_
  refine fx_obj C hl oi1 oi2 oi3 dX4_init_1 (Nat.le_of_ble_eq_true rfl) (Nat.le_of_ble_eq_true rfl) ?_
  refine lv_aload_n C.1 C.2.1 dX4_init_4 rfl (lv_at hl 0 rfl) ?_
  refine lv_bipush (v := 10) C.1 C.2.1 dX4_init_5 (by decide) ?_
  refine fx_newI (N := 10) C naI hK hG (by decide) (by decide) (by decide) (Nat.le_of_ble_eq_true rfl) (Nat.le_of_ble_eq_true rfl) dX4_init_7 (fun q1 H hG => ?_)
  have hG : fw_H G [(a, .inr (4, [.null, .null, .int 0, .null, .null, .null, .int 0])), (q1, .inl (G.2.1.1, 10, .inl (fun _ => 0)))] A s H locs := hG
  refine W.widen (k := 1) (n := 10) (by decide) (by decide) ?_
  refine fx_putF (ty := .array .int) (v := .ref q1) C in_X4 tyX4 tyX4_ok nmX4 hK hG 0 rfl rfl 0 (by decide) k9 rfl rfl hin rfl (by decide +kernel) rfl rfl (Nat.le_of_ble_eq_true rfl) dX4_init_9 (fun H locs hG => ?_)
  have hG : fw_H G [(a, .inr (4, [.ref q1, .null, .int 0, .null, .null, .null, .int 0])), (q1, .inl (G.2.1.1, 10, .inl (fun _ => 0)))] A s H locs := hG
  refine lv_aload_n C.1 C.2.1 dX4_init_12 rfl (lv_at hl 0 rfl) ?_
  refine lv_bipush (v := 10) C.1 C.2.1 dX4_init_13 (by decide) ?_
  refine fx_newI (N := 10) C naI hK hG (by decide) (by decide) (by decide) (Nat.le_of_ble_eq_true rfl) (Nat.le_of_ble_eq_true rfl) dX4_init_15 (fun q2 H hG => ?_)
  have hG : fw_H G [(a, .inr (4, [.ref q1, .null, .int 0, .null, .null, .null, .int 0])), (q1, .inl (G.2.1.1, 10, .inl (fun _ => 0))), (q2, .inl (G.2.1.1, 10, .inl (fun _ => 0)))] A s H locs := hG
  refine W.widen (k := 2) (n := 20) (by decide) (by decide) ?_
  refine fx_putF (ty := .array .int) (v := .ref q2) C in_X4 tyX4 tyX4_ok nmX4 hK hG 0 rfl rfl 1 (by decide) k15 rfl rfl hin rfl (by decide +kernel) rfl rfl (Nat.le_of_ble_eq_true rfl) dX4_init_17 (fun H locs hG => ?_)
  have hG : fw_H G [(a, .inr (4, [.ref q1, .ref q2, .int 0, .null, .null, .null, .int 0])), (q1, .inl (G.2.1.1, 10, .inl (fun _ => 0))), (q2, .inl (G.2.1.1, 10, .inl (fun _ => 0)))] A s H locs := hG
  refine lv_aload_n C.1 C.2.1 dX4_init_20 rfl (lv_at hl 0 rfl) ?_
  refine lv_iconst (v := 0) C.1 C.2.1 dX4_init_21 (by decide) ?_
  refine fx_put (ty := .int) (v := .int 0) C in_X4 tyX4 tyX4_ok nmX4 hK hG 0 rfl rfl 2 (by decide) k18 rfl rfl (by decide +kernel) rfl rfl (Nat.le_of_ble_eq_true rfl) dX4_init_22 (fun H locs hG => ?_)
  have hG : fw_H G [(a, .inr (4, [.ref q1, .ref q2, .int 0, .null, .null, .null, .int 0])), (q1, .inl (G.2.1.1, 10, .inl (fun _ => 0))), (q2, .inl (G.2.1.1, 10, .inl (fun _ => 0)))] A s H locs := hG
  refine lv_aload_n C.1 C.2.1 dX4_init_25 rfl (lv_at hl 0 rfl) ?_
  refine lv_sipush (v := 576) C.1 C.2.1 dX4_init_26 (by decide) ?_
  refine fx_newI (N := 576) C naI hK hG (by decide) (by decide) (by decide) (Nat.le_of_ble_eq_true rfl) (Nat.le_of_ble_eq_true rfl) dX4_init_29 (fun q3 H hG => ?_)
  have hG : fw_H G [(a, .inr (4, [.ref q1, .ref q2, .int 0, .null, .null, .null, .int 0])), (q1, .inl (G.2.1.1, 10, .inl (fun _ => 0))), (q2, .inl (G.2.1.1, 10, .inl (fun _ => 0))), (q3, .inl (G.2.1.1, 576, .inl (fun _ => 0)))] A s H locs := hG
  refine W.widen (k := 3) (n := 596) (by decide) (by decide) ?_
  refine fx_putF (ty := .array .int) (v := .ref q3) C in_X4 tyX4 tyX4_ok nmX4 hK hG 0 rfl rfl 3 (by decide) k22 rfl rfl hin rfl (by decide +kernel) rfl rfl (Nat.le_of_ble_eq_true rfl) dX4_init_31 (fun H locs hG => ?_)
  have hG : fw_H G [(a, .inr (4, [.ref q1, .ref q2, .int 0, .ref q3, .null, .null, .int 0])), (q1, .inl (G.2.1.1, 10, .inl (fun _ => 0))), (q2, .inl (G.2.1.1, 10, .inl (fun _ => 0))), (q3, .inl (G.2.1.1, 576, .inl (fun _ => 0)))] A s H locs := hG
  refine lv_aload_n C.1 C.2.1 dX4_init_34 rfl (lv_at hl 0 rfl) ?_
  refine lv_sipush (v := 576) C.1 C.2.1 dX4_init_35 (by decide) ?_
  refine fx_newI (N := 576) C naI hK hG (by decide) (by decide) (by decide) (Nat.le_of_ble_eq_true rfl) (Nat.le_of_ble_eq_true rfl) dX4_init_38 (fun q4 H hG => ?_)
  have hG : fw_H G [(a, .inr (4, [.ref q1, .ref q2, .int 0, .ref q3, .null, .null, .int 0])), (q1, .inl (G.2.1.1, 10, .inl (fun _ => 0))), (q2, .inl (G.2.1.1, 10, .inl (fun _ => 0))), (q3, .inl (G.2.1.1, 576, .inl (fun _ => 0))), (q4, .inl (G.2.1.1, 576, .inl (fun _ => 0)))] A s H locs := hG
  refine W.widen (k := 4) (n := 1172) (by decide) (by decide) ?_
  refine fx_putF (ty := .array .int) (v := .ref q4) C in_X4 tyX4 tyX4_ok nmX4 hK hG 0 rfl rfl 4 (by decide) k25 rfl rfl hin rfl (by decide +kernel) rfl rfl (Nat.le_of_ble_eq_true rfl) dX4_init_40 (fun H locs hG => ?_)
  have hG : fw_H G [(a, .inr (4, [.ref q1, .ref q2, .int 0, .ref q3, .ref q4, .null, .int 0])), (q1, .inl (G.2.1.1, 10, .inl (fun _ => 0))), (q2, .inl (G.2.1.1, 10, .inl (fun _ => 0))), (q3, .inl (G.2.1.1, 576, .inl (fun _ => 0))), (q4, .inl (G.2.1.1, 576, .inl (fun _ => 0)))] A s H locs := hG
  refine lv_aload_n C.1 C.2.1 dX4_init_43 rfl (lv_at hl 0 rfl) ?_
  refine lv_iconst (v := 4) C.1 C.2.1 dX4_init_44 (by decide) ?_
  refine fx_newI (N := 4) C naI hK hG (by decide) (by decide) (by decide) (Nat.le_of_ble_eq_true rfl) (Nat.le_of_ble_eq_true rfl) dX4_init_45 (fun q5 H hG => ?_)
  have hG : fw_H G [(a, .inr (4, [.ref q1, .ref q2, .int 0, .ref q3, .ref q4, .null, .int 0])), (q1, .inl (G.2.1.1, 10, .inl (fun _ => 0))), (q2, .inl (G.2.1.1, 10, .inl (fun _ => 0))), (q3, .inl (G.2.1.1, 576, .inl (fun _ => 0))), (q4, .inl (G.2.1.1, 576, .inl (fun _ => 0))), (q5, .inl (G.2.1.1, 4, .inl (fun _ => 0)))] A s H locs := hG
  refine W.widen (k := 5) (n := 1176) (by decide) (by decide) ?_
  refine fx_putF (ty := .array .int) (v := .ref q5) C in_X4 tyX4 tyX4_ok nmX4 hK hG 0 rfl rfl 5 (by decide) k28 rfl rfl hin rfl (by decide +kernel) rfl rfl (Nat.le_of_ble_eq_true rfl) dX4_init_47 (fun H locs hG => ?_)
  have hG : fw_H G [(a, .inr (4, [.ref q1, .ref q2, .int 0, .ref q3, .ref q4, .ref q5, .int 0])), (q1, .inl (G.2.1.1, 10, .inl (fun _ => 0))), (q2, .inl (G.2.1.1, 10, .inl (fun _ => 0))), (q3, .inl (G.2.1.1, 576, .inl (fun _ => 0))), (q4, .inl (G.2.1.1, 576, .inl (fun _ => 0))), (q5, .inl (G.2.1.1, 4, .inl (fun _ => 0)))] A s H locs := hG
  refine lv_aload_n C.1 C.2.1 dX4_init_50 rfl (lv_at hl 0 rfl) ?_
  refine lv_iconst (v := 0) C.1 C.2.1 dX4_init_51 (by decide) ?_
  refine fx_put (ty := .int) (v := .int 0) C in_X4 tyX4 tyX4_ok nmX4 hK hG 0 rfl rfl 6 (by decide) k31 rfl rfl (by decide +kernel) rfl rfl (Nat.le_of_ble_eq_true rfl) dX4_init_52 (fun H locs hG => ?_)
  have hG : fw_H G [(a, .inr (4, [.ref q1, .ref q2, .int 0, .ref q3, .ref q4, .ref q5, .int 0])), (q1, .inl (G.2.1.1, 10, .inl (fun _ => 0))), (q2, .inl (G.2.1.1, 10, .inl (fun _ => 0))), (q3, .inl (G.2.1.1, 576, .inl (fun _ => 0))), (q4, .inl (G.2.1.1, 576, .inl (fun _ => 0))), (q5, .inl (G.2.1.1, 4, .inl (fun _ => 0)))] A s H locs := hG
  exact fx_vret (w1 := cw_X4 G a) (fun i => [q1, q2, q3, q4, q5].getD i 0) C hG trivial dX4_init_55
/-! KnifeBoard$Order.<init> -/
def rmX5_init : Room := { frames := 1, cells := 3, slots := 106, locals := 12 }
def cw_X5 (G : fw_G) (a : Nat) (u : Nat → Nat) : va_W := [(a, .inr (5, [.ref (u 0), .ref (u 1), .ref (u 2), .int 0])), ((u 0), .inl (G.2.1.1, 6, .inl (fun _ => 0))), ((u 1), .inl (G.2.1.1, 36, .inl (fun _ => 0))), ((u 2), .inl (G.2.1.1, 64, .inl (fun _ => 0)))]
set_option maxHeartbeats 8000000 in
set_option maxRecDepth 100000 in
theorem cnX5_init (l : Launch) (G : fw_G) (a : Nat) (sz : Nat) : Met l yX5_init wsX5_init rmX5_init (fw_Pc G [(a, .inr (5, [.null, .null, .null, .int 0]))] [.ref a] sz) (va_Qv (fun _ : Nat → Nat => True) (fx_B G (cw_X5 G a) (va_A [(a, .inr (5, [.null, .null, .null, .int 0]))] sz)) (va_A [(a, .inr (5, [.null, .null, .null, .int 0]))] sz)) 3 106 (va_A [(a, .inr (5, [.null, .null, .null, .int 0]))] sz) := by
  refine fx_start (cc := cX5_init) (nL := 1) (rt := none) (Qc := fun A => va_Qv (fun _ : Nat → Nat => True) (fx_B G (cw_X5 G a) A) A) (by decide) rfl (Nat.le_of_ble_eq_true rfl) ?_ sz
  intro p e s m below meth c A ls H locs C hin hK hG hl
  obtain ⟨args, ea⟩ : ∃ z : Array Value, z = ([.ref a] : List Value).toArray := ⟨_, rfl⟩
  rw [← ea] at C ⊢
  have C : fw_C p s m args meth c cX5_init 1 none wsX5_init RX5 := C
  have hin : meth.name = "<init>" := hin
  have hl : lv_has ls 1 [(0, .ref a)] := hl
  have in_X5 : ∀ x ∈ wsX50, x ∈ wsX5_init := by decide +kernel
  have k15 := C.2.2.2.2.1 (.fieldLink RX5 15 "KnifeBoard$Order" "costs" "[I") (by decide +kernel)
  have k18 := C.2.2.2.2.1 (.fieldLink RX5 18 "KnifeBoard$Order" "rests" "[I") (by decide +kernel)
  have k21 := C.2.2.2.2.1 (.fieldLink RX5 21 "KnifeBoard$Order" "size" "I") (by decide +kernel)
  have k9 := C.2.2.2.2.1 (.fieldLink RX5 9 "KnifeBoard$Order" "cells" "[I") (by decide +kernel)
  have naI := C.2.2.2.2.1 (.arrayClass .int) (by decide +kernel)
  have oi1 := C.2.2.2.2.1 (.methodLink RX5 3 objectInit) (by decide +kernel)
  have oi2 := C.2.2.2.2.1 (.instanceMethod objectInit) (by decide +kernel)
  have oi3 : (Cond.code objectInit ⟨#[0xb1]⟩ 1 none).before args s = true := C.2.2.2.2.1 _ (by decide +kernel)
  refine lv_aload_n C.1 C.2.1 dX5_init_0 rfl (lv_at hl 0 rfl) ?_
  refine fx_obj C hl oi1 oi2 oi3 dX5_init_1 (Nat.le_of_ble_eq_true rfl) (Nat.le_of_ble_eq_true rfl) ?_
  refine lv_aload_n C.1 C.2.1 dX5_init_4 rfl (lv_at hl 0 rfl) ?_
  refine lv_bipush (v := 6) C.1 C.2.1 dX5_init_5 (by decide) ?_
  refine fx_newI (N := 6) C naI hK hG (by decide) (by decide) (by decide) (Nat.le_of_ble_eq_true rfl) (Nat.le_of_ble_eq_true rfl) dX5_init_7 (fun q1 H hG => ?_)
  have hG : fw_H G [(a, .inr (5, [.null, .null, .null, .int 0])), (q1, .inl (G.2.1.1, 6, .inl (fun _ => 0)))] A s H locs := hG
  refine W.widen (k := 1) (n := 6) (by decide) (by decide) ?_
  refine fx_putF (ty := .array .int) (v := .ref q1) C in_X5 tyX5 tyX5_ok nmX5 hK hG 0 rfl rfl 0 (by decide) k9 rfl rfl hin rfl (by decide +kernel) rfl rfl (Nat.le_of_ble_eq_true rfl) dX5_init_9 (fun H locs hG => ?_)
  have hG : fw_H G [(a, .inr (5, [.ref q1, .null, .null, .int 0])), (q1, .inl (G.2.1.1, 6, .inl (fun _ => 0)))] A s H locs := hG
  refine lv_aload_n C.1 C.2.1 dX5_init_12 rfl (lv_at hl 0 rfl) ?_
  refine lv_bipush (v := 36) C.1 C.2.1 dX5_init_13 (by decide) ?_
  refine fx_newI (N := 36) C naI hK hG (by decide) (by decide) (by decide) (Nat.le_of_ble_eq_true rfl) (Nat.le_of_ble_eq_true rfl) dX5_init_15 (fun q2 H hG => ?_)
  have hG : fw_H G [(a, .inr (5, [.ref q1, .null, .null, .int 0])), (q1, .inl (G.2.1.1, 6, .inl (fun _ => 0))), (q2, .inl (G.2.1.1, 36, .inl (fun _ => 0)))] A s H locs := hG
  refine W.widen (k := 2) (n := 42) (by decide) (by decide) ?_
  refine fx_putF (ty := .array .int) (v := .ref q2) C in_X5 tyX5 tyX5_ok nmX5 hK hG 0 rfl rfl 1 (by decide) k15 rfl rfl hin rfl (by decide +kernel) rfl rfl (Nat.le_of_ble_eq_true rfl) dX5_init_17 (fun H locs hG => ?_)
  have hG : fw_H G [(a, .inr (5, [.ref q1, .ref q2, .null, .int 0])), (q1, .inl (G.2.1.1, 6, .inl (fun _ => 0))), (q2, .inl (G.2.1.1, 36, .inl (fun _ => 0)))] A s H locs := hG
  refine lv_aload_n C.1 C.2.1 dX5_init_20 rfl (lv_at hl 0 rfl) ?_
  refine lv_bipush (v := 64) C.1 C.2.1 dX5_init_21 (by decide) ?_
  refine fx_newI (N := 64) C naI hK hG (by decide) (by decide) (by decide) (Nat.le_of_ble_eq_true rfl) (Nat.le_of_ble_eq_true rfl) dX5_init_23 (fun q3 H hG => ?_)
  have hG : fw_H G [(a, .inr (5, [.ref q1, .ref q2, .null, .int 0])), (q1, .inl (G.2.1.1, 6, .inl (fun _ => 0))), (q2, .inl (G.2.1.1, 36, .inl (fun _ => 0))), (q3, .inl (G.2.1.1, 64, .inl (fun _ => 0)))] A s H locs := hG
  refine W.widen (k := 3) (n := 106) (by decide) (by decide) ?_
  refine fx_putF (ty := .array .int) (v := .ref q3) C in_X5 tyX5 tyX5_ok nmX5 hK hG 0 rfl rfl 2 (by decide) k18 rfl rfl hin rfl (by decide +kernel) rfl rfl (Nat.le_of_ble_eq_true rfl) dX5_init_25 (fun H locs hG => ?_)
  have hG : fw_H G [(a, .inr (5, [.ref q1, .ref q2, .ref q3, .int 0])), (q1, .inl (G.2.1.1, 6, .inl (fun _ => 0))), (q2, .inl (G.2.1.1, 36, .inl (fun _ => 0))), (q3, .inl (G.2.1.1, 64, .inl (fun _ => 0)))] A s H locs := hG
  refine lv_aload_n C.1 C.2.1 dX5_init_28 rfl (lv_at hl 0 rfl) ?_
  refine lv_iconst (v := 0) C.1 C.2.1 dX5_init_29 (by decide) ?_
  refine fx_put (ty := .int) (v := .int 0) C in_X5 tyX5 tyX5_ok nmX5 hK hG 0 rfl rfl 3 (by decide) k21 rfl rfl (by decide +kernel) rfl rfl (Nat.le_of_ble_eq_true rfl) dX5_init_30 (fun H locs hG => ?_)
  have hG : fw_H G [(a, .inr (5, [.ref q1, .ref q2, .ref q3, .int 0])), (q1, .inl (G.2.1.1, 6, .inl (fun _ => 0))), (q2, .inl (G.2.1.1, 36, .inl (fun _ => 0))), (q3, .inl (G.2.1.1, 64, .inl (fun _ => 0)))] A s H locs := hG
  exact fx_vret (w1 := cw_X5 G a) (fun i => [q1, q2, q3].getD i 0) C hG trivial dX5_init_33
/-! KnifeBoard$Sheet.<init> -/
def rmX6_init : Room := { frames := 1, cells := 1, slots := 80, locals := 12 }
def cw_X6 (G : fw_G) (a : Nat) (u : Nat → Nat) : va_W := [(a, .inr (6, [.ref (u 0), .int 0, .int 0, .int 0])), ((u 0), .inl (G.2.1.1, 80, .inl (fun _ => 0)))]
set_option maxHeartbeats 8000000 in
set_option maxRecDepth 100000 in
theorem cnX6_init (l : Launch) (G : fw_G) (a : Nat) (sz : Nat) : Met l yX6_init wsX6_init rmX6_init (fw_Pc G [(a, .inr (6, [.null, .int 0, .int 0, .int 0]))] [.ref a] sz) (va_Qv (fun _ : Nat → Nat => True) (fx_B G (cw_X6 G a) (va_A [(a, .inr (6, [.null, .int 0, .int 0, .int 0]))] sz)) (va_A [(a, .inr (6, [.null, .int 0, .int 0, .int 0]))] sz)) 1 80 (va_A [(a, .inr (6, [.null, .int 0, .int 0, .int 0]))] sz) := by
  refine fx_start (cc := cX6_init) (nL := 1) (rt := none) (Qc := fun A => va_Qv (fun _ : Nat → Nat => True) (fx_B G (cw_X6 G a) A) A) (by decide) rfl (Nat.le_of_ble_eq_true rfl) ?_ sz
  intro p e s m below meth c A ls H locs C hin hK hG hl
  obtain ⟨args, ea⟩ : ∃ z : Array Value, z = ([.ref a] : List Value).toArray := ⟨_, rfl⟩
  rw [← ea] at C ⊢
  have C : fw_C p s m args meth c cX6_init 1 none wsX6_init RX6 := C
  have hin : meth.name = "<init>" := hin
  have hl : lv_has ls 1 [(0, .ref a)] := hl
  have in_X6 : ∀ x ∈ wsX60, x ∈ wsX6_init := by decide +kernel
  have k15 := C.2.2.2.2.1 (.fieldLink RX6 15 "KnifeBoard$Sheet" "has" "Z") (by decide +kernel)
  have k19 := C.2.2.2.2.1 (.fieldLink RX6 19 "KnifeBoard$Sheet" "sort" "I") (by decide +kernel)
  have k23 := C.2.2.2.2.1 (.fieldLink RX6 23 "KnifeBoard$Sheet" "length" "I") (by decide +kernel)
  have k9 := C.2.2.2.2.1 (.fieldLink RX6 9 "KnifeBoard$Sheet" "cells" "[I") (by decide +kernel)
  have naI := C.2.2.2.2.1 (.arrayClass .int) (by decide +kernel)
  have oi1 := C.2.2.2.2.1 (.methodLink RX6 3 objectInit) (by decide +kernel)
  have oi2 := C.2.2.2.2.1 (.instanceMethod objectInit) (by decide +kernel)
  have oi3 : (Cond.code objectInit ⟨#[0xb1]⟩ 1 none).before args s = true := C.2.2.2.2.1 _ (by decide +kernel)
  refine lv_aload_n C.1 C.2.1 dX6_init_0 rfl (lv_at hl 0 rfl) ?_
  refine fx_obj C hl oi1 oi2 oi3 dX6_init_1 (Nat.le_of_ble_eq_true rfl) (Nat.le_of_ble_eq_true rfl) ?_
  refine lv_aload_n C.1 C.2.1 dX6_init_4 rfl (lv_at hl 0 rfl) ?_
  refine lv_bipush (v := 80) C.1 C.2.1 dX6_init_5 (by decide) ?_
  refine fx_newI (N := 80) C naI hK hG (by decide) (by decide) (by decide) (Nat.le_of_ble_eq_true rfl) (Nat.le_of_ble_eq_true rfl) dX6_init_7 (fun q1 H hG => ?_)
  have hG : fw_H G [(a, .inr (6, [.null, .int 0, .int 0, .int 0])), (q1, .inl (G.2.1.1, 80, .inl (fun _ => 0)))] A s H locs := hG
  refine W.widen (k := 1) (n := 80) (by decide) (by decide) ?_
  refine fx_putF (ty := .array .int) (v := .ref q1) C in_X6 tyX6 tyX6_ok nmX6 hK hG 0 rfl rfl 0 (by decide) k9 rfl rfl hin rfl (by decide +kernel) rfl rfl (Nat.le_of_ble_eq_true rfl) dX6_init_9 (fun H locs hG => ?_)
  have hG : fw_H G [(a, .inr (6, [.ref q1, .int 0, .int 0, .int 0])), (q1, .inl (G.2.1.1, 80, .inl (fun _ => 0)))] A s H locs := hG
  refine lv_aload_n C.1 C.2.1 dX6_init_12 rfl (lv_at hl 0 rfl) ?_
  refine lv_iconst (v := 0) C.1 C.2.1 dX6_init_13 (by decide) ?_
  refine fx_put (ty := .boolean) (v := .int 0) C in_X6 tyX6 tyX6_ok nmX6 hK hG 0 rfl rfl 1 (by decide) k15 rfl rfl (by decide +kernel) rfl rfl (Nat.le_of_ble_eq_true rfl) dX6_init_14 (fun H locs hG => ?_)
  have hG : fw_H G [(a, .inr (6, [.ref q1, .int 0, .int 0, .int 0])), (q1, .inl (G.2.1.1, 80, .inl (fun _ => 0)))] A s H locs := hG
  refine lv_aload_n C.1 C.2.1 dX6_init_17 rfl (lv_at hl 0 rfl) ?_
  refine lv_iconst (v := 0) C.1 C.2.1 dX6_init_18 (by decide) ?_
  refine fx_put (ty := .int) (v := .int 0) C in_X6 tyX6 tyX6_ok nmX6 hK hG 0 rfl rfl 2 (by decide) k19 rfl rfl (by decide +kernel) rfl rfl (Nat.le_of_ble_eq_true rfl) dX6_init_19 (fun H locs hG => ?_)
  have hG : fw_H G [(a, .inr (6, [.ref q1, .int 0, .int 0, .int 0])), (q1, .inl (G.2.1.1, 80, .inl (fun _ => 0)))] A s H locs := hG
  refine lv_aload_n C.1 C.2.1 dX6_init_22 rfl (lv_at hl 0 rfl) ?_
  refine lv_iconst (v := 0) C.1 C.2.1 dX6_init_23 (by decide) ?_
  refine fx_put (ty := .int) (v := .int 0) C in_X6 tyX6 tyX6_ok nmX6 hK hG 0 rfl rfl 3 (by decide) k23 rfl rfl (by decide +kernel) rfl rfl (Nat.le_of_ble_eq_true rfl) dX6_init_24 (fun H locs hG => ?_)
  have hG : fw_H G [(a, .inr (6, [.ref q1, .int 0, .int 0, .int 0])), (q1, .inl (G.2.1.1, 80, .inl (fun _ => 0)))] A s H locs := hG
  exact fx_vret (w1 := cw_X6 G a) (fun i => [q1].getD i 0) C hG trivial dX6_init_27
/-! KnifeBoard$Trace.<init> -/
def rmX7_init : Room := { frames := 1, cells := 0, slots := 0, locals := 12 }
def cw_X7 (G : fw_G) (a : Nat) (u : Nat → Nat) : va_W := [(a, .inr (7, [.int 0]))]
set_option maxHeartbeats 8000000 in
set_option maxRecDepth 100000 in
theorem cnX7_init (l : Launch) (G : fw_G) (a : Nat) (sz : Nat) : Met l yX7_init wsX7_init rmX7_init (fw_Pc G [(a, .inr (7, [.int 0]))] [.ref a] sz) (va_Qv (fun _ : Nat → Nat => True) (fx_B G (cw_X7 G a) (va_A [(a, .inr (7, [.int 0]))] sz)) (va_A [(a, .inr (7, [.int 0]))] sz)) 0 0 (va_A [(a, .inr (7, [.int 0]))] sz) := by
  refine fx_start (cc := cX7_init) (nL := 1) (rt := none) (Qc := fun A => va_Qv (fun _ : Nat → Nat => True) (fx_B G (cw_X7 G a) A) A) (by decide) rfl (Nat.le_of_ble_eq_true rfl) ?_ sz
  intro p e s m below meth c A ls H locs C hin hK hG hl
  obtain ⟨args, ea⟩ : ∃ z : Array Value, z = ([.ref a] : List Value).toArray := ⟨_, rfl⟩
  rw [← ea] at C ⊢
  have C : fw_C p s m args meth c cX7_init 1 none wsX7_init RX7 := C
  have hin : meth.name = "<init>" := hin
  have hl : lv_has ls 1 [(0, .ref a)] := hl
  have in_X7 : ∀ x ∈ wsX70, x ∈ wsX7_init := by decide +kernel
  have k7 := C.2.2.2.2.1 (.fieldLink RX7 7 "KnifeBoard$Trace" "value" "I") (by decide +kernel)
  have oi1 := C.2.2.2.2.1 (.methodLink RX7 1 objectInit) (by decide +kernel)
  have oi2 := C.2.2.2.2.1 (.instanceMethod objectInit) (by decide +kernel)
  have oi3 : (Cond.code objectInit ⟨#[0xb1]⟩ 1 none).before args s = true := C.2.2.2.2.1 _ (by decide +kernel)
  refine lv_aload_n C.1 C.2.1 dX7_init_0 rfl (lv_at hl 0 rfl) ?_
  refine fx_obj C hl oi1 oi2 oi3 dX7_init_1 (Nat.le_of_ble_eq_true rfl) (Nat.le_of_ble_eq_true rfl) ?_
  refine lv_aload_n C.1 C.2.1 dX7_init_4 rfl (lv_at hl 0 rfl) ?_
  refine lv_iconst (v := 0) C.1 C.2.1 dX7_init_5 (by decide) ?_
  refine fx_put (ty := .int) (v := .int 0) C in_X7 tyX7 tyX7_ok nmX7 hK hG 0 rfl rfl 0 (by decide) k7 rfl rfl (by decide +kernel) rfl rfl (Nat.le_of_ble_eq_true rfl) dX7_init_6 (fun H locs hG => ?_)
  have hG : fw_H G [(a, .inr (7, [.int 0]))] A s H locs := hG
  exact fx_vret (w1 := cw_X7 G a) (fun i => [].getD i 0) C hG trivial dX7_init_9
