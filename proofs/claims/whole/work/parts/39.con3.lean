/-! a knife that is being made -/
def nw_f (q : Nat) (iv : fw_F) : List Value := [.int (iv 0), .int (iv 1), .int (iv 2), .int (iv 3), .int (iv 4), .ref q]
def nw (G : fw_G) (a q ci : Nat) : fw_V := fun iv ar => [(a, .inr (ci, nw_f q iv)), (q, .inl (G.2.1.1, 216, .inl (ar 0)))]
theorem nw_t : ∀ k, k < 6 → TX2 k = TX3 k ∧ TX8 k = TX3 k ∧ (TX3 k).1 = "KnifeBoard$Knife" ∧ (TX3 k).2.2.2 = true := by decide +kernel
section NW
variable {p : Program} {l : Launch} {e : Env} {R : Room} {s : State} {m : MethodId} {args : Array Value} {below : List Frame} {meth : Method} {c : Code} {H : Heap} {locs : List Loc} {cells slots : Nat} {Q : State → Prop}
variable {pc : Nat} {ls : Array Slot} {rest : List Value} {A : Nat → Prop} {G : fw_G} {a q ci : Nat} {iv : fw_F} {ar : fw_R} {cc : ByteArray} {rt : Option FieldType} {nL : Nat} {wd : List Cond} {own : String}
theorem nw_g (C : fw_C p s m args meth c cc nL rt wd own) (h3 : ∀ x ∈ wsX30, x ∈ wd) (h2 : ∀ x ∈ wsX20, x ∈ wd) (h8 : ∀ x ∈ wsX80, x ∈ wd) (hK : fw_K G A s) (hci : ci = 3 ∨ ci = 2 ∨ ci = 8) (hG : fw_H G (nw G a q ci iv ar) A s H locs) (k : Nat) (hk : k < 6) {index : Nat} {ref : String} (hlink : (Cond.fieldLink own index ref (TX3 k).2.1 (TX3 k).2.2.1).before args s = true) (href : "KnifeBoard$Knife" = ref) {v : Value} (hv : (nw_f q iv)[k]? = some v) (hdg : decode cc pc = .ok (.getfield index, 3))
    (kk : W p l e R s m args below meth c H locs cells slots Q (F0 m (pc + 3) ls (v :: rest))) : W p l e R s m args below meth c H locs cells slots Q (F0 m pc ls (.ref a :: rest)) := by
  subst href
  obtain ⟨t2, t8, t3, -⟩ := nw_t k hk
  rcases hci with rfl | rfl | rfl
  · exact fw_get (w := nw G a q 3) C h3 hK hG 0 rfl rfl k hk hlink t3 hv hdg kk
  · exact fw_get (w := nw G a q 2) C h2 hK hG 0 rfl rfl k hk (by rw [t2]; exact hlink) (by rw [t2]; exact t3) hv hdg kk
  · exact fw_get (w := nw G a q 8) C h8 hK hG 0 rfl rfl k hk (by rw [t8]; exact hlink) (by rw [t8]; exact t3) hv hdg kk
theorem nw_set (k : Nat) (hk : k < 5) (v : Int32) : (nw G a q ci iv ar).set 0 (a, .inr (ci, (nw_f q iv).set k (.int v))) = nw G a q ci (va_up iv k v) ar := by
  rcases (show k = 0 ∨ k = 1 ∨ k = 2 ∨ k = 3 ∨ k = 4 by omega) with rfl | rfl | rfl | rfl | rfl <;> rfl
theorem nw_p (C : fw_C p s m args meth c cc nL rt wd own) (h3 : ∀ x ∈ wsX30, x ∈ wd) (h2 : ∀ x ∈ wsX20, x ∈ wd) (h8 : ∀ x ∈ wsX80, x ∈ wd) (hK : fw_K G A s) (hci : ci = 3 ∨ ci = 2 ∨ ci = 8) (hin : meth.name = "<init>") (hown : own = "KnifeBoard$Knife") (hG : fw_H G (nw G a q ci iv ar) A s H locs) (k : Nat) (hk : k < 5) {index : Nat} {ref : String} {v : Int32} (hlink : (Cond.fieldLink own index ref (TX3 k).2.1 (TX3 k).2.2.1).before args s = true) (href : "KnifeBoard$Knife" = ref) (hdg : decode cc pc = .ok (.putfield index, 3))
    (kk : ∀ (H1 : Heap) (locs1 : List Loc), fw_H G (nw G a q ci (va_up iv k v) ar) A s H1 locs1 → W p l e R s m args below meth c H1 locs1 cells slots Q (F0 m (pc + 3) ls rest)) : W p l e R s m args below meth c H locs cells slots Q (F0 m pc ls (.int v :: .ref a :: rest)) := by
  subst href
  subst hown
  have t6 : ∀ k, k < 5 → parseFieldDescriptor (TX3 k).2.2.1 = some .int := by decide +kernel
  have t6 := t6 k hk
  obtain ⟨t2, t8, t3, t5⟩ := nw_t k (by omega)
  rcases hci with rfl | rfl | rfl
  · exact fx_putF (ty := .int) C h3 tyX3 tyX3_ok nmX3 hK hG 0 rfl rfl k (by omega) hlink t3 t5 hin t3 t6 rfl rfl (by show k < 6; omega) hdg (fun H1 locs1 h => kk H1 locs1 (by rw [nw_set k hk] at h; exact h))
  · exact fx_putF (ty := .int) C h2 tyX2 tyX2_ok nmX2 hK hG 0 rfl rfl k (by omega) (by rw [t2]; exact hlink) (by rw [t2]; exact t3) (by rw [t2]; exact t5) hin (by rw [t2]; exact t3) (by rw [t2]; exact t6) rfl rfl (by show k < 6; omega) hdg (fun H1 locs1 h => kk H1 locs1 (by rw [nw_set k hk] at h; exact h))
  · exact fx_putF (ty := .int) C h8 tyX8 tyX8_ok nmX8 hK hG 0 rfl rfl k (by omega) (by rw [t8]; exact hlink) (by rw [t8]; exact t3) (by rw [t8]; exact t5) hin (by rw [t8]; exact t3) (by rw [t8]; exact t6) rfl rfl (by show k < 6; omega) hdg (fun H1 locs1 h => kk H1 locs1 (by rw [nw_set k hk] at h; exact h))
end NW
def rmX3_init : Room := { frames := 2, cells := 1, slots := 216, locals := 44 }
def wpX3_init_L52 (x1 : Int32) (x2 : Int32) (x3 : Int32) (x4 : Int32) (x5 : Int32) (Q : fw_F → fw_R → Prop) (K : Int32 → fw_F → fw_R → Prop) : Nat → Int32 → fw_F → fw_R → Prop
  | 0, _, _, _ => False
  | fu + 1, z6, iv, ar => ((24 * (iv 1)) ≤ z6 → (K z6 iv ar)) ∧ (¬ (24 * (iv 1)) ≤ z6 → (wpX3_cameLying z6 (iv 1) x5 (fun (r7 : Int32) => vp_in z6 216 ∧ (∀ ar9 : fw_R, ar9 = va_up ar 0 (upd (ar 0) z6.toNatClampNeg r7) → (∀ y10 : Int32, y10 = z6 + 1 → (wpX3_init_L52 x1 x2 x3 x4 x5 Q K fu y10 iv ar9))))))
def wpX3_b (iv : fw_F) (ar : fw_R) (x1 : Int32) (x2 : Int32) (x3 : Int32) (x4 : Int32) (x5 : Int32) (Q : fw_F → fw_R → Prop) : Prop := ∀ iv1 : fw_F, iv1 = va_up iv 0 x1 → (∀ iv2 : fw_F, iv2 = va_up iv1 1 (if 1 < (if x2 < 9 then x2 else 9) then (if x2 < 9 then x2 else 9) else 1) → (∀ iv3 : fw_F, iv3 = va_up iv2 2 x3 → (∀ iv4 : fw_F, iv4 = va_up iv3 3 x4 → (∀ iv5 : fw_F, iv5 = va_up iv4 4 x5 → (∃ ku : Nat, wpX3_init_L52 x1 x2 x3 x4 x5 Q (fun (w11 : Int32) (iv12 : fw_F) (ar13 : fw_R) => Q iv12 ar13) ku 0 iv5 ar)))))
def wpX3_init (x1 : Int32) (x2 : Int32) (x3 : Int32) (x4 : Int32) (x5 : Int32) (Q : fw_F → fw_R → Prop) : Prop := wpX3_b (fun _ => 0) (fun _ _ => 0) x1 x2 x3 x4 x5 Q
set_option maxHeartbeats 4000000 in
set_option maxRecDepth 100000 in
theorem soX3_init_L52 {p : Program} {l : Launch} {e : Env} {s : State} {m : MethodId} {args : Array Value} {below : List Frame} {meth : Method} {c : Code} {A : Nat → Prop} {G : fw_G} {a q ci : Nat} {x1 : Int32} {x2 : Int32} {x3 : Int32} {x4 : Int32} {x5 : Int32} {Q : fw_F → fw_R → Prop} {K : Int32 → fw_F → fw_R → Prop} (C : fw_C p s m args meth c cX3_init 7 none wsX3_init RX3) (hK : fw_K G A s) (hci : ci = 3 ∨ ci = 2 ∨ ci = 8) (hin : meth.name = "<init>") (hX : ∀ (z6 : Int32) (iv : fw_F) (ar : fw_R), K z6 iv ar → ∀ (H : Heap) (locs : List Loc), fw_H G ((nw G a q ci) iv ar) A s H locs → ∀ (ls : Array Slot), lv_has ls 7 [(6, .int z6), (0, .ref a), (5, .int x5)] → W p l e rmX3_init s m args below meth c H locs 1 216 (MQ below (va_Qv (fun u : Nat × fw_F × fw_R => Q u.2.1 u.2.2) (fx_B G (fun u => nw G a u.1 ci u.2.1 u.2.2) A) A) args s 1 216 A) (F0 m 88 ls [])) : ∀ (fu : Nat) (z6 : Int32) (iv : fw_F) (ar : fw_R), wpX3_init_L52 x1 x2 x3 x4 x5 Q K fu z6 iv ar → ∀ (H : Heap) (locs : List Loc), fw_H G ((nw G a q ci) iv ar) A s H locs → ∀ (ls : Array Slot), lv_has ls 7 [(6, .int z6), (0, .ref a), (5, .int x5)] → W p l e rmX3_init s m args below meth c H locs 1 216 (MQ below (va_Qv (fun u : Nat × fw_F × fw_R => Q u.2.1 u.2.2) (fx_B G (fun u => nw G a u.1 ci u.2.1 u.2.2) A) A) args s 1 216 A) (F0 m 52 ls []) := by
  intro fu
  have in_X2 : ∀ x ∈ wsX20, x ∈ wsX3_init := by decide +kernel
  have in_X3 : ∀ x ∈ wsX30, x ∈ wsX3_init := by decide +kernel
  have in_X8 : ∀ x ∈ wsX80, x ∈ wsX3_init := by decide +kernel
  have k28 := C.2.2.2.2.1 (.fieldLink RX3 28 "KnifeBoard$Knife" "pace" "I") (by decide +kernel)
  have k9 := C.2.2.2.2.1 (.fieldLink RX3 9 "KnifeBoard$Knife" "cameAt" "[I") (by decide +kernel)
  induction fu with
  | zero => intro z6 iv ar h; exact h.elim
  | succ fu ih =>
    intro z6 iv ar h H locs hG ls hl
    unfold wpX3_init_L52 at h
    refine lv_iload C.1 C.2.1 dX3_init_52 (lv_at hl 0 rfl) ?_
    refine lv_bipush (v := 24) C.1 C.2.1 dX3_init_54 (by decide) ?_
    refine lv_aload_n C.1 C.2.1 dX3_init_56 rfl (lv_at hl 1 rfl) ?_
    refine nw_g C in_X3 in_X2 in_X8 hK hci hG 1 (by decide) k28 rfl rfl dX3_init_57 ?_
    refine lv_imul C.1 C.2.1 dX3_init_60 ?_
    refine lv_icmp_ge (tgt := 88) C.1 C.2.1 dX3_init_61 (by decide) (fun c6 => ?_) (fun c6 => ?_)
    · have h := h.1 c6
      exact hX _ _ _ h _ _ hG ls (lv_sub hl [0, 1, 2] rfl)
    · have h := h.2 c6
      refine lv_aload_n C.1 C.2.1 dX3_init_64 rfl (lv_at hl 1 rfl) ?_
      refine nw_g C in_X3 in_X2 in_X8 hK hci hG 5 (by decide) k9 rfl rfl dX3_init_65 ?_
      refine lv_iload C.1 C.2.1 dX3_init_68 (lv_at hl 0 rfl) ?_
      refine lv_iload C.1 C.2.1 dX3_init_70 (lv_at hl 0 rfl) ?_
      refine lv_aload_n C.1 C.2.1 dX3_init_72 rfl (lv_at hl 1 rfl) ?_
      refine nw_g C in_X3 in_X2 in_X8 hK hci hG 1 (by decide) k28 rfl rfl dX3_init_73 ?_
      refine lv_iload C.1 C.2.1 dX3_init_76 (lv_at hl 2 rfl) ?_
      refine fw_pcalli (va_runS (As := [.int z6, .int (iv 1), .int x5]) (rest := [.int z6, .ref q]) ⟨C.1, C.2.1, C.2.2.2.2.2.2, C.2.2.2.2.2.1, C.2.2.2.2.1⟩ (soX3_cameLying l z6 (iv 1) x5 _ h H.size) (va_cwS 3 C.2.2.2.2.1 gX3_init_X3_cameLying rfl rfl rfl (by decide +kernel) ⟨Nat.le_of_ble_eq_true rfl, Nat.le_of_ble_eq_true rfl⟩) fw_ppre rfl rfl hl.1 rfl (lv_room (Nat.le_of_ble_eq_true rfl)) dX3_init_78 ⟨Nat.le_of_ble_eq_true rfl, Nat.le_of_ble_eq_true rfl⟩) hG hK (fun r7  H locs h hG => ?_)
      obtain ⟨c8, h⟩ := h
      obtain ⟨ar9, ear9⟩ : ∃ z : fw_R, z = va_up ar 0 (upd (ar 0) z6.toNatClampNeg r7) := ⟨_, rfl⟩
      have h := h ar9 ear9
      refine fw_iast (w := (nw G a q ci)) C hK hG 1 rfl c8 (ar1 := ar9) (by rw [ear9]; rfl) dX3_init_81 (fun H locs hG => ?_)
      obtain ⟨y10, ey10⟩ : ∃ z : Int32, z = z6 + 1 := ⟨_, rfl⟩
      have h := h y10 ey10
      refine lv_iinc (v := y10) (lv' := [(6, .int y10), (0, .ref a), (5, .int x5)]) C.1 C.2.1 dX3_init_82 hl (k := 0) rfl (by rw [ey10]; rfl) (by decide) rfl (fun ls hl => ?_)
      refine lv_goto (tgt := 52) C.1 C.2.1 dX3_init_85 (by decide) ?_
      exact ih _ _ _ h _ _ hG ls (lv_sub hl [0, 1, 2] rfl)

set_option maxHeartbeats 4000000 in
set_option maxRecDepth 100000 in
theorem soX3_b {p : Program} {l : Launch} {e : Env} {s : State} {m : MethodId} {args : Array Value} {below : List Frame} {meth : Method} {c : Code} {A : Nat → Prop} {G : fw_G} {a q ci : Nat} {iv : fw_F} {ar : fw_R} {H : Heap} {locs : List Loc} {ls : Array Slot} (x1 : Int32) (x2 : Int32) (x3 : Int32) (x4 : Int32) (x5 : Int32) {Q : fw_F → fw_R → Prop} (C : fw_C p s m args meth c cX3_init 7 none wsX3_init RX3) (hK : fw_K G A s) (hci : ci = 3 ∨ ci = 2 ∨ ci = 8) (hin : meth.name = "<init>") (h : wpX3_b iv ar x1 x2 x3 x4 x5 Q) (hG : fw_H G (nw G a q ci iv ar) A s H locs) (hl : lv_has ls 7 [(0, .ref a), (1, .int x1), (2, .int x2), (3, .int x3), (4, .int x4), (5, .int x5)]) : W p l e rmX3_init s m args below meth c H locs 1 216 (MQ below (va_Qv (fun u : Nat × fw_F × fw_R => Q u.2.1 u.2.2) (fx_B G (fun u => nw G a u.1 ci u.2.1 u.2.2) A) A) args s 1 216 A) (F0 m 13 ls []) := by
  unfold wpX3_b at h
  have in_X2 : ∀ x ∈ wsX20, x ∈ wsX3_init := by decide +kernel
  have in_X3 : ∀ x ∈ wsX30, x ∈ wsX3_init := by decide +kernel
  have in_X8 : ∀ x ∈ wsX80, x ∈ wsX3_init := by decide +kernel
  have k15 := C.2.2.2.2.1 (.fieldLink RX3 15 "KnifeBoard$Knife" "number" "I") (by decide +kernel)
  have k28 := C.2.2.2.2.1 (.fieldLink RX3 28 "KnifeBoard$Knife" "pace" "I") (by decide +kernel)
  have k31 := C.2.2.2.2.1 (.fieldLink RX3 31 "KnifeBoard$Knife" "turn" "I") (by decide +kernel)
  have k34 := C.2.2.2.2.1 (.fieldLink RX3 34 "KnifeBoard$Knife" "band" "I") (by decide +kernel)
  have k37 := C.2.2.2.2.1 (.fieldLink RX3 37 "KnifeBoard$Knife" "width" "I") (by decide +kernel)
  have m19 := C.2.2.2.2.1 (.methodLink RX3 19 Lib.Math.min.name) (by decide +kernel)
  have m25 := C.2.2.2.2.1 (.methodLink RX3 25 Lib.Math.max.name) (by decide +kernel)
  have mc_max : (Cond.code Lib.Math.max.name Lib.Math.max.code 2 (some .int)).before args s = true := C.2.2.2.2.1 _ (by decide +kernel)
  have mc_min : (Cond.code Lib.Math.min.name Lib.Math.min.code 2 (some .int)).before args s = true := C.2.2.2.2.1 _ (by decide +kernel)
  have mi_ := C.2.2.2.2.1 (.initialized "java/lang/Math") (by decide +kernel)
  have ms_max := C.2.2.2.2.1 (.static Lib.Math.max.name) (by decide +kernel)
  have ms_min := C.2.2.2.2.1 (.static Lib.Math.min.name) (by decide +kernel)
  refine lv_aload_n C.1 C.2.1 dX3_init_13 rfl (lv_at hl 0 rfl) ?_
  refine lv_iload_n C.1 C.2.1 dX3_init_14 rfl (lv_at hl 1 rfl) ?_
  obtain ⟨iv1, eiv1⟩ : ∃ z : fw_F, z = va_up iv 0 x1 := ⟨_, rfl⟩
  have h := h iv1 eiv1
  refine nw_p C in_X3 in_X2 in_X8 hK hci hin rfl hG 0 (by decide) k15 rfl dX3_init_15 (fun H locs hG => ?_)
  rw [← eiv1] at hG
  refine lv_aload_n C.1 C.2.1 dX3_init_18 rfl (lv_at hl 0 rfl) ?_
  refine lv_iconst (v := 1) C.1 C.2.1 dX3_init_19 (by decide) ?_
  refine lv_bipush (v := 9) C.1 C.2.1 dX3_init_20 (by decide) ?_
  refine lv_iload_n C.1 C.2.1 dX3_init_22 rfl (lv_at hl 2 rfl) ?_
  refine va_mmin C.1 C.2.1 (by rw [C.2.2.2.2.2.2]; exact hl.1.symm) C.2.2.2.2.2.1 m19 ms_min mi_ mc_min (Nat.le_of_ble_eq_true rfl) (Nat.le_of_ble_eq_true rfl) (Nat.le_of_ble_eq_true rfl) (Nat.le_of_ble_eq_true rfl) dX3_init_23 ?_
  refine va_mmax C.1 C.2.1 (by rw [C.2.2.2.2.2.2]; exact hl.1.symm) C.2.2.2.2.2.1 m25 ms_max mi_ mc_max (Nat.le_of_ble_eq_true rfl) (Nat.le_of_ble_eq_true rfl) (Nat.le_of_ble_eq_true rfl) (Nat.le_of_ble_eq_true rfl) dX3_init_26 ?_
  obtain ⟨iv2, eiv2⟩ : ∃ z : fw_F, z = va_up iv1 1 (if 1 < (if x2 < 9 then x2 else 9) then (if x2 < 9 then x2 else 9) else 1) := ⟨_, rfl⟩
  have h := h iv2 eiv2
  refine nw_p C in_X3 in_X2 in_X8 hK hci hin rfl hG 1 (by decide) k28 rfl dX3_init_29 (fun H locs hG => ?_)
  rw [← eiv2] at hG
  refine lv_aload_n C.1 C.2.1 dX3_init_32 rfl (lv_at hl 0 rfl) ?_
  refine lv_iload_n C.1 C.2.1 dX3_init_33 rfl (lv_at hl 3 rfl) ?_
  obtain ⟨iv3, eiv3⟩ : ∃ z : fw_F, z = va_up iv2 2 x3 := ⟨_, rfl⟩
  have h := h iv3 eiv3
  refine nw_p C in_X3 in_X2 in_X8 hK hci hin rfl hG 2 (by decide) k31 rfl dX3_init_34 (fun H locs hG => ?_)
  rw [← eiv3] at hG
  refine lv_aload_n C.1 C.2.1 dX3_init_37 rfl (lv_at hl 0 rfl) ?_
  refine lv_iload C.1 C.2.1 dX3_init_38 (lv_at hl 4 rfl) ?_
  obtain ⟨iv4, eiv4⟩ : ∃ z : fw_F, z = va_up iv3 3 x4 := ⟨_, rfl⟩
  have h := h iv4 eiv4
  refine nw_p C in_X3 in_X2 in_X8 hK hci hin rfl hG 3 (by decide) k34 rfl dX3_init_40 (fun H locs hG => ?_)
  rw [← eiv4] at hG
  refine lv_aload_n C.1 C.2.1 dX3_init_43 rfl (lv_at hl 0 rfl) ?_
  refine lv_iload C.1 C.2.1 dX3_init_44 (lv_at hl 5 rfl) ?_
  obtain ⟨iv5, eiv5⟩ : ∃ z : fw_F, z = va_up iv4 4 x5 := ⟨_, rfl⟩
  have h := h iv5 eiv5
  refine nw_p C in_X3 in_X2 in_X8 hK hci hin rfl hG 4 (by decide) k37 rfl dX3_init_46 (fun H locs hG => ?_)
  rw [← eiv5] at hG
  refine lv_iconst (v := 0) C.1 C.2.1 dX3_init_49 (by decide) ?_
  refine lv_istore (lv' := [(6, .int 0), (0, .ref a), (1, .int x1), (2, .int x2), (3, .int x3), (4, .int x4), (5, .int x5)]) C.1 C.2.1 dX3_init_50 hl (by decide) rfl (fun ls hl => ?_)
  obtain ⟨ku, h⟩ := h
  refine soX3_init_L52 C hK hci hin ?_ ku _ _ _ h _ _ hG ls (lv_sub hl [0, 1, 6] rfl)
  intro w11 iv12 ar13 h H locs hG ls hl
  exact fx_vret (U := Nat × fw_F × fw_R) (w1 := fun u => nw G a u.1 ci u.2.1 u.2.2) (q, iv12, ar13) C hG h dX3_init_88
set_option maxHeartbeats 4000000 in
set_option maxRecDepth 100000 in
theorem cnX3_init (l : Launch) (G : fw_G) (a ci : Nat) (hci : ci = 3 ∨ ci = 2 ∨ ci = 8) (x1 x2 x3 x4 x5 : Int32) (Q : fw_F → fw_R → Prop) (h : wpX3_init x1 x2 x3 x4 x5 Q) (sz : Nat) : Met l yX3_init wsX3_init rmX3_init (fw_Pc G [(a, .inr (ci, [.int 0, .int 0, .int 0, .int 0, .int 0, .null]))] [.ref a, .int x1, .int x2, .int x3, .int x4, .int x5] sz) (va_Qv (fun u : Nat × fw_F × fw_R => Q u.2.1 u.2.2) (fx_B G (fun u => nw G a u.1 ci u.2.1 u.2.2) (va_A [(a, .inr (ci, [.int 0, .int 0, .int 0, .int 0, .int 0, .null]))] sz)) (va_A [(a, .inr (ci, [.int 0, .int 0, .int 0, .int 0, .int 0, .null]))] sz)) 1 216 (va_A [(a, .inr (ci, [.int 0, .int 0, .int 0, .int 0, .int 0, .null]))] sz) := by
  refine fx_start (cc := cX3_init) (nL := 7) (rt := none) (Qc := fun A => va_Qv (fun u : Nat × fw_F × fw_R => Q u.2.1 u.2.2) (fx_B G (fun u => nw G a u.1 ci u.2.1 u.2.2) A) A) (by decide) rfl (Nat.le_of_ble_eq_true rfl) ?_ sz
  intro p e s m below meth c A ls H locs C hin hK hG hl
  obtain ⟨args, ea⟩ : ∃ z : Array Value, z = ([.ref a, .int x1, .int x2, .int x3, .int x4, .int x5] : List Value).toArray := ⟨_, rfl⟩
  rw [← ea] at C ⊢
  have C : fw_C p s m args meth c cX3_init 7 none wsX3_init RX3 := C
  have hin : meth.name = "<init>" := hin
  have hl : lv_has ls 7 [(0, .ref a), (1, .int x1), (2, .int x2), (3, .int x3), (4, .int x4), (5, .int x5)] := hl
  have in_X3 : ∀ x ∈ wsX30, x ∈ wsX3_init := by decide +kernel
  have in_X2 : ∀ x ∈ wsX20, x ∈ wsX3_init := by decide +kernel
  have in_X8 : ∀ x ∈ wsX80, x ∈ wsX3_init := by decide +kernel
  have oi3 : (Cond.code objectInit ⟨#[0xb1]⟩ 1 none).before args s = true := C.2.2.2.2.1 _ (by decide +kernel)
  have k9 := C.2.2.2.2.1 (.fieldLink RX3 9 "KnifeBoard$Knife" "cameAt" "[I") (by decide +kernel)
  refine lv_aload_n C.1 C.2.1 dX3_init_0 rfl (lv_at hl 0 rfl) ?_
  refine fx_obj C hl (C.2.2.2.2.1 (.methodLink RX3 3 objectInit) (by decide +kernel)) (C.2.2.2.2.1 (.instanceMethod objectInit) (by decide +kernel)) oi3 dX3_init_1 (Nat.le_of_ble_eq_true rfl) (Nat.le_of_ble_eq_true rfl) ?_
  refine lv_aload_n C.1 C.2.1 dX3_init_4 rfl (lv_at hl 0 rfl) ?_
  refine lv_sipush (v := 216) C.1 C.2.1 dX3_init_5 (by decide) ?_
  refine fx_newI (N := 216) C (C.2.2.2.2.1 (.arrayClass .int) (by decide +kernel)) hK hG (by decide) (by decide) (by decide) (Nat.le_of_ble_eq_true rfl) (Nat.le_of_ble_eq_true rfl) dX3_init_8 (fun q H hG => ?_)
  have hG : fw_H G [(a, .inr (ci, [.int 0, .int 0, .int 0, .int 0, .int 0, .null])), (q, .inl (G.2.1.1, 216, .inl (fun _ => 0)))] A s H locs := hG
  refine W.widen (k := 1) (n := 216) (by decide) (by decide) ?_
  have kk : ∀ (H1 : Heap) (locs1 : List Loc), fw_H G (nw G a q ci (fun _ => 0) (fun _ _ => 0)) A s H1 locs1 → W p l e rmX3_init s m args below meth c H1 locs1 1 216 (MQ below (va_Qv (fun u : Nat × fw_F × fw_R => Q u.2.1 u.2.2) (fx_B G (fun u => nw G a u.1 ci u.2.1 u.2.2) A) A) args s 1 216 A) (F0 m (10 + 3) ls []) := fun H1 locs1 hG => soX3_b x1 x2 x3 x4 x5 C hK hci hin h hG hl
  rcases hci with rfl | rfl | rfl
  · exact fx_putF (ty := .array .int) (v := .ref q) C in_X3 tyX3 tyX3_ok nmX3 hK hG 0 rfl rfl 5 (by decide) k9 rfl rfl hin rfl (by decide +kernel) rfl rfl (by decide) dX3_init_10 (fun H1 locs1 hG => kk H1 locs1 hG)
  · exact fx_putF (ty := .array .int) (v := .ref q) C in_X2 tyX2 tyX2_ok nmX2 hK hG 0 rfl rfl 5 (by decide) k9 rfl rfl hin rfl (by decide +kernel) rfl rfl (by decide) dX3_init_10 (fun H1 locs1 hG => kk H1 locs1 hG)
  · exact fx_putF (ty := .array .int) (v := .ref q) C in_X8 tyX8 tyX8_ok nmX8 hK hG 0 rfl rfl 5 (by decide) k9 rfl rfl hin rfl (by decide +kernel) rfl rfl (by decide) dX3_init_10 (fun H1 locs1 hG => kk H1 locs1 hG)
def rmX2_init : Room := { frames := 3, cells := 1, slots := 216, locals := 70 }
def wpX2_init (x1 x2 x3 x4 : Int32) (Q : fw_F → fw_R → Prop) : Prop := wpX3_init x1 x2 x3 x4 (x4 + 1) Q
set_option maxHeartbeats 4000000 in
set_option maxRecDepth 100000 in
theorem cnX2_init (l : Launch) (G : fw_G) (a ci : Nat) (hci : ci = 2 ∨ ci = 8) (x1 x2 x3 x4 : Int32) (Q : fw_F → fw_R → Prop) (h : wpX2_init x1 x2 x3 x4 Q) (sz : Nat) : Met l yX2_init wsX2_init rmX2_init (fw_Pc G [(a, .inr (ci, [.int 0, .int 0, .int 0, .int 0, .int 0, .null]))] [.ref a, .int x1, .int x2, .int x3, .int x4] sz) (va_Qv (fun u : Nat × fw_F × fw_R => Q u.2.1 u.2.2) (fx_B G (fun u => nw G a u.1 ci u.2.1 u.2.2) (va_A [(a, .inr (ci, [.int 0, .int 0, .int 0, .int 0, .int 0, .null]))] sz)) (va_A [(a, .inr (ci, [.int 0, .int 0, .int 0, .int 0, .int 0, .null]))] sz)) 1 216 (va_A [(a, .inr (ci, [.int 0, .int 0, .int 0, .int 0, .int 0, .null]))] sz) := by
  refine fx_start (cc := cX2_init) (nL := 5) (rt := none) (Qc := fun A => va_Qv (fun u : Nat × fw_F × fw_R => Q u.2.1 u.2.2) (fx_B G (fun u => nw G a u.1 ci u.2.1 u.2.2) A) A) (by decide) rfl (Nat.le_of_ble_eq_true rfl) ?_ sz
  intro p e s m below meth c A ls H locs C hin hK hG hl
  obtain ⟨args, ea⟩ : ∃ z : Array Value, z = ([.ref a, .int x1, .int x2, .int x3, .int x4] : List Value).toArray := ⟨_, rfl⟩
  rw [← ea] at C ⊢
  have C : fw_C p s m args meth c cX2_init 5 none wsX2_init RX2 := C
  have hl : lv_has ls 5 [(0, .ref a), (1, .int x1), (2, .int x2), (3, .int x3), (4, .int x4)] := hl
  have hG : fw_H G ([] ++ [(a, .inr (ci, [.int 0, .int 0, .int 0, .int 0, .int 0, .null]))]) A s H locs := hG
  refine lv_aload_n C.1 C.2.1 dX2_init_0 rfl (lv_at hl 0 rfl) ?_
  refine lv_iload_n C.1 C.2.1 dX2_init_1 rfl (lv_at hl 1 rfl) ?_
  refine lv_iload_n C.1 C.2.1 dX2_init_2 rfl (lv_at hl 2 rfl) ?_
  refine lv_iload_n C.1 C.2.1 dX2_init_3 rfl (lv_at hl 3 rfl) ?_
  refine lv_iload C.1 C.2.1 dX2_init_4 (lv_at hl 4 rfl) ?_
  refine lv_iload C.1 C.2.1 dX2_init_6 (lv_at hl 4 rfl) ?_
  refine lv_iconst (v := 1) C.1 C.2.1 dX2_init_8 (by decide) ?_
  refine lv_iadd C.1 C.2.1 dX2_init_9 ?_
  refine fx_callv (wr := []) (w0 := [(a, .inr (ci, [.int 0, .int 0, .int 0, .int 0, .int 0, .null]))]) (va_runI (As := [.int x1, .int x2, .int x3, .int x4, .int (x4 + 1)]) (rest := []) ⟨C.1, C.2.1, C.2.2.2.2.2.2, C.2.2.2.2.2.1, C.2.2.2.2.1⟩ (cnX3_init l G a ci (by rcases hci with h | h; exact Or.inr (Or.inl h); exact Or.inr (Or.inr h)) x1 x2 x3 x4 (x4 + 1) Q h H.size) (cwI 5 C.2.2.2.2.1 gX2_init_X3_init rfl rfl rfl (C.2.2.2.2.1 (.initialized RX3) (by decide +kernel)) (C.2.2.2.2.1 (.methodLink RX2 1 yX3_init) (by decide +kernel)) (C.2.2.2.2.1 (.instanceMethod yX3_init) (by decide +kernel)) rfl (by decide +kernel) ⟨Nat.le_of_ble_eq_true rfl, Nat.le_of_ble_eq_true rfl⟩) (fw_preS (fx_sub hG) hK) rfl rfl hl.1 rfl (lv_room (Nat.le_of_ble_eq_true rfl)) dX2_init_10 ⟨Nat.le_of_ble_eq_true rfl, Nat.le_of_ble_eq_true rfl⟩) hG hK (fun u H locs h hG => ?_)
  refine W.widen (k := 1) (n := 216) (by decide) (by decide) ?_
  exact fx_vret (U := Nat × fw_F × fw_R) (w1 := fun u => nw G a u.1 ci u.2.1 u.2.2) u C hG h dX2_init_13
def rmX8_init : Room := { frames := 4, cells := 1, slots := 216, locals := 94 }
def wpX8_init (x1 x2 x3 x4 : Int32) (Q : fw_F → fw_R → Prop) : Prop := wpX2_init x1 x2 x3 x4 Q
set_option maxHeartbeats 4000000 in
set_option maxRecDepth 100000 in
theorem cnX8_init (l : Launch) (G : fw_G) (a : Nat) (x1 x2 x3 x4 : Int32) (Q : fw_F → fw_R → Prop) (h : wpX8_init x1 x2 x3 x4 Q) (sz : Nat) : Met l yX8_init wsX8_init rmX8_init (fw_Pc G [(a, .inr (8, [.int 0, .int 0, .int 0, .int 0, .int 0, .null]))] [.ref a, .int x1, .int x2, .int x3, .int x4] sz) (va_Qv (fun u : Nat × fw_F × fw_R => Q u.2.1 u.2.2) (fx_B G (fun u => nw G a u.1 8 u.2.1 u.2.2) (va_A [(a, .inr (8, [.int 0, .int 0, .int 0, .int 0, .int 0, .null]))] sz)) (va_A [(a, .inr (8, [.int 0, .int 0, .int 0, .int 0, .int 0, .null]))] sz)) 1 216 (va_A [(a, .inr (8, [.int 0, .int 0, .int 0, .int 0, .int 0, .null]))] sz) := by
  refine fx_start (cc := cX8_init) (nL := 5) (rt := none) (Qc := fun A => va_Qv (fun u : Nat × fw_F × fw_R => Q u.2.1 u.2.2) (fx_B G (fun u => nw G a u.1 8 u.2.1 u.2.2) A) A) (by decide) rfl (Nat.le_of_ble_eq_true rfl) ?_ sz
  intro p e s m below meth c A ls H locs C hin hK hG hl
  obtain ⟨args, ea⟩ : ∃ z : Array Value, z = ([.ref a, .int x1, .int x2, .int x3, .int x4] : List Value).toArray := ⟨_, rfl⟩
  rw [← ea] at C ⊢
  have C : fw_C p s m args meth c cX8_init 5 none wsX8_init RX8 := C
  have hl : lv_has ls 5 [(0, .ref a), (1, .int x1), (2, .int x2), (3, .int x3), (4, .int x4)] := hl
  have hG : fw_H G ([] ++ [(a, .inr (8, [.int 0, .int 0, .int 0, .int 0, .int 0, .null]))]) A s H locs := hG
  refine lv_aload_n C.1 C.2.1 dX8_init_0 rfl (lv_at hl 0 rfl) ?_
  refine lv_iload_n C.1 C.2.1 dX8_init_1 rfl (lv_at hl 1 rfl) ?_
  refine lv_iload_n C.1 C.2.1 dX8_init_2 rfl (lv_at hl 2 rfl) ?_
  refine lv_iload_n C.1 C.2.1 dX8_init_3 rfl (lv_at hl 3 rfl) ?_
  refine lv_iload C.1 C.2.1 dX8_init_4 (lv_at hl 4 rfl) ?_
  refine fx_callv (wr := []) (w0 := [(a, .inr (8, [.int 0, .int 0, .int 0, .int 0, .int 0, .null]))]) (va_runI (As := [.int x1, .int x2, .int x3, .int x4]) (rest := []) ⟨C.1, C.2.1, C.2.2.2.2.2.2, C.2.2.2.2.2.1, C.2.2.2.2.1⟩ (cnX2_init l G a 8 (Or.inr rfl) x1 x2 x3 x4 Q h H.size) (cwI 4 C.2.2.2.2.1 gX8_init_X2_init rfl rfl rfl (C.2.2.2.2.1 (.initialized RX2) (by decide +kernel)) (C.2.2.2.2.1 (.methodLink RX8 3 yX2_init) (by decide +kernel)) (C.2.2.2.2.1 (.instanceMethod yX2_init) (by decide +kernel)) rfl (by decide +kernel) ⟨Nat.le_of_ble_eq_true rfl, Nat.le_of_ble_eq_true rfl⟩) (fw_preS (fx_sub hG) hK) rfl rfl hl.1 rfl (lv_room (Nat.le_of_ble_eq_true rfl)) dX8_init_6 ⟨Nat.le_of_ble_eq_true rfl, Nat.le_of_ble_eq_true rfl⟩) hG hK (fun u H locs h hG => ?_)
  refine W.widen (k := 1) (n := 216) (by decide) (by decide) ?_
  exact fx_vret (U := Nat × fw_F × fw_R) (w1 := fun u => nw G a u.1 8 u.2.1 u.2.2) u C hG h dX8_init_9
