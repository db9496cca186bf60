/-! a knife more -/
def kt_add (kt : kw_T) (c : Nat) (iv9 : fw_F) (ar9 : fw_R) : kw_T := (kt.1 + 1, va_up kt.2.1 kt.1 c, va_up kt.2.2.1 kt.1 iv9, va_up kt.2.2.2 kt.1 (ar9 0))
def ad_add (ad : Nat → Nat) (n a q : Nat) : Nat → Nat := va_up (va_up ad (28 + 2 * n) a) (29 + 2 * n) q
theorem ad_add_lo {ad : Nat → Nat} {n a q k : Nat} (h : k < 28 + 2 * n) : ad_add ad n a q k = ad k := by
  unfold ad_add va_up
  rw [if_neg (by omega), if_neg (by omega)]
theorem ad_add_0 {ad : Nat → Nat} {n a q : Nat} : ad_add ad n a q (28 + 2 * n) = a := by
  unfold ad_add va_up
  rw [if_neg (by omega), if_pos rfl]
theorem ad_add_1 {ad : Nat → Nat} {n a q : Nat} : ad_add ad n a q (29 + 2 * n) = q := by
  unfold ad_add va_up
  rw [if_pos rfl]
theorem kw_q_add {ad : Nat → Nat} {n a q : Nat} : va_up (kw_q ad n) n (some a) = kw_q (ad_add ad n a q) (n + 1) := by
  funext j
  unfold kw_q
  by_cases h : j = n
  · subst h
    rw [if_pos (by omega), ad_add_0]
    unfold va_up
    rw [if_pos rfl]
  · by_cases h2 : j < n
    · rw [if_pos (by omega), ad_add_lo (by omega)]
      unfold va_up
      rw [if_neg h]
      exact if_pos h2
    · rw [if_neg (by omega)]
      unfold va_up
      rw [if_neg h]
      exact if_neg h2
theorem kw_k_add {G : fw_G} {ad : Nat → Nat} {kt : kw_T} {a q c : Nat} {iv9 : fw_F} {ar9 : fw_R} : kw_k G (ad_add ad kt.1 a q) (kt_add kt c iv9 ar9) kt.1 = nw G a q (kw_c c) iv9 ar9 := by
  unfold kw_k kw_kf nw nw_f
  rw [ad_add_0, ad_add_1]
  unfold kt_add
  simp only [va_up_self]
theorem kw_k_lo {G : fw_G} {ad : Nat → Nat} {kt : kw_T} {a q c i : Nat} {iv9 : fw_F} {ar9 : fw_R} (h : i < kt.1) : kw_k G (ad_add ad kt.1 a q) (kt_add kt c iv9 ar9) i = kw_k G ad kt i := by
  unfold kw_k kw_kf
  rw [ad_add_lo (by omega), ad_add_lo (by omega)]
  unfold kt_add
  have hne : i ≠ kt.1 := by omega
  simp only [va_up, if_neg hne]
theorem kw_pool_add {G : fw_G} {ad : Nat → Nat} {kt : kw_T} {a q c : Nat} {iv9 : fw_F} {ar9 : fw_R} : (List.range (kt.1 + 1)).flatMap (kw_k G (ad_add ad kt.1 a q) (kt_add kt c iv9 ar9)) = (List.range kt.1).flatMap (kw_k G ad kt) ++ nw G a q (kw_c c) iv9 ar9 := by
  rw [List.range_succ, List.flatMap_append]
  congr 1
  · rw [List.flatMap_def, List.flatMap_def]
    congr 1
    exact List.map_congr_left (fun i hi => kw_k_lo (List.mem_range.mp hi))
  · rw [List.flatMap_cons, List.flatMap_nil, List.append_nil, kw_k_add]
def kw_fx (G : fw_G) (ad : Nat → Nat) (f1 f16 : Nat → Option Nat) (iv : fw_F) (ar : fw_R) : va_W := [(ad 0, .inr (9, [.ref (ad 1), .int (iv 0), .ref (ad 2), .ref (ad 4), .ref (ad 6), .ref (ad 10), .ref (ad 16), .ref (ad 25), .ref (ad 26), .ref (ad 27), .int (iv 1)])), (ad 1, .inl (G.2.1.2.2.1, 6, .inr (.inr (.inr (.inr f1))))), (ad 2, .inr (1, [.ref (ad 3), .int (iv 2), .int (iv 3)])), (ad 3, .inl (G.2.1.1, 15, .inl (ar 3))), (ad 4, .inr (0, [.ref (ad 5), .int (iv 4), .int (iv 5)])), (ad 5, .inl (G.2.1.1, 36, .inl (ar 5))), (ad 6, .inr (5, [.ref (ad 7), .ref (ad 8), .ref (ad 9), .int (iv 6)])), (ad 7, .inl (G.2.1.1, 6, .inl (ar 7))), (ad 8, .inl (G.2.1.1, 36, .inl (ar 8))), (ad 9, .inl (G.2.1.1, 64, .inl (ar 9))), (ad 10, .inr (4, [.ref (ad 11), .ref (ad 12), .int (iv 7), .ref (ad 13), .ref (ad 14), .ref (ad 15), .int (iv 8)])), (ad 11, .inl (G.2.1.1, 10, .inl (ar 11))), (ad 12, .inl (G.2.1.1, 10, .inl (ar 12))), (ad 13, .inl (G.2.1.1, 576, .inl (ar 13))), (ad 14, .inl (G.2.1.1, 576, .inl (ar 14))), (ad 15, .inl (G.2.1.1, 4, .inl (ar 15))), (ad 16, .inl (G.2.1.2.2.2, 4, .inr (.inr (.inr (.inr f16))))), (ad 17, .inr (6, [.ref (ad 21), .int (iv 9), .int (iv 13), .int (iv 17)])), (ad 18, .inr (6, [.ref (ad 22), .int (iv 10), .int (iv 14), .int (iv 18)])), (ad 19, .inr (6, [.ref (ad 23), .int (iv 11), .int (iv 15), .int (iv 19)])), (ad 20, .inr (6, [.ref (ad 24), .int (iv 12), .int (iv 16), .int (iv 20)])), (ad 21, .inl (G.2.1.1, 80, .inl (ar 21))), (ad 22, .inl (G.2.1.1, 80, .inl (ar 22))), (ad 23, .inl (G.2.1.1, 80, .inl (ar 23))), (ad 24, .inl (G.2.1.1, 80, .inl (ar 24))), (ad 25, .inl (G.2.1.1, 80, .inl (ar 25))), (ad 26, .inl (G.2.1.2.1, 8, .inl (ar 26))), (ad 27, .inr (7, [.int (iv 21)]))]
theorem kw_is {G : fw_G} {ad : Nat → Nat} {kt : kw_T} {iv : fw_F} {ar : fw_R} : kw G ad kt iv ar = kw_fx G ad (kw_q ad kt.1) (fun j => some (ad (17 + j))) iv ar ++ (List.range kt.1).flatMap (kw_k G ad kt) := rfl
theorem kw_fx_add {G : fw_G} {ad : Nat → Nat} {n a q : Nat} {f1 f16 : Nat → Option Nat} {iv : fw_F} {ar : fw_R} : kw_fx G (ad_add ad n a q) f1 f16 iv ar = kw_fx G ad f1 f16 iv ar := by
  unfold kw_fx
  rw [@ad_add_lo ad n a q 0 (by omega), @ad_add_lo ad n a q 1 (by omega), @ad_add_lo ad n a q 2 (by omega), @ad_add_lo ad n a q 3 (by omega), @ad_add_lo ad n a q 4 (by omega), @ad_add_lo ad n a q 5 (by omega), @ad_add_lo ad n a q 6 (by omega), @ad_add_lo ad n a q 7 (by omega), @ad_add_lo ad n a q 8 (by omega), @ad_add_lo ad n a q 9 (by omega), @ad_add_lo ad n a q 10 (by omega), @ad_add_lo ad n a q 11 (by omega), @ad_add_lo ad n a q 12 (by omega), @ad_add_lo ad n a q 13 (by omega), @ad_add_lo ad n a q 14 (by omega), @ad_add_lo ad n a q 15 (by omega), @ad_add_lo ad n a q 16 (by omega), @ad_add_lo ad n a q 17 (by omega), @ad_add_lo ad n a q 18 (by omega), @ad_add_lo ad n a q 19 (by omega), @ad_add_lo ad n a q 20 (by omega), @ad_add_lo ad n a q 21 (by omega), @ad_add_lo ad n a q 22 (by omega), @ad_add_lo ad n a q 23 (by omega), @ad_add_lo ad n a q 24 (by omega), @ad_add_lo ad n a q 25 (by omega), @ad_add_lo ad n a q 26 (by omega), @ad_add_lo ad n a q 27 (by omega)]
theorem kw_fx_1 {G : fw_G} {ad : Nat → Nat} {f1 f16 g : Nat → Option Nat} {iv : fw_F} {ar : fw_R} {t : va_W} : (kw_fx G ad f1 f16 iv ar ++ t).set 1 (ad 1, .inl (G.2.1.2.2.1, 6, .inr (.inr (.inr (.inr g))))) = kw_fx G ad g f16 iv ar ++ t := rfl
theorem kw_fx_16 {G : fw_G} {ad : Nat → Nat} {f1 f16 g : Nat → Option Nat} {iv : fw_F} {ar : fw_R} {t : va_W} : (kw_fx G ad f1 f16 iv ar ++ t).set 16 (ad 16, .inl (G.2.1.2.2.2, 4, .inr (.inr (.inr (.inr g))))) = kw_fx G ad f1 g iv ar ++ t := rfl
/-- the new knife joins the others -/
theorem kw_grow {G : fw_G} {ad : Nat → Nat} {kt : kw_T} {iv : fw_F} {ar : fw_R} {a q c : Nat} {iv9 : fw_F} {ar9 : fw_R} {A : Nat → Prop} {s : State} {H : Heap} {locs : List Loc} (hG : fw_H G (kw_fx G ad (va_up (kw_q ad kt.1) kt.1 (some a)) (fun j => some (ad (17 + j))) iv ar ++ ((List.range kt.1).flatMap (kw_k G ad kt) ++ nw G a q (kw_c c) iv9 ar9)) A s H locs) : fw_H G (kw G (ad_add ad kt.1 a q) (kt_add kt c iv9 ar9) iv ar) A s H locs := by
  have h := fx_reset hG (p := 16) (e := .inl (G.2.1.2.2.2, 4, .inr (.inr (.inr (.inr (fun j => some (ad_add ad kt.1 a q (17 + j)))))))) rfl (fx_refs (fun j hj => by rw [ad_add_lo (by omega)]))
  rw [kw_fx_16, kw_q_add (q := q)] at h
  rw [kw_is, kw_fx_add, show (kt_add kt c iv9 ar9).1 = kt.1 + 1 from rfl, kw_pool_add]
  exact h

def rmX9_knife : Room := { frames := 5, cells := 2, slots := 222, locals := 118 }
theorem kw_last {G : fw_G} {ad : Nat → Nat} {kt : kw_T} {iv : fw_F} {ar : fw_R} {f1 f16 : Nat → Option Nat} {a q ci : Nat} {iv9 : fw_F} {ar9 : fw_R} : (kw_fx G ad f1 f16 iv ar ++ ((List.range kt.1).flatMap (kw_k G ad kt) ++ nw G a q ci iv9 ar9))[28 + 2 * kt.1]? = some (a, .inr (ci, nw_f q iv9)) := by
  have hl : ∀ n : Nat, ((List.range n).flatMap (kw_k G ad kt)).length = 2 * n := by
    intro n
    induction n with
    | zero => rfl
    | succ n ih => rw [List.range_succ, List.flatMap_append, List.length_append, ih]; simp [kw_k]; omega
  have h28 : (kw_fx G ad f1 f16 iv ar).length = 28 := rfl
  rw [List.getElem?_append_right (by rw [h28]; omega), h28, List.getElem?_append_right (by rw [hl]; omega), hl, show 28 + 2 * kt.1 - 28 - 2 * kt.1 = 0 by omega]
  rfl
theorem kn_any3 {G : fw_G} {A : Nat → Prop} {s : State} {H : Heap} {a : Nat} (hK : fw_K G A s) (hr : ∃ cell : Cell, H[a]? = some cell ∧ cell.vm.isStatics = false ∧ s.vm.findClass "KnifeBoard$Knife" = some cell.cls) : va_Any "KnifeBoard$Knife" s H a := by
  obtain ⟨cell, h1, h2, h3⟩ := hr
  obtain ⟨kC, hkC, -⟩ := Vm.findClass_spec h3
  have hc := (hK.1.1 3 _ rfl).2
  have e : G.1.1 3 = cell.cls := Option.some.inj (hc.1.symm.trans h3)
  exact ⟨cell, h1, h2, ⟨kC, hkC⟩, fun comp h => by
    have e2 : comp = cell.cls := Option.some.inj (h.symm.trans h3)
    rw [e2, ← e]
    exact va_assign hc⟩
theorem kn_anyC {G : fw_G} {A : Nat → Prop} {s : State} {H : Heap} {a : Nat} {C : String} (hK : fw_K G A s) (hcast : va_Nw (.castable C "KnifeBoard$Knife") s) (hr : ∃ cell : Cell, H[a]? = some cell ∧ cell.vm.isStatics = false ∧ s.vm.findClass C = some cell.cls) : va_Any "KnifeBoard$Knife" s H a := by
  obtain ⟨cell, h1, h2, h3⟩ := hr
  obtain ⟨kC, hkC, -⟩ := Vm.findClass_spec h3
  obtain ⟨c0, t0, f1, f2, f3⟩ := Cond.castable_spec (va_Nw.use (A := #[]) rfl hcast)
  cases h3.symm.trans f1
  exact ⟨cell, h1, h2, ⟨kC, hkC⟩, fun comp h => by
    cases h.symm.trans f2
    exact f3⟩
def wpX9_knife_T (kt : kw_T) (iv : fw_F) (ar : fw_R) (x5 : Int32) (Q : Int32 → kw_T → fw_F → fw_R → Prop) : Prop := ∀ iv1 : fw_F, iv1 = va_up iv 0 ((iv 0) + 1) → (Q x5 kt iv1 ar)
set_option maxHeartbeats 4000000 in
set_option maxRecDepth 100000 in
theorem soX9_knife_T {p : Program} {l : Launch} {e : Env} {s : State} {m : MethodId} {args : Array Value} {below : List Frame} {meth : Method} {c : Code} {A : Nat → Prop} {G : fw_G} {ad : Nat → Nat} {kt : kw_T} {iv : fw_F} {ar : fw_R} {H : Heap} {locs : List Loc} {ls : Array Slot} {a0 : Nat} (x5 : Int32) {Q : Int32 → kw_T → fw_F → fw_R → Prop} (C : fw_C p s m args meth c cX9_knife 6 (some .int) wsX9_knife RX9) (hK : fw_K G A s) (h0 : ad 0 = a0) (h : wpX9_knife_T kt iv ar x5 Q) (hG : fw_H G (kw G ad kt iv ar) A s H locs) (hl : lv_has ls 6 [(5, .int x5), (0, .ref (ad 0))]) : W p l e rmX9_knife s m args below meth c H locs 2 222 (MQ below (va_Qi (fun r (u : (Nat → Nat) × kw_T × fw_F × fw_R) => Q r u.2.1 u.2.2.1 u.2.2.2 ∧ u.1 0 = a0) (fx_B G (fun u => kw G u.1 u.2.1 u.2.2.1 u.2.2.2) A) A) args s 2 222 A) (F0 m 140 ls []) := by
  unfold wpX9_knife_T at h
  have in_X9 : ∀ x ∈ wsX90, x ∈ wsX9_knife := by decide +kernel
  have k17 := C.2.2.2.2.1 (.fieldLink RX9 17 "KnifeBoard" "knifeCount" "I") (by decide +kernel)
  refine lv_aload_n C.1 C.2.1 dX9_knife_140 rfl (lv_at hl 1 rfl) ?_
  refine lv_dup C.1 C.2.1 dX9_knife_141 rfl ?_
  refine fw_get (w := (kw G ad kt)) C in_X9 hK hG 0 kw_o9 rfl 1 (by decide) k17 rfl rfl dX9_knife_142 ?_
  refine lv_iconst (v := 1) C.1 C.2.1 dX9_knife_145 (by decide) ?_
  refine lv_iadd C.1 C.2.1 dX9_knife_146 ?_
  obtain ⟨iv1, eiv1⟩ : ∃ z : fw_F, z = va_up iv 0 ((iv 0) + 1) := ⟨_, rfl⟩
  have h := h iv1 eiv1
  refine fw_put (w := (kw G ad kt)) C in_X9 tyX9 tyX9_ok nmX9 hK hG 0 kw_o9 rfl 1 (by decide) k17 rfl rfl (ty := .int) (v := .int ((iv 0) + 1)) (by decide +kernel) rfl rfl (by first | decide | exact Nat.le_of_ble_eq_true rfl) (iv1 := iv1) (by rw [eiv1]; exact kw_p9_knifeCount) dX9_knife_147 (fun H locs hG => ?_)
  refine lv_iload C.1 C.2.1 dX9_knife_150 (lv_at hl 0 rfl) ?_
  exact fx_iret (U := (Nat → Nat) × kw_T × fw_F × fw_R) (w1 := fun u => kw G u.1 u.2.1 u.2.2.1 u.2.2.2) (ad, kt, iv1, ar) C hG ⟨h, h0⟩ dX9_knife_152
def wpX9_knife (kt : kw_T) (iv : fw_F) (ar : fw_R) (x1 x2 x3 x4 : Int32) (Q : Int32 → kw_T → fw_F → fw_R → Prop) : Prop := wpX9_within x1 0 2 (fun (r1 : Int32) => (r1 = 0 → (Q (-2) kt iv ar)) ∧ (¬ r1 = 0 → (wpX9_within x2 1 9 (fun (r3 : Int32) => (¬ r3 = 0 → (wpX9_within x3 1 24 (fun (r5 : Int32) => (r5 = 0 → (Q (-2) kt iv ar)) ∧ (¬ r5 = 0 → (wpX9_within x4 0 5 (fun (r7 : Int32) => (¬ r7 = 0 → (((iv 0) < 6 → (∀ y10 : Int32, y10 = (iv 0) → ((¬ x1 = 0 → ((¬ x1 = 1 → (wpX8_init y10 x2 x3 x4 (fun (iv9 : fw_F) (ar9 : fw_R) => vp_in y10 6 ∧ y10.toNatClampNeg = kt.1 ∧ Q y10 (kt_add kt 2 iv9 ar9) (va_up iv 0 (iv 0 + 1)) ar))) ∧ (x1 = 1 → (wpX2_init y10 x2 x3 x4 (fun (iv9 : fw_F) (ar9 : fw_R) => vp_in y10 6 ∧ y10.toNatClampNeg = kt.1 ∧ Q y10 (kt_add kt 1 iv9 ar9) (va_up iv 0 (iv 0 + 1)) ar))))) ∧ (x1 = 0 → (wpX3_init y10 x2 x3 x4 x4 (fun (iv9 : fw_F) (ar9 : fw_R) => vp_in y10 6 ∧ y10.toNatClampNeg = kt.1 ∧ Q y10 (kt_add kt 0 iv9 ar9) (va_up iv 0 (iv 0 + 1)) ar)))))) ∧ (¬ (iv 0) < 6 → (Q (-4) kt iv ar)))) ∧ (r7 = 0 → (Q (-2) kt iv ar)))))))) ∧ (r3 = 0 → (Q (-2) kt iv ar))))))
set_option maxHeartbeats 8000000 in
set_option maxRecDepth 100000 in
theorem soX9_knife (l : Launch) (G : fw_G) (ad : Nat → Nat) (kt : kw_T) (iv : fw_F) (ar : fw_R) (x1 x2 x3 x4 : Int32) (Q : Int32 → kw_T → fw_F → fw_R → Prop) (h : wpX9_knife kt iv ar x1 x2 x3 x4 Q) (sz : Nat) : Met l yX9_knife wsX9_knife rmX9_knife (fw_Pc G (kw G ad kt iv ar) [.ref (ad 0), .int x1, .int x2, .int x3, .int x4] sz) (va_Qi (fun r (u : (Nat → Nat) × kw_T × fw_F × fw_R) => Q r u.2.1 u.2.2.1 u.2.2.2 ∧ u.1 0 = ad 0) (fx_B G (fun u => kw G u.1 u.2.1 u.2.2.1 u.2.2.2) (va_A (kw G ad kt iv ar) sz)) (va_A (kw G ad kt iv ar) sz)) 2 222 (va_A (kw G ad kt iv ar) sz) := by
  refine fx_start (cc := cX9_knife) (nL := 6) (rt := some .int) (Qc := fun A => va_Qi (fun r (u : (Nat → Nat) × kw_T × fw_F × fw_R) => Q r u.2.1 u.2.2.1 u.2.2.2 ∧ u.1 0 = ad 0) (fx_B G (fun u => kw G u.1 u.2.1 u.2.2.1 u.2.2.2) A) A) (by decide) rfl (Nat.le_of_ble_eq_true rfl) ?_ sz
  intro p e s m below meth c A ls H locs C hin hK hG hl
  obtain ⟨args, ea⟩ : ∃ z : Array Value, z = ([.ref (ad 0), .int x1, .int x2, .int x3, .int x4] : List Value).toArray := ⟨_, rfl⟩
  rw [← ea] at C ⊢
  have C : fw_C p s m args meth c cX9_knife 6 (some .int) wsX9_knife RX9 := C
  have hl : lv_has ls 6 [(0, .ref (ad 0)), (1, .int x1), (2, .int x2), (3, .int x3), (4, .int x4)] := hl
  have h0 : ad 0 = ad 0 := rfl
  unfold wpX9_knife at h
  have cl11 := C.2.2.2.2.1 (.classLink RX9 11 RX3) (by decide +kernel)
  have cl81 := C.2.2.2.2.1 (.classLink RX9 81 RX2) (by decide +kernel)
  have cl86 := C.2.2.2.2.1 (.classLink RX9 86 RX8) (by decide +kernel)
  have in_X2 : ∀ x ∈ wsX20, x ∈ wsX9_knife := by decide +kernel
  have in_X3 : ∀ x ∈ wsX30, x ∈ wsX9_knife := by decide +kernel
  have in_X8 : ∀ x ∈ wsX80, x ∈ wsX9_knife := by decide +kernel
  have in_X9 : ∀ x ∈ wsX90, x ∈ wsX9_knife := by decide +kernel
  have isX2 := C.2.2.2.2.1 (.instantiable RX2 6) (by decide +kernel)
  have isX3 := C.2.2.2.2.1 (.instantiable RX3 6) (by decide +kernel)
  have isX8 := C.2.2.2.2.1 (.instantiable RX8 6) (by decide +kernel)
  have itX2 := C.2.2.2.2.1 (.initialized RX2) (by decide +kernel)
  have itX3 := C.2.2.2.2.1 (.initialized RX3) (by decide +kernel)
  have itX8 := C.2.2.2.2.1 (.initialized RX8) (by decide +kernel)
  have k13 := C.2.2.2.2.1 (.fieldLink RX9 13 "KnifeBoard" "knives" "[LKnifeBoard$Knife;") (by decide +kernel)
  have k17 := C.2.2.2.2.1 (.fieldLink RX9 17 "KnifeBoard" "knifeCount" "I") (by decide +kernel)
  refine lv_iload_n C.1 C.2.1 dX9_knife_0 rfl (lv_at hl 1 rfl) ?_
  refine lv_iconst (v := 0) C.1 C.2.1 dX9_knife_1 (by decide) ?_
  refine lv_iconst (v := 2) C.1 C.2.1 dX9_knife_2 (by decide) ?_
  refine fw_pcalli (va_runS (As := [.int x1, .int 0, .int 2]) (rest := []) ⟨C.1, C.2.1, C.2.2.2.2.2.2, C.2.2.2.2.2.1, C.2.2.2.2.1⟩ (soX9_within l x1 0 2 _ h H.size) (va_cwS 3 C.2.2.2.2.1 gX9_knife_X9_within rfl rfl rfl (by decide +kernel) ⟨Nat.le_of_ble_eq_true rfl, Nat.le_of_ble_eq_true rfl⟩) fw_ppre rfl rfl hl.1 rfl (lv_room (Nat.le_of_ble_eq_true rfl)) dX9_knife_3 ⟨Nat.zero_le _, Nat.zero_le _⟩) hG hK (fun r1  H locs h hG => ?_)
  refine lv_if_eq (tgt := 19) C.1 C.2.1 dX9_knife_6 (by decide) (fun c2 => ?_) (fun c2 => ?_)
  · have h := h.1 c2
    refine lv_bipush (v := (-2)) C.1 C.2.1 dX9_knife_19 (by decide) ?_
    refine W.widen (k := 2) (n := 222) (by decide) (by decide) ?_
    exact fx_iret (U := (Nat → Nat) × kw_T × fw_F × fw_R) (w1 := fun u => kw G u.1 u.2.1 u.2.2.1 u.2.2.2) (ad, kt, iv, ar) C hG ⟨h, h0⟩ dX9_knife_21
  · have h := h.2 c2
    refine lv_iload_n C.1 C.2.1 dX9_knife_9 rfl (lv_at hl 2 rfl) ?_
    refine lv_iconst (v := 1) C.1 C.2.1 dX9_knife_10 (by decide) ?_
    refine lv_bipush (v := 9) C.1 C.2.1 dX9_knife_11 (by decide) ?_
    refine fw_pcalli (va_runS (As := [.int x2, .int 1, .int 9]) (rest := []) ⟨C.1, C.2.1, C.2.2.2.2.2.2, C.2.2.2.2.2.1, C.2.2.2.2.1⟩ (soX9_within l x2 1 9 _ h H.size) (va_cwS 3 C.2.2.2.2.1 gX9_knife_X9_within rfl rfl rfl (by decide +kernel) ⟨Nat.le_of_ble_eq_true rfl, Nat.le_of_ble_eq_true rfl⟩) fw_ppre rfl rfl hl.1 rfl (lv_room (Nat.le_of_ble_eq_true rfl)) dX9_knife_13 ⟨Nat.zero_le _, Nat.zero_le _⟩) hG hK (fun r3  H locs h hG => ?_)
    refine lv_if_ne (tgt := 22) C.1 C.2.1 dX9_knife_16 (by decide) (fun c4 => ?_) (fun c4 => ?_)
    · have h := h.1 c4
      refine lv_iload_n C.1 C.2.1 dX9_knife_22 rfl (lv_at hl 3 rfl) ?_
      refine lv_iconst (v := 1) C.1 C.2.1 dX9_knife_23 (by decide) ?_
      refine lv_bipush (v := 24) C.1 C.2.1 dX9_knife_24 (by decide) ?_
      refine fw_pcalli (va_runS (As := [.int x3, .int 1, .int 24]) (rest := []) ⟨C.1, C.2.1, C.2.2.2.2.2.2, C.2.2.2.2.2.1, C.2.2.2.2.1⟩ (soX9_within l x3 1 24 _ h H.size) (va_cwS 3 C.2.2.2.2.1 gX9_knife_X9_within rfl rfl rfl (by decide +kernel) ⟨Nat.le_of_ble_eq_true rfl, Nat.le_of_ble_eq_true rfl⟩) fw_ppre rfl rfl hl.1 rfl (lv_room (Nat.le_of_ble_eq_true rfl)) dX9_knife_26 ⟨Nat.zero_le _, Nat.zero_le _⟩) hG hK (fun r5  H locs h hG => ?_)
      refine lv_if_eq (tgt := 42) C.1 C.2.1 dX9_knife_29 (by decide) (fun c6 => ?_) (fun c6 => ?_)
      · have h := h.1 c6
        refine lv_bipush (v := (-2)) C.1 C.2.1 dX9_knife_42 (by decide) ?_
        refine W.widen (k := 2) (n := 222) (by decide) (by decide) ?_
        exact fx_iret (U := (Nat → Nat) × kw_T × fw_F × fw_R) (w1 := fun u => kw G u.1 u.2.1 u.2.2.1 u.2.2.2) (ad, kt, iv, ar) C hG ⟨h, h0⟩ dX9_knife_44
      · have h := h.2 c6
        refine lv_iload C.1 C.2.1 dX9_knife_32 (lv_at hl 4 rfl) ?_
        refine lv_iconst (v := 0) C.1 C.2.1 dX9_knife_34 (by decide) ?_
        refine lv_iconst (v := 5) C.1 C.2.1 dX9_knife_35 (by decide) ?_
        refine fw_pcalli (va_runS (As := [.int x4, .int 0, .int 5]) (rest := []) ⟨C.1, C.2.1, C.2.2.2.2.2.2, C.2.2.2.2.2.1, C.2.2.2.2.1⟩ (soX9_within l x4 0 5 _ h H.size) (va_cwS 3 C.2.2.2.2.1 gX9_knife_X9_within rfl rfl rfl (by decide +kernel) ⟨Nat.le_of_ble_eq_true rfl, Nat.le_of_ble_eq_true rfl⟩) fw_ppre rfl rfl hl.1 rfl (lv_room (Nat.le_of_ble_eq_true rfl)) dX9_knife_36 ⟨Nat.zero_le _, Nat.zero_le _⟩) hG hK (fun r7  H locs h hG => ?_)
        refine lv_if_ne (tgt := 45) C.1 C.2.1 dX9_knife_39 (by decide) (fun c8 => ?_) (fun c8 => ?_)
        · have h := h.1 c8
          refine lv_aload_n C.1 C.2.1 dX9_knife_45 rfl (lv_at hl 0 rfl) ?_
          refine fw_get (w := (kw G ad kt)) C in_X9 hK hG 0 kw_o9 rfl 1 (by decide) k17 rfl rfl dX9_knife_46 ?_
          refine lv_bipush (v := 6) C.1 C.2.1 dX9_knife_49 (by decide) ?_
          refine lv_icmp_lt (tgt := 57) C.1 C.2.1 dX9_knife_51 (by decide) (fun c9 => ?_) (fun c9 => ?_)
          · have h := h.1 c9
            refine lv_aload_n C.1 C.2.1 dX9_knife_57 rfl (lv_at hl 0 rfl) ?_
            refine fw_get (w := (kw G ad kt)) C in_X9 hK hG 0 kw_o9 rfl 1 (by decide) k17 rfl rfl dX9_knife_58 ?_
            refine lv_topi (fun y10 ey10 => ?_)
            have h := h y10 ey10
            refine lv_istore (lv' := [(5, .int y10), (0, .ref (ad 0)), (1, .int x1), (2, .int x2), (3, .int x3), (4, .int x4)]) C.1 C.2.1 dX9_knife_61 hl (by decide) rfl (fun ls hl => ?_)
            refine lv_iload_n C.1 C.2.1 dX9_knife_63 rfl (lv_at hl 2 rfl) ?_
            refine lv_if_ne (tgt := 92) C.1 C.2.1 dX9_knife_64 (by decide) (fun c11 => ?_) (fun c11 => ?_)
            · have h := h.1 c11
              refine lv_iload_n C.1 C.2.1 dX9_knife_92 rfl (lv_at hl 2 rfl) ?_
              refine lv_iconst (v := 1) C.1 C.2.1 dX9_knife_93 (by decide) ?_
              refine lv_icmp_ne (tgt := 120) C.1 C.2.1 dX9_knife_94 (by decide) (fun c12 => ?_) (fun c12 => ?_)
              · have h := h.1 c12
                refine lv_aload_n C.1 C.2.1 dX9_knife_120 rfl (lv_at hl 1 rfl) ?_
                refine fw_get (w := (kw G ad kt)) C in_X9 hK hG 0 kw_o9 rfl 0 (by decide) k13 rfl rfl dX9_knife_121 ?_
                refine lv_iload C.1 C.2.1 dX9_knife_124 (lv_at hl 0 rfl) ?_
                refine fx_new (ci := 8) (fs := [.int 0, .int 0, .int 0, .int 0, .int 0, .null]) C in_X8 tyX8 tyX8_ok cl86 isX8 itX8 hK hG rfl (fun j hj => by rcases (show j = 0 ∨ j = 1 ∨ j = 2 ∨ j = 3 ∨ j = 4 ∨ j = 5 by omega) with rfl | rfl | rfl | rfl | rfl | rfl <;> rfl) (Nat.le_of_ble_eq_true rfl) (Nat.le_of_ble_eq_true rfl) dX9_knife_126 (fun qk H hG => ?_)
                refine W.widen (k := 1) (n := 6) (by decide) (by decide) ?_
                refine lv_dup C.1 C.2.1 dX9_knife_129 rfl ?_
                refine lv_iload C.1 C.2.1 dX9_knife_130 (lv_at hl 0 rfl) ?_
                refine lv_iload_n C.1 C.2.1 dX9_knife_132 rfl (lv_at hl 3 rfl) ?_
                refine lv_iload_n C.1 C.2.1 dX9_knife_133 rfl (lv_at hl 4 rfl) ?_
                refine lv_iload C.1 C.2.1 dX9_knife_134 (lv_at hl 5 rfl) ?_
                refine fx_callv (va_runI (As := [.int y10, .int x2, .int x3, .int x4]) (rest := [.ref qk, .int y10, .ref (ad 1)]) ⟨C.1, C.2.1, C.2.2.2.2.2.2, C.2.2.2.2.2.1, C.2.2.2.2.1⟩ (cnX8_init l G qk y10 x2 x3 x4 _ h H.size) (cwI 4 C.2.2.2.2.1 gX9_knife_X8_init rfl rfl rfl itX8 (C.2.2.2.2.1 (.methodLink RX9 88 yX8_init) (by decide +kernel)) (C.2.2.2.2.1 (.instanceMethod yX8_init) (by decide +kernel)) rfl (by decide +kernel) ⟨Nat.le_of_ble_eq_true rfl, Nat.le_of_ble_eq_true rfl⟩) (fw_preS (fx_sub hG) hK) rfl rfl hl.1 rfl (lv_room (Nat.le_of_ble_eq_true rfl)) dX9_knife_136 ⟨Nat.le_of_ble_eq_true rfl, Nat.le_of_ble_eq_true rfl⟩) hG hK (fun u9 H locs h hG => ?_)
                refine W.widen (k := 2) (n := 222) (by decide) (by decide) ?_
                obtain ⟨qa, iv9, ar9⟩ := u9
                obtain ⟨hv, hn, h⟩ := h
                have hG : fw_H G (kw_fx G ad (kw_q ad kt.1) (fun j => some (ad (17 + j))) iv ar ++ ((List.range kt.1).flatMap (kw_k G ad kt) ++ nw G qk qa 8 iv9 ar9)) A s H locs := by rw [← List.append_assoc, ← kw_is]; exact hG
                have hw : (kw_fx G ad (kw_q ad kt.1) (fun j => some (ad (17 + j))) iv ar ++ ((List.range kt.1).flatMap (kw_k G ad kt) ++ nw G qk qa 8 iv9 ar9))[28 + 2 * kt.1]? = some (qk, .inr (8, nw_f qa iv9)) := kw_last
                refine va_astqM C.1 C.2.1 hK.1 hG.1 hG.2.1 hG.2.2 1 2 rfl rfl (kn_anyC hK hK.2.1.2.1.2.2.1 (va_recv hK.1 hG.1 (ci := 8) rfl hw)) hv dX9_knife_139 (fun H locs h1 h2 h3 => ?_)
                have hG : fw_H G (kw_fx G ad (va_up (kw_q ad kt.1) y10.toNatClampNeg (some qk)) (fun j => some (ad (17 + j))) iv ar ++ ((List.range kt.1).flatMap (kw_k G ad kt) ++ nw G qk qa (kw_c 2) iv9 ar9)) A s H locs := ⟨h1, h2, h3⟩
                rw [hn] at hG
                have hG := kw_grow hG
                obtain ⟨ad2, ea2⟩ : ∃ z : Nat → Nat, z = ad_add ad kt.1 qk qa := ⟨_, rfl⟩
                have e2 : ad2 0 = ad 0 := by rw [ea2]; exact ad_add_lo (by omega)
                rw [← ea2] at hG
                have hl : lv_has ls 6 [(5, .int y10), (0, .ref (ad2 0))] := by rw [e2]; exact (lv_sub hl [0, 1] rfl)
                exact soX9_knife_T y10 C hK (e2.trans h0) (by unfold wpX9_knife_T; rintro _ rfl; exact h) hG hl
              · have h := h.2 c12
                refine lv_aload_n C.1 C.2.1 dX9_knife_97 rfl (lv_at hl 1 rfl) ?_
                refine fw_get (w := (kw G ad kt)) C in_X9 hK hG 0 kw_o9 rfl 0 (by decide) k13 rfl rfl dX9_knife_98 ?_
                refine lv_iload C.1 C.2.1 dX9_knife_101 (lv_at hl 0 rfl) ?_
                refine fx_new (ci := 2) (fs := [.int 0, .int 0, .int 0, .int 0, .int 0, .null]) C in_X2 tyX2 tyX2_ok cl81 isX2 itX2 hK hG rfl (fun j hj => by rcases (show j = 0 ∨ j = 1 ∨ j = 2 ∨ j = 3 ∨ j = 4 ∨ j = 5 by omega) with rfl | rfl | rfl | rfl | rfl | rfl <;> rfl) (Nat.le_of_ble_eq_true rfl) (Nat.le_of_ble_eq_true rfl) dX9_knife_103 (fun qk H hG => ?_)
                refine W.widen (k := 1) (n := 6) (by decide) (by decide) ?_
                refine lv_dup C.1 C.2.1 dX9_knife_106 rfl ?_
                refine lv_iload C.1 C.2.1 dX9_knife_107 (lv_at hl 0 rfl) ?_
                refine lv_iload_n C.1 C.2.1 dX9_knife_109 rfl (lv_at hl 3 rfl) ?_
                refine lv_iload_n C.1 C.2.1 dX9_knife_110 rfl (lv_at hl 4 rfl) ?_
                refine lv_iload C.1 C.2.1 dX9_knife_111 (lv_at hl 5 rfl) ?_
                refine fx_callv (va_runI (As := [.int y10, .int x2, .int x3, .int x4]) (rest := [.ref qk, .int y10, .ref (ad 1)]) ⟨C.1, C.2.1, C.2.2.2.2.2.2, C.2.2.2.2.2.1, C.2.2.2.2.1⟩ (cnX2_init l G qk 2 (Or.inl rfl) y10 x2 x3 x4 _ h H.size) (cwI 4 C.2.2.2.2.1 gX9_knife_X2_init rfl rfl rfl itX2 (C.2.2.2.2.1 (.methodLink RX9 83 yX2_init) (by decide +kernel)) (C.2.2.2.2.1 (.instanceMethod yX2_init) (by decide +kernel)) rfl (by decide +kernel) ⟨Nat.le_of_ble_eq_true rfl, Nat.le_of_ble_eq_true rfl⟩) (fw_preS (fx_sub hG) hK) rfl rfl hl.1 rfl (lv_room (Nat.le_of_ble_eq_true rfl)) dX9_knife_113 ⟨Nat.le_of_ble_eq_true rfl, Nat.le_of_ble_eq_true rfl⟩) hG hK (fun u9 H locs h hG => ?_)
                refine W.widen (k := 2) (n := 222) (by decide) (by decide) ?_
                obtain ⟨qa, iv9, ar9⟩ := u9
                obtain ⟨hv, hn, h⟩ := h
                have hG : fw_H G (kw_fx G ad (kw_q ad kt.1) (fun j => some (ad (17 + j))) iv ar ++ ((List.range kt.1).flatMap (kw_k G ad kt) ++ nw G qk qa 2 iv9 ar9)) A s H locs := by rw [← List.append_assoc, ← kw_is]; exact hG
                have hw : (kw_fx G ad (kw_q ad kt.1) (fun j => some (ad (17 + j))) iv ar ++ ((List.range kt.1).flatMap (kw_k G ad kt) ++ nw G qk qa 2 iv9 ar9))[28 + 2 * kt.1]? = some (qk, .inr (2, nw_f qa iv9)) := kw_last
                refine va_astqM C.1 C.2.1 hK.1 hG.1 hG.2.1 hG.2.2 1 2 rfl rfl (kn_anyC hK hK.2.1.2.1.2.1 (va_recv hK.1 hG.1 (ci := 2) rfl hw)) hv dX9_knife_116 (fun H locs h1 h2 h3 => ?_)
                have hG : fw_H G (kw_fx G ad (va_up (kw_q ad kt.1) y10.toNatClampNeg (some qk)) (fun j => some (ad (17 + j))) iv ar ++ ((List.range kt.1).flatMap (kw_k G ad kt) ++ nw G qk qa (kw_c 1) iv9 ar9)) A s H locs := ⟨h1, h2, h3⟩
                rw [hn] at hG
                have hG := kw_grow hG
                obtain ⟨ad2, ea2⟩ : ∃ z : Nat → Nat, z = ad_add ad kt.1 qk qa := ⟨_, rfl⟩
                have e2 : ad2 0 = ad 0 := by rw [ea2]; exact ad_add_lo (by omega)
                rw [← ea2] at hG
                have hl : lv_has ls 6 [(5, .int y10), (0, .ref (ad2 0))] := by rw [e2]; exact (lv_sub hl [0, 1] rfl)
                refine lv_goto (tgt := 140) C.1 C.2.1 dX9_knife_117 (by decide) ?_
                exact soX9_knife_T y10 C hK (e2.trans h0) (by unfold wpX9_knife_T; rintro _ rfl; exact h) hG hl
            · have h := h.2 c11
              refine lv_aload_n C.1 C.2.1 dX9_knife_67 rfl (lv_at hl 1 rfl) ?_
              refine fw_get (w := (kw G ad kt)) C in_X9 hK hG 0 kw_o9 rfl 0 (by decide) k13 rfl rfl dX9_knife_68 ?_
              refine lv_iload C.1 C.2.1 dX9_knife_71 (lv_at hl 0 rfl) ?_
              refine fx_new (ci := 3) (fs := [.int 0, .int 0, .int 0, .int 0, .int 0, .null]) C in_X3 tyX3 tyX3_ok cl11 isX3 itX3 hK hG rfl (fun j hj => by rcases (show j = 0 ∨ j = 1 ∨ j = 2 ∨ j = 3 ∨ j = 4 ∨ j = 5 by omega) with rfl | rfl | rfl | rfl | rfl | rfl <;> rfl) (Nat.le_of_ble_eq_true rfl) (Nat.le_of_ble_eq_true rfl) dX9_knife_73 (fun qk H hG => ?_)
              refine W.widen (k := 1) (n := 6) (by decide) (by decide) ?_
              refine lv_dup C.1 C.2.1 dX9_knife_76 rfl ?_
              refine lv_iload C.1 C.2.1 dX9_knife_77 (lv_at hl 0 rfl) ?_
              refine lv_iload_n C.1 C.2.1 dX9_knife_79 rfl (lv_at hl 3 rfl) ?_
              refine lv_iload_n C.1 C.2.1 dX9_knife_80 rfl (lv_at hl 4 rfl) ?_
              refine lv_iload C.1 C.2.1 dX9_knife_81 (lv_at hl 5 rfl) ?_
              refine lv_iload C.1 C.2.1 dX9_knife_83 (lv_at hl 5 rfl) ?_
              refine fx_callv (va_runI (As := [.int y10, .int x2, .int x3, .int x4, .int x4]) (rest := [.ref qk, .int y10, .ref (ad 1)]) ⟨C.1, C.2.1, C.2.2.2.2.2.2, C.2.2.2.2.2.1, C.2.2.2.2.1⟩ (cnX3_init l G qk 3 (Or.inl rfl) y10 x2 x3 x4 x4 _ h H.size) (cwI 5 C.2.2.2.2.1 gX9_knife_X3_init rfl rfl rfl itX3 (C.2.2.2.2.1 (.methodLink RX9 78 yX3_init) (by decide +kernel)) (C.2.2.2.2.1 (.instanceMethod yX3_init) (by decide +kernel)) rfl (by decide +kernel) ⟨Nat.le_of_ble_eq_true rfl, Nat.le_of_ble_eq_true rfl⟩) (fw_preS (fx_sub hG) hK) rfl rfl hl.1 rfl (lv_room (Nat.le_of_ble_eq_true rfl)) dX9_knife_85 ⟨Nat.le_of_ble_eq_true rfl, Nat.le_of_ble_eq_true rfl⟩) hG hK (fun u9 H locs h hG => ?_)
              refine W.widen (k := 2) (n := 222) (by decide) (by decide) ?_
              obtain ⟨qa, iv9, ar9⟩ := u9
              obtain ⟨hv, hn, h⟩ := h
              have hG : fw_H G (kw_fx G ad (kw_q ad kt.1) (fun j => some (ad (17 + j))) iv ar ++ ((List.range kt.1).flatMap (kw_k G ad kt) ++ nw G qk qa 3 iv9 ar9)) A s H locs := by rw [← List.append_assoc, ← kw_is]; exact hG
              have hw : (kw_fx G ad (kw_q ad kt.1) (fun j => some (ad (17 + j))) iv ar ++ ((List.range kt.1).flatMap (kw_k G ad kt) ++ nw G qk qa 3 iv9 ar9))[28 + 2 * kt.1]? = some (qk, .inr (3, nw_f qa iv9)) := kw_last
              refine va_astqM C.1 C.2.1 hK.1 hG.1 hG.2.1 hG.2.2 1 2 rfl rfl (kn_any3 hK (va_recv hK.1 hG.1 (ci := 3) rfl hw)) hv dX9_knife_88 (fun H locs h1 h2 h3 => ?_)
              have hG : fw_H G (kw_fx G ad (va_up (kw_q ad kt.1) y10.toNatClampNeg (some qk)) (fun j => some (ad (17 + j))) iv ar ++ ((List.range kt.1).flatMap (kw_k G ad kt) ++ nw G qk qa (kw_c 0) iv9 ar9)) A s H locs := ⟨h1, h2, h3⟩
              rw [hn] at hG
              have hG := kw_grow hG
              obtain ⟨ad2, ea2⟩ : ∃ z : Nat → Nat, z = ad_add ad kt.1 qk qa := ⟨_, rfl⟩
              have e2 : ad2 0 = ad 0 := by rw [ea2]; exact ad_add_lo (by omega)
              rw [← ea2] at hG
              have hl : lv_has ls 6 [(5, .int y10), (0, .ref (ad2 0))] := by rw [e2]; exact (lv_sub hl [0, 1] rfl)
              refine lv_goto (tgt := 140) C.1 C.2.1 dX9_knife_89 (by decide) ?_
              exact soX9_knife_T y10 C hK (e2.trans h0) (by unfold wpX9_knife_T; rintro _ rfl; exact h) hG hl
          · have h := h.2 c9
            refine lv_bipush (v := (-4)) C.1 C.2.1 dX9_knife_54 (by decide) ?_
            refine W.widen (k := 2) (n := 222) (by decide) (by decide) ?_
            exact fx_iret (U := (Nat → Nat) × kw_T × fw_F × fw_R) (w1 := fun u => kw G u.1 u.2.1 u.2.2.1 u.2.2.2) (ad, kt, iv, ar) C hG ⟨h, h0⟩ dX9_knife_56
        · have h := h.2 c8
          refine lv_bipush (v := (-2)) C.1 C.2.1 dX9_knife_42 (by decide) ?_
          refine W.widen (k := 2) (n := 222) (by decide) (by decide) ?_
          exact fx_iret (U := (Nat → Nat) × kw_T × fw_F × fw_R) (w1 := fun u => kw G u.1 u.2.1 u.2.2.1 u.2.2.2) (ad, kt, iv, ar) C hG ⟨h, h0⟩ dX9_knife_44
    · have h := h.2 c4
      refine lv_bipush (v := (-2)) C.1 C.2.1 dX9_knife_19 (by decide) ?_
      refine W.widen (k := 2) (n := 222) (by decide) (by decide) ?_
      exact fx_iret (U := (Nat → Nat) × kw_T × fw_F × fw_R) (w1 := fun u => kw G u.1 u.2.1 u.2.2.1 u.2.2.2) (ad, kt, iv, ar) C hG ⟨h, h0⟩ dX9_knife_21
