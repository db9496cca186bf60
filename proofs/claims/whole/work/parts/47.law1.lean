set_option maxHeartbeats 4000000 in
set_option maxRecDepth 100000 in
theorem lw_c0 {p : Program} {l : Launch} {e : Env} {s : State} {m : MethodId} {below : List Frame} {meth : Method} {c : Code} {b L : Nat} {xs : Nat → Int32} {G : fw_G} {mh : Nat} {md : Nat → Nat} {Rl : kw_T → fw_F → fw_R → fw_F → fw_R → Prop} {ad : Nat → Nat} {kt : kw_T} {iv : fw_F} {ar : fw_R} {jv : fw_F} {br : fw_R} {x3 : Int32} {cells slots : Nat} {H : Heap} {locs : List Loc} {ls : Array Slot} (C : fw_C p s m #[Value.ref b] meth c cL_law 4 ret wsL_law RL) (hK : fw_K G (fun q : Nat => s.heap.size ≤ q) s) (hX : va_X b L xs s s.heap) (hbl : b < s.heap.size) (hbA : ¬ (fun q : Nat => s.heap.size ≤ q) b) (hR : Rl kt iv ar jv br) (hp : pu_knife Rl kt iv ar jv br (xs (x3 + 1).toNatClampNeg) (xs (x3 + 2).toNatClampNeg) (xs (x3 + 3).toNatClampNeg) (xs (x3 + 4).toNatClampNeg)) (v1 : vp_in (x3 + 1) L) (v2 : vp_in (x3 + 2) L) (v3 : vp_in (x3 + 3) L) (v4 : vp_in (x3 + 4) L) (hc : cells + 2 ≤ 600000) (hs : slots + 222 ≤ 7302250) (hG : fw_H G (mw G mh md jv br ++ kw G ad kt iv ar) (fun q : Nat => s.heap.size ≤ q) s H locs) (hl : lv_has ls 4 [(0, .ref b), (1, .ref (ad 0)), (2, .ref mh), (3, .int x3)]) (kX : ∀ (ad : Nat → Nat) (kt : kw_T) (iv : fw_F) (ar : fw_R) (jv : fw_F) (br : fw_R) (H : Heap) (locs : List Loc) (ls : Array Slot), Rl kt iv ar jv br → fw_H G (mw G mh md jv br ++ kw G ad kt iv ar) (fun q : Nat => s.heap.size ≤ q) s H locs → lv_has ls 4 [(0, .ref b), (1, .ref (ad 0)), (2, .ref mh), (3, .int x3)] → W p l e room_1 s m #[Value.ref b] below meth c H locs (cells + 2) (slots + 222) (lw_Z below #[Value.ref b] s) (F0 m 1757 ls [])) : W p l e room_1 s m #[Value.ref b] below meth c H locs cells slots (lw_Z below #[Value.ref b] s) (F0 m 192 ls []) := by
  obtain ⟨r, P9, P10, hR, w1, w2⟩ := hp
  refine lv_aload_n C.1 C.2.1 dL_law_192 rfl (lv_at hl 1 rfl) ?_
  refine lv_aload_n C.1 C.2.1 dL_law_193 rfl (lv_at hl 0 rfl) ?_
  refine lv_iload_n C.1 C.2.1 dL_law_194 rfl (lv_at hl 3 rfl) ?_
  refine lv_iconst (v := 1) C.1 C.2.1 dL_law_195 (by decide) ?_
  refine lv_iadd C.1 C.2.1 dL_law_196 ?_
  refine va_sld C.1 C.2.1 hX hbl hbA hG.2.2 v1 dL_law_197 ?_
  refine lv_aload_n C.1 C.2.1 dL_law_198 rfl (lv_at hl 0 rfl) ?_
  refine lv_iload_n C.1 C.2.1 dL_law_199 rfl (lv_at hl 3 rfl) ?_
  refine lv_iconst (v := 2) C.1 C.2.1 dL_law_200 (by decide) ?_
  refine lv_iadd C.1 C.2.1 dL_law_201 ?_
  refine va_sld C.1 C.2.1 hX hbl hbA hG.2.2 v2 dL_law_202 ?_
  refine lv_aload_n C.1 C.2.1 dL_law_203 rfl (lv_at hl 0 rfl) ?_
  refine lv_iload_n C.1 C.2.1 dL_law_204 rfl (lv_at hl 3 rfl) ?_
  refine lv_iconst (v := 3) C.1 C.2.1 dL_law_205 (by decide) ?_
  refine lv_iadd C.1 C.2.1 dL_law_206 ?_
  refine va_sld C.1 C.2.1 hX hbl hbA hG.2.2 v3 dL_law_207 ?_
  refine lv_aload_n C.1 C.2.1 dL_law_208 rfl (lv_at hl 0 rfl) ?_
  refine lv_iload_n C.1 C.2.1 dL_law_209 rfl (lv_at hl 3 rfl) ?_
  refine lv_iconst (v := 4) C.1 C.2.1 dL_law_210 (by decide) ?_
  refine lv_iadd C.1 C.2.1 dL_law_211 ?_
  refine va_sld C.1 C.2.1 hX hbl hbA hG.2.2 v4 dL_law_212 ?_
  refine fx_calli (U := (Nat → Nat) × kw_T × fw_F × fw_R) (w1 := (fun u : (Nat → Nat) × kw_T × fw_F × fw_R => kw G u.1 u.2.1 u.2.2.1 u.2.2.2)) (va_runV (As := [.int (xs (x3 + 1).toNatClampNeg), .int (xs (x3 + 2).toNatClampNeg), .int (xs (x3 + 3).toNatClampNeg), .int (xs (x3 + 4).toNatClampNeg)]) (rest := []) ⟨C.1, C.2.1, C.2.2.2.2.2.2, C.2.2.2.2.2.1, C.2.2.2.2.1⟩ (soX9_knife l G ad kt iv ar (xs (x3 + 1).toNatClampNeg) (xs (x3 + 2).toNatClampNeg) (xs (x3 + 3).toNatClampNeg) (xs (x3 + 4).toNatClampNeg) _ w1 H.size) (cwV 4 C.2.2.2.2.1 gL_law_X9_knife rfl rfl rfl (by decide +kernel) ⟨Nat.le_of_ble_eq_true rfl, Nat.le_of_ble_eq_true rfl⟩) (fw_preV (fx_sub hG) hK (ci := 9) rfl kw_o9) rfl rfl hl.1 rfl (lv_room (Nat.le_of_ble_eq_true rfl)) dL_law_213 ⟨by show cells + 2 ≤ 600000; omega, by show slots + 222 ≤ 7302250; omega⟩) hG hK (fun r1 u H locs h hG => ?_)
  obtain ⟨ad1, kt2, iv2, ar2⟩ := u
  obtain ⟨⟨e1, p9⟩, e0⟩ := h
  dsimp only at p9 e0 hG
  have hl : lv_has ls 4 [(0, .ref b), (1, .ref (ad1 0)), (2, .ref mh), (3, .int x3)] := by rw [e0]; exact hl
  have hG := fx_swap hG
  refine lv_aload_n C.1 C.2.1 dL_law_216 rfl (lv_at hl 2 rfl) ?_
  refine lv_aload_n C.1 C.2.1 dL_law_217 rfl (lv_at hl 0 rfl) ?_
  refine lv_iload_n C.1 C.2.1 dL_law_218 rfl (lv_at hl 3 rfl) ?_
  refine lv_iconst (v := 1) C.1 C.2.1 dL_law_219 (by decide) ?_
  refine lv_iadd C.1 C.2.1 dL_law_220 ?_
  refine va_sld C.1 C.2.1 hX hbl hbA hG.2.2 v1 dL_law_221 ?_
  refine lv_aload_n C.1 C.2.1 dL_law_222 rfl (lv_at hl 0 rfl) ?_
  refine lv_iload_n C.1 C.2.1 dL_law_223 rfl (lv_at hl 3 rfl) ?_
  refine lv_iconst (v := 2) C.1 C.2.1 dL_law_224 (by decide) ?_
  refine lv_iadd C.1 C.2.1 dL_law_225 ?_
  refine va_sld C.1 C.2.1 hX hbl hbA hG.2.2 v2 dL_law_226 ?_
  refine lv_aload_n C.1 C.2.1 dL_law_227 rfl (lv_at hl 0 rfl) ?_
  refine lv_iload_n C.1 C.2.1 dL_law_228 rfl (lv_at hl 3 rfl) ?_
  refine lv_iconst (v := 3) C.1 C.2.1 dL_law_229 (by decide) ?_
  refine lv_iadd C.1 C.2.1 dL_law_230 ?_
  refine va_sld C.1 C.2.1 hX hbl hbA hG.2.2 v3 dL_law_231 ?_
  refine lv_aload_n C.1 C.2.1 dL_law_232 rfl (lv_at hl 0 rfl) ?_
  refine lv_iload_n C.1 C.2.1 dL_law_233 rfl (lv_at hl 3 rfl) ?_
  refine lv_iconst (v := 4) C.1 C.2.1 dL_law_234 (by decide) ?_
  refine lv_iadd C.1 C.2.1 dL_law_235 ?_
  refine va_sld C.1 C.2.1 hX hbl hbA hG.2.2 v4 dL_law_236 ?_
  refine fx_calli (U := fw_F × fw_R) (w1 := fun u => mw G mh md u.1 u.2) (va_runV (As := [.int (xs (x3 + 1).toNatClampNeg), .int (xs (x3 + 2).toNatClampNeg), .int (xs (x3 + 3).toNatClampNeg), .int (xs (x3 + 4).toNatClampNeg)]) (rest := [.int r1]) ⟨C.1, C.2.1, C.2.2.2.2.2.2, C.2.2.2.2.2.1, C.2.2.2.2.1⟩ (soX10_knife l G mh md jv br (xs (x3 + 1).toNatClampNeg) (xs (x3 + 2).toNatClampNeg) (xs (x3 + 3).toNatClampNeg) (xs (x3 + 4).toNatClampNeg) _ w2 H.size) (cwV 4 C.2.2.2.2.1 gL_law_X10_knife rfl rfl rfl (by decide +kernel) ⟨Nat.le_of_ble_eq_true rfl, Nat.le_of_ble_eq_true rfl⟩) (fw_preV (fx_sub hG) hK (ci := 10) rfl mw_o) rfl rfl hl.1 rfl (lv_room (Nat.le_of_ble_eq_true rfl)) dL_law_237 ⟨by show cells + 2 + 0 ≤ 600000; omega, by show slots + 222 + 0 ≤ 7302250; omega⟩) hG hK (fun r3 u H locs h hG => ?_)
  obtain ⟨jv2, br2⟩ := u
  obtain ⟨e2, p10⟩ := h
  dsimp only at p10 hG
  have hG := fx_swap hG
  refine lv_icmp_eq (tgt := 1757) C.1 C.2.1 dL_law_240 (by decide) (fun _ => ?_) (fun c1 => absurd (e1.trans e2.symm) c1)
  refine W.widen (k := cells + 2) (n := slots + 222) (by omega) (by omega) ?_
  exact kX _ _ _ _ _ _ _ _ _ (hR _ _ _ _ _ p9 p10) hG hl
set_option maxHeartbeats 4000000 in
set_option maxRecDepth 100000 in
theorem lw_c1 {p : Program} {l : Launch} {e : Env} {s : State} {m : MethodId} {below : List Frame} {meth : Method} {c : Code} {b L : Nat} {xs : Nat → Int32} {G : fw_G} {mh : Nat} {md : Nat → Nat} {Rl : kw_T → fw_F → fw_R → fw_F → fw_R → Prop} {ad : Nat → Nat} {kt : kw_T} {iv : fw_F} {ar : fw_R} {jv : fw_F} {br : fw_R} {x3 : Int32} {cells slots : Nat} {H : Heap} {locs : List Loc} {ls : Array Slot} (C : fw_C p s m #[Value.ref b] meth c cL_law 4 ret wsL_law RL) (hK : fw_K G (fun q : Nat => s.heap.size ≤ q) s) (hX : va_X b L xs s s.heap) (hbl : b < s.heap.size) (hbA : ¬ (fun q : Nat => s.heap.size ≤ q) b) (hR : Rl kt iv ar jv br) (hp : pu_ofKnife Rl kt iv ar jv br (xs (x3 + 1).toNatClampNeg) (xs (x3 + 2).toNatClampNeg)) (v1 : vp_in (x3 + 1) L) (v2 : vp_in (x3 + 2) L) (hc : cells + 2 ≤ 600000) (hs : slots + 222 ≤ 7302250) (hG : fw_H G (mw G mh md jv br ++ kw G ad kt iv ar) (fun q : Nat => s.heap.size ≤ q) s H locs) (hl : lv_has ls 4 [(0, .ref b), (1, .ref (ad 0)), (2, .ref mh), (3, .int x3)]) (kX : ∀ (ad : Nat → Nat) (kt : kw_T) (iv : fw_F) (ar : fw_R) (jv : fw_F) (br : fw_R) (H : Heap) (locs : List Loc) (ls : Array Slot), Rl kt iv ar jv br → fw_H G (mw G mh md jv br ++ kw G ad kt iv ar) (fun q : Nat => s.heap.size ≤ q) s H locs → lv_has ls 4 [(0, .ref b), (1, .ref (ad 0)), (2, .ref mh), (3, .int x3)] → W p l e room_1 s m #[Value.ref b] below meth c H locs (cells + 2) (slots + 222) (lw_Z below #[Value.ref b] s) (F0 m 1757 ls [])) : W p l e room_1 s m #[Value.ref b] below meth c H locs cells slots (lw_Z below #[Value.ref b] s) (F0 m 245 ls []) := by
  obtain ⟨r, hR, w1, w2⟩ := hp
  refine lv_aload_n C.1 C.2.1 dL_law_245 rfl (lv_at hl 1 rfl) ?_
  refine lv_aload_n C.1 C.2.1 dL_law_246 rfl (lv_at hl 0 rfl) ?_
  refine lv_iload_n C.1 C.2.1 dL_law_247 rfl (lv_at hl 3 rfl) ?_
  refine lv_iconst (v := 1) C.1 C.2.1 dL_law_248 (by decide) ?_
  refine lv_iadd C.1 C.2.1 dL_law_249 ?_
  refine va_sld C.1 C.2.1 hX hbl hbA hG.2.2 v1 dL_law_250 ?_
  refine lv_aload_n C.1 C.2.1 dL_law_251 rfl (lv_at hl 0 rfl) ?_
  refine lv_iload_n C.1 C.2.1 dL_law_252 rfl (lv_at hl 3 rfl) ?_
  refine lv_iconst (v := 2) C.1 C.2.1 dL_law_253 (by decide) ?_
  refine lv_iadd C.1 C.2.1 dL_law_254 ?_
  refine va_sld C.1 C.2.1 hX hbl hbA hG.2.2 v2 dL_law_255 ?_
  refine fx_calli (U := fw_F × fw_R) (w1 := (fun u : fw_F × fw_R => kw G ad kt u.1 u.2)) (va_runV (As := [.int (xs (x3 + 1).toNatClampNeg), .int (xs (x3 + 2).toNatClampNeg)]) (rest := []) ⟨C.1, C.2.1, C.2.2.2.2.2.2, C.2.2.2.2.2.1, C.2.2.2.2.1⟩ (soX9_ofKnife l G ad kt iv ar (xs (x3 + 1).toNatClampNeg) (xs (x3 + 2).toNatClampNeg) _ w1 H.size) (cwV 2 C.2.2.2.2.1 gL_law_X9_ofKnife rfl rfl rfl (by decide +kernel) ⟨Nat.le_of_ble_eq_true rfl, Nat.le_of_ble_eq_true rfl⟩) (fw_preV (fx_sub hG) hK (ci := 9) rfl kw_o9) rfl rfl hl.1 rfl (lv_room (Nat.le_of_ble_eq_true rfl)) dL_law_256 ⟨by show cells + 0 ≤ 600000; omega, by show slots + 0 ≤ 7302250; omega⟩) hG hK (fun r1 u H locs h hG => ?_)
  obtain ⟨iv2, ar2⟩ := u
  obtain ⟨e1, ei, ea⟩ := h
  dsimp only at ei ea
  subst ei ea
  dsimp only at hG
  have hG := fx_swap hG
  refine lv_aload_n C.1 C.2.1 dL_law_259 rfl (lv_at hl 2 rfl) ?_
  refine lv_aload_n C.1 C.2.1 dL_law_260 rfl (lv_at hl 0 rfl) ?_
  refine lv_iload_n C.1 C.2.1 dL_law_261 rfl (lv_at hl 3 rfl) ?_
  refine lv_iconst (v := 1) C.1 C.2.1 dL_law_262 (by decide) ?_
  refine lv_iadd C.1 C.2.1 dL_law_263 ?_
  refine va_sld C.1 C.2.1 hX hbl hbA hG.2.2 v1 dL_law_264 ?_
  refine lv_aload_n C.1 C.2.1 dL_law_265 rfl (lv_at hl 0 rfl) ?_
  refine lv_iload_n C.1 C.2.1 dL_law_266 rfl (lv_at hl 3 rfl) ?_
  refine lv_iconst (v := 2) C.1 C.2.1 dL_law_267 (by decide) ?_
  refine lv_iadd C.1 C.2.1 dL_law_268 ?_
  refine va_sld C.1 C.2.1 hX hbl hbA hG.2.2 v2 dL_law_269 ?_
  refine fx_calli (U := fw_F × fw_R) (w1 := fun u => mw G mh md u.1 u.2) (va_runV (As := [.int (xs (x3 + 1).toNatClampNeg), .int (xs (x3 + 2).toNatClampNeg)]) (rest := [.int r1]) ⟨C.1, C.2.1, C.2.2.2.2.2.2, C.2.2.2.2.2.1, C.2.2.2.2.1⟩ (soX10_ofKnife l G mh md jv br (xs (x3 + 1).toNatClampNeg) (xs (x3 + 2).toNatClampNeg) _ w2 H.size) (cwV 2 C.2.2.2.2.1 gL_law_X10_ofKnife rfl rfl rfl (by decide +kernel) ⟨Nat.le_of_ble_eq_true rfl, Nat.le_of_ble_eq_true rfl⟩) (fw_preV (fx_sub hG) hK (ci := 10) rfl mw_o) rfl rfl hl.1 rfl (lv_room (Nat.le_of_ble_eq_true rfl)) dL_law_270 ⟨by show cells + 0 + 0 ≤ 600000; omega, by show slots + 0 + 0 ≤ 7302250; omega⟩) hG hK (fun r3 u H locs h hG => ?_)
  obtain ⟨jv2, br2⟩ := u
  obtain ⟨e2, ei, ea⟩ := h
  dsimp only at ei ea
  subst ei ea
  dsimp only at hG
  have hG := fx_swap hG
  refine lv_icmp_eq (tgt := 1757) C.1 C.2.1 dL_law_273 (by decide) (fun _ => ?_) (fun c1 => absurd (e1.trans e2.symm) c1)
  refine W.widen (k := cells + 2) (n := slots + 222) (by omega) (by omega) ?_
  exact kX _ _ _ _ _ _ _ _ _ hR hG hl
set_option maxHeartbeats 4000000 in
set_option maxRecDepth 100000 in
theorem lw_c2 {p : Program} {l : Launch} {e : Env} {s : State} {m : MethodId} {below : List Frame} {meth : Method} {c : Code} {b L : Nat} {xs : Nat → Int32} {G : fw_G} {mh : Nat} {md : Nat → Nat} {Rl : kw_T → fw_F → fw_R → fw_F → fw_R → Prop} {ad : Nat → Nat} {kt : kw_T} {iv : fw_F} {ar : fw_R} {jv : fw_F} {br : fw_R} {x3 : Int32} {cells slots : Nat} {H : Heap} {locs : List Loc} {ls : Array Slot} (C : fw_C p s m #[Value.ref b] meth c cL_law 4 ret wsL_law RL) (hK : fw_K G (fun q : Nat => s.heap.size ≤ q) s) (hX : va_X b L xs s s.heap) (hbl : b < s.heap.size) (hbA : ¬ (fun q : Nat => s.heap.size ≤ q) b) (hR : Rl kt iv ar jv br) (hp : pu_lies Rl kt iv ar jv br (xs (x3 + 1).toNatClampNeg) (xs (x3 + 2).toNatClampNeg) (xs (x3 + 3).toNatClampNeg) (xs (x3 + 4).toNatClampNeg)) (v1 : vp_in (x3 + 1) L) (v2 : vp_in (x3 + 2) L) (v3 : vp_in (x3 + 3) L) (v4 : vp_in (x3 + 4) L) (hc : cells + 2 ≤ 600000) (hs : slots + 222 ≤ 7302250) (hG : fw_H G (mw G mh md jv br ++ kw G ad kt iv ar) (fun q : Nat => s.heap.size ≤ q) s H locs) (hl : lv_has ls 4 [(0, .ref b), (1, .ref (ad 0)), (2, .ref mh), (3, .int x3)]) (kX : ∀ (ad : Nat → Nat) (kt : kw_T) (iv : fw_F) (ar : fw_R) (jv : fw_F) (br : fw_R) (H : Heap) (locs : List Loc) (ls : Array Slot), Rl kt iv ar jv br → fw_H G (mw G mh md jv br ++ kw G ad kt iv ar) (fun q : Nat => s.heap.size ≤ q) s H locs → lv_has ls 4 [(0, .ref b), (1, .ref (ad 0)), (2, .ref mh), (3, .int x3)] → W p l e room_1 s m #[Value.ref b] below meth c H locs (cells + 2) (slots + 222) (lw_Z below #[Value.ref b] s) (F0 m 1757 ls [])) : W p l e room_1 s m #[Value.ref b] below meth c H locs cells slots (lw_Z below #[Value.ref b] s) (F0 m 278 ls []) := by
  obtain ⟨r, hR, w1, w2⟩ := hp
  refine lv_aload_n C.1 C.2.1 dL_law_278 rfl (lv_at hl 1 rfl) ?_
  refine lv_aload_n C.1 C.2.1 dL_law_279 rfl (lv_at hl 0 rfl) ?_
  refine lv_iload_n C.1 C.2.1 dL_law_280 rfl (lv_at hl 3 rfl) ?_
  refine lv_iconst (v := 1) C.1 C.2.1 dL_law_281 (by decide) ?_
  refine lv_iadd C.1 C.2.1 dL_law_282 ?_
  refine va_sld C.1 C.2.1 hX hbl hbA hG.2.2 v1 dL_law_283 ?_
  refine lv_aload_n C.1 C.2.1 dL_law_284 rfl (lv_at hl 0 rfl) ?_
  refine lv_iload_n C.1 C.2.1 dL_law_285 rfl (lv_at hl 3 rfl) ?_
  refine lv_iconst (v := 2) C.1 C.2.1 dL_law_286 (by decide) ?_
  refine lv_iadd C.1 C.2.1 dL_law_287 ?_
  refine va_sld C.1 C.2.1 hX hbl hbA hG.2.2 v2 dL_law_288 ?_
  refine lv_aload_n C.1 C.2.1 dL_law_289 rfl (lv_at hl 0 rfl) ?_
  refine lv_iload_n C.1 C.2.1 dL_law_290 rfl (lv_at hl 3 rfl) ?_
  refine lv_iconst (v := 3) C.1 C.2.1 dL_law_291 (by decide) ?_
  refine lv_iadd C.1 C.2.1 dL_law_292 ?_
  refine va_sld C.1 C.2.1 hX hbl hbA hG.2.2 v3 dL_law_293 ?_
  refine lv_aload_n C.1 C.2.1 dL_law_294 rfl (lv_at hl 0 rfl) ?_
  refine lv_iload_n C.1 C.2.1 dL_law_295 rfl (lv_at hl 3 rfl) ?_
  refine lv_iconst (v := 4) C.1 C.2.1 dL_law_296 (by decide) ?_
  refine lv_iadd C.1 C.2.1 dL_law_297 ?_
  refine va_sld C.1 C.2.1 hX hbl hbA hG.2.2 v4 dL_law_298 ?_
  refine fx_calll (U := fw_F × fw_R) (w1 := (fun u : fw_F × fw_R => kw G ad kt u.1 u.2)) (va_runV (As := [.int (xs (x3 + 1).toNatClampNeg), .int (xs (x3 + 2).toNatClampNeg), .int (xs (x3 + 3).toNatClampNeg), .int (xs (x3 + 4).toNatClampNeg)]) (rest := []) ⟨C.1, C.2.1, C.2.2.2.2.2.2, C.2.2.2.2.2.1, C.2.2.2.2.1⟩ (soX9_lies l G ad kt iv ar (xs (x3 + 1).toNatClampNeg) (xs (x3 + 2).toNatClampNeg) (xs (x3 + 3).toNatClampNeg) (xs (x3 + 4).toNatClampNeg) _ w1 H.size) (cwV 4 C.2.2.2.2.1 gL_law_X9_lies rfl rfl rfl (by decide +kernel) ⟨Nat.le_of_ble_eq_true rfl, Nat.le_of_ble_eq_true rfl⟩) (fw_preV (fx_sub hG) hK (ci := 9) rfl kw_o9) rfl rfl hl.1 rfl (lv_room (Nat.le_of_ble_eq_true rfl)) dL_law_299 ⟨by show cells + 0 ≤ 600000; omega, by show slots + 0 ≤ 7302250; omega⟩) hG hK (fun r1 u H locs h hG => ?_)
  obtain ⟨iv2, ar2⟩ := u
  obtain ⟨e1, ei, ea⟩ := h
  dsimp only at ei ea
  subst ei ea
  dsimp only at hG
  have hG := fx_swap hG
  refine lv_aload_n C.1 C.2.1 dL_law_302 rfl (lv_at hl 2 rfl) ?_
  refine lv_aload_n C.1 C.2.1 dL_law_303 rfl (lv_at hl 0 rfl) ?_
  refine lv_iload_n C.1 C.2.1 dL_law_304 rfl (lv_at hl 3 rfl) ?_
  refine lv_iconst (v := 1) C.1 C.2.1 dL_law_305 (by decide) ?_
  refine lv_iadd C.1 C.2.1 dL_law_306 ?_
  refine va_sld C.1 C.2.1 hX hbl hbA hG.2.2 v1 dL_law_307 ?_
  refine lv_aload_n C.1 C.2.1 dL_law_308 rfl (lv_at hl 0 rfl) ?_
  refine lv_iload_n C.1 C.2.1 dL_law_309 rfl (lv_at hl 3 rfl) ?_
  refine lv_iconst (v := 2) C.1 C.2.1 dL_law_310 (by decide) ?_
  refine lv_iadd C.1 C.2.1 dL_law_311 ?_
  refine va_sld C.1 C.2.1 hX hbl hbA hG.2.2 v2 dL_law_312 ?_
  refine lv_aload_n C.1 C.2.1 dL_law_313 rfl (lv_at hl 0 rfl) ?_
  refine lv_iload_n C.1 C.2.1 dL_law_314 rfl (lv_at hl 3 rfl) ?_
  refine lv_iconst (v := 3) C.1 C.2.1 dL_law_315 (by decide) ?_
  refine lv_iadd C.1 C.2.1 dL_law_316 ?_
  refine va_sld C.1 C.2.1 hX hbl hbA hG.2.2 v3 dL_law_317 ?_
  refine lv_aload_n C.1 C.2.1 dL_law_318 rfl (lv_at hl 0 rfl) ?_
  refine lv_iload_n C.1 C.2.1 dL_law_319 rfl (lv_at hl 3 rfl) ?_
  refine lv_iconst (v := 4) C.1 C.2.1 dL_law_320 (by decide) ?_
  refine lv_iadd C.1 C.2.1 dL_law_321 ?_
  refine va_sld C.1 C.2.1 hX hbl hbA hG.2.2 v4 dL_law_322 ?_
  refine fx_calll (U := fw_F × fw_R) (w1 := fun u => mw G mh md u.1 u.2) (va_runV (As := [.int (xs (x3 + 1).toNatClampNeg), .int (xs (x3 + 2).toNatClampNeg), .int (xs (x3 + 3).toNatClampNeg), .int (xs (x3 + 4).toNatClampNeg)]) (rest := [.long r1]) ⟨C.1, C.2.1, C.2.2.2.2.2.2, C.2.2.2.2.2.1, C.2.2.2.2.1⟩ (soX10_lies l G mh md jv br (xs (x3 + 1).toNatClampNeg) (xs (x3 + 2).toNatClampNeg) (xs (x3 + 3).toNatClampNeg) (xs (x3 + 4).toNatClampNeg) _ w2 H.size) (cwV 4 C.2.2.2.2.1 gL_law_X10_lies rfl rfl rfl (by decide +kernel) ⟨Nat.le_of_ble_eq_true rfl, Nat.le_of_ble_eq_true rfl⟩) (fw_preV (fx_sub hG) hK (ci := 10) rfl mw_o) rfl rfl hl.1 rfl (lv_room (Nat.le_of_ble_eq_true rfl)) dL_law_323 ⟨by show cells + 0 + 0 ≤ 600000; omega, by show slots + 0 + 0 ≤ 7302250; omega⟩) hG hK (fun r3 u H locs h hG => ?_)
  obtain ⟨jv2, br2⟩ := u
  obtain ⟨e2, ei, ea⟩ := h
  dsimp only at ei ea
  subst ei ea
  dsimp only at hG
  have hG := fx_swap hG
  refine W.lcmp C.1 C.2.1 dL_law_326 ?_
  refine lv_if_eq (tgt := 1757) C.1 C.2.1 dL_law_327 (by decide) (fun _ => ?_) (fun c1 => absurd ((lg_cmp_eq r1 r3).mpr (e1.trans e2.symm)) c1)
  refine W.widen (k := cells + 2) (n := slots + 222) (by omega) (by omega) ?_
  exact kX _ _ _ _ _ _ _ _ _ hR hG hl
set_option maxHeartbeats 4000000 in
set_option maxRecDepth 100000 in
theorem lw_c3 {p : Program} {l : Launch} {e : Env} {s : State} {m : MethodId} {below : List Frame} {meth : Method} {c : Code} {b L : Nat} {xs : Nat → Int32} {G : fw_G} {mh : Nat} {md : Nat → Nat} {Rl : kw_T → fw_F → fw_R → fw_F → fw_R → Prop} {ad : Nat → Nat} {kt : kw_T} {iv : fw_F} {ar : fw_R} {jv : fw_F} {br : fw_R} {x3 : Int32} {cells slots : Nat} {H : Heap} {locs : List Loc} {ls : Array Slot} (C : fw_C p s m #[Value.ref b] meth c cL_law 4 ret wsL_law RL) (hK : fw_K G (fun q : Nat => s.heap.size ≤ q) s) (hX : va_X b L xs s s.heap) (hbl : b < s.heap.size) (hbA : ¬ (fun q : Nat => s.heap.size ≤ q) b) (hR : Rl kt iv ar jv br) (hp : pu_comes Rl kt iv ar jv br (xs (x3 + 1).toNatClampNeg) (xs (x3 + 2).toNatClampNeg) (xs (x3 + 3).toNatClampNeg)) (v1 : vp_in (x3 + 1) L) (v2 : vp_in (x3 + 2) L) (v3 : vp_in (x3 + 3) L) (hc : cells + 2 ≤ 600000) (hs : slots + 222 ≤ 7302250) (hG : fw_H G (mw G mh md jv br ++ kw G ad kt iv ar) (fun q : Nat => s.heap.size ≤ q) s H locs) (hl : lv_has ls 4 [(0, .ref b), (1, .ref (ad 0)), (2, .ref mh), (3, .int x3)]) (kX : ∀ (ad : Nat → Nat) (kt : kw_T) (iv : fw_F) (ar : fw_R) (jv : fw_F) (br : fw_R) (H : Heap) (locs : List Loc) (ls : Array Slot), Rl kt iv ar jv br → fw_H G (mw G mh md jv br ++ kw G ad kt iv ar) (fun q : Nat => s.heap.size ≤ q) s H locs → lv_has ls 4 [(0, .ref b), (1, .ref (ad 0)), (2, .ref mh), (3, .int x3)] → W p l e room_1 s m #[Value.ref b] below meth c H locs (cells + 2) (slots + 222) (lw_Z below #[Value.ref b] s) (F0 m 1757 ls [])) : W p l e room_1 s m #[Value.ref b] below meth c H locs cells slots (lw_Z below #[Value.ref b] s) (F0 m 332 ls []) := by
  obtain ⟨r, hR, w1, w2⟩ := hp
  refine lv_aload_n C.1 C.2.1 dL_law_332 rfl (lv_at hl 1 rfl) ?_
  refine lv_aload_n C.1 C.2.1 dL_law_333 rfl (lv_at hl 0 rfl) ?_
  refine lv_iload_n C.1 C.2.1 dL_law_334 rfl (lv_at hl 3 rfl) ?_
  refine lv_iconst (v := 1) C.1 C.2.1 dL_law_335 (by decide) ?_
  refine lv_iadd C.1 C.2.1 dL_law_336 ?_
  refine va_sld C.1 C.2.1 hX hbl hbA hG.2.2 v1 dL_law_337 ?_
  refine lv_aload_n C.1 C.2.1 dL_law_338 rfl (lv_at hl 0 rfl) ?_
  refine lv_iload_n C.1 C.2.1 dL_law_339 rfl (lv_at hl 3 rfl) ?_
  refine lv_iconst (v := 2) C.1 C.2.1 dL_law_340 (by decide) ?_
  refine lv_iadd C.1 C.2.1 dL_law_341 ?_
  refine va_sld C.1 C.2.1 hX hbl hbA hG.2.2 v2 dL_law_342 ?_
  refine lv_aload_n C.1 C.2.1 dL_law_343 rfl (lv_at hl 0 rfl) ?_
  refine lv_iload_n C.1 C.2.1 dL_law_344 rfl (lv_at hl 3 rfl) ?_
  refine lv_iconst (v := 3) C.1 C.2.1 dL_law_345 (by decide) ?_
  refine lv_iadd C.1 C.2.1 dL_law_346 ?_
  refine va_sld C.1 C.2.1 hX hbl hbA hG.2.2 v3 dL_law_347 ?_
  refine fx_calli (U := fw_F × fw_R) (w1 := (fun u : fw_F × fw_R => kw G ad kt u.1 u.2)) (va_runV (As := [.int (xs (x3 + 1).toNatClampNeg), .int (xs (x3 + 2).toNatClampNeg), .int (xs (x3 + 3).toNatClampNeg)]) (rest := []) ⟨C.1, C.2.1, C.2.2.2.2.2.2, C.2.2.2.2.2.1, C.2.2.2.2.1⟩ (soX9_comes l G ad kt iv ar (xs (x3 + 1).toNatClampNeg) (xs (x3 + 2).toNatClampNeg) (xs (x3 + 3).toNatClampNeg) _ w1 H.size) (cwV 3 C.2.2.2.2.1 gL_law_X9_comes rfl rfl rfl (by decide +kernel) ⟨Nat.le_of_ble_eq_true rfl, Nat.le_of_ble_eq_true rfl⟩) (fw_preV (fx_sub hG) hK (ci := 9) rfl kw_o9) rfl rfl hl.1 rfl (lv_room (Nat.le_of_ble_eq_true rfl)) dL_law_348 ⟨by show cells + 0 ≤ 600000; omega, by show slots + 0 ≤ 7302250; omega⟩) hG hK (fun r1 u H locs h hG => ?_)
  obtain ⟨iv2, ar2⟩ := u
  obtain ⟨e1, ei, ea⟩ := h
  dsimp only at ei ea
  subst ei ea
  dsimp only at hG
  have hG := fx_swap hG
  refine lv_aload_n C.1 C.2.1 dL_law_351 rfl (lv_at hl 2 rfl) ?_
  refine lv_aload_n C.1 C.2.1 dL_law_352 rfl (lv_at hl 0 rfl) ?_
  refine lv_iload_n C.1 C.2.1 dL_law_353 rfl (lv_at hl 3 rfl) ?_
  refine lv_iconst (v := 1) C.1 C.2.1 dL_law_354 (by decide) ?_
  refine lv_iadd C.1 C.2.1 dL_law_355 ?_
  refine va_sld C.1 C.2.1 hX hbl hbA hG.2.2 v1 dL_law_356 ?_
  refine lv_aload_n C.1 C.2.1 dL_law_357 rfl (lv_at hl 0 rfl) ?_
  refine lv_iload_n C.1 C.2.1 dL_law_358 rfl (lv_at hl 3 rfl) ?_
  refine lv_iconst (v := 2) C.1 C.2.1 dL_law_359 (by decide) ?_
  refine lv_iadd C.1 C.2.1 dL_law_360 ?_
  refine va_sld C.1 C.2.1 hX hbl hbA hG.2.2 v2 dL_law_361 ?_
  refine lv_aload_n C.1 C.2.1 dL_law_362 rfl (lv_at hl 0 rfl) ?_
  refine lv_iload_n C.1 C.2.1 dL_law_363 rfl (lv_at hl 3 rfl) ?_
  refine lv_iconst (v := 3) C.1 C.2.1 dL_law_364 (by decide) ?_
  refine lv_iadd C.1 C.2.1 dL_law_365 ?_
  refine va_sld C.1 C.2.1 hX hbl hbA hG.2.2 v3 dL_law_366 ?_
  refine fx_calli (U := fw_F × fw_R) (w1 := fun u => mw G mh md u.1 u.2) (va_runV (As := [.int (xs (x3 + 1).toNatClampNeg), .int (xs (x3 + 2).toNatClampNeg), .int (xs (x3 + 3).toNatClampNeg)]) (rest := [.int r1]) ⟨C.1, C.2.1, C.2.2.2.2.2.2, C.2.2.2.2.2.1, C.2.2.2.2.1⟩ (soX10_comes l G mh md jv br (xs (x3 + 1).toNatClampNeg) (xs (x3 + 2).toNatClampNeg) (xs (x3 + 3).toNatClampNeg) _ w2 H.size) (cwV 3 C.2.2.2.2.1 gL_law_X10_comes rfl rfl rfl (by decide +kernel) ⟨Nat.le_of_ble_eq_true rfl, Nat.le_of_ble_eq_true rfl⟩) (fw_preV (fx_sub hG) hK (ci := 10) rfl mw_o) rfl rfl hl.1 rfl (lv_room (Nat.le_of_ble_eq_true rfl)) dL_law_367 ⟨by show cells + 0 + 0 ≤ 600000; omega, by show slots + 0 + 0 ≤ 7302250; omega⟩) hG hK (fun r3 u H locs h hG => ?_)
  obtain ⟨jv2, br2⟩ := u
  obtain ⟨e2, ei, ea⟩ := h
  dsimp only at ei ea
  subst ei ea
  dsimp only at hG
  have hG := fx_swap hG
  refine lv_icmp_eq (tgt := 1757) C.1 C.2.1 dL_law_370 (by decide) (fun _ => ?_) (fun c1 => absurd (e1.trans e2.symm) c1)
  refine W.widen (k := cells + 2) (n := slots + 222) (by omega) (by omega) ?_
  exact kX _ _ _ _ _ _ _ _ _ hR hG hl
set_option maxHeartbeats 4000000 in
set_option maxRecDepth 100000 in
theorem lw_c4 {p : Program} {l : Launch} {e : Env} {s : State} {m : MethodId} {below : List Frame} {meth : Method} {c : Code} {b L : Nat} {xs : Nat → Int32} {G : fw_G} {mh : Nat} {md : Nat → Nat} {Rl : kw_T → fw_F → fw_R → fw_F → fw_R → Prop} {ad : Nat → Nat} {kt : kw_T} {iv : fw_F} {ar : fw_R} {jv : fw_F} {br : fw_R} {x3 : Int32} {cells slots : Nat} {H : Heap} {locs : List Loc} {ls : Array Slot} (C : fw_C p s m #[Value.ref b] meth c cL_law 4 ret wsL_law RL) (hK : fw_K G (fun q : Nat => s.heap.size ≤ q) s) (hX : va_X b L xs s s.heap) (hbl : b < s.heap.size) (hbA : ¬ (fun q : Nat => s.heap.size ≤ q) b) (hR : Rl kt iv ar jv br) (hp : pu_sticks Rl kt iv ar jv br (xs (x3 + 1).toNatClampNeg) (xs (x3 + 2).toNatClampNeg)) (v1 : vp_in (x3 + 1) L) (v2 : vp_in (x3 + 2) L) (hc : cells + 2 ≤ 600000) (hs : slots + 222 ≤ 7302250) (hG : fw_H G (mw G mh md jv br ++ kw G ad kt iv ar) (fun q : Nat => s.heap.size ≤ q) s H locs) (hl : lv_has ls 4 [(0, .ref b), (1, .ref (ad 0)), (2, .ref mh), (3, .int x3)]) (kX : ∀ (ad : Nat → Nat) (kt : kw_T) (iv : fw_F) (ar : fw_R) (jv : fw_F) (br : fw_R) (H : Heap) (locs : List Loc) (ls : Array Slot), Rl kt iv ar jv br → fw_H G (mw G mh md jv br ++ kw G ad kt iv ar) (fun q : Nat => s.heap.size ≤ q) s H locs → lv_has ls 4 [(0, .ref b), (1, .ref (ad 0)), (2, .ref mh), (3, .int x3)] → W p l e room_1 s m #[Value.ref b] below meth c H locs (cells + 2) (slots + 222) (lw_Z below #[Value.ref b] s) (F0 m 1757 ls [])) : W p l e room_1 s m #[Value.ref b] below meth c H locs cells slots (lw_Z below #[Value.ref b] s) (F0 m 375 ls []) := by
  obtain ⟨r, hR, w1, w2⟩ := hp
  refine lv_aload_n C.1 C.2.1 dL_law_375 rfl (lv_at hl 1 rfl) ?_
  refine lv_aload_n C.1 C.2.1 dL_law_376 rfl (lv_at hl 0 rfl) ?_
  refine lv_iload_n C.1 C.2.1 dL_law_377 rfl (lv_at hl 3 rfl) ?_
  refine lv_iconst (v := 1) C.1 C.2.1 dL_law_378 (by decide) ?_
  refine lv_iadd C.1 C.2.1 dL_law_379 ?_
  refine va_sld C.1 C.2.1 hX hbl hbA hG.2.2 v1 dL_law_380 ?_
  refine lv_aload_n C.1 C.2.1 dL_law_381 rfl (lv_at hl 0 rfl) ?_
  refine lv_iload_n C.1 C.2.1 dL_law_382 rfl (lv_at hl 3 rfl) ?_
  refine lv_iconst (v := 2) C.1 C.2.1 dL_law_383 (by decide) ?_
  refine lv_iadd C.1 C.2.1 dL_law_384 ?_
  refine va_sld C.1 C.2.1 hX hbl hbA hG.2.2 v2 dL_law_385 ?_
  refine fx_calli (U := fw_F × fw_R) (w1 := (fun u : fw_F × fw_R => kw G ad kt u.1 u.2)) (va_runV (As := [.int (xs (x3 + 1).toNatClampNeg), .int (xs (x3 + 2).toNatClampNeg)]) (rest := []) ⟨C.1, C.2.1, C.2.2.2.2.2.2, C.2.2.2.2.2.1, C.2.2.2.2.1⟩ (soX9_sticks l G ad kt iv ar (xs (x3 + 1).toNatClampNeg) (xs (x3 + 2).toNatClampNeg) _ w1 H.size) (cwV 2 C.2.2.2.2.1 gL_law_X9_sticks rfl rfl rfl (by decide +kernel) ⟨Nat.le_of_ble_eq_true rfl, Nat.le_of_ble_eq_true rfl⟩) (fw_preV (fx_sub hG) hK (ci := 9) rfl kw_o9) rfl rfl hl.1 rfl (lv_room (Nat.le_of_ble_eq_true rfl)) dL_law_386 ⟨by show cells + 0 ≤ 600000; omega, by show slots + 0 ≤ 7302250; omega⟩) hG hK (fun r1 u H locs h hG => ?_)
  obtain ⟨iv2, ar2⟩ := u
  obtain ⟨e1, ei, ea⟩ := h
  dsimp only at ei ea
  subst ei ea
  dsimp only at hG
  have hG := fx_swap hG
  refine lv_aload_n C.1 C.2.1 dL_law_389 rfl (lv_at hl 2 rfl) ?_
  refine lv_aload_n C.1 C.2.1 dL_law_390 rfl (lv_at hl 0 rfl) ?_
  refine lv_iload_n C.1 C.2.1 dL_law_391 rfl (lv_at hl 3 rfl) ?_
  refine lv_iconst (v := 1) C.1 C.2.1 dL_law_392 (by decide) ?_
  refine lv_iadd C.1 C.2.1 dL_law_393 ?_
  refine va_sld C.1 C.2.1 hX hbl hbA hG.2.2 v1 dL_law_394 ?_
  refine lv_aload_n C.1 C.2.1 dL_law_395 rfl (lv_at hl 0 rfl) ?_
  refine lv_iload_n C.1 C.2.1 dL_law_396 rfl (lv_at hl 3 rfl) ?_
  refine lv_iconst (v := 2) C.1 C.2.1 dL_law_397 (by decide) ?_
  refine lv_iadd C.1 C.2.1 dL_law_398 ?_
  refine va_sld C.1 C.2.1 hX hbl hbA hG.2.2 v2 dL_law_399 ?_
  refine fx_calli (U := fw_F × fw_R) (w1 := fun u => mw G mh md u.1 u.2) (va_runV (As := [.int (xs (x3 + 1).toNatClampNeg), .int (xs (x3 + 2).toNatClampNeg)]) (rest := [.int r1]) ⟨C.1, C.2.1, C.2.2.2.2.2.2, C.2.2.2.2.2.1, C.2.2.2.2.1⟩ (soX10_sticks l G mh md jv br (xs (x3 + 1).toNatClampNeg) (xs (x3 + 2).toNatClampNeg) _ w2 H.size) (cwV 2 C.2.2.2.2.1 gL_law_X10_sticks rfl rfl rfl (by decide +kernel) ⟨Nat.le_of_ble_eq_true rfl, Nat.le_of_ble_eq_true rfl⟩) (fw_preV (fx_sub hG) hK (ci := 10) rfl mw_o) rfl rfl hl.1 rfl (lv_room (Nat.le_of_ble_eq_true rfl)) dL_law_400 ⟨by show cells + 0 + 0 ≤ 600000; omega, by show slots + 0 + 0 ≤ 7302250; omega⟩) hG hK (fun r3 u H locs h hG => ?_)
  obtain ⟨jv2, br2⟩ := u
  obtain ⟨e2, ei, ea⟩ := h
  dsimp only at ei ea
  subst ei ea
  dsimp only at hG
  have hG := fx_swap hG
  refine lv_icmp_eq (tgt := 1757) C.1 C.2.1 dL_law_403 (by decide) (fun _ => ?_) (fun c1 => absurd (e1.trans e2.symm) c1)
  refine W.widen (k := cells + 2) (n := slots + 222) (by omega) (by omega) ?_
  exact kX _ _ _ _ _ _ _ _ _ hR hG hl
set_option maxHeartbeats 4000000 in
set_option maxRecDepth 100000 in
theorem lw_c5 {p : Program} {l : Launch} {e : Env} {s : State} {m : MethodId} {below : List Frame} {meth : Method} {c : Code} {b L : Nat} {xs : Nat → Int32} {G : fw_G} {mh : Nat} {md : Nat → Nat} {Rl : kw_T → fw_F → fw_R → fw_F → fw_R → Prop} {ad : Nat → Nat} {kt : kw_T} {iv : fw_F} {ar : fw_R} {jv : fw_F} {br : fw_R} {x3 : Int32} {cells slots : Nat} {H : Heap} {locs : List Loc} {ls : Array Slot} (C : fw_C p s m #[Value.ref b] meth c cL_law 4 ret wsL_law RL) (hK : fw_K G (fun q : Nat => s.heap.size ≤ q) s) (hX : va_X b L xs s s.heap) (hbl : b < s.heap.size) (hbA : ¬ (fun q : Nat => s.heap.size ≤ q) b) (hR : Rl kt iv ar jv br) (hp : pu_hand Rl kt iv ar jv br (xs (x3 + 1).toNatClampNeg) (xs (x3 + 2).toNatClampNeg) (xs (x3 + 3).toNatClampNeg) (xs (x3 + 4).toNatClampNeg)) (v1 : vp_in (x3 + 1) L) (v2 : vp_in (x3 + 2) L) (v3 : vp_in (x3 + 3) L) (v4 : vp_in (x3 + 4) L) (hc : cells + 2 ≤ 600000) (hs : slots + 222 ≤ 7302250) (hG : fw_H G (mw G mh md jv br ++ kw G ad kt iv ar) (fun q : Nat => s.heap.size ≤ q) s H locs) (hl : lv_has ls 4 [(0, .ref b), (1, .ref (ad 0)), (2, .ref mh), (3, .int x3)]) (kX : ∀ (ad : Nat → Nat) (kt : kw_T) (iv : fw_F) (ar : fw_R) (jv : fw_F) (br : fw_R) (H : Heap) (locs : List Loc) (ls : Array Slot), Rl kt iv ar jv br → fw_H G (mw G mh md jv br ++ kw G ad kt iv ar) (fun q : Nat => s.heap.size ≤ q) s H locs → lv_has ls 4 [(0, .ref b), (1, .ref (ad 0)), (2, .ref mh), (3, .int x3)] → W p l e room_1 s m #[Value.ref b] below meth c H locs (cells + 2) (slots + 222) (lw_Z below #[Value.ref b] s) (F0 m 1757 ls [])) : W p l e room_1 s m #[Value.ref b] below meth c H locs cells slots (lw_Z below #[Value.ref b] s) (F0 m 408 ls []) := by
  obtain ⟨r, P10, P9, hR, w1, w2⟩ := hp
  refine lv_aload_n C.1 C.2.1 dL_law_408 rfl (lv_at hl 1 rfl) ?_
  refine lv_aload_n C.1 C.2.1 dL_law_409 rfl (lv_at hl 0 rfl) ?_
  refine lv_iload_n C.1 C.2.1 dL_law_410 rfl (lv_at hl 3 rfl) ?_
  refine lv_iconst (v := 1) C.1 C.2.1 dL_law_411 (by decide) ?_
  refine lv_iadd C.1 C.2.1 dL_law_412 ?_
  refine va_sld C.1 C.2.1 hX hbl hbA hG.2.2 v1 dL_law_413 ?_
  refine lv_aload_n C.1 C.2.1 dL_law_414 rfl (lv_at hl 0 rfl) ?_
  refine lv_iload_n C.1 C.2.1 dL_law_415 rfl (lv_at hl 3 rfl) ?_
  refine lv_iconst (v := 2) C.1 C.2.1 dL_law_416 (by decide) ?_
  refine lv_iadd C.1 C.2.1 dL_law_417 ?_
  refine va_sld C.1 C.2.1 hX hbl hbA hG.2.2 v2 dL_law_418 ?_
  refine lv_aload_n C.1 C.2.1 dL_law_419 rfl (lv_at hl 0 rfl) ?_
  refine lv_iload_n C.1 C.2.1 dL_law_420 rfl (lv_at hl 3 rfl) ?_
  refine lv_iconst (v := 3) C.1 C.2.1 dL_law_421 (by decide) ?_
  refine lv_iadd C.1 C.2.1 dL_law_422 ?_
  refine va_sld C.1 C.2.1 hX hbl hbA hG.2.2 v3 dL_law_423 ?_
  refine lv_aload_n C.1 C.2.1 dL_law_424 rfl (lv_at hl 0 rfl) ?_
  refine lv_iload_n C.1 C.2.1 dL_law_425 rfl (lv_at hl 3 rfl) ?_
  refine lv_iconst (v := 4) C.1 C.2.1 dL_law_426 (by decide) ?_
  refine lv_iadd C.1 C.2.1 dL_law_427 ?_
  refine va_sld C.1 C.2.1 hX hbl hbA hG.2.2 v4 dL_law_428 ?_
  refine fx_calli (U := fw_F × fw_R) (w1 := (fun u : fw_F × fw_R => kw G ad kt u.1 u.2)) (va_runV (As := [.int (xs (x3 + 1).toNatClampNeg), .int (xs (x3 + 2).toNatClampNeg), .int (xs (x3 + 3).toNatClampNeg), .int (xs (x3 + 4).toNatClampNeg)]) (rest := []) ⟨C.1, C.2.1, C.2.2.2.2.2.2, C.2.2.2.2.2.1, C.2.2.2.2.1⟩ (soX9_hand l G ad kt iv ar (xs (x3 + 1).toNatClampNeg) (xs (x3 + 2).toNatClampNeg) (xs (x3 + 3).toNatClampNeg) (xs (x3 + 4).toNatClampNeg) _ w1 H.size) (cwV 4 C.2.2.2.2.1 gL_law_X9_hand rfl rfl rfl (by decide +kernel) ⟨Nat.le_of_ble_eq_true rfl, Nat.le_of_ble_eq_true rfl⟩) (fw_preV (fx_sub hG) hK (ci := 9) rfl kw_o9) rfl rfl hl.1 rfl (lv_room (Nat.le_of_ble_eq_true rfl)) dL_law_429 ⟨by show cells + 0 ≤ 600000; omega, by show slots + 0 ≤ 7302250; omega⟩) hG hK (fun r1 u H locs h hG => ?_)
  obtain ⟨iv2, ar2⟩ := u
  obtain ⟨e1, p9⟩ := h
  dsimp only at p9 hG
  have hG := fx_swap hG
  refine lv_aload_n C.1 C.2.1 dL_law_432 rfl (lv_at hl 2 rfl) ?_
  refine lv_aload_n C.1 C.2.1 dL_law_433 rfl (lv_at hl 0 rfl) ?_
  refine lv_iload_n C.1 C.2.1 dL_law_434 rfl (lv_at hl 3 rfl) ?_
  refine lv_iconst (v := 1) C.1 C.2.1 dL_law_435 (by decide) ?_
  refine lv_iadd C.1 C.2.1 dL_law_436 ?_
  refine va_sld C.1 C.2.1 hX hbl hbA hG.2.2 v1 dL_law_437 ?_
  refine lv_aload_n C.1 C.2.1 dL_law_438 rfl (lv_at hl 0 rfl) ?_
  refine lv_iload_n C.1 C.2.1 dL_law_439 rfl (lv_at hl 3 rfl) ?_
  refine lv_iconst (v := 2) C.1 C.2.1 dL_law_440 (by decide) ?_
  refine lv_iadd C.1 C.2.1 dL_law_441 ?_
  refine va_sld C.1 C.2.1 hX hbl hbA hG.2.2 v2 dL_law_442 ?_
  refine lv_aload_n C.1 C.2.1 dL_law_443 rfl (lv_at hl 0 rfl) ?_
  refine lv_iload_n C.1 C.2.1 dL_law_444 rfl (lv_at hl 3 rfl) ?_
  refine lv_iconst (v := 3) C.1 C.2.1 dL_law_445 (by decide) ?_
  refine lv_iadd C.1 C.2.1 dL_law_446 ?_
  refine va_sld C.1 C.2.1 hX hbl hbA hG.2.2 v3 dL_law_447 ?_
  refine lv_aload_n C.1 C.2.1 dL_law_448 rfl (lv_at hl 0 rfl) ?_
  refine lv_iload_n C.1 C.2.1 dL_law_449 rfl (lv_at hl 3 rfl) ?_
  refine lv_iconst (v := 4) C.1 C.2.1 dL_law_450 (by decide) ?_
  refine lv_iadd C.1 C.2.1 dL_law_451 ?_
  refine va_sld C.1 C.2.1 hX hbl hbA hG.2.2 v4 dL_law_452 ?_
  refine fx_calli (U := fw_F × fw_R) (w1 := fun u => mw G mh md u.1 u.2) (va_runV (As := [.int (xs (x3 + 1).toNatClampNeg), .int (xs (x3 + 2).toNatClampNeg), .int (xs (x3 + 3).toNatClampNeg), .int (xs (x3 + 4).toNatClampNeg)]) (rest := [.int r1]) ⟨C.1, C.2.1, C.2.2.2.2.2.2, C.2.2.2.2.2.1, C.2.2.2.2.1⟩ (soX10_hand l G mh md jv br (xs (x3 + 1).toNatClampNeg) (xs (x3 + 2).toNatClampNeg) (xs (x3 + 3).toNatClampNeg) (xs (x3 + 4).toNatClampNeg) _ w2 H.size) (cwV 4 C.2.2.2.2.1 gL_law_X10_hand rfl rfl rfl (by decide +kernel) ⟨Nat.le_of_ble_eq_true rfl, Nat.le_of_ble_eq_true rfl⟩) (fw_preV (fx_sub hG) hK (ci := 10) rfl mw_o) rfl rfl hl.1 rfl (lv_room (Nat.le_of_ble_eq_true rfl)) dL_law_453 ⟨by show cells + 0 + 0 ≤ 600000; omega, by show slots + 0 + 0 ≤ 7302250; omega⟩) hG hK (fun r3 u H locs h hG => ?_)
  obtain ⟨jv2, br2⟩ := u
  obtain ⟨e2, p10⟩ := h
  dsimp only at p10 hG
  have hG := fx_swap hG
  refine lv_icmp_eq (tgt := 1757) C.1 C.2.1 dL_law_456 (by decide) (fun _ => ?_) (fun c1 => absurd (e1.trans e2.symm) c1)
  refine W.widen (k := cells + 2) (n := slots + 222) (by omega) (by omega) ?_
  exact kX _ _ _ _ _ _ _ _ _ (hR _ _ p9 _ _ p10) hG hl
set_option maxHeartbeats 4000000 in
set_option maxRecDepth 100000 in
theorem lw_c6 {p : Program} {l : Launch} {e : Env} {s : State} {m : MethodId} {below : List Frame} {meth : Method} {c : Code} {b L : Nat} {xs : Nat → Int32} {G : fw_G} {mh : Nat} {md : Nat → Nat} {Rl : kw_T → fw_F → fw_R → fw_F → fw_R → Prop} {ad : Nat → Nat} {kt : kw_T} {iv : fw_F} {ar : fw_R} {jv : fw_F} {br : fw_R} {x3 : Int32} {cells slots : Nat} {H : Heap} {locs : List Loc} {ls : Array Slot} (C : fw_C p s m #[Value.ref b] meth c cL_law 4 ret wsL_law RL) (hK : fw_K G (fun q : Nat => s.heap.size ≤ q) s) (hX : va_X b L xs s s.heap) (hbl : b < s.heap.size) (hbA : ¬ (fun q : Nat => s.heap.size ≤ q) b) (hR : Rl kt iv ar jv br) (hp : pu_weight Rl kt iv ar jv br (xs (x3 + 1).toNatClampNeg) (xs (x3 + 2).toNatClampNeg) (xs (x3 + 3).toNatClampNeg)) (v1 : vp_in (x3 + 1) L) (v2 : vp_in (x3 + 2) L) (v3 : vp_in (x3 + 3) L) (hc : cells + 2 ≤ 600000) (hs : slots + 222 ≤ 7302250) (hG : fw_H G (mw G mh md jv br ++ kw G ad kt iv ar) (fun q : Nat => s.heap.size ≤ q) s H locs) (hl : lv_has ls 4 [(0, .ref b), (1, .ref (ad 0)), (2, .ref mh), (3, .int x3)]) (kX : ∀ (ad : Nat → Nat) (kt : kw_T) (iv : fw_F) (ar : fw_R) (jv : fw_F) (br : fw_R) (H : Heap) (locs : List Loc) (ls : Array Slot), Rl kt iv ar jv br → fw_H G (mw G mh md jv br ++ kw G ad kt iv ar) (fun q : Nat => s.heap.size ≤ q) s H locs → lv_has ls 4 [(0, .ref b), (1, .ref (ad 0)), (2, .ref mh), (3, .int x3)] → W p l e room_1 s m #[Value.ref b] below meth c H locs (cells + 2) (slots + 222) (lw_Z below #[Value.ref b] s) (F0 m 1757 ls [])) : W p l e room_1 s m #[Value.ref b] below meth c H locs cells slots (lw_Z below #[Value.ref b] s) (F0 m 461 ls []) := by
  obtain ⟨r, hR, w1, w2⟩ := hp
  refine lv_aload_n C.1 C.2.1 dL_law_461 rfl (lv_at hl 1 rfl) ?_
  refine lv_aload_n C.1 C.2.1 dL_law_462 rfl (lv_at hl 0 rfl) ?_
  refine lv_iload_n C.1 C.2.1 dL_law_463 rfl (lv_at hl 3 rfl) ?_
  refine lv_iconst (v := 1) C.1 C.2.1 dL_law_464 (by decide) ?_
  refine lv_iadd C.1 C.2.1 dL_law_465 ?_
  refine va_sld C.1 C.2.1 hX hbl hbA hG.2.2 v1 dL_law_466 ?_
  refine lv_aload_n C.1 C.2.1 dL_law_467 rfl (lv_at hl 0 rfl) ?_
  refine lv_iload_n C.1 C.2.1 dL_law_468 rfl (lv_at hl 3 rfl) ?_
  refine lv_iconst (v := 2) C.1 C.2.1 dL_law_469 (by decide) ?_
  refine lv_iadd C.1 C.2.1 dL_law_470 ?_
  refine va_sld C.1 C.2.1 hX hbl hbA hG.2.2 v2 dL_law_471 ?_
  refine lv_aload_n C.1 C.2.1 dL_law_472 rfl (lv_at hl 0 rfl) ?_
  refine lv_iload_n C.1 C.2.1 dL_law_473 rfl (lv_at hl 3 rfl) ?_
  refine lv_iconst (v := 3) C.1 C.2.1 dL_law_474 (by decide) ?_
  refine lv_iadd C.1 C.2.1 dL_law_475 ?_
  refine va_sld C.1 C.2.1 hX hbl hbA hG.2.2 v3 dL_law_476 ?_
  refine fx_calli (U := fw_F × fw_R) (w1 := (fun u : fw_F × fw_R => kw G ad kt u.1 u.2)) (va_runV (As := [.int (xs (x3 + 1).toNatClampNeg), .int (xs (x3 + 2).toNatClampNeg), .int (xs (x3 + 3).toNatClampNeg)]) (rest := []) ⟨C.1, C.2.1, C.2.2.2.2.2.2, C.2.2.2.2.2.1, C.2.2.2.2.1⟩ (soX9_weight l G ad kt iv ar (xs (x3 + 1).toNatClampNeg) (xs (x3 + 2).toNatClampNeg) (xs (x3 + 3).toNatClampNeg) _ w1 H.size) (cwV 3 C.2.2.2.2.1 gL_law_X9_weight rfl rfl rfl (by decide +kernel) ⟨Nat.le_of_ble_eq_true rfl, Nat.le_of_ble_eq_true rfl⟩) (fw_preV (fx_sub hG) hK (ci := 9) rfl kw_o9) rfl rfl hl.1 rfl (lv_room (Nat.le_of_ble_eq_true rfl)) dL_law_477 ⟨by show cells + 0 ≤ 600000; omega, by show slots + 0 ≤ 7302250; omega⟩) hG hK (fun r1 u H locs h hG => ?_)
  obtain ⟨iv2, ar2⟩ := u
  obtain ⟨e1, ei, ea⟩ := h
  dsimp only at ei ea
  subst ei ea
  dsimp only at hG
  have hG := fx_swap hG
  refine lv_aload_n C.1 C.2.1 dL_law_480 rfl (lv_at hl 2 rfl) ?_
  refine lv_aload_n C.1 C.2.1 dL_law_481 rfl (lv_at hl 0 rfl) ?_
  refine lv_iload_n C.1 C.2.1 dL_law_482 rfl (lv_at hl 3 rfl) ?_
  refine lv_iconst (v := 1) C.1 C.2.1 dL_law_483 (by decide) ?_
  refine lv_iadd C.1 C.2.1 dL_law_484 ?_
  refine va_sld C.1 C.2.1 hX hbl hbA hG.2.2 v1 dL_law_485 ?_
  refine lv_aload_n C.1 C.2.1 dL_law_486 rfl (lv_at hl 0 rfl) ?_
  refine lv_iload_n C.1 C.2.1 dL_law_487 rfl (lv_at hl 3 rfl) ?_
  refine lv_iconst (v := 2) C.1 C.2.1 dL_law_488 (by decide) ?_
  refine lv_iadd C.1 C.2.1 dL_law_489 ?_
  refine va_sld C.1 C.2.1 hX hbl hbA hG.2.2 v2 dL_law_490 ?_
  refine lv_aload_n C.1 C.2.1 dL_law_491 rfl (lv_at hl 0 rfl) ?_
  refine lv_iload_n C.1 C.2.1 dL_law_492 rfl (lv_at hl 3 rfl) ?_
  refine lv_iconst (v := 3) C.1 C.2.1 dL_law_493 (by decide) ?_
  refine lv_iadd C.1 C.2.1 dL_law_494 ?_
  refine va_sld C.1 C.2.1 hX hbl hbA hG.2.2 v3 dL_law_495 ?_
  refine fx_calli (U := fw_F × fw_R) (w1 := fun u => mw G mh md u.1 u.2) (va_runV (As := [.int (xs (x3 + 1).toNatClampNeg), .int (xs (x3 + 2).toNatClampNeg), .int (xs (x3 + 3).toNatClampNeg)]) (rest := [.int r1]) ⟨C.1, C.2.1, C.2.2.2.2.2.2, C.2.2.2.2.2.1, C.2.2.2.2.1⟩ (soX10_weight l G mh md jv br (xs (x3 + 1).toNatClampNeg) (xs (x3 + 2).toNatClampNeg) (xs (x3 + 3).toNatClampNeg) _ w2 H.size) (cwV 3 C.2.2.2.2.1 gL_law_X10_weight rfl rfl rfl (by decide +kernel) ⟨Nat.le_of_ble_eq_true rfl, Nat.le_of_ble_eq_true rfl⟩) (fw_preV (fx_sub hG) hK (ci := 10) rfl mw_o) rfl rfl hl.1 rfl (lv_room (Nat.le_of_ble_eq_true rfl)) dL_law_496 ⟨by show cells + 0 + 0 ≤ 600000; omega, by show slots + 0 + 0 ≤ 7302250; omega⟩) hG hK (fun r3 u H locs h hG => ?_)
  obtain ⟨jv2, br2⟩ := u
  obtain ⟨e2, ei, ea⟩ := h
  dsimp only at ei ea
  subst ei ea
  dsimp only at hG
  have hG := fx_swap hG
  refine lv_icmp_eq (tgt := 1757) C.1 C.2.1 dL_law_499 (by decide) (fun _ => ?_) (fun c1 => absurd (e1.trans e2.symm) c1)
  refine W.widen (k := cells + 2) (n := slots + 222) (by omega) (by omega) ?_
  exact kX _ _ _ _ _ _ _ _ _ hR hG hl
set_option maxHeartbeats 4000000 in
set_option maxRecDepth 100000 in
theorem lw_c7 {p : Program} {l : Launch} {e : Env} {s : State} {m : MethodId} {below : List Frame} {meth : Method} {c : Code} {b L : Nat} {xs : Nat → Int32} {G : fw_G} {mh : Nat} {md : Nat → Nat} {Rl : kw_T → fw_F → fw_R → fw_F → fw_R → Prop} {ad : Nat → Nat} {kt : kw_T} {iv : fw_F} {ar : fw_R} {jv : fw_F} {br : fw_R} {x3 : Int32} {cells slots : Nat} {H : Heap} {locs : List Loc} {ls : Array Slot} (C : fw_C p s m #[Value.ref b] meth c cL_law 4 ret wsL_law RL) (hK : fw_K G (fun q : Nat => s.heap.size ≤ q) s) (hX : va_X b L xs s s.heap) (hbl : b < s.heap.size) (hbA : ¬ (fun q : Nat => s.heap.size ≤ q) b) (hR : Rl kt iv ar jv br) (hp : pu_stage Rl kt iv ar jv br (xs (x3 + 1).toNatClampNeg)) (v1 : vp_in (x3 + 1) L) (hc : cells + 2 ≤ 600000) (hs : slots + 222 ≤ 7302250) (hG : fw_H G (mw G mh md jv br ++ kw G ad kt iv ar) (fun q : Nat => s.heap.size ≤ q) s H locs) (hl : lv_has ls 4 [(0, .ref b), (1, .ref (ad 0)), (2, .ref mh), (3, .int x3)]) (kX : ∀ (ad : Nat → Nat) (kt : kw_T) (iv : fw_F) (ar : fw_R) (jv : fw_F) (br : fw_R) (H : Heap) (locs : List Loc) (ls : Array Slot), Rl kt iv ar jv br → fw_H G (mw G mh md jv br ++ kw G ad kt iv ar) (fun q : Nat => s.heap.size ≤ q) s H locs → lv_has ls 4 [(0, .ref b), (1, .ref (ad 0)), (2, .ref mh), (3, .int x3)] → W p l e room_1 s m #[Value.ref b] below meth c H locs (cells + 2) (slots + 222) (lw_Z below #[Value.ref b] s) (F0 m 1757 ls [])) : W p l e room_1 s m #[Value.ref b] below meth c H locs cells slots (lw_Z below #[Value.ref b] s) (F0 m 504 ls []) := by
  obtain ⟨r, hR, w1, w2⟩ := hp
  refine lv_aload_n C.1 C.2.1 dL_law_504 rfl (lv_at hl 1 rfl) ?_
  refine lv_aload_n C.1 C.2.1 dL_law_505 rfl (lv_at hl 0 rfl) ?_
  refine lv_iload_n C.1 C.2.1 dL_law_506 rfl (lv_at hl 3 rfl) ?_
  refine lv_iconst (v := 1) C.1 C.2.1 dL_law_507 (by decide) ?_
  refine lv_iadd C.1 C.2.1 dL_law_508 ?_
  refine va_sld C.1 C.2.1 hX hbl hbA hG.2.2 v1 dL_law_509 ?_
  refine fx_calli (U := fw_F × fw_R) (w1 := (fun u : fw_F × fw_R => kw G ad kt u.1 u.2)) (va_runV (As := [.int (xs (x3 + 1).toNatClampNeg)]) (rest := []) ⟨C.1, C.2.1, C.2.2.2.2.2.2, C.2.2.2.2.2.1, C.2.2.2.2.1⟩ (soX9_stage l G ad kt iv ar (xs (x3 + 1).toNatClampNeg) _ w1 H.size) (cwV 1 C.2.2.2.2.1 gL_law_X9_stage rfl rfl rfl (by decide +kernel) ⟨Nat.le_of_ble_eq_true rfl, Nat.le_of_ble_eq_true rfl⟩) (fw_preV (fx_sub hG) hK (ci := 9) rfl kw_o9) rfl rfl hl.1 rfl (lv_room (Nat.le_of_ble_eq_true rfl)) dL_law_510 ⟨by show cells + 0 ≤ 600000; omega, by show slots + 0 ≤ 7302250; omega⟩) hG hK (fun r1 u H locs h hG => ?_)
  obtain ⟨iv2, ar2⟩ := u
  obtain ⟨e1, ei, ea⟩ := h
  dsimp only at ei ea
  subst ei ea
  dsimp only at hG
  have hG := fx_swap hG
  refine lv_aload_n C.1 C.2.1 dL_law_513 rfl (lv_at hl 2 rfl) ?_
  refine lv_aload_n C.1 C.2.1 dL_law_514 rfl (lv_at hl 0 rfl) ?_
  refine lv_iload_n C.1 C.2.1 dL_law_515 rfl (lv_at hl 3 rfl) ?_
  refine lv_iconst (v := 1) C.1 C.2.1 dL_law_516 (by decide) ?_
  refine lv_iadd C.1 C.2.1 dL_law_517 ?_
  refine va_sld C.1 C.2.1 hX hbl hbA hG.2.2 v1 dL_law_518 ?_
  refine fx_calli (U := fw_F × fw_R) (w1 := fun u => mw G mh md u.1 u.2) (va_runV (As := [.int (xs (x3 + 1).toNatClampNeg)]) (rest := [.int r1]) ⟨C.1, C.2.1, C.2.2.2.2.2.2, C.2.2.2.2.2.1, C.2.2.2.2.1⟩ (soX10_stage l G mh md jv br (xs (x3 + 1).toNatClampNeg) _ w2 H.size) (cwV 1 C.2.2.2.2.1 gL_law_X10_stage rfl rfl rfl (by decide +kernel) ⟨Nat.le_of_ble_eq_true rfl, Nat.le_of_ble_eq_true rfl⟩) (fw_preV (fx_sub hG) hK (ci := 10) rfl mw_o) rfl rfl hl.1 rfl (lv_room (Nat.le_of_ble_eq_true rfl)) dL_law_519 ⟨by show cells + 0 + 0 ≤ 600000; omega, by show slots + 0 + 0 ≤ 7302250; omega⟩) hG hK (fun r3 u H locs h hG => ?_)
  obtain ⟨jv2, br2⟩ := u
  obtain ⟨e2, ei, ea⟩ := h
  dsimp only at ei ea
  subst ei ea
  dsimp only at hG
  have hG := fx_swap hG
  refine lv_icmp_eq (tgt := 1757) C.1 C.2.1 dL_law_522 (by decide) (fun _ => ?_) (fun c1 => absurd (e1.trans e2.symm) c1)
  refine W.widen (k := cells + 2) (n := slots + 222) (by omega) (by omega) ?_
  exact kX _ _ _ _ _ _ _ _ _ hR hG hl
set_option maxHeartbeats 4000000 in
set_option maxRecDepth 100000 in
theorem lw_c8 {p : Program} {l : Launch} {e : Env} {s : State} {m : MethodId} {below : List Frame} {meth : Method} {c : Code} {b L : Nat} {xs : Nat → Int32} {G : fw_G} {mh : Nat} {md : Nat → Nat} {Rl : kw_T → fw_F → fw_R → fw_F → fw_R → Prop} {ad : Nat → Nat} {kt : kw_T} {iv : fw_F} {ar : fw_R} {jv : fw_F} {br : fw_R} {x3 : Int32} {cells slots : Nat} {H : Heap} {locs : List Loc} {ls : Array Slot} (C : fw_C p s m #[Value.ref b] meth c cL_law 4 ret wsL_law RL) (hK : fw_K G (fun q : Nat => s.heap.size ≤ q) s) (hX : va_X b L xs s s.heap) (hbl : b < s.heap.size) (hbA : ¬ (fun q : Nat => s.heap.size ≤ q) b) (hR : Rl kt iv ar jv br) (hp : pu_likely Rl kt iv ar jv br (xs (x3 + 1).toNatClampNeg) (xs (x3 + 2).toNatClampNeg) (xs (x3 + 3).toNatClampNeg) (xs (x3 + 4).toNatClampNeg) (xs (x3 + 5).toNatClampNeg)) (v1 : vp_in (x3 + 1) L) (v2 : vp_in (x3 + 2) L) (v3 : vp_in (x3 + 3) L) (v4 : vp_in (x3 + 4) L) (v5 : vp_in (x3 + 5) L) (hc : cells + 2 ≤ 600000) (hs : slots + 222 ≤ 7302250) (hG : fw_H G (mw G mh md jv br ++ kw G ad kt iv ar) (fun q : Nat => s.heap.size ≤ q) s H locs) (hl : lv_has ls 4 [(0, .ref b), (1, .ref (ad 0)), (2, .ref mh), (3, .int x3)]) (kX : ∀ (ad : Nat → Nat) (kt : kw_T) (iv : fw_F) (ar : fw_R) (jv : fw_F) (br : fw_R) (H : Heap) (locs : List Loc) (ls : Array Slot), Rl kt iv ar jv br → fw_H G (mw G mh md jv br ++ kw G ad kt iv ar) (fun q : Nat => s.heap.size ≤ q) s H locs → lv_has ls 4 [(0, .ref b), (1, .ref (ad 0)), (2, .ref mh), (3, .int x3)] → W p l e room_1 s m #[Value.ref b] below meth c H locs (cells + 2) (slots + 222) (lw_Z below #[Value.ref b] s) (F0 m 1757 ls [])) : W p l e room_1 s m #[Value.ref b] below meth c H locs cells slots (lw_Z below #[Value.ref b] s) (F0 m 527 ls []) := by
  obtain ⟨r, hR, w1, w2⟩ := hp
  refine lv_aload_n C.1 C.2.1 dL_law_527 rfl (lv_at hl 1 rfl) ?_
  refine lv_aload_n C.1 C.2.1 dL_law_528 rfl (lv_at hl 0 rfl) ?_
  refine lv_iload_n C.1 C.2.1 dL_law_529 rfl (lv_at hl 3 rfl) ?_
  refine lv_iconst (v := 1) C.1 C.2.1 dL_law_530 (by decide) ?_
  refine lv_iadd C.1 C.2.1 dL_law_531 ?_
  refine va_sld C.1 C.2.1 hX hbl hbA hG.2.2 v1 dL_law_532 ?_
  refine lv_aload_n C.1 C.2.1 dL_law_533 rfl (lv_at hl 0 rfl) ?_
  refine lv_iload_n C.1 C.2.1 dL_law_534 rfl (lv_at hl 3 rfl) ?_
  refine lv_iconst (v := 2) C.1 C.2.1 dL_law_535 (by decide) ?_
  refine lv_iadd C.1 C.2.1 dL_law_536 ?_
  refine va_sld C.1 C.2.1 hX hbl hbA hG.2.2 v2 dL_law_537 ?_
  refine lv_aload_n C.1 C.2.1 dL_law_538 rfl (lv_at hl 0 rfl) ?_
  refine lv_iload_n C.1 C.2.1 dL_law_539 rfl (lv_at hl 3 rfl) ?_
  refine lv_iconst (v := 3) C.1 C.2.1 dL_law_540 (by decide) ?_
  refine lv_iadd C.1 C.2.1 dL_law_541 ?_
  refine va_sld C.1 C.2.1 hX hbl hbA hG.2.2 v3 dL_law_542 ?_
  refine lv_aload_n C.1 C.2.1 dL_law_543 rfl (lv_at hl 0 rfl) ?_
  refine lv_iload_n C.1 C.2.1 dL_law_544 rfl (lv_at hl 3 rfl) ?_
  refine lv_iconst (v := 4) C.1 C.2.1 dL_law_545 (by decide) ?_
  refine lv_iadd C.1 C.2.1 dL_law_546 ?_
  refine va_sld C.1 C.2.1 hX hbl hbA hG.2.2 v4 dL_law_547 ?_
  refine lv_aload_n C.1 C.2.1 dL_law_548 rfl (lv_at hl 0 rfl) ?_
  refine lv_iload_n C.1 C.2.1 dL_law_549 rfl (lv_at hl 3 rfl) ?_
  refine lv_iconst (v := 5) C.1 C.2.1 dL_law_550 (by decide) ?_
  refine lv_iadd C.1 C.2.1 dL_law_551 ?_
  refine va_sld C.1 C.2.1 hX hbl hbA hG.2.2 v5 dL_law_552 ?_
  refine fx_calll (U := fw_F × fw_R) (w1 := (fun u : fw_F × fw_R => kw G ad kt u.1 u.2)) (va_runV (As := [.int (xs (x3 + 1).toNatClampNeg), .int (xs (x3 + 2).toNatClampNeg), .int (xs (x3 + 3).toNatClampNeg), .int (xs (x3 + 4).toNatClampNeg), .int (xs (x3 + 5).toNatClampNeg)]) (rest := []) ⟨C.1, C.2.1, C.2.2.2.2.2.2, C.2.2.2.2.2.1, C.2.2.2.2.1⟩ (soX9_likely l G ad kt iv ar (xs (x3 + 1).toNatClampNeg) (xs (x3 + 2).toNatClampNeg) (xs (x3 + 3).toNatClampNeg) (xs (x3 + 4).toNatClampNeg) (xs (x3 + 5).toNatClampNeg) _ w1 H.size) (cwV 5 C.2.2.2.2.1 gL_law_X9_likely rfl rfl rfl (by decide +kernel) ⟨Nat.le_of_ble_eq_true rfl, Nat.le_of_ble_eq_true rfl⟩) (fw_preV (fx_sub hG) hK (ci := 9) rfl kw_o9) rfl rfl hl.1 rfl (lv_room (Nat.le_of_ble_eq_true rfl)) dL_law_553 ⟨by show cells + 0 ≤ 600000; omega, by show slots + 0 ≤ 7302250; omega⟩) hG hK (fun r1 u H locs h hG => ?_)
  obtain ⟨iv2, ar2⟩ := u
  obtain ⟨e1, ei, ea⟩ := h
  dsimp only at ei ea
  subst ei ea
  dsimp only at hG
  have hG := fx_swap hG
  refine lv_aload_n C.1 C.2.1 dL_law_556 rfl (lv_at hl 2 rfl) ?_
  refine lv_aload_n C.1 C.2.1 dL_law_557 rfl (lv_at hl 0 rfl) ?_
  refine lv_iload_n C.1 C.2.1 dL_law_558 rfl (lv_at hl 3 rfl) ?_
  refine lv_iconst (v := 1) C.1 C.2.1 dL_law_559 (by decide) ?_
  refine lv_iadd C.1 C.2.1 dL_law_560 ?_
  refine va_sld C.1 C.2.1 hX hbl hbA hG.2.2 v1 dL_law_561 ?_
  refine lv_aload_n C.1 C.2.1 dL_law_562 rfl (lv_at hl 0 rfl) ?_
  refine lv_iload_n C.1 C.2.1 dL_law_563 rfl (lv_at hl 3 rfl) ?_
  refine lv_iconst (v := 2) C.1 C.2.1 dL_law_564 (by decide) ?_
  refine lv_iadd C.1 C.2.1 dL_law_565 ?_
  refine va_sld C.1 C.2.1 hX hbl hbA hG.2.2 v2 dL_law_566 ?_
  refine lv_aload_n C.1 C.2.1 dL_law_567 rfl (lv_at hl 0 rfl) ?_
  refine lv_iload_n C.1 C.2.1 dL_law_568 rfl (lv_at hl 3 rfl) ?_
  refine lv_iconst (v := 3) C.1 C.2.1 dL_law_569 (by decide) ?_
  refine lv_iadd C.1 C.2.1 dL_law_570 ?_
  refine va_sld C.1 C.2.1 hX hbl hbA hG.2.2 v3 dL_law_571 ?_
  refine lv_aload_n C.1 C.2.1 dL_law_572 rfl (lv_at hl 0 rfl) ?_
  refine lv_iload_n C.1 C.2.1 dL_law_573 rfl (lv_at hl 3 rfl) ?_
  refine lv_iconst (v := 4) C.1 C.2.1 dL_law_574 (by decide) ?_
  refine lv_iadd C.1 C.2.1 dL_law_575 ?_
  refine va_sld C.1 C.2.1 hX hbl hbA hG.2.2 v4 dL_law_576 ?_
  refine lv_aload_n C.1 C.2.1 dL_law_577 rfl (lv_at hl 0 rfl) ?_
  refine lv_iload_n C.1 C.2.1 dL_law_578 rfl (lv_at hl 3 rfl) ?_
  refine lv_iconst (v := 5) C.1 C.2.1 dL_law_579 (by decide) ?_
  refine lv_iadd C.1 C.2.1 dL_law_580 ?_
  refine va_sld C.1 C.2.1 hX hbl hbA hG.2.2 v5 dL_law_581 ?_
  refine fx_calll (U := fw_F × fw_R) (w1 := fun u => mw G mh md u.1 u.2) (va_runV (As := [.int (xs (x3 + 1).toNatClampNeg), .int (xs (x3 + 2).toNatClampNeg), .int (xs (x3 + 3).toNatClampNeg), .int (xs (x3 + 4).toNatClampNeg), .int (xs (x3 + 5).toNatClampNeg)]) (rest := [.long r1]) ⟨C.1, C.2.1, C.2.2.2.2.2.2, C.2.2.2.2.2.1, C.2.2.2.2.1⟩ (soX10_likely l G mh md jv br (xs (x3 + 1).toNatClampNeg) (xs (x3 + 2).toNatClampNeg) (xs (x3 + 3).toNatClampNeg) (xs (x3 + 4).toNatClampNeg) (xs (x3 + 5).toNatClampNeg) _ w2 H.size) (cwV 5 C.2.2.2.2.1 gL_law_X10_likely rfl rfl rfl (by decide +kernel) ⟨Nat.le_of_ble_eq_true rfl, Nat.le_of_ble_eq_true rfl⟩) (fw_preV (fx_sub hG) hK (ci := 10) rfl mw_o) rfl rfl hl.1 rfl (lv_room (Nat.le_of_ble_eq_true rfl)) dL_law_582 ⟨by show cells + 0 + 0 ≤ 600000; omega, by show slots + 0 + 0 ≤ 7302250; omega⟩) hG hK (fun r3 u H locs h hG => ?_)
  obtain ⟨jv2, br2⟩ := u
  obtain ⟨e2, ei, ea⟩ := h
  dsimp only at ei ea
  subst ei ea
  dsimp only at hG
  have hG := fx_swap hG
  refine W.lcmp C.1 C.2.1 dL_law_585 ?_
  refine lv_if_eq (tgt := 1757) C.1 C.2.1 dL_law_586 (by decide) (fun _ => ?_) (fun c1 => absurd ((lg_cmp_eq r1 r3).mpr (e1.trans e2.symm)) c1)
  refine W.widen (k := cells + 2) (n := slots + 222) (by omega) (by omega) ?_
  exact kX _ _ _ _ _ _ _ _ _ hR hG hl
set_option maxHeartbeats 4000000 in
set_option maxRecDepth 100000 in
theorem lw_c9 {p : Program} {l : Launch} {e : Env} {s : State} {m : MethodId} {below : List Frame} {meth : Method} {c : Code} {b L : Nat} {xs : Nat → Int32} {G : fw_G} {mh : Nat} {md : Nat → Nat} {Rl : kw_T → fw_F → fw_R → fw_F → fw_R → Prop} {ad : Nat → Nat} {kt : kw_T} {iv : fw_F} {ar : fw_R} {jv : fw_F} {br : fw_R} {x3 : Int32} {cells slots : Nat} {H : Heap} {locs : List Loc} {ls : Array Slot} (C : fw_C p s m #[Value.ref b] meth c cL_law 4 ret wsL_law RL) (hK : fw_K G (fun q : Nat => s.heap.size ≤ q) s) (hX : va_X b L xs s s.heap) (hbl : b < s.heap.size) (hbA : ¬ (fun q : Nat => s.heap.size ≤ q) b) (hR : Rl kt iv ar jv br) (hp : pu_best Rl kt iv ar jv br (xs (x3 + 1).toNatClampNeg) (xs (x3 + 2).toNatClampNeg) (xs (x3 + 3).toNatClampNeg)) (v1 : vp_in (x3 + 1) L) (v2 : vp_in (x3 + 2) L) (v3 : vp_in (x3 + 3) L) (hc : cells + 2 ≤ 600000) (hs : slots + 222 ≤ 7302250) (hG : fw_H G (mw G mh md jv br ++ kw G ad kt iv ar) (fun q : Nat => s.heap.size ≤ q) s H locs) (hl : lv_has ls 4 [(0, .ref b), (1, .ref (ad 0)), (2, .ref mh), (3, .int x3)]) (kX : ∀ (ad : Nat → Nat) (kt : kw_T) (iv : fw_F) (ar : fw_R) (jv : fw_F) (br : fw_R) (H : Heap) (locs : List Loc) (ls : Array Slot), Rl kt iv ar jv br → fw_H G (mw G mh md jv br ++ kw G ad kt iv ar) (fun q : Nat => s.heap.size ≤ q) s H locs → lv_has ls 4 [(0, .ref b), (1, .ref (ad 0)), (2, .ref mh), (3, .int x3)] → W p l e room_1 s m #[Value.ref b] below meth c H locs (cells + 2) (slots + 222) (lw_Z below #[Value.ref b] s) (F0 m 1757 ls [])) : W p l e room_1 s m #[Value.ref b] below meth c H locs cells slots (lw_Z below #[Value.ref b] s) (F0 m 591 ls []) := by
  obtain ⟨r, hR, w1, w2⟩ := hp
  refine lv_aload_n C.1 C.2.1 dL_law_591 rfl (lv_at hl 1 rfl) ?_
  refine lv_aload_n C.1 C.2.1 dL_law_592 rfl (lv_at hl 0 rfl) ?_
  refine lv_iload_n C.1 C.2.1 dL_law_593 rfl (lv_at hl 3 rfl) ?_
  refine lv_iconst (v := 1) C.1 C.2.1 dL_law_594 (by decide) ?_
  refine lv_iadd C.1 C.2.1 dL_law_595 ?_
  refine va_sld C.1 C.2.1 hX hbl hbA hG.2.2 v1 dL_law_596 ?_
  refine lv_aload_n C.1 C.2.1 dL_law_597 rfl (lv_at hl 0 rfl) ?_
  refine lv_iload_n C.1 C.2.1 dL_law_598 rfl (lv_at hl 3 rfl) ?_
  refine lv_iconst (v := 2) C.1 C.2.1 dL_law_599 (by decide) ?_
  refine lv_iadd C.1 C.2.1 dL_law_600 ?_
  refine va_sld C.1 C.2.1 hX hbl hbA hG.2.2 v2 dL_law_601 ?_
  refine lv_aload_n C.1 C.2.1 dL_law_602 rfl (lv_at hl 0 rfl) ?_
  refine lv_iload_n C.1 C.2.1 dL_law_603 rfl (lv_at hl 3 rfl) ?_
  refine lv_iconst (v := 3) C.1 C.2.1 dL_law_604 (by decide) ?_
  refine lv_iadd C.1 C.2.1 dL_law_605 ?_
  refine va_sld C.1 C.2.1 hX hbl hbA hG.2.2 v3 dL_law_606 ?_
  refine fx_calli (U := fw_F × fw_R) (w1 := (fun u : fw_F × fw_R => kw G ad kt u.1 u.2)) (va_runV (As := [.int (xs (x3 + 1).toNatClampNeg), .int (xs (x3 + 2).toNatClampNeg), .int (xs (x3 + 3).toNatClampNeg)]) (rest := []) ⟨C.1, C.2.1, C.2.2.2.2.2.2, C.2.2.2.2.2.1, C.2.2.2.2.1⟩ (soX9_best l G ad kt iv ar (xs (x3 + 1).toNatClampNeg) (xs (x3 + 2).toNatClampNeg) (xs (x3 + 3).toNatClampNeg) _ w1 H.size) (cwV 3 C.2.2.2.2.1 gL_law_X9_best rfl rfl rfl (by decide +kernel) ⟨Nat.le_of_ble_eq_true rfl, Nat.le_of_ble_eq_true rfl⟩) (fw_preV (fx_sub hG) hK (ci := 9) rfl kw_o9) rfl rfl hl.1 rfl (lv_room (Nat.le_of_ble_eq_true rfl)) dL_law_607 ⟨by show cells + 0 ≤ 600000; omega, by show slots + 0 ≤ 7302250; omega⟩) hG hK (fun r1 u H locs h hG => ?_)
  obtain ⟨iv2, ar2⟩ := u
  obtain ⟨e1, ei, ea⟩ := h
  dsimp only at ei ea
  subst ei ea
  dsimp only at hG
  have hG := fx_swap hG
  refine lv_aload_n C.1 C.2.1 dL_law_610 rfl (lv_at hl 2 rfl) ?_
  refine lv_aload_n C.1 C.2.1 dL_law_611 rfl (lv_at hl 0 rfl) ?_
  refine lv_iload_n C.1 C.2.1 dL_law_612 rfl (lv_at hl 3 rfl) ?_
  refine lv_iconst (v := 1) C.1 C.2.1 dL_law_613 (by decide) ?_
  refine lv_iadd C.1 C.2.1 dL_law_614 ?_
  refine va_sld C.1 C.2.1 hX hbl hbA hG.2.2 v1 dL_law_615 ?_
  refine lv_aload_n C.1 C.2.1 dL_law_616 rfl (lv_at hl 0 rfl) ?_
  refine lv_iload_n C.1 C.2.1 dL_law_617 rfl (lv_at hl 3 rfl) ?_
  refine lv_iconst (v := 2) C.1 C.2.1 dL_law_618 (by decide) ?_
  refine lv_iadd C.1 C.2.1 dL_law_619 ?_
  refine va_sld C.1 C.2.1 hX hbl hbA hG.2.2 v2 dL_law_620 ?_
  refine lv_aload_n C.1 C.2.1 dL_law_621 rfl (lv_at hl 0 rfl) ?_
  refine lv_iload_n C.1 C.2.1 dL_law_622 rfl (lv_at hl 3 rfl) ?_
  refine lv_iconst (v := 3) C.1 C.2.1 dL_law_623 (by decide) ?_
  refine lv_iadd C.1 C.2.1 dL_law_624 ?_
  refine va_sld C.1 C.2.1 hX hbl hbA hG.2.2 v3 dL_law_625 ?_
  refine fx_calli (U := fw_F × fw_R) (w1 := fun u => mw G mh md u.1 u.2) (va_runV (As := [.int (xs (x3 + 1).toNatClampNeg), .int (xs (x3 + 2).toNatClampNeg), .int (xs (x3 + 3).toNatClampNeg)]) (rest := [.int r1]) ⟨C.1, C.2.1, C.2.2.2.2.2.2, C.2.2.2.2.2.1, C.2.2.2.2.1⟩ (soX10_best l G mh md jv br (xs (x3 + 1).toNatClampNeg) (xs (x3 + 2).toNatClampNeg) (xs (x3 + 3).toNatClampNeg) _ w2 H.size) (cwV 3 C.2.2.2.2.1 gL_law_X10_best rfl rfl rfl (by decide +kernel) ⟨Nat.le_of_ble_eq_true rfl, Nat.le_of_ble_eq_true rfl⟩) (fw_preV (fx_sub hG) hK (ci := 10) rfl mw_o) rfl rfl hl.1 rfl (lv_room (Nat.le_of_ble_eq_true rfl)) dL_law_626 ⟨by show cells + 0 + 0 ≤ 600000; omega, by show slots + 0 + 0 ≤ 7302250; omega⟩) hG hK (fun r3 u H locs h hG => ?_)
  obtain ⟨jv2, br2⟩ := u
  obtain ⟨e2, ei, ea⟩ := h
  dsimp only at ei ea
  subst ei ea
  dsimp only at hG
  have hG := fx_swap hG
  refine lv_icmp_eq (tgt := 1757) C.1 C.2.1 dL_law_629 (by decide) (fun _ => ?_) (fun c1 => absurd (e1.trans e2.symm) c1)
  refine W.widen (k := cells + 2) (n := slots + 222) (by omega) (by omega) ?_
  exact kX _ _ _ _ _ _ _ _ _ hR hG hl
set_option maxHeartbeats 4000000 in
set_option maxRecDepth 100000 in
theorem lw_c10 {p : Program} {l : Launch} {e : Env} {s : State} {m : MethodId} {below : List Frame} {meth : Method} {c : Code} {b L : Nat} {xs : Nat → Int32} {G : fw_G} {mh : Nat} {md : Nat → Nat} {Rl : kw_T → fw_F → fw_R → fw_F → fw_R → Prop} {ad : Nat → Nat} {kt : kw_T} {iv : fw_F} {ar : fw_R} {jv : fw_F} {br : fw_R} {x3 : Int32} {cells slots : Nat} {H : Heap} {locs : List Loc} {ls : Array Slot} (C : fw_C p s m #[Value.ref b] meth c cL_law 4 ret wsL_law RL) (hK : fw_K G (fun q : Nat => s.heap.size ≤ q) s) (hX : va_X b L xs s s.heap) (hbl : b < s.heap.size) (hbA : ¬ (fun q : Nat => s.heap.size ≤ q) b) (hR : Rl kt iv ar jv br) (hp : pu_board Rl kt iv ar jv br (xs (x3 + 1).toNatClampNeg) (xs (x3 + 2).toNatClampNeg) (xs (x3 + 3).toNatClampNeg) (xs (x3 + 4).toNatClampNeg)) (v1 : vp_in (x3 + 1) L) (v2 : vp_in (x3 + 2) L) (v3 : vp_in (x3 + 3) L) (v4 : vp_in (x3 + 4) L) (hc : cells + 2 ≤ 600000) (hs : slots + 222 ≤ 7302250) (hG : fw_H G (mw G mh md jv br ++ kw G ad kt iv ar) (fun q : Nat => s.heap.size ≤ q) s H locs) (hl : lv_has ls 4 [(0, .ref b), (1, .ref (ad 0)), (2, .ref mh), (3, .int x3)]) (kX : ∀ (ad : Nat → Nat) (kt : kw_T) (iv : fw_F) (ar : fw_R) (jv : fw_F) (br : fw_R) (H : Heap) (locs : List Loc) (ls : Array Slot), Rl kt iv ar jv br → fw_H G (mw G mh md jv br ++ kw G ad kt iv ar) (fun q : Nat => s.heap.size ≤ q) s H locs → lv_has ls 4 [(0, .ref b), (1, .ref (ad 0)), (2, .ref mh), (3, .int x3)] → W p l e room_1 s m #[Value.ref b] below meth c H locs (cells + 2) (slots + 222) (lw_Z below #[Value.ref b] s) (F0 m 1757 ls [])) : W p l e room_1 s m #[Value.ref b] below meth c H locs cells slots (lw_Z below #[Value.ref b] s) (F0 m 634 ls []) := by
  obtain ⟨r, P10, P9, hR, w1, w2⟩ := hp
  refine lv_aload_n C.1 C.2.1 dL_law_634 rfl (lv_at hl 1 rfl) ?_
  refine lv_aload_n C.1 C.2.1 dL_law_635 rfl (lv_at hl 0 rfl) ?_
  refine lv_iload_n C.1 C.2.1 dL_law_636 rfl (lv_at hl 3 rfl) ?_
  refine lv_iconst (v := 1) C.1 C.2.1 dL_law_637 (by decide) ?_
  refine lv_iadd C.1 C.2.1 dL_law_638 ?_
  refine va_sld C.1 C.2.1 hX hbl hbA hG.2.2 v1 dL_law_639 ?_
  refine lv_aload_n C.1 C.2.1 dL_law_640 rfl (lv_at hl 0 rfl) ?_
  refine lv_iload_n C.1 C.2.1 dL_law_641 rfl (lv_at hl 3 rfl) ?_
  refine lv_iconst (v := 2) C.1 C.2.1 dL_law_642 (by decide) ?_
  refine lv_iadd C.1 C.2.1 dL_law_643 ?_
  refine va_sld C.1 C.2.1 hX hbl hbA hG.2.2 v2 dL_law_644 ?_
  refine lv_aload_n C.1 C.2.1 dL_law_645 rfl (lv_at hl 0 rfl) ?_
  refine lv_iload_n C.1 C.2.1 dL_law_646 rfl (lv_at hl 3 rfl) ?_
  refine lv_iconst (v := 3) C.1 C.2.1 dL_law_647 (by decide) ?_
  refine lv_iadd C.1 C.2.1 dL_law_648 ?_
  refine va_sld C.1 C.2.1 hX hbl hbA hG.2.2 v3 dL_law_649 ?_
  refine lv_aload_n C.1 C.2.1 dL_law_650 rfl (lv_at hl 0 rfl) ?_
  refine lv_iload_n C.1 C.2.1 dL_law_651 rfl (lv_at hl 3 rfl) ?_
  refine lv_iconst (v := 4) C.1 C.2.1 dL_law_652 (by decide) ?_
  refine lv_iadd C.1 C.2.1 dL_law_653 ?_
  refine va_sld C.1 C.2.1 hX hbl hbA hG.2.2 v4 dL_law_654 ?_
  refine fx_calli (U := fw_F × fw_R) (w1 := (fun u : fw_F × fw_R => kw G ad kt u.1 u.2)) (va_runV (As := [.int (xs (x3 + 1).toNatClampNeg), .int (xs (x3 + 2).toNatClampNeg), .int (xs (x3 + 3).toNatClampNeg), .int (xs (x3 + 4).toNatClampNeg)]) (rest := []) ⟨C.1, C.2.1, C.2.2.2.2.2.2, C.2.2.2.2.2.1, C.2.2.2.2.1⟩ (soX9_board l G ad kt iv ar (xs (x3 + 1).toNatClampNeg) (xs (x3 + 2).toNatClampNeg) (xs (x3 + 3).toNatClampNeg) (xs (x3 + 4).toNatClampNeg) _ w1 H.size) (cwV 4 C.2.2.2.2.1 gL_law_X9_board rfl rfl rfl (by decide +kernel) ⟨Nat.le_of_ble_eq_true rfl, Nat.le_of_ble_eq_true rfl⟩) (fw_preV (fx_sub hG) hK (ci := 9) rfl kw_o9) rfl rfl hl.1 rfl (lv_room (Nat.le_of_ble_eq_true rfl)) dL_law_655 ⟨by show cells + 0 ≤ 600000; omega, by show slots + 0 ≤ 7302250; omega⟩) hG hK (fun r1 u H locs h hG => ?_)
  obtain ⟨iv2, ar2⟩ := u
  obtain ⟨e1, p9⟩ := h
  dsimp only at p9 hG
  have hG := fx_swap hG
  refine lv_aload_n C.1 C.2.1 dL_law_658 rfl (lv_at hl 2 rfl) ?_
  refine lv_aload_n C.1 C.2.1 dL_law_659 rfl (lv_at hl 0 rfl) ?_
  refine lv_iload_n C.1 C.2.1 dL_law_660 rfl (lv_at hl 3 rfl) ?_
  refine lv_iconst (v := 1) C.1 C.2.1 dL_law_661 (by decide) ?_
  refine lv_iadd C.1 C.2.1 dL_law_662 ?_
  refine va_sld C.1 C.2.1 hX hbl hbA hG.2.2 v1 dL_law_663 ?_
  refine lv_aload_n C.1 C.2.1 dL_law_664 rfl (lv_at hl 0 rfl) ?_
  refine lv_iload_n C.1 C.2.1 dL_law_665 rfl (lv_at hl 3 rfl) ?_
  refine lv_iconst (v := 2) C.1 C.2.1 dL_law_666 (by decide) ?_
  refine lv_iadd C.1 C.2.1 dL_law_667 ?_
  refine va_sld C.1 C.2.1 hX hbl hbA hG.2.2 v2 dL_law_668 ?_
  refine lv_aload_n C.1 C.2.1 dL_law_669 rfl (lv_at hl 0 rfl) ?_
  refine lv_iload_n C.1 C.2.1 dL_law_670 rfl (lv_at hl 3 rfl) ?_
  refine lv_iconst (v := 3) C.1 C.2.1 dL_law_671 (by decide) ?_
  refine lv_iadd C.1 C.2.1 dL_law_672 ?_
  refine va_sld C.1 C.2.1 hX hbl hbA hG.2.2 v3 dL_law_673 ?_
  refine lv_aload_n C.1 C.2.1 dL_law_674 rfl (lv_at hl 0 rfl) ?_
  refine lv_iload_n C.1 C.2.1 dL_law_675 rfl (lv_at hl 3 rfl) ?_
  refine lv_iconst (v := 4) C.1 C.2.1 dL_law_676 (by decide) ?_
  refine lv_iadd C.1 C.2.1 dL_law_677 ?_
  refine va_sld C.1 C.2.1 hX hbl hbA hG.2.2 v4 dL_law_678 ?_
  refine fx_calli (U := fw_F × fw_R) (w1 := fun u => mw G mh md u.1 u.2) (va_runV (As := [.int (xs (x3 + 1).toNatClampNeg), .int (xs (x3 + 2).toNatClampNeg), .int (xs (x3 + 3).toNatClampNeg), .int (xs (x3 + 4).toNatClampNeg)]) (rest := [.int r1]) ⟨C.1, C.2.1, C.2.2.2.2.2.2, C.2.2.2.2.2.1, C.2.2.2.2.1⟩ (soX10_board l G mh md jv br (xs (x3 + 1).toNatClampNeg) (xs (x3 + 2).toNatClampNeg) (xs (x3 + 3).toNatClampNeg) (xs (x3 + 4).toNatClampNeg) _ w2 H.size) (cwV 4 C.2.2.2.2.1 gL_law_X10_board rfl rfl rfl (by decide +kernel) ⟨Nat.le_of_ble_eq_true rfl, Nat.le_of_ble_eq_true rfl⟩) (fw_preV (fx_sub hG) hK (ci := 10) rfl mw_o) rfl rfl hl.1 rfl (lv_room (Nat.le_of_ble_eq_true rfl)) dL_law_679 ⟨by show cells + 0 + 0 ≤ 600000; omega, by show slots + 0 + 0 ≤ 7302250; omega⟩) hG hK (fun r3 u H locs h hG => ?_)
  obtain ⟨jv2, br2⟩ := u
  obtain ⟨e2, p10⟩ := h
  dsimp only at p10 hG
  have hG := fx_swap hG
  refine lv_icmp_eq (tgt := 1757) C.1 C.2.1 dL_law_682 (by decide) (fun _ => ?_) (fun c1 => absurd (e1.trans e2.symm) c1)
  refine W.widen (k := cells + 2) (n := slots + 222) (by omega) (by omega) ?_
  exact kX _ _ _ _ _ _ _ _ _ (hR _ _ p9 _ _ p10) hG hl
set_option maxHeartbeats 4000000 in
set_option maxRecDepth 100000 in
theorem lw_c11 {p : Program} {l : Launch} {e : Env} {s : State} {m : MethodId} {below : List Frame} {meth : Method} {c : Code} {b L : Nat} {xs : Nat → Int32} {G : fw_G} {mh : Nat} {md : Nat → Nat} {Rl : kw_T → fw_F → fw_R → fw_F → fw_R → Prop} {ad : Nat → Nat} {kt : kw_T} {iv : fw_F} {ar : fw_R} {jv : fw_F} {br : fw_R} {x3 : Int32} {cells slots : Nat} {H : Heap} {locs : List Loc} {ls : Array Slot} (C : fw_C p s m #[Value.ref b] meth c cL_law 4 ret wsL_law RL) (hK : fw_K G (fun q : Nat => s.heap.size ≤ q) s) (hX : va_X b L xs s s.heap) (hbl : b < s.heap.size) (hbA : ¬ (fun q : Nat => s.heap.size ≤ q) b) (hR : Rl kt iv ar jv br) (hp : pu_ofCell Rl kt iv ar jv br (xs (x3 + 1).toNatClampNeg)) (v1 : vp_in (x3 + 1) L) (hc : cells + 2 ≤ 600000) (hs : slots + 222 ≤ 7302250) (hG : fw_H G (mw G mh md jv br ++ kw G ad kt iv ar) (fun q : Nat => s.heap.size ≤ q) s H locs) (hl : lv_has ls 4 [(0, .ref b), (1, .ref (ad 0)), (2, .ref mh), (3, .int x3)]) (kX : ∀ (ad : Nat → Nat) (kt : kw_T) (iv : fw_F) (ar : fw_R) (jv : fw_F) (br : fw_R) (H : Heap) (locs : List Loc) (ls : Array Slot), Rl kt iv ar jv br → fw_H G (mw G mh md jv br ++ kw G ad kt iv ar) (fun q : Nat => s.heap.size ≤ q) s H locs → lv_has ls 4 [(0, .ref b), (1, .ref (ad 0)), (2, .ref mh), (3, .int x3)] → W p l e room_1 s m #[Value.ref b] below meth c H locs (cells + 2) (slots + 222) (lw_Z below #[Value.ref b] s) (F0 m 1757 ls [])) : W p l e room_1 s m #[Value.ref b] below meth c H locs cells slots (lw_Z below #[Value.ref b] s) (F0 m 687 ls []) := by
  obtain ⟨r, hR, w1, w2⟩ := hp
  refine lv_aload_n C.1 C.2.1 dL_law_687 rfl (lv_at hl 1 rfl) ?_
  refine lv_aload_n C.1 C.2.1 dL_law_688 rfl (lv_at hl 0 rfl) ?_
  refine lv_iload_n C.1 C.2.1 dL_law_689 rfl (lv_at hl 3 rfl) ?_
  refine lv_iconst (v := 1) C.1 C.2.1 dL_law_690 (by decide) ?_
  refine lv_iadd C.1 C.2.1 dL_law_691 ?_
  refine va_sld C.1 C.2.1 hX hbl hbA hG.2.2 v1 dL_law_692 ?_
  refine fx_calli (U := fw_F × fw_R) (w1 := (fun u : fw_F × fw_R => kw G ad kt u.1 u.2)) (va_runV (As := [.int (xs (x3 + 1).toNatClampNeg)]) (rest := []) ⟨C.1, C.2.1, C.2.2.2.2.2.2, C.2.2.2.2.2.1, C.2.2.2.2.1⟩ (soX9_ofCell l G ad kt iv ar (xs (x3 + 1).toNatClampNeg) _ w1 H.size) (cwV 1 C.2.2.2.2.1 gL_law_X9_ofCell rfl rfl rfl (by decide +kernel) ⟨Nat.le_of_ble_eq_true rfl, Nat.le_of_ble_eq_true rfl⟩) (fw_preV (fx_sub hG) hK (ci := 9) rfl kw_o9) rfl rfl hl.1 rfl (lv_room (Nat.le_of_ble_eq_true rfl)) dL_law_693 ⟨by show cells + 0 ≤ 600000; omega, by show slots + 0 ≤ 7302250; omega⟩) hG hK (fun r1 u H locs h hG => ?_)
  obtain ⟨iv2, ar2⟩ := u
  obtain ⟨e1, ei, ea⟩ := h
  dsimp only at ei ea
  subst ei ea
  dsimp only at hG
  have hG := fx_swap hG
  refine lv_aload_n C.1 C.2.1 dL_law_696 rfl (lv_at hl 2 rfl) ?_
  refine lv_aload_n C.1 C.2.1 dL_law_697 rfl (lv_at hl 0 rfl) ?_
  refine lv_iload_n C.1 C.2.1 dL_law_698 rfl (lv_at hl 3 rfl) ?_
  refine lv_iconst (v := 1) C.1 C.2.1 dL_law_699 (by decide) ?_
  refine lv_iadd C.1 C.2.1 dL_law_700 ?_
  refine va_sld C.1 C.2.1 hX hbl hbA hG.2.2 v1 dL_law_701 ?_
  refine fx_calli (U := fw_F × fw_R) (w1 := fun u => mw G mh md u.1 u.2) (va_runV (As := [.int (xs (x3 + 1).toNatClampNeg)]) (rest := [.int r1]) ⟨C.1, C.2.1, C.2.2.2.2.2.2, C.2.2.2.2.2.1, C.2.2.2.2.1⟩ (soX10_ofCell l G mh md jv br (xs (x3 + 1).toNatClampNeg) _ w2 H.size) (cwV 1 C.2.2.2.2.1 gL_law_X10_ofCell rfl rfl rfl (by decide +kernel) ⟨Nat.le_of_ble_eq_true rfl, Nat.le_of_ble_eq_true rfl⟩) (fw_preV (fx_sub hG) hK (ci := 10) rfl mw_o) rfl rfl hl.1 rfl (lv_room (Nat.le_of_ble_eq_true rfl)) dL_law_702 ⟨by show cells + 0 + 0 ≤ 600000; omega, by show slots + 0 + 0 ≤ 7302250; omega⟩) hG hK (fun r3 u H locs h hG => ?_)
  obtain ⟨jv2, br2⟩ := u
  obtain ⟨e2, ei, ea⟩ := h
  dsimp only at ei ea
  subst ei ea
  dsimp only at hG
  have hG := fx_swap hG
  refine lv_icmp_eq (tgt := 1757) C.1 C.2.1 dL_law_705 (by decide) (fun _ => ?_) (fun c1 => absurd (e1.trans e2.symm) c1)
  refine W.widen (k := cells + 2) (n := slots + 222) (by omega) (by omega) ?_
  exact kX _ _ _ _ _ _ _ _ _ hR hG hl
set_option maxHeartbeats 4000000 in
set_option maxRecDepth 100000 in
theorem lw_c12 {p : Program} {l : Launch} {e : Env} {s : State} {m : MethodId} {below : List Frame} {meth : Method} {c : Code} {b L : Nat} {xs : Nat → Int32} {G : fw_G} {mh : Nat} {md : Nat → Nat} {Rl : kw_T → fw_F → fw_R → fw_F → fw_R → Prop} {ad : Nat → Nat} {kt : kw_T} {iv : fw_F} {ar : fw_R} {jv : fw_F} {br : fw_R} {x3 : Int32} {cells slots : Nat} {H : Heap} {locs : List Loc} {ls : Array Slot} (C : fw_C p s m #[Value.ref b] meth c cL_law 4 ret wsL_law RL) (hK : fw_K G (fun q : Nat => s.heap.size ≤ q) s) (hX : va_X b L xs s s.heap) (hbl : b < s.heap.size) (hbA : ¬ (fun q : Nat => s.heap.size ≤ q) b) (hR : Rl kt iv ar jv br) (hp0 : (xs (x3 + 3).toNatClampNeg) = 0 → pu_hurts Rl kt iv ar jv br (xs (x3 + 1).toNatClampNeg) (xs (x3 + 2).toNatClampNeg) 0 (xs (x3 + 4).toNatClampNeg)) (hp1 : ¬ (xs (x3 + 3).toNatClampNeg) = 0 → pu_hurts Rl kt iv ar jv br (xs (x3 + 1).toNatClampNeg) (xs (x3 + 2).toNatClampNeg) 1 (xs (x3 + 4).toNatClampNeg)) (v1 : vp_in (x3 + 1) L) (v2 : vp_in (x3 + 2) L) (v3 : vp_in (x3 + 3) L) (v4 : vp_in (x3 + 4) L) (hc : cells + 2 ≤ 600000) (hs : slots + 222 ≤ 7302250) (hG : fw_H G (mw G mh md jv br ++ kw G ad kt iv ar) (fun q : Nat => s.heap.size ≤ q) s H locs) (hl : lv_has ls 4 [(0, .ref b), (1, .ref (ad 0)), (2, .ref mh), (3, .int x3)]) (kX : ∀ (ad : Nat → Nat) (kt : kw_T) (iv : fw_F) (ar : fw_R) (jv : fw_F) (br : fw_R) (H : Heap) (locs : List Loc) (ls : Array Slot), Rl kt iv ar jv br → fw_H G (mw G mh md jv br ++ kw G ad kt iv ar) (fun q : Nat => s.heap.size ≤ q) s H locs → lv_has ls 4 [(0, .ref b), (1, .ref (ad 0)), (2, .ref mh), (3, .int x3)] → W p l e room_1 s m #[Value.ref b] below meth c H locs (cells + 2) (slots + 222) (lw_Z below #[Value.ref b] s) (F0 m 1757 ls [])) : W p l e room_1 s m #[Value.ref b] below meth c H locs cells slots (lw_Z below #[Value.ref b] s) (F0 m 710 ls []) := by
  by_cases cb : (xs (x3 + 3).toNatClampNeg) = 0
  · obtain ⟨r, P10, hR, w1, w2⟩ := hp0 cb
    refine lv_aload_n C.1 C.2.1 dL_law_710 rfl (lv_at hl 1 rfl) ?_
    refine lv_aload_n C.1 C.2.1 dL_law_711 rfl (lv_at hl 0 rfl) ?_
    refine lv_iload_n C.1 C.2.1 dL_law_712 rfl (lv_at hl 3 rfl) ?_
    refine lv_iconst (v := 1) C.1 C.2.1 dL_law_713 (by decide) ?_
    refine lv_iadd C.1 C.2.1 dL_law_714 ?_
    refine va_sld C.1 C.2.1 hX hbl hbA hG.2.2 v1 dL_law_715 ?_
    refine lv_aload_n C.1 C.2.1 dL_law_716 rfl (lv_at hl 0 rfl) ?_
    refine lv_iload_n C.1 C.2.1 dL_law_717 rfl (lv_at hl 3 rfl) ?_
    refine lv_iconst (v := 2) C.1 C.2.1 dL_law_718 (by decide) ?_
    refine lv_iadd C.1 C.2.1 dL_law_719 ?_
    refine va_sld C.1 C.2.1 hX hbl hbA hG.2.2 v2 dL_law_720 ?_
    refine lv_aload_n C.1 C.2.1 dL_law_721 rfl (lv_at hl 0 rfl) ?_
    refine lv_iload_n C.1 C.2.1 dL_law_722 rfl (lv_at hl 3 rfl) ?_
    refine lv_iconst (v := 3) C.1 C.2.1 dL_law_723 (by decide) ?_
    refine lv_iadd C.1 C.2.1 dL_law_724 ?_
    refine va_sld C.1 C.2.1 hX hbl hbA hG.2.2 v3 dL_law_725 ?_
    refine lv_if_eq (tgt := 733) C.1 C.2.1 dL_law_726 (by decide) (fun c1 => ?_) (fun c1 => ?_)
    rotate_left
    · exact absurd cb c1
    refine lv_iconst (v := 0) C.1 C.2.1 dL_law_733 (by decide) ?_
    refine lv_aload_n C.1 C.2.1 dL_law_734 rfl (lv_at hl 0 rfl) ?_
    refine lv_iload_n C.1 C.2.1 dL_law_735 rfl (lv_at hl 3 rfl) ?_
    refine lv_iconst (v := 4) C.1 C.2.1 dL_law_736 (by decide) ?_
    refine lv_iadd C.1 C.2.1 dL_law_737 ?_
    refine va_sld C.1 C.2.1 hX hbl hbA hG.2.2 v4 dL_law_738 ?_
    refine fx_calll (U := fw_F × fw_R) (w1 := (fun u : fw_F × fw_R => kw G ad kt u.1 u.2)) (va_runV (As := [.int (xs (x3 + 1).toNatClampNeg), .int (xs (x3 + 2).toNatClampNeg), .int 0, .int (xs (x3 + 4).toNatClampNeg)]) (rest := []) ⟨C.1, C.2.1, C.2.2.2.2.2.2, C.2.2.2.2.2.1, C.2.2.2.2.1⟩ (soX9_hurts l G ad kt iv ar (xs (x3 + 1).toNatClampNeg) (xs (x3 + 2).toNatClampNeg) 0 (xs (x3 + 4).toNatClampNeg) _ w1 H.size) (cwV 4 C.2.2.2.2.1 gL_law_X9_hurts rfl rfl rfl (by decide +kernel) ⟨Nat.le_of_ble_eq_true rfl, Nat.le_of_ble_eq_true rfl⟩) (fw_preV (fx_sub hG) hK (ci := 9) rfl kw_o9) rfl rfl hl.1 rfl (lv_room (Nat.le_of_ble_eq_true rfl)) dL_law_739 ⟨by show cells + 0 ≤ 600000; omega, by show slots + 0 ≤ 7302250; omega⟩) hG hK (fun r1 u H locs h hG => ?_)
    obtain ⟨iv2, ar2⟩ := u
    obtain ⟨e1, ei, ea⟩ := h
    dsimp only at ei ea
    subst ei ea
    dsimp only at hG
    have hG := fx_swap hG
    refine lv_aload_n C.1 C.2.1 dL_law_742 rfl (lv_at hl 2 rfl) ?_
    refine lv_aload_n C.1 C.2.1 dL_law_743 rfl (lv_at hl 0 rfl) ?_
    refine lv_iload_n C.1 C.2.1 dL_law_744 rfl (lv_at hl 3 rfl) ?_
    refine lv_iconst (v := 1) C.1 C.2.1 dL_law_745 (by decide) ?_
    refine lv_iadd C.1 C.2.1 dL_law_746 ?_
    refine va_sld C.1 C.2.1 hX hbl hbA hG.2.2 v1 dL_law_747 ?_
    refine lv_aload_n C.1 C.2.1 dL_law_748 rfl (lv_at hl 0 rfl) ?_
    refine lv_iload_n C.1 C.2.1 dL_law_749 rfl (lv_at hl 3 rfl) ?_
    refine lv_iconst (v := 2) C.1 C.2.1 dL_law_750 (by decide) ?_
    refine lv_iadd C.1 C.2.1 dL_law_751 ?_
    refine va_sld C.1 C.2.1 hX hbl hbA hG.2.2 v2 dL_law_752 ?_
    refine lv_aload_n C.1 C.2.1 dL_law_753 rfl (lv_at hl 0 rfl) ?_
    refine lv_iload_n C.1 C.2.1 dL_law_754 rfl (lv_at hl 3 rfl) ?_
    refine lv_iconst (v := 3) C.1 C.2.1 dL_law_755 (by decide) ?_
    refine lv_iadd C.1 C.2.1 dL_law_756 ?_
    refine va_sld C.1 C.2.1 hX hbl hbA hG.2.2 v3 dL_law_757 ?_
    refine lv_if_eq (tgt := 765) C.1 C.2.1 dL_law_758 (by decide) (fun c1 => ?_) (fun c1 => ?_)
    rotate_left
    · exact absurd cb c1
    refine lv_iconst (v := 0) C.1 C.2.1 dL_law_765 (by decide) ?_
    refine lv_aload_n C.1 C.2.1 dL_law_766 rfl (lv_at hl 0 rfl) ?_
    refine lv_iload_n C.1 C.2.1 dL_law_767 rfl (lv_at hl 3 rfl) ?_
    refine lv_iconst (v := 4) C.1 C.2.1 dL_law_768 (by decide) ?_
    refine lv_iadd C.1 C.2.1 dL_law_769 ?_
    refine va_sld C.1 C.2.1 hX hbl hbA hG.2.2 v4 dL_law_770 ?_
    refine fx_calll (U := fw_F × fw_R) (w1 := fun u => mw G mh md u.1 u.2) (va_runV (As := [.int (xs (x3 + 1).toNatClampNeg), .int (xs (x3 + 2).toNatClampNeg), .int 0, .int (xs (x3 + 4).toNatClampNeg)]) (rest := [.long r1]) ⟨C.1, C.2.1, C.2.2.2.2.2.2, C.2.2.2.2.2.1, C.2.2.2.2.1⟩ (soX10_hurts l G mh md jv br (xs (x3 + 1).toNatClampNeg) (xs (x3 + 2).toNatClampNeg) 0 (xs (x3 + 4).toNatClampNeg) _ w2 H.size) (cwV 4 C.2.2.2.2.1 gL_law_X10_hurts rfl rfl rfl (by decide +kernel) ⟨Nat.le_of_ble_eq_true rfl, Nat.le_of_ble_eq_true rfl⟩) (fw_preV (fx_sub hG) hK (ci := 10) rfl mw_o) rfl rfl hl.1 rfl (lv_room (Nat.le_of_ble_eq_true rfl)) dL_law_771 ⟨by show cells + 0 + 0 ≤ 600000; omega, by show slots + 0 + 0 ≤ 7302250; omega⟩) hG hK (fun r3 u H locs h hG => ?_)
    obtain ⟨jv2, br2⟩ := u
    obtain ⟨e2, p10⟩ := h
    dsimp only at p10 hG
    have hG := fx_swap hG
    refine W.lcmp C.1 C.2.1 dL_law_774 ?_
    refine lv_if_eq (tgt := 1757) C.1 C.2.1 dL_law_775 (by decide) (fun _ => ?_) (fun c1 => absurd ((lg_cmp_eq r1 r3).mpr (e1.trans e2.symm)) c1)
    refine W.widen (k := cells + 2) (n := slots + 222) (by omega) (by omega) ?_
    exact kX _ _ _ _ _ _ _ _ _ (hR _ _ p10) hG hl
  · obtain ⟨r, P10, hR, w1, w2⟩ := hp1 cb
    refine lv_aload_n C.1 C.2.1 dL_law_710 rfl (lv_at hl 1 rfl) ?_
    refine lv_aload_n C.1 C.2.1 dL_law_711 rfl (lv_at hl 0 rfl) ?_
    refine lv_iload_n C.1 C.2.1 dL_law_712 rfl (lv_at hl 3 rfl) ?_
    refine lv_iconst (v := 1) C.1 C.2.1 dL_law_713 (by decide) ?_
    refine lv_iadd C.1 C.2.1 dL_law_714 ?_
    refine va_sld C.1 C.2.1 hX hbl hbA hG.2.2 v1 dL_law_715 ?_
    refine lv_aload_n C.1 C.2.1 dL_law_716 rfl (lv_at hl 0 rfl) ?_
    refine lv_iload_n C.1 C.2.1 dL_law_717 rfl (lv_at hl 3 rfl) ?_
    refine lv_iconst (v := 2) C.1 C.2.1 dL_law_718 (by decide) ?_
    refine lv_iadd C.1 C.2.1 dL_law_719 ?_
    refine va_sld C.1 C.2.1 hX hbl hbA hG.2.2 v2 dL_law_720 ?_
    refine lv_aload_n C.1 C.2.1 dL_law_721 rfl (lv_at hl 0 rfl) ?_
    refine lv_iload_n C.1 C.2.1 dL_law_722 rfl (lv_at hl 3 rfl) ?_
    refine lv_iconst (v := 3) C.1 C.2.1 dL_law_723 (by decide) ?_
    refine lv_iadd C.1 C.2.1 dL_law_724 ?_
    refine va_sld C.1 C.2.1 hX hbl hbA hG.2.2 v3 dL_law_725 ?_
    refine lv_if_eq (tgt := 733) C.1 C.2.1 dL_law_726 (by decide) (fun c1 => ?_) (fun c1 => ?_)
    · exact absurd c1 cb
    refine lv_iconst (v := 1) C.1 C.2.1 dL_law_729 (by decide) ?_
    refine lv_goto (tgt := 734) C.1 C.2.1 dL_law_730 (by decide) ?_
    refine lv_aload_n C.1 C.2.1 dL_law_734 rfl (lv_at hl 0 rfl) ?_
    refine lv_iload_n C.1 C.2.1 dL_law_735 rfl (lv_at hl 3 rfl) ?_
    refine lv_iconst (v := 4) C.1 C.2.1 dL_law_736 (by decide) ?_
    refine lv_iadd C.1 C.2.1 dL_law_737 ?_
    refine va_sld C.1 C.2.1 hX hbl hbA hG.2.2 v4 dL_law_738 ?_
    refine fx_calll (U := fw_F × fw_R) (w1 := (fun u : fw_F × fw_R => kw G ad kt u.1 u.2)) (va_runV (As := [.int (xs (x3 + 1).toNatClampNeg), .int (xs (x3 + 2).toNatClampNeg), .int 1, .int (xs (x3 + 4).toNatClampNeg)]) (rest := []) ⟨C.1, C.2.1, C.2.2.2.2.2.2, C.2.2.2.2.2.1, C.2.2.2.2.1⟩ (soX9_hurts l G ad kt iv ar (xs (x3 + 1).toNatClampNeg) (xs (x3 + 2).toNatClampNeg) 1 (xs (x3 + 4).toNatClampNeg) _ w1 H.size) (cwV 4 C.2.2.2.2.1 gL_law_X9_hurts rfl rfl rfl (by decide +kernel) ⟨Nat.le_of_ble_eq_true rfl, Nat.le_of_ble_eq_true rfl⟩) (fw_preV (fx_sub hG) hK (ci := 9) rfl kw_o9) rfl rfl hl.1 rfl (lv_room (Nat.le_of_ble_eq_true rfl)) dL_law_739 ⟨by show cells + 0 ≤ 600000; omega, by show slots + 0 ≤ 7302250; omega⟩) hG hK (fun r1 u H locs h hG => ?_)
    obtain ⟨iv2, ar2⟩ := u
    obtain ⟨e1, ei, ea⟩ := h
    dsimp only at ei ea
    subst ei ea
    dsimp only at hG
    have hG := fx_swap hG
    refine lv_aload_n C.1 C.2.1 dL_law_742 rfl (lv_at hl 2 rfl) ?_
    refine lv_aload_n C.1 C.2.1 dL_law_743 rfl (lv_at hl 0 rfl) ?_
    refine lv_iload_n C.1 C.2.1 dL_law_744 rfl (lv_at hl 3 rfl) ?_
    refine lv_iconst (v := 1) C.1 C.2.1 dL_law_745 (by decide) ?_
    refine lv_iadd C.1 C.2.1 dL_law_746 ?_
    refine va_sld C.1 C.2.1 hX hbl hbA hG.2.2 v1 dL_law_747 ?_
    refine lv_aload_n C.1 C.2.1 dL_law_748 rfl (lv_at hl 0 rfl) ?_
    refine lv_iload_n C.1 C.2.1 dL_law_749 rfl (lv_at hl 3 rfl) ?_
    refine lv_iconst (v := 2) C.1 C.2.1 dL_law_750 (by decide) ?_
    refine lv_iadd C.1 C.2.1 dL_law_751 ?_
    refine va_sld C.1 C.2.1 hX hbl hbA hG.2.2 v2 dL_law_752 ?_
    refine lv_aload_n C.1 C.2.1 dL_law_753 rfl (lv_at hl 0 rfl) ?_
    refine lv_iload_n C.1 C.2.1 dL_law_754 rfl (lv_at hl 3 rfl) ?_
    refine lv_iconst (v := 3) C.1 C.2.1 dL_law_755 (by decide) ?_
    refine lv_iadd C.1 C.2.1 dL_law_756 ?_
    refine va_sld C.1 C.2.1 hX hbl hbA hG.2.2 v3 dL_law_757 ?_
    refine lv_if_eq (tgt := 765) C.1 C.2.1 dL_law_758 (by decide) (fun c1 => ?_) (fun c1 => ?_)
    · exact absurd c1 cb
    refine lv_iconst (v := 1) C.1 C.2.1 dL_law_761 (by decide) ?_
    refine lv_goto (tgt := 766) C.1 C.2.1 dL_law_762 (by decide) ?_
    refine lv_aload_n C.1 C.2.1 dL_law_766 rfl (lv_at hl 0 rfl) ?_
    refine lv_iload_n C.1 C.2.1 dL_law_767 rfl (lv_at hl 3 rfl) ?_
    refine lv_iconst (v := 4) C.1 C.2.1 dL_law_768 (by decide) ?_
    refine lv_iadd C.1 C.2.1 dL_law_769 ?_
    refine va_sld C.1 C.2.1 hX hbl hbA hG.2.2 v4 dL_law_770 ?_
    refine fx_calll (U := fw_F × fw_R) (w1 := fun u => mw G mh md u.1 u.2) (va_runV (As := [.int (xs (x3 + 1).toNatClampNeg), .int (xs (x3 + 2).toNatClampNeg), .int 1, .int (xs (x3 + 4).toNatClampNeg)]) (rest := [.long r1]) ⟨C.1, C.2.1, C.2.2.2.2.2.2, C.2.2.2.2.2.1, C.2.2.2.2.1⟩ (soX10_hurts l G mh md jv br (xs (x3 + 1).toNatClampNeg) (xs (x3 + 2).toNatClampNeg) 1 (xs (x3 + 4).toNatClampNeg) _ w2 H.size) (cwV 4 C.2.2.2.2.1 gL_law_X10_hurts rfl rfl rfl (by decide +kernel) ⟨Nat.le_of_ble_eq_true rfl, Nat.le_of_ble_eq_true rfl⟩) (fw_preV (fx_sub hG) hK (ci := 10) rfl mw_o) rfl rfl hl.1 rfl (lv_room (Nat.le_of_ble_eq_true rfl)) dL_law_771 ⟨by show cells + 0 + 0 ≤ 600000; omega, by show slots + 0 + 0 ≤ 7302250; omega⟩) hG hK (fun r3 u H locs h hG => ?_)
    obtain ⟨jv2, br2⟩ := u
    obtain ⟨e2, p10⟩ := h
    dsimp only at p10 hG
    have hG := fx_swap hG
    refine W.lcmp C.1 C.2.1 dL_law_774 ?_
    refine lv_if_eq (tgt := 1757) C.1 C.2.1 dL_law_775 (by decide) (fun _ => ?_) (fun c1 => absurd ((lg_cmp_eq r1 r3).mpr (e1.trans e2.symm)) c1)
    refine W.widen (k := cells + 2) (n := slots + 222) (by omega) (by omega) ?_
    exact kX _ _ _ _ _ _ _ _ _ (hR _ _ p10) hG hl
set_option maxHeartbeats 4000000 in
set_option maxRecDepth 100000 in
theorem lw_c13 {p : Program} {l : Launch} {e : Env} {s : State} {m : MethodId} {below : List Frame} {meth : Method} {c : Code} {b L : Nat} {xs : Nat → Int32} {G : fw_G} {mh : Nat} {md : Nat → Nat} {Rl : kw_T → fw_F → fw_R → fw_F → fw_R → Prop} {ad : Nat → Nat} {kt : kw_T} {iv : fw_F} {ar : fw_R} {jv : fw_F} {br : fw_R} {x3 : Int32} {cells slots : Nat} {H : Heap} {locs : List Loc} {ls : Array Slot} (C : fw_C p s m #[Value.ref b] meth c cL_law 4 ret wsL_law RL) (hK : fw_K G (fun q : Nat => s.heap.size ≤ q) s) (hX : va_X b L xs s s.heap) (hbl : b < s.heap.size) (hbA : ¬ (fun q : Nat => s.heap.size ≤ q) b) (hR : Rl kt iv ar jv br) (hp : pu_holds Rl kt iv ar jv br (xs (x3 + 1).toNatClampNeg) (xs (x3 + 2).toNatClampNeg) (xs (x3 + 3).toNatClampNeg) (xs (x3 + 4).toNatClampNeg) (xs (x3 + 5).toNatClampNeg) (xs (x3 + 6).toNatClampNeg)) (v1 : vp_in (x3 + 1) L) (v2 : vp_in (x3 + 2) L) (v3 : vp_in (x3 + 3) L) (v4 : vp_in (x3 + 4) L) (v5 : vp_in (x3 + 5) L) (v6 : vp_in (x3 + 6) L) (hc : cells + 2 ≤ 600000) (hs : slots + 222 ≤ 7302250) (hG : fw_H G (mw G mh md jv br ++ kw G ad kt iv ar) (fun q : Nat => s.heap.size ≤ q) s H locs) (hl : lv_has ls 4 [(0, .ref b), (1, .ref (ad 0)), (2, .ref mh), (3, .int x3)]) (kX : ∀ (ad : Nat → Nat) (kt : kw_T) (iv : fw_F) (ar : fw_R) (jv : fw_F) (br : fw_R) (H : Heap) (locs : List Loc) (ls : Array Slot), Rl kt iv ar jv br → fw_H G (mw G mh md jv br ++ kw G ad kt iv ar) (fun q : Nat => s.heap.size ≤ q) s H locs → lv_has ls 4 [(0, .ref b), (1, .ref (ad 0)), (2, .ref mh), (3, .int x3)] → W p l e room_1 s m #[Value.ref b] below meth c H locs (cells + 2) (slots + 222) (lw_Z below #[Value.ref b] s) (F0 m 1757 ls [])) : W p l e room_1 s m #[Value.ref b] below meth c H locs cells slots (lw_Z below #[Value.ref b] s) (F0 m 780 ls []) := by
  obtain ⟨r, P10, hR, w1, w2⟩ := hp
  refine lv_aload_n C.1 C.2.1 dL_law_780 rfl (lv_at hl 1 rfl) ?_
  refine lv_aload_n C.1 C.2.1 dL_law_781 rfl (lv_at hl 0 rfl) ?_
  refine lv_iload_n C.1 C.2.1 dL_law_782 rfl (lv_at hl 3 rfl) ?_
  refine lv_iconst (v := 1) C.1 C.2.1 dL_law_783 (by decide) ?_
  refine lv_iadd C.1 C.2.1 dL_law_784 ?_
  refine va_sld C.1 C.2.1 hX hbl hbA hG.2.2 v1 dL_law_785 ?_
  refine lv_aload_n C.1 C.2.1 dL_law_786 rfl (lv_at hl 0 rfl) ?_
  refine lv_iload_n C.1 C.2.1 dL_law_787 rfl (lv_at hl 3 rfl) ?_
  refine lv_iconst (v := 2) C.1 C.2.1 dL_law_788 (by decide) ?_
  refine lv_iadd C.1 C.2.1 dL_law_789 ?_
  refine va_sld C.1 C.2.1 hX hbl hbA hG.2.2 v2 dL_law_790 ?_
  refine lv_aload_n C.1 C.2.1 dL_law_791 rfl (lv_at hl 0 rfl) ?_
  refine lv_iload_n C.1 C.2.1 dL_law_792 rfl (lv_at hl 3 rfl) ?_
  refine lv_iconst (v := 3) C.1 C.2.1 dL_law_793 (by decide) ?_
  refine lv_iadd C.1 C.2.1 dL_law_794 ?_
  refine va_sld C.1 C.2.1 hX hbl hbA hG.2.2 v3 dL_law_795 ?_
  refine lv_aload_n C.1 C.2.1 dL_law_796 rfl (lv_at hl 0 rfl) ?_
  refine lv_iload_n C.1 C.2.1 dL_law_797 rfl (lv_at hl 3 rfl) ?_
  refine lv_iconst (v := 4) C.1 C.2.1 dL_law_798 (by decide) ?_
  refine lv_iadd C.1 C.2.1 dL_law_799 ?_
  refine va_sld C.1 C.2.1 hX hbl hbA hG.2.2 v4 dL_law_800 ?_
  refine lv_aload_n C.1 C.2.1 dL_law_801 rfl (lv_at hl 0 rfl) ?_
  refine lv_iload_n C.1 C.2.1 dL_law_802 rfl (lv_at hl 3 rfl) ?_
  refine lv_iconst (v := 5) C.1 C.2.1 dL_law_803 (by decide) ?_
  refine lv_iadd C.1 C.2.1 dL_law_804 ?_
  refine va_sld C.1 C.2.1 hX hbl hbA hG.2.2 v5 dL_law_805 ?_
  refine lv_aload_n C.1 C.2.1 dL_law_806 rfl (lv_at hl 0 rfl) ?_
  refine lv_iload_n C.1 C.2.1 dL_law_807 rfl (lv_at hl 3 rfl) ?_
  refine lv_bipush (v := 6) C.1 C.2.1 dL_law_808 (by decide) ?_
  refine lv_iadd C.1 C.2.1 dL_law_810 ?_
  refine va_sld C.1 C.2.1 hX hbl hbA hG.2.2 v6 dL_law_811 ?_
  refine fx_calll (U := fw_F × fw_R) (w1 := (fun u : fw_F × fw_R => kw G ad kt u.1 u.2)) (va_runV (As := [.int (xs (x3 + 1).toNatClampNeg), .int (xs (x3 + 2).toNatClampNeg), .int (xs (x3 + 3).toNatClampNeg), .int (xs (x3 + 4).toNatClampNeg), .int (xs (x3 + 5).toNatClampNeg), .int (xs (x3 + 6).toNatClampNeg)]) (rest := []) ⟨C.1, C.2.1, C.2.2.2.2.2.2, C.2.2.2.2.2.1, C.2.2.2.2.1⟩ (soX9_holds l G ad kt iv ar (xs (x3 + 1).toNatClampNeg) (xs (x3 + 2).toNatClampNeg) (xs (x3 + 3).toNatClampNeg) (xs (x3 + 4).toNatClampNeg) (xs (x3 + 5).toNatClampNeg) (xs (x3 + 6).toNatClampNeg) _ w1 H.size) (cwV 6 C.2.2.2.2.1 gL_law_X9_holds rfl rfl rfl (by decide +kernel) ⟨Nat.le_of_ble_eq_true rfl, Nat.le_of_ble_eq_true rfl⟩) (fw_preV (fx_sub hG) hK (ci := 9) rfl kw_o9) rfl rfl hl.1 rfl (lv_room (Nat.le_of_ble_eq_true rfl)) dL_law_812 ⟨by show cells + 0 ≤ 600000; omega, by show slots + 0 ≤ 7302250; omega⟩) hG hK (fun r1 u H locs h hG => ?_)
  obtain ⟨iv2, ar2⟩ := u
  obtain ⟨e1, ei, ea⟩ := h
  dsimp only at ei ea
  subst ei ea
  dsimp only at hG
  have hG := fx_swap hG
  refine lv_aload_n C.1 C.2.1 dL_law_815 rfl (lv_at hl 2 rfl) ?_
  refine lv_aload_n C.1 C.2.1 dL_law_816 rfl (lv_at hl 0 rfl) ?_
  refine lv_iload_n C.1 C.2.1 dL_law_817 rfl (lv_at hl 3 rfl) ?_
  refine lv_iconst (v := 1) C.1 C.2.1 dL_law_818 (by decide) ?_
  refine lv_iadd C.1 C.2.1 dL_law_819 ?_
  refine va_sld C.1 C.2.1 hX hbl hbA hG.2.2 v1 dL_law_820 ?_
  refine lv_aload_n C.1 C.2.1 dL_law_821 rfl (lv_at hl 0 rfl) ?_
  refine lv_iload_n C.1 C.2.1 dL_law_822 rfl (lv_at hl 3 rfl) ?_
  refine lv_iconst (v := 2) C.1 C.2.1 dL_law_823 (by decide) ?_
  refine lv_iadd C.1 C.2.1 dL_law_824 ?_
  refine va_sld C.1 C.2.1 hX hbl hbA hG.2.2 v2 dL_law_825 ?_
  refine lv_aload_n C.1 C.2.1 dL_law_826 rfl (lv_at hl 0 rfl) ?_
  refine lv_iload_n C.1 C.2.1 dL_law_827 rfl (lv_at hl 3 rfl) ?_
  refine lv_iconst (v := 3) C.1 C.2.1 dL_law_828 (by decide) ?_
  refine lv_iadd C.1 C.2.1 dL_law_829 ?_
  refine va_sld C.1 C.2.1 hX hbl hbA hG.2.2 v3 dL_law_830 ?_
  refine lv_aload_n C.1 C.2.1 dL_law_831 rfl (lv_at hl 0 rfl) ?_
  refine lv_iload_n C.1 C.2.1 dL_law_832 rfl (lv_at hl 3 rfl) ?_
  refine lv_iconst (v := 4) C.1 C.2.1 dL_law_833 (by decide) ?_
  refine lv_iadd C.1 C.2.1 dL_law_834 ?_
  refine va_sld C.1 C.2.1 hX hbl hbA hG.2.2 v4 dL_law_835 ?_
  refine lv_aload_n C.1 C.2.1 dL_law_836 rfl (lv_at hl 0 rfl) ?_
  refine lv_iload_n C.1 C.2.1 dL_law_837 rfl (lv_at hl 3 rfl) ?_
  refine lv_iconst (v := 5) C.1 C.2.1 dL_law_838 (by decide) ?_
  refine lv_iadd C.1 C.2.1 dL_law_839 ?_
  refine va_sld C.1 C.2.1 hX hbl hbA hG.2.2 v5 dL_law_840 ?_
  refine lv_aload_n C.1 C.2.1 dL_law_841 rfl (lv_at hl 0 rfl) ?_
  refine lv_iload_n C.1 C.2.1 dL_law_842 rfl (lv_at hl 3 rfl) ?_
  refine lv_bipush (v := 6) C.1 C.2.1 dL_law_843 (by decide) ?_
  refine lv_iadd C.1 C.2.1 dL_law_845 ?_
  refine va_sld C.1 C.2.1 hX hbl hbA hG.2.2 v6 dL_law_846 ?_
  refine fx_calll (U := fw_F × fw_R) (w1 := fun u => mw G mh md u.1 u.2) (va_runV (As := [.int (xs (x3 + 1).toNatClampNeg), .int (xs (x3 + 2).toNatClampNeg), .int (xs (x3 + 3).toNatClampNeg), .int (xs (x3 + 4).toNatClampNeg), .int (xs (x3 + 5).toNatClampNeg), .int (xs (x3 + 6).toNatClampNeg)]) (rest := [.long r1]) ⟨C.1, C.2.1, C.2.2.2.2.2.2, C.2.2.2.2.2.1, C.2.2.2.2.1⟩ (soX10_holds l G mh md jv br (xs (x3 + 1).toNatClampNeg) (xs (x3 + 2).toNatClampNeg) (xs (x3 + 3).toNatClampNeg) (xs (x3 + 4).toNatClampNeg) (xs (x3 + 5).toNatClampNeg) (xs (x3 + 6).toNatClampNeg) _ w2 H.size) (cwV 6 C.2.2.2.2.1 gL_law_X10_holds rfl rfl rfl (by decide +kernel) ⟨Nat.le_of_ble_eq_true rfl, Nat.le_of_ble_eq_true rfl⟩) (fw_preV (fx_sub hG) hK (ci := 10) rfl mw_o) rfl rfl hl.1 rfl (lv_room (Nat.le_of_ble_eq_true rfl)) dL_law_847 ⟨by show cells + 0 + 0 ≤ 600000; omega, by show slots + 0 + 0 ≤ 7302250; omega⟩) hG hK (fun r3 u H locs h hG => ?_)
  obtain ⟨jv2, br2⟩ := u
  obtain ⟨e2, p10⟩ := h
  dsimp only at p10 hG
  have hG := fx_swap hG
  refine W.lcmp C.1 C.2.1 dL_law_850 ?_
  refine lv_if_eq (tgt := 1757) C.1 C.2.1 dL_law_851 (by decide) (fun _ => ?_) (fun c1 => absurd ((lg_cmp_eq r1 r3).mpr (e1.trans e2.symm)) c1)
  refine W.widen (k := cells + 2) (n := slots + 222) (by omega) (by omega) ?_
  exact kX _ _ _ _ _ _ _ _ _ (hR _ _ p10) hG hl
set_option maxHeartbeats 4000000 in
set_option maxRecDepth 100000 in
theorem lw_c14 {p : Program} {l : Launch} {e : Env} {s : State} {m : MethodId} {below : List Frame} {meth : Method} {c : Code} {b L : Nat} {xs : Nat → Int32} {G : fw_G} {mh : Nat} {md : Nat → Nat} {Rl : kw_T → fw_F → fw_R → fw_F → fw_R → Prop} {ad : Nat → Nat} {kt : kw_T} {iv : fw_F} {ar : fw_R} {jv : fw_F} {br : fw_R} {x3 : Int32} {cells slots : Nat} {H : Heap} {locs : List Loc} {ls : Array Slot} (C : fw_C p s m #[Value.ref b] meth c cL_law 4 ret wsL_law RL) (hK : fw_K G (fun q : Nat => s.heap.size ≤ q) s) (hX : va_X b L xs s s.heap) (hbl : b < s.heap.size) (hbA : ¬ (fun q : Nat => s.heap.size ≤ q) b) (hR : Rl kt iv ar jv br) (hp : pu_allowed Rl kt iv ar jv br (xs (x3 + 1).toNatClampNeg) (xs (x3 + 2).toNatClampNeg)) (v1 : vp_in (x3 + 1) L) (v2 : vp_in (x3 + 2) L) (hc : cells + 2 ≤ 600000) (hs : slots + 222 ≤ 7302250) (hG : fw_H G (mw G mh md jv br ++ kw G ad kt iv ar) (fun q : Nat => s.heap.size ≤ q) s H locs) (hl : lv_has ls 4 [(0, .ref b), (1, .ref (ad 0)), (2, .ref mh), (3, .int x3)]) (kX : ∀ (ad : Nat → Nat) (kt : kw_T) (iv : fw_F) (ar : fw_R) (jv : fw_F) (br : fw_R) (H : Heap) (locs : List Loc) (ls : Array Slot), Rl kt iv ar jv br → fw_H G (mw G mh md jv br ++ kw G ad kt iv ar) (fun q : Nat => s.heap.size ≤ q) s H locs → lv_has ls 4 [(0, .ref b), (1, .ref (ad 0)), (2, .ref mh), (3, .int x3)] → W p l e room_1 s m #[Value.ref b] below meth c H locs (cells + 2) (slots + 222) (lw_Z below #[Value.ref b] s) (F0 m 1757 ls [])) : W p l e room_1 s m #[Value.ref b] below meth c H locs cells slots (lw_Z below #[Value.ref b] s) (F0 m 856 ls []) := by
  obtain ⟨r, P10, hR, w1, w2⟩ := hp
  refine lv_aload_n C.1 C.2.1 dL_law_856 rfl (lv_at hl 1 rfl) ?_
  refine lv_aload_n C.1 C.2.1 dL_law_857 rfl (lv_at hl 0 rfl) ?_
  refine lv_iload_n C.1 C.2.1 dL_law_858 rfl (lv_at hl 3 rfl) ?_
  refine lv_iconst (v := 1) C.1 C.2.1 dL_law_859 (by decide) ?_
  refine lv_iadd C.1 C.2.1 dL_law_860 ?_
  refine va_sld C.1 C.2.1 hX hbl hbA hG.2.2 v1 dL_law_861 ?_
  refine lv_aload_n C.1 C.2.1 dL_law_862 rfl (lv_at hl 0 rfl) ?_
  refine lv_iload_n C.1 C.2.1 dL_law_863 rfl (lv_at hl 3 rfl) ?_
  refine lv_iconst (v := 2) C.1 C.2.1 dL_law_864 (by decide) ?_
  refine lv_iadd C.1 C.2.1 dL_law_865 ?_
  refine va_sld C.1 C.2.1 hX hbl hbA hG.2.2 v2 dL_law_866 ?_
  refine fx_calli (U := fw_F × fw_R) (w1 := (fun u : fw_F × fw_R => kw G ad kt u.1 u.2)) (va_runV (As := [.int (xs (x3 + 1).toNatClampNeg), .int (xs (x3 + 2).toNatClampNeg)]) (rest := []) ⟨C.1, C.2.1, C.2.2.2.2.2.2, C.2.2.2.2.2.1, C.2.2.2.2.1⟩ (soX9_allowed l G ad kt iv ar (xs (x3 + 1).toNatClampNeg) (xs (x3 + 2).toNatClampNeg) _ w1 H.size) (cwV 2 C.2.2.2.2.1 gL_law_X9_allowed rfl rfl rfl (by decide +kernel) ⟨Nat.le_of_ble_eq_true rfl, Nat.le_of_ble_eq_true rfl⟩) (fw_preV (fx_sub hG) hK (ci := 9) rfl kw_o9) rfl rfl hl.1 rfl (lv_room (Nat.le_of_ble_eq_true rfl)) dL_law_867 ⟨by show cells + 0 ≤ 600000; omega, by show slots + 0 ≤ 7302250; omega⟩) hG hK (fun r1 u H locs h hG => ?_)
  obtain ⟨iv2, ar2⟩ := u
  obtain ⟨e1, ei, ea⟩ := h
  dsimp only at ei ea
  subst ei ea
  dsimp only at hG
  have hG := fx_swap hG
  refine lv_aload_n C.1 C.2.1 dL_law_870 rfl (lv_at hl 2 rfl) ?_
  refine lv_aload_n C.1 C.2.1 dL_law_871 rfl (lv_at hl 0 rfl) ?_
  refine lv_iload_n C.1 C.2.1 dL_law_872 rfl (lv_at hl 3 rfl) ?_
  refine lv_iconst (v := 1) C.1 C.2.1 dL_law_873 (by decide) ?_
  refine lv_iadd C.1 C.2.1 dL_law_874 ?_
  refine va_sld C.1 C.2.1 hX hbl hbA hG.2.2 v1 dL_law_875 ?_
  refine lv_aload_n C.1 C.2.1 dL_law_876 rfl (lv_at hl 0 rfl) ?_
  refine lv_iload_n C.1 C.2.1 dL_law_877 rfl (lv_at hl 3 rfl) ?_
  refine lv_iconst (v := 2) C.1 C.2.1 dL_law_878 (by decide) ?_
  refine lv_iadd C.1 C.2.1 dL_law_879 ?_
  refine va_sld C.1 C.2.1 hX hbl hbA hG.2.2 v2 dL_law_880 ?_
  refine fx_calli (U := fw_F × fw_R) (w1 := fun u => mw G mh md u.1 u.2) (va_runV (As := [.int (xs (x3 + 1).toNatClampNeg), .int (xs (x3 + 2).toNatClampNeg)]) (rest := [.int r1]) ⟨C.1, C.2.1, C.2.2.2.2.2.2, C.2.2.2.2.2.1, C.2.2.2.2.1⟩ (soX10_allowed l G mh md jv br (xs (x3 + 1).toNatClampNeg) (xs (x3 + 2).toNatClampNeg) _ w2 H.size) (cwV 2 C.2.2.2.2.1 gL_law_X10_allowed rfl rfl rfl (by decide +kernel) ⟨Nat.le_of_ble_eq_true rfl, Nat.le_of_ble_eq_true rfl⟩) (fw_preV (fx_sub hG) hK (ci := 10) rfl mw_o) rfl rfl hl.1 rfl (lv_room (Nat.le_of_ble_eq_true rfl)) dL_law_881 ⟨by show cells + 0 + 0 ≤ 600000; omega, by show slots + 0 + 0 ≤ 7302250; omega⟩) hG hK (fun r3 u H locs h hG => ?_)
  obtain ⟨jv2, br2⟩ := u
  obtain ⟨e2, p10⟩ := h
  dsimp only at p10 hG
  have hG := fx_swap hG
  refine lv_icmp_eq (tgt := 1757) C.1 C.2.1 dL_law_884 (by decide) (fun _ => ?_) (fun c1 => absurd (e1.trans e2.symm) c1)
  refine W.widen (k := cells + 2) (n := slots + 222) (by omega) (by omega) ?_
  exact kX _ _ _ _ _ _ _ _ _ (hR _ _ p10) hG hl
set_option maxHeartbeats 4000000 in
set_option maxRecDepth 100000 in
theorem lw_c15 {p : Program} {l : Launch} {e : Env} {s : State} {m : MethodId} {below : List Frame} {meth : Method} {c : Code} {b L : Nat} {xs : Nat → Int32} {G : fw_G} {mh : Nat} {md : Nat → Nat} {Rl : kw_T → fw_F → fw_R → fw_F → fw_R → Prop} {ad : Nat → Nat} {kt : kw_T} {iv : fw_F} {ar : fw_R} {jv : fw_F} {br : fw_R} {x3 : Int32} {cells slots : Nat} {H : Heap} {locs : List Loc} {ls : Array Slot} (C : fw_C p s m #[Value.ref b] meth c cL_law 4 ret wsL_law RL) (hK : fw_K G (fun q : Nat => s.heap.size ≤ q) s) (hX : va_X b L xs s s.heap) (hbl : b < s.heap.size) (hbA : ¬ (fun q : Nat => s.heap.size ≤ q) b) (hR : Rl kt iv ar jv br) (hp : pu_nearest Rl kt iv ar jv br (xs (x3 + 1).toNatClampNeg) (xs (x3 + 2).toNatClampNeg)) (v1 : vp_in (x3 + 1) L) (v2 : vp_in (x3 + 2) L) (hc : cells + 2 ≤ 600000) (hs : slots + 222 ≤ 7302250) (hG : fw_H G (mw G mh md jv br ++ kw G ad kt iv ar) (fun q : Nat => s.heap.size ≤ q) s H locs) (hl : lv_has ls 4 [(0, .ref b), (1, .ref (ad 0)), (2, .ref mh), (3, .int x3)]) (kX : ∀ (ad : Nat → Nat) (kt : kw_T) (iv : fw_F) (ar : fw_R) (jv : fw_F) (br : fw_R) (H : Heap) (locs : List Loc) (ls : Array Slot), Rl kt iv ar jv br → fw_H G (mw G mh md jv br ++ kw G ad kt iv ar) (fun q : Nat => s.heap.size ≤ q) s H locs → lv_has ls 4 [(0, .ref b), (1, .ref (ad 0)), (2, .ref mh), (3, .int x3)] → W p l e room_1 s m #[Value.ref b] below meth c H locs (cells + 2) (slots + 222) (lw_Z below #[Value.ref b] s) (F0 m 1757 ls [])) : W p l e room_1 s m #[Value.ref b] below meth c H locs cells slots (lw_Z below #[Value.ref b] s) (F0 m 889 ls []) := by
  obtain ⟨r, P10, hR, w1, w2⟩ := hp
  refine lv_aload_n C.1 C.2.1 dL_law_889 rfl (lv_at hl 1 rfl) ?_
  refine lv_aload_n C.1 C.2.1 dL_law_890 rfl (lv_at hl 0 rfl) ?_
  refine lv_iload_n C.1 C.2.1 dL_law_891 rfl (lv_at hl 3 rfl) ?_
  refine lv_iconst (v := 1) C.1 C.2.1 dL_law_892 (by decide) ?_
  refine lv_iadd C.1 C.2.1 dL_law_893 ?_
  refine va_sld C.1 C.2.1 hX hbl hbA hG.2.2 v1 dL_law_894 ?_
  refine lv_aload_n C.1 C.2.1 dL_law_895 rfl (lv_at hl 0 rfl) ?_
  refine lv_iload_n C.1 C.2.1 dL_law_896 rfl (lv_at hl 3 rfl) ?_
  refine lv_iconst (v := 2) C.1 C.2.1 dL_law_897 (by decide) ?_
  refine lv_iadd C.1 C.2.1 dL_law_898 ?_
  refine va_sld C.1 C.2.1 hX hbl hbA hG.2.2 v2 dL_law_899 ?_
  refine fx_calli (U := fw_F × fw_R) (w1 := (fun u : fw_F × fw_R => kw G ad kt u.1 u.2)) (va_runV (As := [.int (xs (x3 + 1).toNatClampNeg), .int (xs (x3 + 2).toNatClampNeg)]) (rest := []) ⟨C.1, C.2.1, C.2.2.2.2.2.2, C.2.2.2.2.2.1, C.2.2.2.2.1⟩ (soX9_nearest l G ad kt iv ar (xs (x3 + 1).toNatClampNeg) (xs (x3 + 2).toNatClampNeg) _ w1 H.size) (cwV 2 C.2.2.2.2.1 gL_law_X9_nearest rfl rfl rfl (by decide +kernel) ⟨Nat.le_of_ble_eq_true rfl, Nat.le_of_ble_eq_true rfl⟩) (fw_preV (fx_sub hG) hK (ci := 9) rfl kw_o9) rfl rfl hl.1 rfl (lv_room (Nat.le_of_ble_eq_true rfl)) dL_law_900 ⟨by show cells + 0 ≤ 600000; omega, by show slots + 0 ≤ 7302250; omega⟩) hG hK (fun r1 u H locs h hG => ?_)
  obtain ⟨iv2, ar2⟩ := u
  obtain ⟨e1, ei, ea⟩ := h
  dsimp only at ei ea
  subst ei ea
  dsimp only at hG
  have hG := fx_swap hG
  refine lv_aload_n C.1 C.2.1 dL_law_903 rfl (lv_at hl 2 rfl) ?_
  refine lv_aload_n C.1 C.2.1 dL_law_904 rfl (lv_at hl 0 rfl) ?_
  refine lv_iload_n C.1 C.2.1 dL_law_905 rfl (lv_at hl 3 rfl) ?_
  refine lv_iconst (v := 1) C.1 C.2.1 dL_law_906 (by decide) ?_
  refine lv_iadd C.1 C.2.1 dL_law_907 ?_
  refine va_sld C.1 C.2.1 hX hbl hbA hG.2.2 v1 dL_law_908 ?_
  refine lv_aload_n C.1 C.2.1 dL_law_909 rfl (lv_at hl 0 rfl) ?_
  refine lv_iload_n C.1 C.2.1 dL_law_910 rfl (lv_at hl 3 rfl) ?_
  refine lv_iconst (v := 2) C.1 C.2.1 dL_law_911 (by decide) ?_
  refine lv_iadd C.1 C.2.1 dL_law_912 ?_
  refine va_sld C.1 C.2.1 hX hbl hbA hG.2.2 v2 dL_law_913 ?_
  refine fx_calli (U := fw_F × fw_R) (w1 := fun u => mw G mh md u.1 u.2) (va_runV (As := [.int (xs (x3 + 1).toNatClampNeg), .int (xs (x3 + 2).toNatClampNeg)]) (rest := [.int r1]) ⟨C.1, C.2.1, C.2.2.2.2.2.2, C.2.2.2.2.2.1, C.2.2.2.2.1⟩ (soX10_nearest l G mh md jv br (xs (x3 + 1).toNatClampNeg) (xs (x3 + 2).toNatClampNeg) _ w2 H.size) (cwV 2 C.2.2.2.2.1 gL_law_X10_nearest rfl rfl rfl (by decide +kernel) ⟨Nat.le_of_ble_eq_true rfl, Nat.le_of_ble_eq_true rfl⟩) (fw_preV (fx_sub hG) hK (ci := 10) rfl mw_o) rfl rfl hl.1 rfl (lv_room (Nat.le_of_ble_eq_true rfl)) dL_law_914 ⟨by show cells + 0 + 0 ≤ 600000; omega, by show slots + 0 + 0 ≤ 7302250; omega⟩) hG hK (fun r3 u H locs h hG => ?_)
  obtain ⟨jv2, br2⟩ := u
  obtain ⟨e2, p10⟩ := h
  dsimp only at p10 hG
  have hG := fx_swap hG
  refine lv_icmp_eq (tgt := 1757) C.1 C.2.1 dL_law_917 (by decide) (fun _ => ?_) (fun c1 => absurd (e1.trans e2.symm) c1)
  refine W.widen (k := cells + 2) (n := slots + 222) (by omega) (by omega) ?_
  exact kX _ _ _ _ _ _ _ _ _ (hR _ _ p10) hG hl
set_option maxHeartbeats 4000000 in
set_option maxRecDepth 100000 in
theorem lw_c16 {p : Program} {l : Launch} {e : Env} {s : State} {m : MethodId} {below : List Frame} {meth : Method} {c : Code} {b L : Nat} {xs : Nat → Int32} {G : fw_G} {mh : Nat} {md : Nat → Nat} {Rl : kw_T → fw_F → fw_R → fw_F → fw_R → Prop} {ad : Nat → Nat} {kt : kw_T} {iv : fw_F} {ar : fw_R} {jv : fw_F} {br : fw_R} {x3 : Int32} {cells slots : Nat} {H : Heap} {locs : List Loc} {ls : Array Slot} (C : fw_C p s m #[Value.ref b] meth c cL_law 4 ret wsL_law RL) (hK : fw_K G (fun q : Nat => s.heap.size ≤ q) s) (hX : va_X b L xs s s.heap) (hbl : b < s.heap.size) (hbA : ¬ (fun q : Nat => s.heap.size ≤ q) b) (hR : Rl kt iv ar jv br) (hp : pu_order Rl kt iv ar jv br (xs (x3 + 1).toNatClampNeg) (xs (x3 + 2).toNatClampNeg) (xs (x3 + 3).toNatClampNeg) (xs (x3 + 4).toNatClampNeg) (xs (x3 + 5).toNatClampNeg) (xs (x3 + 6).toNatClampNeg)) (v1 : vp_in (x3 + 1) L) (v2 : vp_in (x3 + 2) L) (v3 : vp_in (x3 + 3) L) (v4 : vp_in (x3 + 4) L) (v5 : vp_in (x3 + 5) L) (v6 : vp_in (x3 + 6) L) (hc : cells + 2 ≤ 600000) (hs : slots + 222 ≤ 7302250) (hG : fw_H G (mw G mh md jv br ++ kw G ad kt iv ar) (fun q : Nat => s.heap.size ≤ q) s H locs) (hl : lv_has ls 4 [(0, .ref b), (1, .ref (ad 0)), (2, .ref mh), (3, .int x3)]) (kX : ∀ (ad : Nat → Nat) (kt : kw_T) (iv : fw_F) (ar : fw_R) (jv : fw_F) (br : fw_R) (H : Heap) (locs : List Loc) (ls : Array Slot), Rl kt iv ar jv br → fw_H G (mw G mh md jv br ++ kw G ad kt iv ar) (fun q : Nat => s.heap.size ≤ q) s H locs → lv_has ls 4 [(0, .ref b), (1, .ref (ad 0)), (2, .ref mh), (3, .int x3)] → W p l e room_1 s m #[Value.ref b] below meth c H locs (cells + 2) (slots + 222) (lw_Z below #[Value.ref b] s) (F0 m 1757 ls [])) : W p l e room_1 s m #[Value.ref b] below meth c H locs cells slots (lw_Z below #[Value.ref b] s) (F0 m 922 ls []) := by
  obtain ⟨r, P10, P9, hR, w1, w2⟩ := hp
  refine lv_aload_n C.1 C.2.1 dL_law_922 rfl (lv_at hl 1 rfl) ?_
  refine lv_aload_n C.1 C.2.1 dL_law_923 rfl (lv_at hl 0 rfl) ?_
  refine lv_iload_n C.1 C.2.1 dL_law_924 rfl (lv_at hl 3 rfl) ?_
  refine lv_iconst (v := 1) C.1 C.2.1 dL_law_925 (by decide) ?_
  refine lv_iadd C.1 C.2.1 dL_law_926 ?_
  refine va_sld C.1 C.2.1 hX hbl hbA hG.2.2 v1 dL_law_927 ?_
  refine lv_aload_n C.1 C.2.1 dL_law_928 rfl (lv_at hl 0 rfl) ?_
  refine lv_iload_n C.1 C.2.1 dL_law_929 rfl (lv_at hl 3 rfl) ?_
  refine lv_iconst (v := 2) C.1 C.2.1 dL_law_930 (by decide) ?_
  refine lv_iadd C.1 C.2.1 dL_law_931 ?_
  refine va_sld C.1 C.2.1 hX hbl hbA hG.2.2 v2 dL_law_932 ?_
  refine lv_aload_n C.1 C.2.1 dL_law_933 rfl (lv_at hl 0 rfl) ?_
  refine lv_iload_n C.1 C.2.1 dL_law_934 rfl (lv_at hl 3 rfl) ?_
  refine lv_iconst (v := 3) C.1 C.2.1 dL_law_935 (by decide) ?_
  refine lv_iadd C.1 C.2.1 dL_law_936 ?_
  refine va_sld C.1 C.2.1 hX hbl hbA hG.2.2 v3 dL_law_937 ?_
  refine lv_aload_n C.1 C.2.1 dL_law_938 rfl (lv_at hl 0 rfl) ?_
  refine lv_iload_n C.1 C.2.1 dL_law_939 rfl (lv_at hl 3 rfl) ?_
  refine lv_iconst (v := 4) C.1 C.2.1 dL_law_940 (by decide) ?_
  refine lv_iadd C.1 C.2.1 dL_law_941 ?_
  refine va_sld C.1 C.2.1 hX hbl hbA hG.2.2 v4 dL_law_942 ?_
  refine lv_aload_n C.1 C.2.1 dL_law_943 rfl (lv_at hl 0 rfl) ?_
  refine lv_iload_n C.1 C.2.1 dL_law_944 rfl (lv_at hl 3 rfl) ?_
  refine lv_iconst (v := 5) C.1 C.2.1 dL_law_945 (by decide) ?_
  refine lv_iadd C.1 C.2.1 dL_law_946 ?_
  refine va_sld C.1 C.2.1 hX hbl hbA hG.2.2 v5 dL_law_947 ?_
  refine lv_aload_n C.1 C.2.1 dL_law_948 rfl (lv_at hl 0 rfl) ?_
  refine lv_iload_n C.1 C.2.1 dL_law_949 rfl (lv_at hl 3 rfl) ?_
  refine lv_bipush (v := 6) C.1 C.2.1 dL_law_950 (by decide) ?_
  refine lv_iadd C.1 C.2.1 dL_law_952 ?_
  refine va_sld C.1 C.2.1 hX hbl hbA hG.2.2 v6 dL_law_953 ?_
  refine fx_calli (U := fw_F × fw_R) (w1 := (fun u : fw_F × fw_R => kw G ad kt u.1 u.2)) (va_runV (As := [.int (xs (x3 + 1).toNatClampNeg), .int (xs (x3 + 2).toNatClampNeg), .int (xs (x3 + 3).toNatClampNeg), .int (xs (x3 + 4).toNatClampNeg), .int (xs (x3 + 5).toNatClampNeg), .int (xs (x3 + 6).toNatClampNeg)]) (rest := []) ⟨C.1, C.2.1, C.2.2.2.2.2.2, C.2.2.2.2.2.1, C.2.2.2.2.1⟩ (soX9_order l G ad kt iv ar (xs (x3 + 1).toNatClampNeg) (xs (x3 + 2).toNatClampNeg) (xs (x3 + 3).toNatClampNeg) (xs (x3 + 4).toNatClampNeg) (xs (x3 + 5).toNatClampNeg) (xs (x3 + 6).toNatClampNeg) _ w1 H.size) (cwV 6 C.2.2.2.2.1 gL_law_X9_order rfl rfl rfl (by decide +kernel) ⟨Nat.le_of_ble_eq_true rfl, Nat.le_of_ble_eq_true rfl⟩) (fw_preV (fx_sub hG) hK (ci := 9) rfl kw_o9) rfl rfl hl.1 rfl (lv_room (Nat.le_of_ble_eq_true rfl)) dL_law_954 ⟨by show cells + 0 ≤ 600000; omega, by show slots + 0 ≤ 7302250; omega⟩) hG hK (fun r1 u H locs h hG => ?_)
  obtain ⟨iv2, ar2⟩ := u
  obtain ⟨e1, p9⟩ := h
  dsimp only at p9 hG
  have hG := fx_swap hG
  refine lv_aload_n C.1 C.2.1 dL_law_957 rfl (lv_at hl 2 rfl) ?_
  refine lv_aload_n C.1 C.2.1 dL_law_958 rfl (lv_at hl 0 rfl) ?_
  refine lv_iload_n C.1 C.2.1 dL_law_959 rfl (lv_at hl 3 rfl) ?_
  refine lv_iconst (v := 1) C.1 C.2.1 dL_law_960 (by decide) ?_
  refine lv_iadd C.1 C.2.1 dL_law_961 ?_
  refine va_sld C.1 C.2.1 hX hbl hbA hG.2.2 v1 dL_law_962 ?_
  refine lv_aload_n C.1 C.2.1 dL_law_963 rfl (lv_at hl 0 rfl) ?_
  refine lv_iload_n C.1 C.2.1 dL_law_964 rfl (lv_at hl 3 rfl) ?_
  refine lv_iconst (v := 2) C.1 C.2.1 dL_law_965 (by decide) ?_
  refine lv_iadd C.1 C.2.1 dL_law_966 ?_
  refine va_sld C.1 C.2.1 hX hbl hbA hG.2.2 v2 dL_law_967 ?_
  refine lv_aload_n C.1 C.2.1 dL_law_968 rfl (lv_at hl 0 rfl) ?_
  refine lv_iload_n C.1 C.2.1 dL_law_969 rfl (lv_at hl 3 rfl) ?_
  refine lv_iconst (v := 3) C.1 C.2.1 dL_law_970 (by decide) ?_
  refine lv_iadd C.1 C.2.1 dL_law_971 ?_
  refine va_sld C.1 C.2.1 hX hbl hbA hG.2.2 v3 dL_law_972 ?_
  refine lv_aload_n C.1 C.2.1 dL_law_973 rfl (lv_at hl 0 rfl) ?_
  refine lv_iload_n C.1 C.2.1 dL_law_974 rfl (lv_at hl 3 rfl) ?_
  refine lv_iconst (v := 4) C.1 C.2.1 dL_law_975 (by decide) ?_
  refine lv_iadd C.1 C.2.1 dL_law_976 ?_
  refine va_sld C.1 C.2.1 hX hbl hbA hG.2.2 v4 dL_law_977 ?_
  refine lv_aload_n C.1 C.2.1 dL_law_978 rfl (lv_at hl 0 rfl) ?_
  refine lv_iload_n C.1 C.2.1 dL_law_979 rfl (lv_at hl 3 rfl) ?_
  refine lv_iconst (v := 5) C.1 C.2.1 dL_law_980 (by decide) ?_
  refine lv_iadd C.1 C.2.1 dL_law_981 ?_
  refine va_sld C.1 C.2.1 hX hbl hbA hG.2.2 v5 dL_law_982 ?_
  refine lv_aload_n C.1 C.2.1 dL_law_983 rfl (lv_at hl 0 rfl) ?_
  refine lv_iload_n C.1 C.2.1 dL_law_984 rfl (lv_at hl 3 rfl) ?_
  refine lv_bipush (v := 6) C.1 C.2.1 dL_law_985 (by decide) ?_
  refine lv_iadd C.1 C.2.1 dL_law_987 ?_
  refine va_sld C.1 C.2.1 hX hbl hbA hG.2.2 v6 dL_law_988 ?_
  refine fx_calli (U := fw_F × fw_R) (w1 := fun u => mw G mh md u.1 u.2) (va_runV (As := [.int (xs (x3 + 1).toNatClampNeg), .int (xs (x3 + 2).toNatClampNeg), .int (xs (x3 + 3).toNatClampNeg), .int (xs (x3 + 4).toNatClampNeg), .int (xs (x3 + 5).toNatClampNeg), .int (xs (x3 + 6).toNatClampNeg)]) (rest := [.int r1]) ⟨C.1, C.2.1, C.2.2.2.2.2.2, C.2.2.2.2.2.1, C.2.2.2.2.1⟩ (soX10_order l G mh md jv br (xs (x3 + 1).toNatClampNeg) (xs (x3 + 2).toNatClampNeg) (xs (x3 + 3).toNatClampNeg) (xs (x3 + 4).toNatClampNeg) (xs (x3 + 5).toNatClampNeg) (xs (x3 + 6).toNatClampNeg) _ w2 H.size) (cwV 6 C.2.2.2.2.1 gL_law_X10_order rfl rfl rfl (by decide +kernel) ⟨Nat.le_of_ble_eq_true rfl, Nat.le_of_ble_eq_true rfl⟩) (fw_preV (fx_sub hG) hK (ci := 10) rfl mw_o) rfl rfl hl.1 rfl (lv_room (Nat.le_of_ble_eq_true rfl)) dL_law_989 ⟨by show cells + 0 + 0 ≤ 600000; omega, by show slots + 0 + 0 ≤ 7302250; omega⟩) hG hK (fun r3 u H locs h hG => ?_)
  obtain ⟨jv2, br2⟩ := u
  obtain ⟨e2, p10⟩ := h
  dsimp only at p10 hG
  have hG := fx_swap hG
  refine lv_icmp_eq (tgt := 1757) C.1 C.2.1 dL_law_992 (by decide) (fun _ => ?_) (fun c1 => absurd (e1.trans e2.symm) c1)
  refine W.widen (k := cells + 2) (n := slots + 222) (by omega) (by omega) ?_
  exact kX _ _ _ _ _ _ _ _ _ (hR _ _ p9 _ _ p10) hG hl
set_option maxHeartbeats 4000000 in
set_option maxRecDepth 100000 in
theorem lw_c17 {p : Program} {l : Launch} {e : Env} {s : State} {m : MethodId} {below : List Frame} {meth : Method} {c : Code} {b L : Nat} {xs : Nat → Int32} {G : fw_G} {mh : Nat} {md : Nat → Nat} {Rl : kw_T → fw_F → fw_R → fw_F → fw_R → Prop} {ad : Nat → Nat} {kt : kw_T} {iv : fw_F} {ar : fw_R} {jv : fw_F} {br : fw_R} {x3 : Int32} {cells slots : Nat} {H : Heap} {locs : List Loc} {ls : Array Slot} (C : fw_C p s m #[Value.ref b] meth c cL_law 4 ret wsL_law RL) (hK : fw_K G (fun q : Nat => s.heap.size ≤ q) s) (hX : va_X b L xs s s.heap) (hbl : b < s.heap.size) (hbA : ¬ (fun q : Nat => s.heap.size ≤ q) b) (hR : Rl kt iv ar jv br) (hp : pu_turned Rl kt iv ar jv br (xs (x3 + 1).toNatClampNeg) (xs (x3 + 2).toNatClampNeg) (xs (x3 + 3).toNatClampNeg)) (v1 : vp_in (x3 + 1) L) (v2 : vp_in (x3 + 2) L) (v3 : vp_in (x3 + 3) L) (hc : cells + 2 ≤ 600000) (hs : slots + 222 ≤ 7302250) (hG : fw_H G (mw G mh md jv br ++ kw G ad kt iv ar) (fun q : Nat => s.heap.size ≤ q) s H locs) (hl : lv_has ls 4 [(0, .ref b), (1, .ref (ad 0)), (2, .ref mh), (3, .int x3)]) (kX : ∀ (ad : Nat → Nat) (kt : kw_T) (iv : fw_F) (ar : fw_R) (jv : fw_F) (br : fw_R) (H : Heap) (locs : List Loc) (ls : Array Slot), Rl kt iv ar jv br → fw_H G (mw G mh md jv br ++ kw G ad kt iv ar) (fun q : Nat => s.heap.size ≤ q) s H locs → lv_has ls 4 [(0, .ref b), (1, .ref (ad 0)), (2, .ref mh), (3, .int x3)] → W p l e room_1 s m #[Value.ref b] below meth c H locs (cells + 2) (slots + 222) (lw_Z below #[Value.ref b] s) (F0 m 1757 ls [])) : W p l e room_1 s m #[Value.ref b] below meth c H locs cells slots (lw_Z below #[Value.ref b] s) (F0 m 997 ls []) := by
  obtain ⟨r, hR, w1, w2⟩ := hp
  refine lv_aload_n C.1 C.2.1 dL_law_997 rfl (lv_at hl 1 rfl) ?_
  refine lv_aload_n C.1 C.2.1 dL_law_998 rfl (lv_at hl 0 rfl) ?_
  refine lv_iload_n C.1 C.2.1 dL_law_999 rfl (lv_at hl 3 rfl) ?_
  refine lv_iconst (v := 1) C.1 C.2.1 dL_law_1000 (by decide) ?_
  refine lv_iadd C.1 C.2.1 dL_law_1001 ?_
  refine va_sld C.1 C.2.1 hX hbl hbA hG.2.2 v1 dL_law_1002 ?_
  refine lv_aload_n C.1 C.2.1 dL_law_1003 rfl (lv_at hl 0 rfl) ?_
  refine lv_iload_n C.1 C.2.1 dL_law_1004 rfl (lv_at hl 3 rfl) ?_
  refine lv_iconst (v := 2) C.1 C.2.1 dL_law_1005 (by decide) ?_
  refine lv_iadd C.1 C.2.1 dL_law_1006 ?_
  refine va_sld C.1 C.2.1 hX hbl hbA hG.2.2 v2 dL_law_1007 ?_
  refine lv_aload_n C.1 C.2.1 dL_law_1008 rfl (lv_at hl 0 rfl) ?_
  refine lv_iload_n C.1 C.2.1 dL_law_1009 rfl (lv_at hl 3 rfl) ?_
  refine lv_iconst (v := 3) C.1 C.2.1 dL_law_1010 (by decide) ?_
  refine lv_iadd C.1 C.2.1 dL_law_1011 ?_
  refine va_sld C.1 C.2.1 hX hbl hbA hG.2.2 v3 dL_law_1012 ?_
  refine fx_calli (U := fw_F × fw_R) (w1 := (fun u : fw_F × fw_R => kw G ad kt u.1 u.2)) (va_runV (As := [.int (xs (x3 + 1).toNatClampNeg), .int (xs (x3 + 2).toNatClampNeg), .int (xs (x3 + 3).toNatClampNeg)]) (rest := []) ⟨C.1, C.2.1, C.2.2.2.2.2.2, C.2.2.2.2.2.1, C.2.2.2.2.1⟩ (soX9_turned l G ad kt iv ar (xs (x3 + 1).toNatClampNeg) (xs (x3 + 2).toNatClampNeg) (xs (x3 + 3).toNatClampNeg) _ w1 H.size) (cwV 3 C.2.2.2.2.1 gL_law_X9_turned rfl rfl rfl (by decide +kernel) ⟨Nat.le_of_ble_eq_true rfl, Nat.le_of_ble_eq_true rfl⟩) (fw_preV (fx_sub hG) hK (ci := 9) rfl kw_o9) rfl rfl hl.1 rfl (lv_room (Nat.le_of_ble_eq_true rfl)) dL_law_1013 ⟨by show cells + 0 ≤ 600000; omega, by show slots + 0 ≤ 7302250; omega⟩) hG hK (fun r1 u H locs h hG => ?_)
  obtain ⟨iv2, ar2⟩ := u
  obtain ⟨e1, ei, ea⟩ := h
  dsimp only at ei ea
  subst ei ea
  dsimp only at hG
  have hG := fx_swap hG
  refine lv_aload_n C.1 C.2.1 dL_law_1016 rfl (lv_at hl 2 rfl) ?_
  refine lv_aload_n C.1 C.2.1 dL_law_1017 rfl (lv_at hl 0 rfl) ?_
  refine lv_iload_n C.1 C.2.1 dL_law_1018 rfl (lv_at hl 3 rfl) ?_
  refine lv_iconst (v := 1) C.1 C.2.1 dL_law_1019 (by decide) ?_
  refine lv_iadd C.1 C.2.1 dL_law_1020 ?_
  refine va_sld C.1 C.2.1 hX hbl hbA hG.2.2 v1 dL_law_1021 ?_
  refine lv_aload_n C.1 C.2.1 dL_law_1022 rfl (lv_at hl 0 rfl) ?_
  refine lv_iload_n C.1 C.2.1 dL_law_1023 rfl (lv_at hl 3 rfl) ?_
  refine lv_iconst (v := 2) C.1 C.2.1 dL_law_1024 (by decide) ?_
  refine lv_iadd C.1 C.2.1 dL_law_1025 ?_
  refine va_sld C.1 C.2.1 hX hbl hbA hG.2.2 v2 dL_law_1026 ?_
  refine lv_aload_n C.1 C.2.1 dL_law_1027 rfl (lv_at hl 0 rfl) ?_
  refine lv_iload_n C.1 C.2.1 dL_law_1028 rfl (lv_at hl 3 rfl) ?_
  refine lv_iconst (v := 3) C.1 C.2.1 dL_law_1029 (by decide) ?_
  refine lv_iadd C.1 C.2.1 dL_law_1030 ?_
  refine va_sld C.1 C.2.1 hX hbl hbA hG.2.2 v3 dL_law_1031 ?_
  refine fx_calli (U := fw_F × fw_R) (w1 := fun u => mw G mh md u.1 u.2) (va_runV (As := [.int (xs (x3 + 1).toNatClampNeg), .int (xs (x3 + 2).toNatClampNeg), .int (xs (x3 + 3).toNatClampNeg)]) (rest := [.int r1]) ⟨C.1, C.2.1, C.2.2.2.2.2.2, C.2.2.2.2.2.1, C.2.2.2.2.1⟩ (soX10_turned l G mh md jv br (xs (x3 + 1).toNatClampNeg) (xs (x3 + 2).toNatClampNeg) (xs (x3 + 3).toNatClampNeg) _ w2 H.size) (cwV 3 C.2.2.2.2.1 gL_law_X10_turned rfl rfl rfl (by decide +kernel) ⟨Nat.le_of_ble_eq_true rfl, Nat.le_of_ble_eq_true rfl⟩) (fw_preV (fx_sub hG) hK (ci := 10) rfl mw_o) rfl rfl hl.1 rfl (lv_room (Nat.le_of_ble_eq_true rfl)) dL_law_1032 ⟨by show cells + 0 + 0 ≤ 600000; omega, by show slots + 0 + 0 ≤ 7302250; omega⟩) hG hK (fun r3 u H locs h hG => ?_)
  obtain ⟨jv2, br2⟩ := u
  obtain ⟨e2, ei, ea⟩ := h
  dsimp only at ei ea
  subst ei ea
  dsimp only at hG
  have hG := fx_swap hG
  refine lv_icmp_eq (tgt := 1757) C.1 C.2.1 dL_law_1035 (by decide) (fun _ => ?_) (fun c1 => absurd (e1.trans e2.symm) c1)
  refine W.widen (k := cells + 2) (n := slots + 222) (by omega) (by omega) ?_
  exact kX _ _ _ _ _ _ _ _ _ hR hG hl
