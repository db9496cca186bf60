def lw_o0 (Rl : kw_T → fw_F → fw_R → fw_F → fw_R → Prop) : Prop := ∀ (kt : kw_T) (iv : fw_F) (ar : fw_R) (jv : fw_F) (br : fw_R), Rl kt iv ar jv br → (∀ (a1 a2 a3 a4 : Int32), pu_knife Rl kt iv ar jv br a1 a2 a3 a4)
def lw_o1 (Rl : kw_T → fw_F → fw_R → fw_F → fw_R → Prop) : Prop := ∀ (kt : kw_T) (iv : fw_F) (ar : fw_R) (jv : fw_F) (br : fw_R), Rl kt iv ar jv br → (∀ (a1 a2 : Int32), pu_ofKnife Rl kt iv ar jv br a1 a2)
def lw_o2 (Rl : kw_T → fw_F → fw_R → fw_F → fw_R → Prop) : Prop := ∀ (kt : kw_T) (iv : fw_F) (ar : fw_R) (jv : fw_F) (br : fw_R), Rl kt iv ar jv br → (∀ (a1 a2 a3 a4 : Int32), pu_lies Rl kt iv ar jv br a1 a2 a3 a4)
def lw_o3 (Rl : kw_T → fw_F → fw_R → fw_F → fw_R → Prop) : Prop := ∀ (kt : kw_T) (iv : fw_F) (ar : fw_R) (jv : fw_F) (br : fw_R), Rl kt iv ar jv br → (∀ (a1 a2 a3 : Int32), pu_comes Rl kt iv ar jv br a1 a2 a3)
def lw_o4 (Rl : kw_T → fw_F → fw_R → fw_F → fw_R → Prop) : Prop := ∀ (kt : kw_T) (iv : fw_F) (ar : fw_R) (jv : fw_F) (br : fw_R), Rl kt iv ar jv br → (∀ (a1 a2 : Int32), pu_sticks Rl kt iv ar jv br a1 a2)
def lw_o5 (Rl : kw_T → fw_F → fw_R → fw_F → fw_R → Prop) : Prop := ∀ (kt : kw_T) (iv : fw_F) (ar : fw_R) (jv : fw_F) (br : fw_R), Rl kt iv ar jv br → (∀ (a1 a2 a3 a4 : Int32), pu_hand Rl kt iv ar jv br a1 a2 a3 a4)
def lw_o6 (Rl : kw_T → fw_F → fw_R → fw_F → fw_R → Prop) : Prop := ∀ (kt : kw_T) (iv : fw_F) (ar : fw_R) (jv : fw_F) (br : fw_R), Rl kt iv ar jv br → (∀ (a1 a2 a3 : Int32), pu_weight Rl kt iv ar jv br a1 a2 a3)
def lw_o7 (Rl : kw_T → fw_F → fw_R → fw_F → fw_R → Prop) : Prop := ∀ (kt : kw_T) (iv : fw_F) (ar : fw_R) (jv : fw_F) (br : fw_R), Rl kt iv ar jv br → (∀ (a1 : Int32), pu_stage Rl kt iv ar jv br a1)
def lw_o8 (Rl : kw_T → fw_F → fw_R → fw_F → fw_R → Prop) : Prop := ∀ (kt : kw_T) (iv : fw_F) (ar : fw_R) (jv : fw_F) (br : fw_R), Rl kt iv ar jv br → (∀ (a1 a2 a3 a4 a5 : Int32), pu_likely Rl kt iv ar jv br a1 a2 a3 a4 a5)
def lw_o9 (Rl : kw_T → fw_F → fw_R → fw_F → fw_R → Prop) : Prop := ∀ (kt : kw_T) (iv : fw_F) (ar : fw_R) (jv : fw_F) (br : fw_R), Rl kt iv ar jv br → (∀ (a1 a2 a3 : Int32), pu_best Rl kt iv ar jv br a1 a2 a3)
def lw_o10 (Rl : kw_T → fw_F → fw_R → fw_F → fw_R → Prop) : Prop := ∀ (kt : kw_T) (iv : fw_F) (ar : fw_R) (jv : fw_F) (br : fw_R), Rl kt iv ar jv br → (∀ (a1 a2 a3 a4 : Int32), pu_board Rl kt iv ar jv br a1 a2 a3 a4)
def lw_o11 (Rl : kw_T → fw_F → fw_R → fw_F → fw_R → Prop) : Prop := ∀ (kt : kw_T) (iv : fw_F) (ar : fw_R) (jv : fw_F) (br : fw_R), Rl kt iv ar jv br → (∀ (a1 : Int32), pu_ofCell Rl kt iv ar jv br a1)
def lw_o12 (Rl : kw_T → fw_F → fw_R → fw_F → fw_R → Prop) : Prop := ∀ (kt : kw_T) (iv : fw_F) (ar : fw_R) (jv : fw_F) (br : fw_R), Rl kt iv ar jv br → (∀ (a1 a2 a3 a4 : Int32), (a3 = 0 ∨ a3 = 1) → pu_hurts Rl kt iv ar jv br a1 a2 a3 a4)
def lw_o13 (Rl : kw_T → fw_F → fw_R → fw_F → fw_R → Prop) : Prop := ∀ (kt : kw_T) (iv : fw_F) (ar : fw_R) (jv : fw_F) (br : fw_R), Rl kt iv ar jv br → (∀ (a1 a2 a3 a4 a5 a6 : Int32), pu_holds Rl kt iv ar jv br a1 a2 a3 a4 a5 a6)
def lw_o14 (Rl : kw_T → fw_F → fw_R → fw_F → fw_R → Prop) : Prop := ∀ (kt : kw_T) (iv : fw_F) (ar : fw_R) (jv : fw_F) (br : fw_R), Rl kt iv ar jv br → (∀ (a1 a2 : Int32), pu_allowed Rl kt iv ar jv br a1 a2)
def lw_o15 (Rl : kw_T → fw_F → fw_R → fw_F → fw_R → Prop) : Prop := ∀ (kt : kw_T) (iv : fw_F) (ar : fw_R) (jv : fw_F) (br : fw_R), Rl kt iv ar jv br → (∀ (a1 a2 : Int32), pu_nearest Rl kt iv ar jv br a1 a2)
def lw_o16 (Rl : kw_T → fw_F → fw_R → fw_F → fw_R → Prop) : Prop := ∀ (kt : kw_T) (iv : fw_F) (ar : fw_R) (jv : fw_F) (br : fw_R), Rl kt iv ar jv br → (∀ (a1 a2 a3 a4 a5 a6 : Int32), pu_order Rl kt iv ar jv br a1 a2 a3 a4 a5 a6)
def lw_o17 (Rl : kw_T → fw_F → fw_R → fw_F → fw_R → Prop) : Prop := ∀ (kt : kw_T) (iv : fw_F) (ar : fw_R) (jv : fw_F) (br : fw_R), Rl kt iv ar jv br → (∀ (a1 a2 a3 : Int32), pu_turned Rl kt iv ar jv br a1 a2 a3)
def lw_o18 (Rl : kw_T → fw_F → fw_R → fw_F → fw_R → Prop) : Prop := ∀ (kt : kw_T) (iv : fw_F) (ar : fw_R) (jv : fw_F) (br : fw_R), Rl kt iv ar jv br → (∀ (a1 a2 a3 a4 a5 a6 a7 a8 : Int32), pu_when Rl kt iv ar jv br a1 a2 a3 a4 a5 a6 a7 a8)
def lw_o19 (Rl : kw_T → fw_F → fw_R → fw_F → fw_R → Prop) : Prop := ∀ (kt : kw_T) (iv : fw_F) (ar : fw_R) (jv : fw_F) (br : fw_R), Rl kt iv ar jv br → (∀ (a1 a2 : Int32), pu_mark Rl kt iv ar jv br a1 a2)
def lw_o20 (Rl : kw_T → fw_F → fw_R → fw_F → fw_R → Prop) : Prop := ∀ (kt : kw_T) (iv : fw_F) (ar : fw_R) (jv : fw_F) (br : fw_R), Rl kt iv ar jv br → (∀ (a1 : Int32), pu_back Rl kt iv ar jv br a1)
def lw_o21 (Rl : kw_T → fw_F → fw_R → fw_F → fw_R → Prop) : Prop := ∀ (kt : kw_T) (iv : fw_F) (ar : fw_R) (jv : fw_F) (br : fw_R), Rl kt iv ar jv br → (∀ (a1 a2 : Int32), pu_guessed Rl kt iv ar jv br a1 a2)
def lw_o22 (Rl : kw_T → fw_F → fw_R → fw_F → fw_R → Prop) : Prop := ∀ (kt : kw_T) (iv : fw_F) (ar : fw_R) (jv : fw_F) (br : fw_R), Rl kt iv ar jv br → (∀ (a1 a2 : Int32), pu_tells Rl kt iv ar jv br a1 a2)
def lw_o23 (Rl : kw_T → fw_F → fw_R → fw_F → fw_R → Prop) : Prop := ∀ (kt : kw_T) (iv : fw_F) (ar : fw_R) (jv : fw_F) (br : fw_R), Rl kt iv ar jv br → (∀ (a1 a2 a3 a4 a5 a6 : Int32), pu_chalk Rl kt iv ar jv br a1 a2 a3 a4 a5 a6)
def lw_o24 (Rl : kw_T → fw_F → fw_R → fw_F → fw_R → Prop) : Prop := ∀ (kt : kw_T) (iv : fw_F) (ar : fw_R) (jv : fw_F) (br : fw_R), Rl kt iv ar jv br → (∀ (a1 a2 a3 a4 a5 a6 : Int32), pu_byChalk Rl kt iv ar jv br a1 a2 a3 a4 a5 a6)
def lw_o25 (Rl : kw_T → fw_F → fw_R → fw_F → fw_R → Prop) : Prop := ∀ (kt : kw_T) (iv : fw_F) (ar : fw_R) (jv : fw_F) (br : fw_R), Rl kt iv ar jv br → (∀ (a1 a2 a3 : Int32), pu_sheet Rl kt iv ar jv br a1 a2 a3)
def lw_o26 (Rl : kw_T → fw_F → fw_R → fw_F → fw_R → Prop) : Prop := ∀ (kt : kw_T) (iv : fw_F) (ar : fw_R) (jv : fw_F) (br : fw_R), Rl kt iv ar jv br → (∀ (a1 : Int32), pu_lose Rl kt iv ar jv br a1)
def lw_o27 (Rl : kw_T → fw_F → fw_R → fw_F → fw_R → Prop) : Prop := ∀ (kt : kw_T) (iv : fw_F) (ar : fw_R) (jv : fw_F) (br : fw_R), Rl kt iv ar jv br → (∀ (a1 a2 a3 : Int32), pu_put Rl kt iv ar jv br a1 a2 a3)
def lw_o28 (Rl : kw_T → fw_F → fw_R → fw_F → fw_R → Prop) : Prop := ∀ (kt : kw_T) (iv : fw_F) (ar : fw_R) (jv : fw_F) (br : fw_R), Rl kt iv ar jv br → (∀ (a1 a2 a3 : Int32), pu_cell Rl kt iv ar jv br a1 a2 a3)
def lw_o29 (Rl : kw_T → fw_F → fw_R → fw_F → fw_R → Prop) : Prop := ∀ (kt : kw_T) (iv : fw_F) (ar : fw_R) (jv : fw_F) (br : fw_R), Rl kt iv ar jv br → (∀ (a1 a2 a3 a4 a5 : Int32), pu_copy Rl kt iv ar jv br a1 a2 a3 a4 a5)
def lw_o30 (Rl : kw_T → fw_F → fw_R → fw_F → fw_R → Prop) : Prop := ∀ (kt : kw_T) (iv : fw_F) (ar : fw_R) (jv : fw_F) (br : fw_R), Rl kt iv ar jv br → (∀ (a1 : Int32), pu_tell Rl kt iv ar jv br a1)
def lw_o31 (Rl : kw_T → fw_F → fw_R → fw_F → fw_R → Prop) : Prop := ∀ (kt : kw_T) (iv : fw_F) (ar : fw_R) (jv : fw_F) (br : fw_R), Rl kt iv ar jv br → (∀ (a1 : Int32), pu_whet Rl kt iv ar jv br a1)
def lw_o32 (Rl : kw_T → fw_F → fw_R → fw_F → fw_R → Prop) : Prop := ∀ (kt : kw_T) (iv : fw_F) (ar : fw_R) (jv : fw_F) (br : fw_R), Rl kt iv ar jv br → (∀ (a1 a2 : Int32), pu_as Rl kt iv ar jv br a1 a2)
def lw_o33 (Rl : kw_T → fw_F → fw_R → fw_F → fw_R → Prop) : Prop := ∀ (kt : kw_T) (iv : fw_F) (ar : fw_R) (jv : fw_F) (br : fw_R), Rl kt iv ar jv br → pu_trace Rl kt iv ar jv br
def lw_o34 (Rl : kw_T → fw_F → fw_R → fw_F → fw_R → Prop) : Prop := ∀ (kt : kw_T) (iv : fw_F) (ar : fw_R) (jv : fw_F) (br : fw_R), Rl kt iv ar jv br → pu_fault Rl kt iv ar jv br
def lw_o35 (Rl : kw_T → fw_F → fw_R → fw_F → fw_R → Prop) : Prop := ∀ (kt : kw_T) (iv : fw_F) (ar : fw_R) (jv : fw_F) (br : fw_R), Rl kt iv ar jv br → (∀ (a1 : Int32), pu_many Rl kt iv ar jv br a1)
set_option maxHeartbeats 8000000 in
set_option maxRecDepth 100000 in
theorem law_loop {p : Program} {l : Launch} {e : Env} {s : State} {m : MethodId} {below : List Frame} {meth : Method} {c : Code} {b L : Nat} {xs : Nat → Int32} {G : fw_G} {mh : Nat} {md : Nat → Nat} {Rl : kw_T → fw_F → fw_R → fw_F → fw_R → Prop} (hL : L ≤ 4608) (C : fw_C p s m #[Value.ref b] meth c cL_law 4 ret wsL_law RL) (hK : fw_K G (fun q : Nat => s.heap.size ≤ q) s) (hX : va_X b L xs s s.heap) (hbl : b < s.heap.size) (hbA : ¬ (fun q : Nat => s.heap.size ≤ q) b) (o0 : lw_o0 Rl) (o1 : lw_o1 Rl) (o2 : lw_o2 Rl) (o3 : lw_o3 Rl) (o4 : lw_o4 Rl) (o5 : lw_o5 Rl) (o6 : lw_o6 Rl) (o7 : lw_o7 Rl) (o8 : lw_o8 Rl) (o9 : lw_o9 Rl) (o10 : lw_o10 Rl) (o11 : lw_o11 Rl) (o12 : lw_o12 Rl) (o13 : lw_o13 Rl) (o14 : lw_o14 Rl) (o15 : lw_o15 Rl) (o16 : lw_o16 Rl) (o17 : lw_o17 Rl) (o18 : lw_o18 Rl) (o19 : lw_o19 Rl) (o20 : lw_o20 Rl) (o21 : lw_o21 Rl) (o22 : lw_o22 Rl) (o23 : lw_o23 Rl) (o24 : lw_o24 Rl) (o25 : lw_o25 Rl) (o26 : lw_o26 Rl) (o27 : lw_o27 Rl) (o28 : lw_o28 Rl) (o29 : lw_o29 Rl) (o30 : lw_o30 Rl) (o31 : lw_o31 Rl) (o32 : lw_o32 Rl) (o33 : lw_o33 Rl) (o34 : lw_o34 Rl) (o35 : lw_o35 Rl) :
    ∀ (n k : Nat) (x3 : Int32) (ad : Nat → Nat) (kt : kw_T) (iv : fw_F) (ar : fw_R) (jv : fw_F) (br : fw_R) (H : Heap) (locs : List Loc) (ls : Array Slot), k ≤ 512 → 9 * k ≤ L → L < 9 * k + 9 * n → x3 = nI (9 * k) → Rl kt iv ar jv br → fw_H G (mw G mh md jv br ++ kw G ad kt iv ar) (fun q : Nat => s.heap.size ≤ q) s H locs → lv_has ls 4 [(0, .ref b), (1, .ref (ad 0)), (2, .ref mh), (3, .int x3)] → W p l e room_1 s m #[Value.ref b] below meth c H locs (49 + 2 * k) (2973 + 222 * k) (lw_Z below #[Value.ref b] s) (F0 m 18 ls []) := by
  intro n
  induction n with
  | zero => intro k x3 ad kt iv ar jv br H locs ls hk hkL hn; omega
  | succ n ih =>
    intro k x3 ad kt iv ar jv br H locs ls hk hkL hn e3 hR hG hl
    refine lv_iload_n C.1 C.2.1 dL_law_18 rfl (lv_at hl 3 rfl) ?_
    refine lv_aload_n C.1 C.2.1 dL_law_19 rfl (lv_at hl 0 rfl) ?_
    refine va_slen C.1 C.2.1 hX hbl hbA hG.2.2 dL_law_20 ?_
    refine lv_bipush (v := 9) C.1 C.2.1 dL_law_21 (by decide) ?_
    refine lv_isub C.1 C.2.1 dL_law_23 ?_
    have hcmp : (Int32.ofNat L - 9 < x3) ↔ L < 9 * k + 9 := by
      rw [e3, Int32.lt_iff_toInt_lt, show Int32.ofNat L - 9 = nI L - nI 9 from rfl, pk_sub_toInt (by omega) (by omega), nI_toInt (by omega)]
      omega
    refine lv_icmp_gt (tgt := 1763) C.1 C.2.1 dL_law_24 (by decide) (fun c1 => ?_) (fun c1 => ?_)
    · refine lv_iconst (v := 1) C.1 C.2.1 dL_law_1763 (by decide) ?_
      refine va_forget (fun q hq => hG.2.2.2.2 q hq) ?_
      refine W.widen (k := 600000) (n := 7302250) (by omega) (by omega) ?_
      exact lw_ret C.1 C.2.1 C.2.2.1 C.2.2.2.1 dL_law_1764
    · have hlt : 9 * k + 9 ≤ L := by rw [hcmp] at c1; omega
      have hc : 49 + 2 * k + 2 ≤ 600000 := by omega
      have hs : 2973 + 222 * k + 222 ≤ 7302250 := by omega
      have v1 : vp_in (x3 + 1) L := by rw [e3, show nI (9 * k) + 1 = nI (9 * k + 1) from nI_add (9 * k) 1]; exact vp_in_nI (by omega) (by omega)
      have v2 : vp_in (x3 + 2) L := by rw [e3, show nI (9 * k) + 2 = nI (9 * k + 2) from nI_add (9 * k) 2]; exact vp_in_nI (by omega) (by omega)
      have v3 : vp_in (x3 + 3) L := by rw [e3, show nI (9 * k) + 3 = nI (9 * k + 3) from nI_add (9 * k) 3]; exact vp_in_nI (by omega) (by omega)
      have v4 : vp_in (x3 + 4) L := by rw [e3, show nI (9 * k) + 4 = nI (9 * k + 4) from nI_add (9 * k) 4]; exact vp_in_nI (by omega) (by omega)
      have v5 : vp_in (x3 + 5) L := by rw [e3, show nI (9 * k) + 5 = nI (9 * k + 5) from nI_add (9 * k) 5]; exact vp_in_nI (by omega) (by omega)
      have v6 : vp_in (x3 + 6) L := by rw [e3, show nI (9 * k) + 6 = nI (9 * k + 6) from nI_add (9 * k) 6]; exact vp_in_nI (by omega) (by omega)
      have v7 : vp_in (x3 + 7) L := by rw [e3, show nI (9 * k) + 7 = nI (9 * k + 7) from nI_add (9 * k) 7]; exact vp_in_nI (by omega) (by omega)
      have v8 : vp_in (x3 + 8) L := by rw [e3, show nI (9 * k) + 8 = nI (9 * k + 8) from nI_add (9 * k) 8]; exact vp_in_nI (by omega) (by omega)
      have v0 : vp_in x3 L := by rw [e3]; exact vp_in_nI (by omega) (by omega)
      have kX : ∀ (ad : Nat → Nat) (kt : kw_T) (iv : fw_F) (ar : fw_R) (jv : fw_F) (br : fw_R) (H : Heap) (locs : List Loc) (ls : Array Slot), Rl kt iv ar jv br → fw_H G (mw G mh md jv br ++ kw G ad kt iv ar) (fun q : Nat => s.heap.size ≤ q) s H locs → lv_has ls 4 [(0, .ref b), (1, .ref (ad 0)), (2, .ref mh), (3, .int x3)] → W p l e room_1 s m #[Value.ref b] below meth c H locs (49 + 2 * k + 2) (2973 + 222 * k + 222) (lw_Z below #[Value.ref b] s) (F0 m 1757 ls []) := by
        intro ad kt iv ar jv br H locs ls hR hG hl
        obtain ⟨y3, ey⟩ : ∃ z : Int32, z = x3 + 9 := ⟨_, rfl⟩
        refine lv_iinc (v := y3) (lv' := [(3, .int y3), (0, .ref b), (1, .ref (ad 0)), (2, .ref mh)]) C.1 C.2.1 dL_law_1757 hl (k := 3) rfl (by rw [ey]; rfl) (by decide) rfl (fun ls hl => ?_)
        refine lv_goto (tgt := 18) C.1 C.2.1 dL_law_1760 (by decide) ?_
        have hw := ih (k + 1) y3 ad kt iv ar jv br H locs ls (by omega) (by omega) (by omega) (by rw [ey, e3]; exact (nI_add (9 * k) 9).trans (congrArg nI (by omega))) hR hG (lv_sub hl [1, 2, 3, 0] rfl)
        refine W.widen (k := 49 + 2 * (k + 1)) (n := 2973 + 222 * (k + 1)) (by omega) (by omega) hw
      refine lv_aload_n C.1 C.2.1 dL_law_27 rfl (lv_at hl 0 rfl) ?_
      refine lv_iload_n C.1 C.2.1 dL_law_28 rfl (lv_at hl 3 rfl) ?_
      refine va_sld C.1 C.2.1 hX hbl hbA hG.2.2 v0 dL_law_29 ?_
      refine lv_bipush (v := 63) C.1 C.2.1 dL_law_30 (by decide) ?_
      refine lv_iand C.1 C.2.1 dL_law_32 ?_
      refine lv_topi (fun y ey => ?_)
      by_cases c_0 : y = 0
      · refine W.eq (g2 := F0 m 33 ls (.int 0 :: [])) (by rw [c_0]) ?_
        refine lv_tableIn (tgt := 192) C.1 C.2.1 dL_law_33 (by decide) (by decide) rfl (by decide) ?_
        exact lw_c0 C hK hX hbl hbA hR (o0 kt iv ar jv br hR _ _ _ _) v1 v2 v3 v4 hc hs hG hl kX
      by_cases c_1 : y = 1
      · refine W.eq (g2 := F0 m 33 ls (.int 1 :: [])) (by rw [c_1]) ?_
        refine lv_tableIn (tgt := 245) C.1 C.2.1 dL_law_33 (by decide) (by decide) rfl (by decide) ?_
        exact lw_c1 C hK hX hbl hbA hR (o1 kt iv ar jv br hR _ _) v1 v2 hc hs hG hl kX
      by_cases c_2 : y = 2
      · refine W.eq (g2 := F0 m 33 ls (.int 2 :: [])) (by rw [c_2]) ?_
        refine lv_tableIn (tgt := 278) C.1 C.2.1 dL_law_33 (by decide) (by decide) rfl (by decide) ?_
        exact lw_c2 C hK hX hbl hbA hR (o2 kt iv ar jv br hR _ _ _ _) v1 v2 v3 v4 hc hs hG hl kX
      by_cases c_3 : y = 3
      · refine W.eq (g2 := F0 m 33 ls (.int 3 :: [])) (by rw [c_3]) ?_
        refine lv_tableIn (tgt := 332) C.1 C.2.1 dL_law_33 (by decide) (by decide) rfl (by decide) ?_
        exact lw_c3 C hK hX hbl hbA hR (o3 kt iv ar jv br hR _ _ _) v1 v2 v3 hc hs hG hl kX
      by_cases c_4 : y = 4
      · refine W.eq (g2 := F0 m 33 ls (.int 4 :: [])) (by rw [c_4]) ?_
        refine lv_tableIn (tgt := 375) C.1 C.2.1 dL_law_33 (by decide) (by decide) rfl (by decide) ?_
        exact lw_c4 C hK hX hbl hbA hR (o4 kt iv ar jv br hR _ _) v1 v2 hc hs hG hl kX
      by_cases c_5 : y = 5
      · refine W.eq (g2 := F0 m 33 ls (.int 5 :: [])) (by rw [c_5]) ?_
        refine lv_tableIn (tgt := 408) C.1 C.2.1 dL_law_33 (by decide) (by decide) rfl (by decide) ?_
        exact lw_c5 C hK hX hbl hbA hR (o5 kt iv ar jv br hR _ _ _ _) v1 v2 v3 v4 hc hs hG hl kX
      by_cases c_6 : y = 6
      · refine W.eq (g2 := F0 m 33 ls (.int 6 :: [])) (by rw [c_6]) ?_
        refine lv_tableIn (tgt := 461) C.1 C.2.1 dL_law_33 (by decide) (by decide) rfl (by decide) ?_
        exact lw_c6 C hK hX hbl hbA hR (o6 kt iv ar jv br hR _ _ _) v1 v2 v3 hc hs hG hl kX
      by_cases c_7 : y = 7
      · refine W.eq (g2 := F0 m 33 ls (.int 7 :: [])) (by rw [c_7]) ?_
        refine lv_tableIn (tgt := 504) C.1 C.2.1 dL_law_33 (by decide) (by decide) rfl (by decide) ?_
        exact lw_c7 C hK hX hbl hbA hR (o7 kt iv ar jv br hR _) v1 hc hs hG hl kX
      by_cases c_8 : y = 8
      · refine W.eq (g2 := F0 m 33 ls (.int 8 :: [])) (by rw [c_8]) ?_
        refine lv_tableIn (tgt := 527) C.1 C.2.1 dL_law_33 (by decide) (by decide) rfl (by decide) ?_
        exact lw_c8 C hK hX hbl hbA hR (o8 kt iv ar jv br hR _ _ _ _ _) v1 v2 v3 v4 v5 hc hs hG hl kX
      by_cases c_9 : y = 9
      · refine W.eq (g2 := F0 m 33 ls (.int 9 :: [])) (by rw [c_9]) ?_
        refine lv_tableIn (tgt := 591) C.1 C.2.1 dL_law_33 (by decide) (by decide) rfl (by decide) ?_
        exact lw_c9 C hK hX hbl hbA hR (o9 kt iv ar jv br hR _ _ _) v1 v2 v3 hc hs hG hl kX
      by_cases c_10 : y = 10
      · refine W.eq (g2 := F0 m 33 ls (.int 10 :: [])) (by rw [c_10]) ?_
        refine lv_tableIn (tgt := 634) C.1 C.2.1 dL_law_33 (by decide) (by decide) rfl (by decide) ?_
        exact lw_c10 C hK hX hbl hbA hR (o10 kt iv ar jv br hR _ _ _ _) v1 v2 v3 v4 hc hs hG hl kX
      by_cases c_11 : y = 11
      · refine W.eq (g2 := F0 m 33 ls (.int 11 :: [])) (by rw [c_11]) ?_
        refine lv_tableIn (tgt := 687) C.1 C.2.1 dL_law_33 (by decide) (by decide) rfl (by decide) ?_
        exact lw_c11 C hK hX hbl hbA hR (o11 kt iv ar jv br hR _) v1 hc hs hG hl kX
      by_cases c_12 : y = 12
      · refine W.eq (g2 := F0 m 33 ls (.int 12 :: [])) (by rw [c_12]) ?_
        refine lv_tableIn (tgt := 710) C.1 C.2.1 dL_law_33 (by decide) (by decide) rfl (by decide) ?_
        exact lw_c12 C hK hX hbl hbA hR (fun _ => o12 kt iv ar jv br hR _ _ 0 _ (Or.inl rfl)) (fun _ => o12 kt iv ar jv br hR _ _ 1 _ (Or.inr rfl)) v1 v2 v3 v4 hc hs hG hl kX
      by_cases c_13 : y = 13
      · refine W.eq (g2 := F0 m 33 ls (.int 13 :: [])) (by rw [c_13]) ?_
        refine lv_tableIn (tgt := 780) C.1 C.2.1 dL_law_33 (by decide) (by decide) rfl (by decide) ?_
        exact lw_c13 C hK hX hbl hbA hR (o13 kt iv ar jv br hR _ _ _ _ _ _) v1 v2 v3 v4 v5 v6 hc hs hG hl kX
      by_cases c_14 : y = 14
      · refine W.eq (g2 := F0 m 33 ls (.int 14 :: [])) (by rw [c_14]) ?_
        refine lv_tableIn (tgt := 856) C.1 C.2.1 dL_law_33 (by decide) (by decide) rfl (by decide) ?_
        exact lw_c14 C hK hX hbl hbA hR (o14 kt iv ar jv br hR _ _) v1 v2 hc hs hG hl kX
      by_cases c_15 : y = 15
      · refine W.eq (g2 := F0 m 33 ls (.int 15 :: [])) (by rw [c_15]) ?_
        refine lv_tableIn (tgt := 889) C.1 C.2.1 dL_law_33 (by decide) (by decide) rfl (by decide) ?_
        exact lw_c15 C hK hX hbl hbA hR (o15 kt iv ar jv br hR _ _) v1 v2 hc hs hG hl kX
      by_cases c_16 : y = 16
      · refine W.eq (g2 := F0 m 33 ls (.int 16 :: [])) (by rw [c_16]) ?_
        refine lv_tableIn (tgt := 922) C.1 C.2.1 dL_law_33 (by decide) (by decide) rfl (by decide) ?_
        exact lw_c16 C hK hX hbl hbA hR (o16 kt iv ar jv br hR _ _ _ _ _ _) v1 v2 v3 v4 v5 v6 hc hs hG hl kX
      by_cases c_17 : y = 17
      · refine W.eq (g2 := F0 m 33 ls (.int 17 :: [])) (by rw [c_17]) ?_
        refine lv_tableIn (tgt := 997) C.1 C.2.1 dL_law_33 (by decide) (by decide) rfl (by decide) ?_
        exact lw_c17 C hK hX hbl hbA hR (o17 kt iv ar jv br hR _ _ _) v1 v2 v3 hc hs hG hl kX
      by_cases c_18 : y = 18
      · refine W.eq (g2 := F0 m 33 ls (.int 18 :: [])) (by rw [c_18]) ?_
        refine lv_tableIn (tgt := 1040) C.1 C.2.1 dL_law_33 (by decide) (by decide) rfl (by decide) ?_
        exact lw_c18 C hK hX hbl hbA hR (o18 kt iv ar jv br hR _ _ _ _ _ _ _ _) v1 v2 v3 v4 v5 v6 v7 v8 hc hs hG hl kX
      by_cases c_19 : y = 19
      · refine W.eq (g2 := F0 m 33 ls (.int 19 :: [])) (by rw [c_19]) ?_
        refine lv_tableIn (tgt := 1139) C.1 C.2.1 dL_law_33 (by decide) (by decide) rfl (by decide) ?_
        exact lw_c19 C hK hX hbl hbA hR (o19 kt iv ar jv br hR _ _) v1 v2 hc hs hG hl kX
      by_cases c_20 : y = 20
      · refine W.eq (g2 := F0 m 33 ls (.int 20 :: [])) (by rw [c_20]) ?_
        refine lv_tableIn (tgt := 1172) C.1 C.2.1 dL_law_33 (by decide) (by decide) rfl (by decide) ?_
        exact lw_c20 C hK hX hbl hbA hR (o20 kt iv ar jv br hR _) v1 hc hs hG hl kX
      by_cases c_21 : y = 21
      · refine W.eq (g2 := F0 m 33 ls (.int 21 :: [])) (by rw [c_21]) ?_
        refine lv_tableIn (tgt := 1195) C.1 C.2.1 dL_law_33 (by decide) (by decide) rfl (by decide) ?_
        exact lw_c21 C hK hX hbl hbA hR (o21 kt iv ar jv br hR _ _) v1 v2 hc hs hG hl kX
      by_cases c_22 : y = 22
      · refine W.eq (g2 := F0 m 33 ls (.int 22 :: [])) (by rw [c_22]) ?_
        refine lv_tableIn (tgt := 1228) C.1 C.2.1 dL_law_33 (by decide) (by decide) rfl (by decide) ?_
        exact lw_c22 C hK hX hbl hbA hR (o22 kt iv ar jv br hR _ _) v1 v2 hc hs hG hl kX
      by_cases c_23 : y = 23
      · refine W.eq (g2 := F0 m 33 ls (.int 23 :: [])) (by rw [c_23]) ?_
        refine lv_tableIn (tgt := 1261) C.1 C.2.1 dL_law_33 (by decide) (by decide) rfl (by decide) ?_
        exact lw_c23 C hK hX hbl hbA hR (o23 kt iv ar jv br hR _ _ _ _ _ _) v1 v2 v3 v4 v5 v6 hc hs hG hl kX
      by_cases c_24 : y = 24
      · refine W.eq (g2 := F0 m 33 ls (.int 24 :: [])) (by rw [c_24]) ?_
        refine lv_tableIn (tgt := 1337) C.1 C.2.1 dL_law_33 (by decide) (by decide) rfl (by decide) ?_
        exact lw_c24 C hK hX hbl hbA hR (o24 kt iv ar jv br hR _ _ _ _ _ _) v1 v2 v3 v4 v5 v6 hc hs hG hl kX
      by_cases c_25 : y = 25
      · refine W.eq (g2 := F0 m 33 ls (.int 25 :: [])) (by rw [c_25]) ?_
        refine lv_tableIn (tgt := 1413) C.1 C.2.1 dL_law_33 (by decide) (by decide) rfl (by decide) ?_
        exact lw_c25 C hK hX hbl hbA hR (o25 kt iv ar jv br hR _ _ _) v1 v2 v3 hc hs hG hl kX
      by_cases c_26 : y = 26
      · refine W.eq (g2 := F0 m 33 ls (.int 26 :: [])) (by rw [c_26]) ?_
        refine lv_tableIn (tgt := 1456) C.1 C.2.1 dL_law_33 (by decide) (by decide) rfl (by decide) ?_
        exact lw_c26 C hK hX hbl hbA hR (o26 kt iv ar jv br hR _) v1 hc hs hG hl kX
      by_cases c_27 : y = 27
      · refine W.eq (g2 := F0 m 33 ls (.int 27 :: [])) (by rw [c_27]) ?_
        refine lv_tableIn (tgt := 1479) C.1 C.2.1 dL_law_33 (by decide) (by decide) rfl (by decide) ?_
        exact lw_c27 C hK hX hbl hbA hR (o27 kt iv ar jv br hR _ _ _) v1 v2 v3 hc hs hG hl kX
      by_cases c_28 : y = 28
      · refine W.eq (g2 := F0 m 33 ls (.int 28 :: [])) (by rw [c_28]) ?_
        refine lv_tableIn (tgt := 1522) C.1 C.2.1 dL_law_33 (by decide) (by decide) rfl (by decide) ?_
        exact lw_c28 C hK hX hbl hbA hR (o28 kt iv ar jv br hR _ _ _) v1 v2 v3 hc hs hG hl kX
      by_cases c_29 : y = 29
      · refine W.eq (g2 := F0 m 33 ls (.int 29 :: [])) (by rw [c_29]) ?_
        refine lv_tableIn (tgt := 1566) C.1 C.2.1 dL_law_33 (by decide) (by decide) rfl (by decide) ?_
        exact lw_c29 C hK hX hbl hbA hR (o29 kt iv ar jv br hR _ _ _ _ _) v1 v2 v3 v4 v5 hc hs hG hl kX
      by_cases c_30 : y = 30
      · refine W.eq (g2 := F0 m 33 ls (.int 30 :: [])) (by rw [c_30]) ?_
        refine lv_tableIn (tgt := 1629) C.1 C.2.1 dL_law_33 (by decide) (by decide) rfl (by decide) ?_
        exact lw_c30 C hK hX hbl hbA hR (o30 kt iv ar jv br hR _) v1 hc hs hG hl kX
      by_cases c_31 : y = 31
      · refine W.eq (g2 := F0 m 33 ls (.int 31 :: [])) (by rw [c_31]) ?_
        refine lv_tableIn (tgt := 1652) C.1 C.2.1 dL_law_33 (by decide) (by decide) rfl (by decide) ?_
        exact lw_c31 C hK hX hbl hbA hR (o31 kt iv ar jv br hR _) v1 hc hs hG hl kX
      by_cases c_32 : y = 32
      · refine W.eq (g2 := F0 m 33 ls (.int 32 :: [])) (by rw [c_32]) ?_
        refine lv_tableIn (tgt := 1675) C.1 C.2.1 dL_law_33 (by decide) (by decide) rfl (by decide) ?_
        exact lw_c32 C hK hX hbl hbA hR (o32 kt iv ar jv br hR _ _) v1 v2 hc hs hG hl kX
      by_cases c_33 : y = 33
      · refine W.eq (g2 := F0 m 33 ls (.int 33 :: [])) (by rw [c_33]) ?_
        refine lv_tableIn (tgt := 1708) C.1 C.2.1 dL_law_33 (by decide) (by decide) rfl (by decide) ?_
        exact lw_c33 C hK hX hbl hbA hR (o33 kt iv ar jv br hR )  hc hs hG hl kX
      by_cases c_34 : y = 34
      · refine W.eq (g2 := F0 m 33 ls (.int 34 :: [])) (by rw [c_34]) ?_
        refine lv_tableIn (tgt := 1721) C.1 C.2.1 dL_law_33 (by decide) (by decide) rfl (by decide) ?_
        exact lw_c34 C hK hX hbl hbA hR (o34 kt iv ar jv br hR )  hc hs hG hl kX
      by_cases c_35 : y = 35
      · refine W.eq (g2 := F0 m 33 ls (.int 35 :: [])) (by rw [c_35]) ?_
        refine lv_tableIn (tgt := 1734) C.1 C.2.1 dL_law_33 (by decide) (by decide) rfl (by decide) ?_
        exact lw_c35 C hK hX hbl hbA hR (o35 kt iv ar jv br hR _) v1 hc hs hG hl kX
      have dn : y.toInt < 0 ∨ 35 < y.toInt := by
        have n0 : y.toInt ≠ 0 := fun z => c_0 (Int32.toInt_inj.mp (z.trans (by decide)))
        have n1 : y.toInt ≠ 1 := fun z => c_1 (Int32.toInt_inj.mp (z.trans (by decide)))
        have n2 : y.toInt ≠ 2 := fun z => c_2 (Int32.toInt_inj.mp (z.trans (by decide)))
        have n3 : y.toInt ≠ 3 := fun z => c_3 (Int32.toInt_inj.mp (z.trans (by decide)))
        have n4 : y.toInt ≠ 4 := fun z => c_4 (Int32.toInt_inj.mp (z.trans (by decide)))
        have n5 : y.toInt ≠ 5 := fun z => c_5 (Int32.toInt_inj.mp (z.trans (by decide)))
        have n6 : y.toInt ≠ 6 := fun z => c_6 (Int32.toInt_inj.mp (z.trans (by decide)))
        have n7 : y.toInt ≠ 7 := fun z => c_7 (Int32.toInt_inj.mp (z.trans (by decide)))
        have n8 : y.toInt ≠ 8 := fun z => c_8 (Int32.toInt_inj.mp (z.trans (by decide)))
        have n9 : y.toInt ≠ 9 := fun z => c_9 (Int32.toInt_inj.mp (z.trans (by decide)))
        have n10 : y.toInt ≠ 10 := fun z => c_10 (Int32.toInt_inj.mp (z.trans (by decide)))
        have n11 : y.toInt ≠ 11 := fun z => c_11 (Int32.toInt_inj.mp (z.trans (by decide)))
        have n12 : y.toInt ≠ 12 := fun z => c_12 (Int32.toInt_inj.mp (z.trans (by decide)))
        have n13 : y.toInt ≠ 13 := fun z => c_13 (Int32.toInt_inj.mp (z.trans (by decide)))
        have n14 : y.toInt ≠ 14 := fun z => c_14 (Int32.toInt_inj.mp (z.trans (by decide)))
        have n15 : y.toInt ≠ 15 := fun z => c_15 (Int32.toInt_inj.mp (z.trans (by decide)))
        have n16 : y.toInt ≠ 16 := fun z => c_16 (Int32.toInt_inj.mp (z.trans (by decide)))
        have n17 : y.toInt ≠ 17 := fun z => c_17 (Int32.toInt_inj.mp (z.trans (by decide)))
        have n18 : y.toInt ≠ 18 := fun z => c_18 (Int32.toInt_inj.mp (z.trans (by decide)))
        have n19 : y.toInt ≠ 19 := fun z => c_19 (Int32.toInt_inj.mp (z.trans (by decide)))
        have n20 : y.toInt ≠ 20 := fun z => c_20 (Int32.toInt_inj.mp (z.trans (by decide)))
        have n21 : y.toInt ≠ 21 := fun z => c_21 (Int32.toInt_inj.mp (z.trans (by decide)))
        have n22 : y.toInt ≠ 22 := fun z => c_22 (Int32.toInt_inj.mp (z.trans (by decide)))
        have n23 : y.toInt ≠ 23 := fun z => c_23 (Int32.toInt_inj.mp (z.trans (by decide)))
        have n24 : y.toInt ≠ 24 := fun z => c_24 (Int32.toInt_inj.mp (z.trans (by decide)))
        have n25 : y.toInt ≠ 25 := fun z => c_25 (Int32.toInt_inj.mp (z.trans (by decide)))
        have n26 : y.toInt ≠ 26 := fun z => c_26 (Int32.toInt_inj.mp (z.trans (by decide)))
        have n27 : y.toInt ≠ 27 := fun z => c_27 (Int32.toInt_inj.mp (z.trans (by decide)))
        have n28 : y.toInt ≠ 28 := fun z => c_28 (Int32.toInt_inj.mp (z.trans (by decide)))
        have n29 : y.toInt ≠ 29 := fun z => c_29 (Int32.toInt_inj.mp (z.trans (by decide)))
        have n30 : y.toInt ≠ 30 := fun z => c_30 (Int32.toInt_inj.mp (z.trans (by decide)))
        have n31 : y.toInt ≠ 31 := fun z => c_31 (Int32.toInt_inj.mp (z.trans (by decide)))
        have n32 : y.toInt ≠ 32 := fun z => c_32 (Int32.toInt_inj.mp (z.trans (by decide)))
        have n33 : y.toInt ≠ 33 := fun z => c_33 (Int32.toInt_inj.mp (z.trans (by decide)))
        have n34 : y.toInt ≠ 34 := fun z => c_34 (Int32.toInt_inj.mp (z.trans (by decide)))
        have n35 : y.toInt ≠ 35 := fun z => c_35 (Int32.toInt_inj.mp (z.trans (by decide)))
        omega
      refine lv_tableOut (tgt := 1757) C.1 C.2.1 dL_law_33 dn (by decide) ?_
      refine W.widen (k := 49 + 2 * k + 2) (n := 2973 + 222 * k + 222) (by omega) (by omega) ?_
      exact kX _ _ _ _ _ _ _ _ _ hR hG hl
set_option maxHeartbeats 8000000 in
set_option maxRecDepth 100000 in
/-- what the start gives -/
theorem lw_env {s : State} {b : Nat} (hts : ∀ w ∈ lw_tbl, w.before #[Value.ref b] s = true) (hgv : (Jvm.Cond.and given_1 narrow_1).before #[Value.ref b] s = true) : ∃ G : fw_G, fw_K G (fun q : Nat => s.heap.size ≤ q) s := by
  obtain ⟨c0, iS0, hKn0⟩ := u_known (C := RX0) (T := TX0) (N := 3) (n := 3) hts inX0 (hts (.instantiable RX0 3) (by decide +kernel))
  obtain ⟨c1, iS1, hKn1⟩ := u_known (C := RX1) (T := TX1) (N := 3) (n := 3) hts inX1 (hts (.instantiable RX1 3) (by decide +kernel))
  obtain ⟨c2, iS2, hKn2⟩ := u_known (C := RX2) (T := TX2) (N := 6) (n := 6) hts inX2 (hts (.instantiable RX2 6) (by decide +kernel))
  obtain ⟨c3, iS3, hKn3⟩ := u_known (C := RX3) (T := TX3) (N := 6) (n := 6) hts inX3 (hts (.instantiable RX3 6) (by decide +kernel))
  obtain ⟨c4, iS4, hKn4⟩ := u_known (C := RX4) (T := TX4) (N := 7) (n := 7) hts inX4 (hts (.instantiable RX4 7) (by decide +kernel))
  obtain ⟨c5, iS5, hKn5⟩ := u_known (C := RX5) (T := TX5) (N := 4) (n := 4) hts inX5 (hts (.instantiable RX5 4) (by decide +kernel))
  obtain ⟨c6, iS6, hKn6⟩ := u_known (C := RX6) (T := TX6) (N := 4) (n := 4) hts inX6 (hts (.instantiable RX6 4) (by decide +kernel))
  obtain ⟨c7, iS7, hKn7⟩ := u_known (C := RX7) (T := TX7) (N := 1) (n := 1) hts inX7 (hts (.instantiable RX7 1) (by decide +kernel))
  obtain ⟨c8, iS8, hKn8⟩ := u_known (C := RX8) (T := TX8) (N := 6) (n := 6) hts inX8 (hts (.instantiable RX8 6) (by decide +kernel))
  obtain ⟨c9, iS9, hKn9⟩ := u_known (C := RX9) (T := TX9) (N := 11) (n := 11) hts inX9 (hts (.instantiable RX9 11) (by decide +kernel))
  obtain ⟨c10, iS10, hKn10⟩ := u_known (C := RX10) (T := TX10) (N := 33) (n := 33) hts inX10 (hts (.instantiable RX10 33) (by decide +kernel))
  obtain ⟨dC, dI, hKc⟩ : ∃ (dC : Nat → ClassId) (dI : Nat → Nat → Nat), ∀ (k : Nat) (q : vw_C), vwCl[k]? = some q → u_Kn s q.1 q.2.1 q.2.2 (dC k) (dI k) := by
    refine ⟨fun k => if k = 0 then c0 else if k = 1 then c1 else if k = 2 then c2 else if k = 3 then c3 else if k = 4 then c4 else if k = 5 then c5 else if k = 6 then c6 else if k = 7 then c7 else if k = 8 then c8 else if k = 9 then c9 else c10, fun k => if k = 0 then iS0 else if k = 1 then iS1 else if k = 2 then iS2 else if k = 3 then iS3 else if k = 4 then iS4 else if k = 5 then iS5 else if k = 6 then iS6 else if k = 7 then iS7 else if k = 8 then iS8 else if k = 9 then iS9 else iS10, ?_⟩
    intro k q hq
    match k, hq with
    | 0, hq => cases hq; exact hKn0
    | 1, hq => cases hq; exact hKn1
    | 2, hq => cases hq; exact hKn2
    | 3, hq => cases hq; exact hKn3
    | 4, hq => cases hq; exact hKn4
    | 5, hq => cases hq; exact hKn5
    | 6, hq => cases hq; exact hKn6
    | 7, hq => cases hq; exact hKn7
    | 8, hq => cases hq; exact hKn8
    | 9, hq => cases hq; exact hKn9
    | 10, hq => cases hq; exact hKn10
    | k + 11, hq => simp [vwCl] at hq
  obtain ⟨cI, kI, pI, fI, gI, dI0⟩ := Cond.arrayClass_spec (hts (.arrayClass .int) (by decide +kernel))
  obtain ⟨cZ, kZ, pZ, fZ, gZ, dZ⟩ := Cond.arrayClass_spec (hts (.arrayClass .boolean) (by decide +kernel))
  have aoK := hts (.arrayOver (.object "KnifeBoard$Knife")) (by decide +kernel)
  obtain ⟨pK, cK, kK, fK, -, gK, dK, eK⟩ := Cond.arrayOver_spec aoK
  have aoS := hts (.arrayOver (.object "KnifeBoard$Sheet")) (by decide +kernel)
  obtain ⟨pS, cS, kS, fS, -, gS, dS, eS⟩ := Cond.arrayOver_spec aoS
  have hK : va_K (dC, dI) vwCl [(cI, .int), (cZ, .boolean), (cK, .object "KnifeBoard$Knife"), (cS, .object "KnifeBoard$Sheet")] s := by
    refine ⟨hKc, fun k q hq => ?_⟩
    match k, hq with
    | 0, hq => cases hq; exact ⟨fun n z => ⟨fun k h => (by cases h), kI, gI, pI, dI0⟩, fI⟩
    | 1, hq => cases hq; exact ⟨fun n z => ⟨fun k h => (by cases h), kZ, gZ, pZ, dZ⟩, fZ⟩
    | 2, hq => cases hq; exact ⟨fun n z => ⟨fun k h => (by cases h), kK, gK, pK, dK⟩, kK, pK, gK, dK, fK, eK⟩
    | 3, hq => cases hq; exact ⟨fun n z => ⟨fun k h => (by cases h), kS, gS, pS, dS⟩, kS, pS, gS, dS, fS, eS⟩
    | k + 4, hq => simp at hq
  have hs := flat_of_before _ hgv
  have hA : ∀ a : Nat, a < s.heap.size → ¬ (fun q : Nat => s.heap.size ≤ q) a := fun a h => Nat.not_le.mpr h
  have hel : ∀ j : Nat, j < 4 → (Term.elem (.static "KnifeBoard$Hand" "LETTERS" "[C") (.int (Int32.ofNat j))).eval #[Value.ref b] s none [] s = some (fw_L j) := by
    intro j hj
    rcases (show j = 0 ∨ j = 1 ∨ j = 2 ∨ j = 3 by omega) with rfl | rfl | rfl | rfl
    · exact va_eqt (hs (.eq (.elem (.static "KnifeBoard$Hand" "LETTERS" "[C") (.int 0)) (.int 104)) (by decide +kernel))
    · exact va_eqt (hs (.eq (.elem (.static "KnifeBoard$Hand" "LETTERS" "[C") (.int 1)) (.int 117)) (by decide +kernel))
    · exact va_eqt (hs (.eq (.elem (.static "KnifeBoard$Hand" "LETTERS" "[C") (.int 2)) (.int 97)) (by decide +kernel))
    · exact va_eqt (hs (.eq (.elem (.static "KnifeBoard$Hand" "LETTERS" "[C") (.int 3)) (.int 116)) (by decide +kernel))
  obtain ⟨t, ht, hT⟩ := va_Tof (A := fun q : Nat => s.heap.size ≤ q) (N := 4) (f := fw_L) (by decide) (hs (.arrayOf (.static "KnifeBoard$Hand" "LETTERS" "[C") .char) (by decide +kernel)) (va_eqt (hs (.eq (.length (.static "KnifeBoard$Hand" "LETTERS" "[C")) (.int 4)) (by decide +kernel))) hel hA
  have hZ := va_Zref (A := fun q : Nat => s.heap.size ≤ q) (hts (.laysStatic "KnifeBoard$Hand" "LETTERS" "[C") (by decide +kernel)) (hts (.initialized "KnifeBoard$Hand") (by decide +kernel)) ht hA
  refine ⟨((dC, dI), (cI, cZ, cK, cS), t), hK, ⟨⟨va_Nw.of rfl (hts (fw_nS) (by decide +kernel)), va_Nw.of rfl (hts (fw_nH) (by decide +kernel)), va_Nw.of rfl (hts (fw_nB) (by decide +kernel)), va_Nw.of rfl (hts (fw_nM) (by decide +kernel))⟩, ⟨va_Nw.of rfl (hts (.castable "KnifeBoard$Twin" "KnifeBoard$Hatchet") (by decide +kernel)), va_Nw.of rfl (hts (.castable "KnifeBoard$Hatchet" "KnifeBoard$Knife") (by decide +kernel)), va_Nw.of rfl (hts (.castable "KnifeBoard$Twin" "KnifeBoard$Knife") (by decide +kernel)), ⟨va_Nw.of rfl (hts (.methodLinkNest "KnifeBoard" 23 yX1_init "KnifeBoard") (by decide +kernel)), va_Nw.of rfl (hts (.methodLinkNest "KnifeBoard" 30 yX0_init "KnifeBoard") (by decide +kernel)), va_Nw.of rfl (hts (.methodLinkNest "KnifeBoard" 37 yX5_init "KnifeBoard") (by decide +kernel)), va_Nw.of rfl (hts (.methodLinkNest "KnifeBoard" 44 yX4_init "KnifeBoard") (by decide +kernel)), va_Nw.of rfl (hts (.methodLinkNest "KnifeBoard" 51 yX6_init "KnifeBoard") (by decide +kernel)), va_Nw.of rfl (hts (.methodLinkNest "KnifeBoard" 66 yX7_init "KnifeBoard") (by decide +kernel))⟩, va_AO.of aoK, va_AO.of aoS⟩, ⟨va_Nc.of (hs (.not (.castable "KnifeBoard$Knife" "KnifeBoard$Hatchet")) (by decide +kernel)), va_Nc.of (hs (.not (.castable "KnifeBoard$Knife" "KnifeBoard$Twin")) (by decide +kernel)), va_Nc.of (hs (.not (.castable "KnifeBoard$Hatchet" "KnifeBoard$Twin")) (by decide +kernel))⟩, hZ, hT⟩, fun _ h => h⟩
set_option maxHeartbeats 8000000 in
set_option maxRecDepth 100000 in
theorem start_of {p : Program} {e : Env} {s : State} {m : MethodId} {below : List Frame} {meth : Method} {c : Code} (l : Launch) {b L : Nat} {xs : Nat → Int32} {Rl : kw_T → fw_F → fw_R → fw_F → fw_R → Prop} (hR0 : Rl kt0 (fun _ => 0) (fun _ _ => 0) (fun _ => 0) mr0) (o0 : lw_o0 Rl) (o1 : lw_o1 Rl) (o2 : lw_o2 Rl) (o3 : lw_o3 Rl) (o4 : lw_o4 Rl) (o5 : lw_o5 Rl) (o6 : lw_o6 Rl) (o7 : lw_o7 Rl) (o8 : lw_o8 Rl) (o9 : lw_o9 Rl) (o10 : lw_o10 Rl) (o11 : lw_o11 Rl) (o12 : lw_o12 Rl) (o13 : lw_o13 Rl) (o14 : lw_o14 Rl) (o15 : lw_o15 Rl) (o16 : lw_o16 Rl) (o17 : lw_o17 Rl) (o18 : lw_o18 Rl) (o19 : lw_o19 Rl) (o20 : lw_o20 Rl) (o21 : lw_o21 Rl) (o22 : lw_o22 Rl) (o23 : lw_o23 Rl) (o24 : lw_o24 Rl) (o25 : lw_o25 Rl) (o26 : lw_o26 Rl) (o27 : lw_o27 Rl) (o28 : lw_o28 Rl) (o29 : lw_o29 Rl) (o30 : lw_o30 Rl) (o31 : lw_o31 Rl) (o32 : lw_o32 Rl) (o33 : lw_o33 Rl) (o34 : lw_o34 Rl) (o35 : lw_o35 Rl) (hL : L ≤ 4608) (C0 : lw_At p s m meth c b L xs) : W p l e room_1 s m #[Value.ref b] below meth c s.heap [] 0 0 (lw_Z below #[Value.ref b] s) (entryFrame m ([Value.ref b] : List Value).toArray 4) := by
  obtain ⟨hx, hb, hr, hml, hown, hts0, hX, hbl, hlocks, hgv⟩ := id C0
  obtain ⟨G, hK⟩ := lw_env hts0 hgv
  have hts := fun w h => hts0 w (wsL_law_in w h)
  have C : fw_C p s m #[Value.ref b] meth c cL_law 4 ret wsL_law RL := ⟨hx, hb, hr, hlocks, hts, hown, hml⟩
  have hbA : ¬ (fun q : Nat => s.heap.size ≤ q) b := Nat.not_le.mpr hbl
  have hG : fw_H G [] (fun q : Nat => s.heap.size ≤ q) s s.heap [] := ⟨fun k q h => by simp at h, ⟨fun i j p q h => by simp at h, fun k q h => by simp at h⟩, va_S.rf⟩
  have hl := lv_entry ([.ref b]) (n := 4) (Nat.le_of_ble_eq_true rfl)
  rw [lg_entry_eq]
  generalize (lg_sl ([.ref b]) ++ List.replicate (4 - (lg_sl ([.ref b])).length) Slot.unset).toArray = ls at hl ⊢
  have hl : lv_has ls 4 [(0, .ref b)] := hl
  refine fx_new (ci := 9) (fs := [.null, .int 0, .null, .null, .null, .null, .null, .null, .null, .null, .int 0]) C inlX9 tyX9 tyX9_ok (hts (.classLink RL 7 RX9) (by decide +kernel)) (hts (.instantiable RX9 11) (by decide +kernel)) (hts (.initialized RX9) (by decide +kernel)) hK hG rfl (fun j hj => by rcases (show j = 0 ∨ j = 1 ∨ j = 2 ∨ j = 3 ∨ j = 4 ∨ j = 5 ∨ j = 6 ∨ j = 7 ∨ j = 8 ∨ j = 9 ∨ j = 10 by omega) with rfl | rfl | rfl | rfl | rfl | rfl | rfl | rfl | rfl | rfl | rfl <;> rfl) (Nat.le_of_ble_eq_true rfl) (Nat.le_of_ble_eq_true rfl) dL_law_0 (fun qx H hG => ?_)
  refine W.widen (k := 1) (n := 11) (by decide) (by decide) ?_
  refine lv_dup C.1 C.2.1 dL_law_3 rfl ?_
  refine fx_callv (wr := []) (w0 := [(qx, .inr (9, [.null, .int 0, .null, .null, .null, .null, .null, .null, .null, .null, .int 0]))]) (U := Nat → Nat) (w1 := fun ad => kw G ad kt0 (fun _ => 0) (fun _ _ => 0)) (va_runI (As := []) (rest := [.ref qx]) ⟨C.1, C.2.1, C.2.2.2.2.2.2, C.2.2.2.2.2.1, C.2.2.2.2.1⟩ (cnX9_init l G qx H.size) (cwI 0 hts gL_law_X9_init rfl rfl rfl (hts (.initialized RX9) (by decide +kernel)) (hts (.methodLink RL 9 yX9_init) (by decide +kernel)) (hts (.instanceMethod yX9_init) (by decide +kernel)) rfl (by decide +kernel) ⟨Nat.le_of_ble_eq_true rfl, Nat.le_of_ble_eq_true rfl⟩) (fw_preS (fx_sub (a := []) hG) hK) rfl rfl hl.1 rfl (lv_room (Nat.le_of_ble_eq_true rfl)) dL_law_4 ⟨Nat.le_of_ble_eq_true rfl, Nat.le_of_ble_eq_true rfl⟩) hG hK (fun ad H locs e0 hG => ?_)
  refine W.widen (k := 28) (n := 1796) (by decide) (by decide) ?_
  refine lv_astore_n (lv' := [(1, .ref qx), (0, .ref b)]) C.1 C.2.1 dL_law_7 rfl hl (by decide) rfl (fun ls hl => ?_)
  refine fx_new (ci := 10) (fs := [.int 0, .int 0, .null, .null, .null, .int 0, .null, .null, .null, .null, .int 0, .int 0, .null, .int 0, .int 0, .null, .int 0, .int 0, .null, .int 0, .int 0, .null, .null, .null, .null, .null, .null, .int 0, .int 0, .null, .null, .null, .null]) C inlX10 tyX10 tyX10_ok (hts (.classLink RL 10 RX10) (by decide +kernel)) (hts (.instantiable RX10 33) (by decide +kernel)) (hts (.initialized RX10) (by decide +kernel)) hK hG rfl (fun j hj => by rcases (show j = 0 ∨ j = 1 ∨ j = 2 ∨ j = 3 ∨ j = 4 ∨ j = 5 ∨ j = 6 ∨ j = 7 ∨ j = 8 ∨ j = 9 ∨ j = 10 ∨ j = 11 ∨ j = 12 ∨ j = 13 ∨ j = 14 ∨ j = 15 ∨ j = 16 ∨ j = 17 ∨ j = 18 ∨ j = 19 ∨ j = 20 ∨ j = 21 ∨ j = 22 ∨ j = 23 ∨ j = 24 ∨ j = 25 ∨ j = 26 ∨ j = 27 ∨ j = 28 ∨ j = 29 ∨ j = 30 ∨ j = 31 ∨ j = 32 by omega) with rfl | rfl | rfl | rfl | rfl | rfl | rfl | rfl | rfl | rfl | rfl | rfl | rfl | rfl | rfl | rfl | rfl | rfl | rfl | rfl | rfl | rfl | rfl | rfl | rfl | rfl | rfl | rfl | rfl | rfl | rfl | rfl | rfl <;> rfl) (Nat.le_of_ble_eq_true rfl) (Nat.le_of_ble_eq_true rfl) dL_law_8 (fun mh H hG => ?_)
  refine W.widen (k := 29) (n := 1829) (by decide) (by decide) ?_
  refine lv_dup C.1 C.2.1 dL_law_11 rfl ?_
  refine fx_callv (w0 := [(mh, .inr (10, [.int 0, .int 0, .null, .null, .null, .int 0, .null, .null, .null, .null, .int 0, .int 0, .null, .int 0, .int 0, .null, .int 0, .int 0, .null, .int 0, .int 0, .null, .null, .null, .null, .null, .null, .int 0, .int 0, .null, .null, .null, .null]))]) (U := Nat → Nat) (w1 := fun ad => mw G mh ad (fun _ => 0) mr0) (va_runI (As := []) (rest := [.ref mh]) ⟨C.1, C.2.1, C.2.2.2.2.2.2, C.2.2.2.2.2.1, C.2.2.2.2.1⟩ (cnX10_init l G mh H.size) (cwI 0 hts gL_law_X10_init rfl rfl rfl (hts (.initialized RX10) (by decide +kernel)) (hts (.methodLink RL 12 yX10_init) (by decide +kernel)) (hts (.instanceMethod yX10_init) (by decide +kernel)) rfl (by decide +kernel) ⟨Nat.le_of_ble_eq_true rfl, Nat.le_of_ble_eq_true rfl⟩) (fw_preS (fx_sub hG) hK) rfl rfl hl.1 rfl (lv_room (Nat.le_of_ble_eq_true rfl)) dL_law_12 ⟨Nat.le_of_ble_eq_true rfl, Nat.le_of_ble_eq_true rfl⟩) hG hK (fun md H locs _ hG => ?_)
  refine W.widen (k := 49) (n := 2973) (by decide) (by decide) ?_
  refine lv_astore_n (lv' := [(2, .ref mh), (1, .ref qx), (0, .ref b)]) C.1 C.2.1 dL_law_15 rfl hl (by decide) rfl (fun ls hl => ?_)
  refine lv_iconst (v := 0) C.1 C.2.1 dL_law_16 (by decide) ?_
  refine lv_istore_n (lv' := [(3, .int 0), (2, .ref mh), (1, .ref qx), (0, .ref b)]) C.1 C.2.1 dL_law_17 rfl hl (by decide) rfl (fun ls hl => ?_)
  have hG : fw_H G (kw G ad kt0 (fun _ => 0) (fun _ _ => 0) ++ mw G mh md (fun _ => 0) mr0) (fun q : Nat => s.heap.size ≤ q) s H locs := hG
  have hG := fx_swap hG
  have hl : lv_has ls 4 [(0, .ref b), (1, .ref (ad 0)), (2, .ref mh), (3, .int 0)] := by rw [e0]; exact lv_sub hl [3, 2, 1, 0] rfl
  exact law_loop hL C hK hX hbl hbA o0 o1 o2 o3 o4 o5 o6 o7 o8 o9 o10 o11 o12 o13 o14 o15 o16 o17 o18 o19 o20 o21 o22 o23 o24 o25 o26 o27 o28 o29 o30 o31 o32 o33 o34 o35 (L + 1) 0 0 ad kt0 _ _ _ _ H locs ls (by omega) (by omega) (by omega) rfl hR0 hG hl
