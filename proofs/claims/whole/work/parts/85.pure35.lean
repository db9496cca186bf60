/-! ===== orders: both sides together ===== -/
theorem n16 {n : Nat} (h : n < 2 ^ 31) : ((1 : Int32) ≤ nI n ∧ nI n ≤ 6) ↔ (1 ≤ n ∧ n ≤ 6) := by
  rw [show (1 : Int32) = nI 1 from rfl, show (6 : Int32) = nI 6 from rfl, nI_leI (by omega) h, nI_leI h (by omega)]
def dis (n : Nat) (V : Nat → Int32) : Prop := ∀ t, t < n → ∀ s, s < t → ¬ V s = V t
def aln (n h w : Nat) (V : Nat → Int32) : Prop := ∀ t, t < n → kno h w (V t)
theorem oh9 {kt : kw_T} {iv : fw_F} {ar : fw_R} {n h w to T first : Nat} {L W : Nat → Nat} {V : Nat → Int32} {x2 x3 x4 x6 r : Int32} {Q : Int32 → fw_F → fw_R → Prop} (hn : n < 2 ^ 31) (hto : to ≤ 1) (e3 : iv 2 = nI to) (hf : first ≤ 9999) (hT : T ≤ 9) (eT : iv 3 = nI T) (hh : h ≤ 6) (hw : w ≤ 6) (e1 : iv 4 = nI h) (e2 : iv 5 = nI w) (hL : ∀ c, c < h * w → L c < 4 ∧ ar 5 c = nI (L c)) (hW : ∀ j, j < 15 → W j ≤ 9) (ha : ∀ j, j < 15 → ar 3 j = nI (W j)) (hb : ¬ to = 0 → ∀ st, 1 ≤ alw W st ∧ alw W st ≤ 2025) (hV : ∀ t, t < n → ar 25 t = V t)
    (hr : (¬ (1 ≤ n ∧ n ≤ 6) → r = -2) ∧ ((1 ≤ n ∧ n ≤ 6) → ¬ aln n h w V → r = -1) ∧ ((1 ≤ n ∧ n ≤ 6) → aln n h w V → ¬ dis n V → r = -2) ∧ ((1 ≤ n ∧ n ≤ 6) → aln n h w V → dis n V → ¬ (-1 ≤ x6 ∧ x6 ≤ 5) → r = -1) ∧ ((1 ≤ n ∧ n ≤ 6) → aln n h w V → dis n V → (-1 ≤ x6 ∧ x6 ≤ 5) → to = 0 → r = -3) ∧ ((1 ≤ n ∧ n ≤ 6) → aln n h w V → dis n V → (-1 ≤ x6 ∧ x6 ≤ 5) → ¬ to = 0 → ¬ x6 < nI n → r = -9) ∧ ((1 ≤ n ∧ n ≤ 6) → aln n h w V → dis n V → (-1 ≤ x6 ∧ x6 ≤ 5) → ¬ to = 0 → x6 < nI n → r = ors n (ocs h w L W T first (scv V n)) (scv V n) x6))
    (hQ : ∀ iv1 ar1, ag9 iv ar iv1 ar1 → Q r iv1 ar1) :
    wpX9_within (nI n) 1 6 (fun (r10 : Int32) => (¬ r10 = 0 → (wpX9_refusesCells kt iv ar (nI n) (fun (r12 : Int32) => (r12 = 0 → (wpX9_within x6 (-1) 5 (fun (r14 : Int32) => (¬ r14 = 0 → ((¬ (iv 2) = 0 → ((x6 < (nI n) → (wpX5_begin kt iv ar (nI n) (fun (iv18 : fw_F) (ar19 : fw_R) => ∃ ku : Nat, wpX9_order_L136 kt (nI first) x2 x3 x4 (nI n) x6 Q (fun (_ : Int32) (iv33 : fw_F) (ar34 : fw_R) => wpX5_weighRests kt iv33 ar34 (fun (iv35 : fw_F) (ar36 : fw_R) => (0 ≤ x6 → (wpX5_cellThrown kt iv35 ar36 x6 (fun (r38 : Int32) => Q r38 iv35 ar36))) ∧ (¬ 0 ≤ x6 → (wpX5_leastSum kt iv35 ar36 (fun (r39 : Int32) => Q r39 iv35 ar36))))) ku 0 iv18 ar19))) ∧ (¬ x6 < (nI n) → (Q (-9) iv ar)))) ∧ ((iv 2) = 0 → (Q (-3) iv ar)))) ∧ (r14 = 0 → (Q (-1) iv ar))))) ∧ (¬ r12 = 0 → (Q r12 iv ar))))) ∧ (r10 = 0 → (Q (-2) iv ar))) := by
  obtain ⟨c1, c2, c3, c4, c5, c6, c7⟩ := hr
  have hQ0 := hQ iv ar ag9_rf
  refine ev9_within.mpr ⟨fun z => ⟨fun _ => ?_, fun y => absurd y (by decide)⟩, fun z => ⟨fun y => absurd rfl y, fun _ => by rw [← c1 (fun y => z ((n16 hn).mpr y))]; exact hQ0⟩⟩
  have A := (n16 hn).mp z
  refine rc9 (V := V) A.2 hh hw e1 e2 hV (fun k => ⟨fun y => absurd y (by decide), fun _ => by rw [← c2 A k]; exact hQ0⟩) (fun k d => ⟨fun y => absurd y (by decide), fun _ => by rw [← c3 A k d]; exact hQ0⟩) (fun k d => ⟨fun _ => ?_, fun y => absurd rfl y⟩)
  refine ev9_within.mpr ⟨fun x => ⟨fun _ => ⟨fun y => ?_, fun y => ?_⟩, fun y => absurd y (by decide)⟩, fun x => ⟨fun y => absurd rfl y, fun _ => by rw [← c4 A k d x]; exact hQ0⟩⟩
  · have t0 : ¬ to = 0 := fun q => y (by rw [e3, q]; rfl)
    refine ⟨fun y2 => ?_, fun y2 => by rw [← c6 A k d x t0 y2]; exact hQ0⟩
    refine or9 (L := L) (W := W) (V := V) (T := T) (h := h) (w := w) A.2 A.1 hf hT eT hh hw e1 e2 hL hW ha (hb t0) hV k y2 (fun iv1 ar1 ag => ?_)
    rw [← c7 A k d x t0 y2]
    exact hQ iv1 ar1 ag
  · rw [e3, to_cases hto] at y
    rw [← c5 A k d x y]
    exact hQ0
theorem oh10 {jv : fw_F} {br : fw_R} {n h w to T first f : Nat} {L W : Nat → Nat} {V : Nat → Int32} {x6 r fI : Int32} {Q : Int32 → fw_F → fw_R → Prop} (hn : n < 2 ^ 31) (ef : fI = nI f) (hf2 : f + n ≤ 320) (hto : to ≤ 1) (e3 : jv 10 = nI to) (hf : first ≤ 9999) (hT : T ≤ 9) (eT : jv 11 = nI T) (hh : h ≤ 6) (hw : w ≤ 6) (e1 : jv 16 = nI h) (e2 : jv 17 = nI w) (hL : ∀ c, c < h * w → L c < 4 ∧ br 18 c = nI (L c)) (hW : ∀ j, j < 15 → W j ≤ 9) (ha : ∀ j, j < 15 → br 12 j = nI (W j)) (hb : ¬ to = 0 → ∀ st, 1 ≤ alw W st ∧ alw W st ≤ 2025) (hV : ∀ t, t < n → br 4 (f + t) = V t)
    (hr : (¬ (1 ≤ n ∧ n ≤ 6) → r = -2) ∧ ((1 ≤ n ∧ n ≤ 6) → ¬ aln n h w V → r = -1) ∧ ((1 ≤ n ∧ n ≤ 6) → aln n h w V → ¬ dis n V → r = -2) ∧ ((1 ≤ n ∧ n ≤ 6) → aln n h w V → dis n V → ¬ (-1 ≤ x6 ∧ x6 ≤ 5) → r = -1) ∧ ((1 ≤ n ∧ n ≤ 6) → aln n h w V → dis n V → (-1 ≤ x6 ∧ x6 ≤ 5) → to = 0 → r = -3) ∧ ((1 ≤ n ∧ n ≤ 6) → aln n h w V → dis n V → (-1 ≤ x6 ∧ x6 ≤ 5) → ¬ to = 0 → ¬ x6 < nI n → r = -9) ∧ ((1 ≤ n ∧ n ≤ 6) → aln n h w V → dis n V → (-1 ≤ x6 ∧ x6 ≤ 5) → ¬ to = 0 → x6 < nI n → r = ors n (ocs h w L W T first (scv V n)) (scv V n) x6))
    (hQ : ∀ jv1 br1, ag10 jv br jv1 br1 → Q r jv1 br1) :
    wpX10_within (nI n) 1 6 (fun (r10 : Int32) => (¬ r10 = 0 → (∀ y12 : Int32, y12 = fI → (wpX10_whyOrder jv br y12 (nI n) (fun (r13 : Int32) => (r13 = 0 → (wpX10_within x6 (-1) 5 (fun (r15 : Int32) => (¬ r15 = 0 → ((¬ (jv 10) = 0 → (wpX10_layOrdered jv br y12 (nI n) (fun (iv18 : fw_F) (ar19 : fw_R) => wpX10_layCosts iv18 ar19 (nI n) (nI first) (fun (iv20 : fw_F) (ar21 : fw_R) => wpX10_findOrder iv20 ar21 (nI n) (fun (iv22 : fw_F) (ar23 : fw_R) => (0 ≤ x6 → (((nI n) ≤ x6 → (Q (-9) iv22 ar23)) ∧ (¬ (nI n) ≤ x6 → (vp_in x6 6 ∧ (Q ((ar23 26) x6.toNatClampNeg) iv22 ar23))))) ∧ (¬ 0 ≤ x6 → (Q (iv22 27) iv22 ar23))))))) ∧ ((jv 10) = 0 → (Q (-3) jv br)))) ∧ (r15 = 0 → (Q (-1) jv br))))) ∧ (¬ r13 = 0 → (Q r13 jv br)))))) ∧ (r10 = 0 → (Q (-2) jv br))) := by
  obtain ⟨c1, c2, c3, c4, c5, c6, c7⟩ := hr
  have hQ0 := hQ jv br ag10_rf
  refine ev10_within.mpr ⟨fun z => ⟨fun _ => ?_, fun y => absurd y (by decide)⟩, fun z => ⟨fun y => absurd rfl y, fun _ => by rw [← c1 (fun y => z ((n16 hn).mpr y))]; exact hQ0⟩⟩
  rintro _ rfl
  rw [ef]
  have A := (n16 hn).mp z
  refine wo10o (V := V) A.2 hf2 hh hw e1 e2 hV (fun k => ⟨fun y => absurd y (by decide), fun _ => by rw [← c2 A k]; exact hQ0⟩) (fun k d => ⟨fun y => absurd y (by decide), fun _ => by rw [← c3 A k d]; exact hQ0⟩) (fun k d => ⟨fun _ => ?_, fun y => absurd rfl y⟩)
  refine ev10_within.mpr ⟨fun x => ⟨fun _ => ⟨fun y => ?_, fun y => ?_⟩, fun y => absurd y (by decide)⟩, fun x => ⟨fun y => absurd rfl y, fun _ => by rw [← c4 A k d x]; exact hQ0⟩⟩
  · have t0 : ¬ to = 0 := fun q => y (by rw [e3, q]; rfl)
    refine or10 (L := L) (W := W) (V := V) (T := T) (h := h) (w := w) A.2 A.1 hf hf2 hT eT hh hw e1 e2 hL hW ha (hb t0) hV k (fun jv1 br1 ag => ?_)
    by_cases y2 : nI n ≤ x6
    · rw [if_pos y2, ← c6 A k d x t0 (Int32.not_lt.mpr y2)]
      exact hQ jv1 br1 ag
    · rw [if_neg y2, ← c7 A k d x t0 (Int32.not_le.mp y2)]
      exact hQ jv1 br1 ag
  · rw [e3, to_cases hto] at y
    rw [← c5 A k d x y]
    exact hQ0
theorem ord_ex (A K D X O N : Prop) (v : Int32) : ∃ r : Int32, (¬ A → r = -2) ∧ (A → ¬ K → r = -1) ∧ (A → K → ¬ D → r = -2) ∧ (A → K → D → ¬ X → r = -1) ∧ (A → K → D → X → O → r = -3) ∧ (A → K → D → X → ¬ O → ¬ N → r = -9) ∧ (A → K → D → X → ¬ O → N → r = v) := by
  by_cases a : A
  · by_cases k : K
    · by_cases d : D
      · by_cases x : X
        · by_cases o : O
          · exact ⟨-3, by simp [a, k, d, x, o]⟩
          · by_cases z : N
            · exact ⟨v, by simp [a, k, d, x, o, z]⟩
            · exact ⟨-9, by simp [a, k, d, x, o, z]⟩
        · exact ⟨-1, by simp [a, k, d, x]⟩
      · exact ⟨-2, by simp [a, k, d]⟩
    · exact ⟨-1, by simp [a, k]⟩
  · exact ⟨-2, by simp [a]⟩
theorem op_order : lw_o16 Rl := by
  intro kt iv ar jv br hR a1 a2 a3 a4 a5 a6
  unfold pu_order
  have hR0 := Rl_fault hR 0
  have hRf := Rl_fault hR0
  by_cases p1 : 0 ≤ a2 ∧ a2 ≤ 3
  · by_cases p2 : 0 ≤ a3 ∧ a3 ≤ 2
    · by_cases p0 : 0 ≤ a1 ∧ a1 ≤ 9999
      · obtain ⟨k, -, hk, rfl⟩ := pb_rng 0 3 rfl rfl (by decide) (by decide) p1
        obtain ⟨first, -, hfi, rfl⟩ := pb_rng 0 9999 rfl rfl (by decide) (by decide) p0
        have h4 : k < 4 := by omega
        have path9 : ∀ Q : Int32 → fw_F → fw_R → Prop, (wpX9_takeCells kt (va_up iv 1 0) ar (nI k) a3 a4 a5.toInt64 (fun (r6 : Int32) (iv7 : fw_F) (ar8 : fw_R) => (r6 = 0 → (wpX9_within a5 1 6 (fun (r10 : Int32) => (¬ r10 = 0 → (wpX9_refusesCells kt iv7 ar8 a5 (fun (r12 : Int32) => (r12 = 0 → (wpX9_within a6 (-1) 5 (fun (r14 : Int32) => (¬ r14 = 0 → ((¬ (iv7 2) = 0 → ((a6 < a5 → (wpX5_begin kt iv7 ar8 a5 (fun (iv18 : fw_F) (ar19 : fw_R) => ∃ ku : Nat, wpX9_order_L136 kt (nI first) (nI k) a3 a4 a5 a6 Q (fun (w32 : Int32) (iv33 : fw_F) (ar34 : fw_R) => wpX5_weighRests kt iv33 ar34  (fun (iv35 : fw_F) (ar36 : fw_R) => (0 ≤ a6 → (wpX5_cellThrown kt iv35 ar36 a6 (fun (r38 : Int32) => Q r38 iv35 ar36))) ∧ (¬ 0 ≤ a6 → (wpX5_leastSum kt iv35 ar36  (fun (r39 : Int32) => Q r39 iv35 ar36))))) ku 0 iv18 ar19))) ∧ (¬ a6 < a5 → (Q (-9) iv7 ar8)))) ∧ ((iv7 2) = 0 → (Q (-3) iv7 ar8)))) ∧ (r14 = 0 → (Q (-1) iv7 ar8))))) ∧ (¬ r12 = 0 → (Q r12 iv7 ar8))))) ∧ (r10 = 0 → (Q (-2) iv7 ar8))))) ∧ (¬ r6 = 0 → (Q r6 iv7 ar8)))) → wpX9_order kt iv ar (nI first) (nI k) a3 a4 a5 a6 Q := fun Q H => by
          unfold wpX9_order
          rintro _ rfl
          refine rs9.mpr ?_
          rw [if_pos p1, if_pos p2]
          refine ⟨fun _ => ?_, fun y => absurd rfl y⟩
          refine ev9_within.mpr ⟨fun _ => ⟨fun _ => H, fun y => absurd y (by decide)⟩, fun y => absurd p0 y⟩
        have path10 : ∀ Q : Int32 → fw_F → fw_R → Prop, (wpX10_against (va_up jv 0 0) br (nI k) a3 a4 a5 1 (fun (r8 : Int32) => (r8 = 0 → (wpX10_within a5 1 6 (fun (r10 : Int32) => (¬ r10 = 0 → (∀ y12 : Int32, y12 = (80 * nI k) + a4 → (wpX10_whyOrder (va_up jv 0 0) br y12 a5 (fun (r13 : Int32) => (r13 = 0 → (wpX10_within a6 (-1) 5 (fun (r15 : Int32) => (¬ r15 = 0 → ((¬ ((va_up jv 0 0) 10) = 0 → (wpX10_layOrdered (va_up jv 0 0) br y12 a5 (fun (iv18 : fw_F) (ar19 : fw_R) => wpX10_layCosts iv18 ar19 a5 (nI first) (fun (iv20 : fw_F) (ar21 : fw_R) => wpX10_findOrder iv20 ar21 a5 (fun (iv22 : fw_F) (ar23 : fw_R) => (0 ≤ a6 → ((a5 ≤ a6 → (Q (-9) iv22 ar23)) ∧ (¬ a5 ≤ a6 → (vp_in a6 6 ∧ (Q ((ar23 26) a6.toNatClampNeg) iv22 ar23))))) ∧ (¬ 0 ≤ a6 → (Q (iv22 27) iv22 ar23))))))) ∧ (((va_up jv 0 0) 10) = 0 → (Q (-3) (va_up jv 0 0) br)))) ∧ (r15 = 0 → (Q (-1) (va_up jv 0 0) br))))) ∧ (¬ r13 = 0 → (Q r13 (va_up jv 0 0) br)))))) ∧ (r10 = 0 → (Q (-2) (va_up jv 0 0) br))))) ∧ (¬ r8 = 0 → (wpX10_fails (va_up jv 0 0) br r8 (fun (r27 : Int32) (iv28 : fw_F) (ar29 : fw_R) => Q r27 iv28 ar29))))) → wpX10_order jv br (nI first) (nI k) a3 a4 a5 a6 Q := fun Q H => by
          unfold wpX10_order
          rintro _ rfl
          refine ev10_isSheet.mpr ⟨fun _ => ⟨fun _ => ?_, fun y => absurd y (by decide)⟩, fun y => absurd p1 y⟩
          refine ev10_isSort.mpr ⟨fun _ => ⟨fun y => absurd y (by decide), fun _ => ?_⟩, fun y => absurd p2 y⟩
          refine ev10_within.mpr ⟨fun _ => ⟨fun _ => H, fun y => absurd y (by decide)⟩, fun y => absurd p0 y⟩
        generalize va_up iv 1 0 = iv0 at hR0 hRf path9 ⊢
        generalize va_up jv 0 0 = jv0 at hR0 hRf path10 ⊢
        have hs := hR0.2.2.2.2.1
        have ha5 : (a5.toInt64).toInt = a5.toInt := Int32.toInt_toInt64 a5
        rcases rsh_at hs h4 with ⟨e1, e2⟩ | ⟨e1, so, le, b1, b2, c1, c2, c3, c4, c5⟩
        · refine ⟨-11, fun jv1 br1 => jv1 = va_up jv0 0 1 ∧ br1 = br, fun iv1 ar1 => iv1 = va_up iv0 1 1 ∧ ar1 = ar, by rintro _ _ ⟨rfl, rfl⟩ _ _ ⟨rfl, rfl⟩; exact hRf 1, path9 _ ?_, path10 _ ?_⟩
          · rw [tk9_none h4 e1]
            exact ⟨fun y => absurd y (by decide), fun _ => ⟨rfl, rfl, rfl⟩⟩
          · rw [ag_none h4 e2]
            refine ⟨fun y => absurd y (by decide), fun _ => ?_⟩
            unfold wpX10_fails
            simp
        · have eag := fun (Q : Int32 → Prop) => ag_some (jv := jv0) (br := br) (x2 := a3) (x3 := a4) (x4 := a5) (Q := Q) (e := 1) h4 b1 b2 c2 c4 (Or.inl rfl)
          rw [show nI 1 = (1 : Int32) from rfl] at eag
          have e1x : ((1 : Nat) : Int) * a5.toInt = a5.toInt := by omega
          rw [e1x] at eag
          by_cases p3 : fc so le a3 a4 a5.toInt = 0
          · obtain ⟨rfl, i, n, q1, rfl, q2, q3⟩ := fc0 p3
            obtain ⟨n', hn', rfl⟩ := nI_of (x := a5) (by rw [Int32.lt_iff_toInt_lt, pb_i0]; omega)
            rw [nI_toInt (by omega)] at q2
            have q4 : n' = n := by omega
            subst q4
            have ei : (80 : Int32) * nI k + nI i = nI (80 * k + i) := by
              rw [show (80 : Int32) = nI 80 from rfl, pk_mul, nI_add]
            generalize hV : (fun t => br 4 (80 * k + i + t)) = V
            have hV10 : ∀ t, t < n' → br 4 (80 * k + i + t) = V t := fun t _ => by rw [← hV]
            have hV9 : ∀ t, t < n' → va_up ar 25 (va_cpy (ar (21 + k)) (ar 25) i 0 n') 25 t = V t := fun t ht => by
              rw [pb_up, if_pos rfl, pk_cpy_in (by omega) (by omega), c5 _ (by omega), ← hV10 t ht]
              congr 1
              omega
            obtain ⟨-, ⟨to, T, W, g1, g2, g3, g4, g5, g6, g7, g8⟩, ⟨h, w, L, u1, u2, u3, u4, u5, u6, u7, u8⟩, -⟩ := id hR0
            have hW := fun j hj => (g7 j hj).1
            obtain ⟨r, hr⟩ := ord_ex (1 ≤ n' ∧ n' ≤ 6) (aln n' h w V) (dis n' V) (-1 ≤ a6 ∧ a6 ≤ 5) (to = 0) (a6 < nI n') (ors n' (ocs h w L W T first (scv V n')) (scv V n') a6)
            refine ⟨r, fun jv1 br1 => ag10 jv0 br jv1 br1, fun iv1 ar1 => ag9 iv0 (va_up ar 25 (va_cpy (ar (21 + k)) (ar 25) i 0 n')) iv1 ar1, fun iv1 ar1 z1 jv1 br1 z2 => Rl_ag (Rl_taken hR0 _) z1 z2, path9 _ ?_, path10 _ ?_⟩
            · rw [pb_i2l hn', tk9_ok h4 e1 c1 c3 b2 q1]
              refine ⟨fun _ => ?_, fun y => absurd rfl y⟩
              exact oh9 (L := L) (W := W) (V := V) (T := T) (h := h) (w := w) (to := to) (r := r) hn' g1 g2 hfi g4 g5 u1 u2 u4 u5 (fun c hc => ⟨(u8 c hc).1, by rw [pb_up, if_neg (by decide)]; exact (u8 c hc).2.1⟩) hW (fun j hj => by rw [pb_up, if_neg (by decide)]; exact (g7 j hj).2.1) (fun t0 st => alw_b hW (g8 (by omega))) hV9 hr (fun iv1 ar1 ag => ⟨rfl, ag⟩)
            · rw [eag, p3]
              refine ⟨fun _ => ?_, fun y => absurd rfl y⟩
              exact oh10 (Q := fun r1 jv1 br1 => r1 = r ∧ ag10 jv0 br jv1 br1) (L := L) (W := W) (V := V) (T := T) (h := h) (w := w) (to := to) (r := r) (f := 80 * k + i) hn' ei (by omega) g1 g3 hfi g4 g6 u1 u2 u6 u7 (fun c hc => ⟨(u8 c hc).1, (u8 c hc).2.2⟩) hW (fun j hj => (g7 j hj).2.2) (fun t0 st => alw_b hW (g8 (by omega))) hV10 hr (fun jv1 br1 ag => ⟨rfl, ag⟩)
          · have p3' : ¬ fc so le a3 a4 (a5.toInt64).toInt = 0 := by rw [ha5]; exact p3
            have nz : ¬ (-10 - fc so le a3 a4 a5.toInt) = 0 := by
              unfold fc
              split
              · decide
              · split
                · decide
                · split <;> decide
            refine ⟨-10 - fc so le a3 a4 a5.toInt, fun jv1 br1 => jv1 = va_up jv0 0 (fc so le a3 a4 a5.toInt) ∧ br1 = br, fun iv1 ar1 => iv1 = va_up iv0 1 (fc so le a3 a4 a5.toInt) ∧ ar1 = ar, by rintro _ _ ⟨rfl, rfl⟩ _ _ ⟨rfl, rfl⟩; exact hRf _, path9 _ ?_, path10 _ ?_⟩
            · rw [tk9_bad h4 e1 c1 c3 b2 p3', ha5]
              exact ⟨fun y => absurd y nz, fun _ => ⟨rfl, rfl, rfl⟩⟩
            · rw [eag]
              refine ⟨fun y => absurd y p3, fun _ => ?_⟩
              unfold wpX10_fails
              simp
      · refine ⟨-2, fun jv1 br1 => jv1 = va_up jv 0 0 ∧ br1 = br, fun iv1 ar1 => iv1 = va_up iv 1 0 ∧ ar1 = ar, by rintro _ _ ⟨rfl, rfl⟩ _ _ ⟨rfl, rfl⟩; exact hR0, ?_, ?_⟩
        · unfold wpX9_order
          simp [rs9, ev9_within, p1, p2, p0]
        · unfold wpX10_order
          simp [ev10_isSheet, ev10_isSort, ev10_within, p1, p2, p0]
    · refine ⟨-2, fun jv1 br1 => jv1 = va_up jv 0 0 ∧ br1 = br, fun iv1 ar1 => iv1 = va_up iv 1 0 ∧ ar1 = ar, by rintro _ _ ⟨rfl, rfl⟩ _ _ ⟨rfl, rfl⟩; exact hR0, ?_, ?_⟩
      · unfold wpX9_order
        simp [rs9, p1, p2]
      · unfold wpX10_order
        simp [ev10_isSheet, ev10_isSort, p1, p2]
  · refine ⟨-1, fun jv1 br1 => jv1 = va_up jv 0 0 ∧ br1 = br, fun iv1 ar1 => iv1 = va_up iv 1 0 ∧ ar1 = ar, by rintro _ _ ⟨rfl, rfl⟩ _ _ ⟨rfl, rfl⟩; exact hR0, ?_, ?_⟩
    · unfold wpX9_order
      simp [rs9, p1]
    · unfold wpX10_order
      simp [ev10_isSheet, p1]
