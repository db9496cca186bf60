/-! ===== copying ===== -/
/-- what the copied cells are, behind a copy of n cells from s on to d -/
def cpd (f : Nat → Int32) (s d n : Nat) (g : Nat → Int32) : Prop := ∀ x, g x = if d ≤ x ∧ x < d + n then f (s + (x - d)) else f x
theorem cp10a {jv : fw_F} {br : fw_R} {k o i j n : Nat} {Q : Int32 → fw_F → fw_R → Prop} {K : Int32 → fw_F → fw_R → Prop} (hk : k < 4) (ho : o < 4) (hi : i + n ≤ 80) (hj : j + n ≤ 80) (hij : j ≤ i) (hK : ∀ g, cpd (br 4) (80 * k + i) (80 * o + j) n g → K (nI n) jv (va_up br 4 g)) : ∃ ku, wpX10_copy_L166 (nI k) (nI i) (nI o) (nI j) (nI n) Q K ku 0 jv br := by
  refine pk_loop (σ := fw_R) (fun m q s => wpX10_copy_L166 (nI k) (nI i) (nI o) (nI j) (nI n) Q K m (nI q) jv s) (fun q s => ∃ g : Nat → Int32, s = va_up br 4 g ∧ cpd (br 4) (80 * k + i) (80 * o + j) q g) n 0 br (by omega) ⟨br 4, (va_upS _ _).symm, fun x => by rw [if_neg (by omega)]⟩ ?_ ?_
  · rintro m _ ⟨g, rfl, hg⟩
    exact ⟨fun _ => hK g hg, fun y => absurd (nI_le (Nat.le_refl _) (by omega)) y⟩
  · rintro m q _ hq ⟨g, rfl, hg⟩ ih
    unfold wpX10_copy_L166
    have e1 : (80 : Int32) * nI k + nI i + nI q = nI (80 * k + i + q) := by
      rw [show (80 : Int32) = nI 80 from rfl, pk_mul, nI_add, nI_add]
    have e2 : (80 : Int32) * nI o + nI j + nI q = nI (80 * o + j + q) := by
      rw [show (80 : Int32) = nI 80 from rfl, pk_mul, nI_add, nI_add]
    rw [e1, e2]
    refine ⟨fun y => absurd y (nI_ge hq (by omega)), fun _ => ⟨pb_vin (by omega) (by decide), pb_vin (by omega) (by decide), ?_⟩⟩
    rintro _ rfl _ rfl
    rw [nI_1]
    refine ih _ ⟨upd g (80 * o + j + q) (br 4 (80 * k + i + q)), ?_, fun x => ?_⟩
    · rw [pb_cl (by omega), pb_cl (by omega), va_up2, pb_up, if_pos rfl, hg (80 * k + i + q), if_neg]
      intro y
      have : k = o := by omega
      omega
    · rw [pb_upd]
      by_cases z : x = 80 * o + j + q
      · rw [if_pos z, if_pos (by omega), z]
        congr 1
        omega
      · rw [if_neg z, hg x]
        by_cases z2 : 80 * o + j ≤ x ∧ x < 80 * o + j + q
        · rw [if_pos z2, if_pos (by omega)]
        · rw [if_neg z2, if_neg (by omega)]
/-- the same, from behind: the last q of n cells are there -/
def cpb (f : Nat → Int32) (s d n q : Nat) (g : Nat → Int32) : Prop := ∀ x, g x = if d + n - q ≤ x ∧ x < d + n then f (s + (x - d)) else f x
theorem cp10b {jv : fw_F} {br : fw_R} {k o i j n : Nat} {Q : Int32 → fw_F → fw_R → Prop} {K : Int32 → fw_F → fw_R → Prop} (hk : k < 4) (ho : o < 4) (hi : i + n ≤ 80) (hj : j + n ≤ 80) (hij : i < j) (hK : ∀ g, cpd (br 4) (80 * k + i) (80 * o + j) n g → K (nI n) jv (va_up br 4 g)) : ∃ ku, wpX10_copy_L166_1 (nI k) (nI i) (nI o) (nI j) (nI n) Q K ku 0 jv br := by
  refine pk_loop (σ := fw_R) (fun m q s => wpX10_copy_L166_1 (nI k) (nI i) (nI o) (nI j) (nI n) Q K m (nI q) jv s) (fun q s => ∃ g : Nat → Int32, s = va_up br 4 g ∧ cpb (br 4) (80 * k + i) (80 * o + j) n q g) n 0 br (by omega) ⟨br 4, (va_upS _ _).symm, fun x => by rw [if_neg (by omega)]⟩ ?_ ?_
  · rintro m _ ⟨g, rfl, hg⟩
    refine ⟨fun _ => hK g (fun x => ?_), fun y => absurd (nI_le (Nat.le_refl _) (by omega)) y⟩
    rw [hg x]
    by_cases z2 : 80 * o + j ≤ x ∧ x < 80 * o + j + n
    · rw [if_pos z2, if_pos (by omega)]
    · rw [if_neg z2, if_neg (by omega)]
  · rintro m q _ hq ⟨g, rfl, hg⟩ ih
    unfold wpX10_copy_L166_1
    refine ⟨fun y => absurd y (nI_ge hq (by omega)), fun _ => ?_⟩
    rintro _ rfl
    have e0 : nI n - 1 - nI q = nI (n - 1 - q) := by
      rw [show (1 : Int32) = nI 1 from rfl, pk_sub (by omega), pk_sub (by omega)]
    have e1 : (80 : Int32) * nI k + nI i + nI (n - 1 - q) = nI (80 * k + i + (n - 1 - q)) := by
      rw [show (80 : Int32) = nI 80 from rfl, pk_mul, nI_add, nI_add]
    have e2 : (80 : Int32) * nI o + nI j + nI (n - 1 - q) = nI (80 * o + j + (n - 1 - q)) := by
      rw [show (80 : Int32) = nI 80 from rfl, pk_mul, nI_add, nI_add]
    rw [e0, e1, e2]
    refine ⟨pb_vin (by omega) (by decide), pb_vin (by omega) (by decide), ?_⟩
    rintro _ rfl _ rfl
    rw [nI_1]
    refine ih _ ⟨upd g (80 * o + j + (n - 1 - q)) (br 4 (80 * k + i + (n - 1 - q))), ?_, fun x => ?_⟩
    · rw [pb_cl (by omega), pb_cl (by omega), va_up2, pb_up, if_pos rfl, hg (80 * k + i + (n - 1 - q)), if_neg]
      intro y
      have : k = o := by omega
      omega
    · rw [pb_upd]
      by_cases z : x = 80 * o + j + (n - 1 - q)
      · rw [if_pos z, if_pos (by omega), z]
        congr 1
        omega
      · rw [if_neg z, hg x]
        by_cases z2 : 80 * o + j + n - q ≤ x ∧ x < 80 * o + j + n
        · rw [if_pos z2, if_pos (by omega)]
        · rw [if_neg z2, if_neg (by omega)]
theorem op_copy : lw_o29 Rl := by
  intro kt iv ar jv br hR a1 a2 a3 a4 a5
  unfold pu_copy wpX9_copy wpX10_copy wpX10_fails wpX9_faulted
  simp only [forall_eq, ev9_isSheet, ev10_isSheet]
  have hR0 := Rl_fault hR 0
  have hRf := Rl_fault hR0
  generalize va_up iv 1 0 = iv0 at hR0 hRf ⊢
  generalize va_up jv 0 0 = jv0 at hR0 hRf ⊢
  by_cases p1 : 0 ≤ a1 ∧ a1 ≤ 3
  · by_cases p2 : 0 ≤ a3 ∧ a3 ≤ 3
    · obtain ⟨k, -, hk, rfl⟩ := pb_rng 0 3 rfl rfl (by decide) (by decide) p1
      obtain ⟨o, -, ho, rfl⟩ := pb_rng 0 3 rfl rfl (by decide) (by decide) p2
      have hv := pb_vin (n := k) (N := 4) (by omega) (by decide)
      have hc := pb_cl (n := k) (by omega)
      have h4 : k < 4 := by omega
      have hv' := pb_vin (n := o) (N := 4) (by omega) (by decide)
      have hc' := pb_cl (n := o) (by omega)
      have h4' : o < 4 := by omega
      have hs := hR0.2.2.2.2.1
      simp only [hc, hv, hc', hv']
      rcases rsh_at hs h4 with ⟨e1, e2⟩ | ⟨e1, so, le, b1, b2, c1, c2, c3, c4, c5⟩
      · exact ⟨-11, fun jv1 br1 => jv1 = va_up jv0 0 1 ∧ br1 = br, fun iv1 ar1 => iv1 = va_up iv0 1 1 ∧ ar1 = ar, by rintro _ _ ⟨rfl, rfl⟩ _ _ ⟨rfl, rfl⟩; exact hRf 1, by simp [p1, p2, e1], by simp [p1, p2, e2]⟩
      · have n9 := nI_ne9 (a := so) (by omega)
        rcases rsh_at hs h4' with ⟨e1', e2'⟩ | ⟨e1', so', le', b1', b2', c1', c2', c3', c4', c5'⟩
        · exact ⟨-11, fun jv1 br1 => jv1 = va_up jv0 0 1 ∧ br1 = br, fun iv1 ar1 => iv1 = va_up iv0 1 1 ∧ ar1 = ar, by rintro _ _ ⟨rfl, rfl⟩ _ _ ⟨rfl, rfl⟩; exact hRf 1, by simp [p1, p2, e1, e1'], by simp [p1, p2, c2, n9, e2']⟩
        · have n9' := nI_ne9 (a := so') (by omega)
          simp only [e1, e1', c1, c1', c2, c2', c4, c4']
          by_cases p3 : nI so = nI so'
          · by_cases q5 : a5 < 0
            · refine ⟨-13, fun jv1 br1 => jv1 = va_up jv0 0 3 ∧ br1 = br, fun iv1 ar1 => iv1 = va_up iv0 1 3 ∧ ar1 = ar, by rintro _ _ ⟨rfl, rfl⟩ _ _ ⟨rfl, rfl⟩; exact hRf 3, ?_, ?_⟩
              · simp [p1, p2, p3, q5, h4, h4']
              · simp [p1, p2, p3, n9, n9', q5]
            · obtain ⟨n, hn, rfl⟩ := nI_of q5
              have hN : (nI n).toInt64 = lN n := pb_i2l hn
              have hN2 : (lN n).toInt = n := lN_toInt hn
              simp only [hN, re9 (kt := kt) (ar := ar) (x2 := lN n) c3 b2 (by omega), re9 (kt := kt) (ar := ar) (x2 := lN n) c3' b2' (by omega), hN2]
              by_cases q2 : a2 < 0
              · have : ¬ (0 ≤ a2.toInt ∧ a2.toInt + n ≤ le) := by
                  rw [Int32.lt_iff_toInt_lt, pb_i0] at q2; omega
                refine ⟨-13, fun jv1 br1 => jv1 = va_up jv0 0 3 ∧ br1 = br, fun iv1 ar1 => iv1 = va_up iv0 1 3 ∧ ar1 = ar, by rintro _ _ ⟨rfl, rfl⟩ _ _ ⟨rfl, rfl⟩; exact hRf 3, ?_, ?_⟩
                · simp [p1, p2, p3, q5, h4, h4', this]
                · simp [p1, p2, p3, n9, n9', q5, q2]
              · obtain ⟨i, hi, rfl⟩ := nI_of q2
                rw [nI_toInt hi]
                by_cases q4 : a4 < 0
                · have : ¬ (0 ≤ a4.toInt ∧ a4.toInt + n ≤ le') := by
                    rw [Int32.lt_iff_toInt_lt, pb_i0] at q4; omega
                  refine ⟨-13, fun jv1 br1 => jv1 = va_up jv0 0 3 ∧ br1 = br, fun iv1 ar1 => iv1 = va_up iv0 1 3 ∧ ar1 = ar, by rintro _ _ ⟨rfl, rfl⟩ _ _ ⟨rfl, rfl⟩; exact hRf 3, ?_, ?_⟩
                  · by_cases y : ((0 : Int) ≤ i ∧ (i : Int) + n ≤ le)
                    · simp [p1, p2, p3, q5, h4, h4', this]
                    · simp only [if_neg y]; simp [p1, p2, p3, q5, h4, h4']
                  · simp [p1, p2, p3, n9, n9', q5, q2, q4]
                · obtain ⟨j, hj, rfl⟩ := nI_of q4
                  rw [nI_toInt hj]
                  have d1 : ¬ nI i < 0 := q2
                  have m1 : (nI i ≤ nI le ↔ i ≤ le) := nI_leI hi (by omega)
                  have t1 : (nI le < nI i ↔ le < i) := nI_ltI (by omega) hi
                  have t2 : (nI le' < nI j ↔ le' < j) := nI_ltI (by omega) hj
                  by_cases r1 : i + n ≤ le
                  · have r1' : (0 : Int) ≤ i ∧ (i : Int) + n ≤ le := by omega
                    by_cases r2 : j + n ≤ le'
                    · have r2' : (0 : Int) ≤ j ∧ (j : Int) + n ≤ le' := by omega
                      refine ⟨nI n, fun jv1 br1 => jv1 = jv0 ∧ ∃ g, br1 = va_up br 4 g ∧ cpd (br 4) (80 * k + i) (80 * o + j) n g, fun iv1 ar1 => iv1 = iv0 ∧ ar1 = va_up ar (21 + o) (va_cpy (ar (21 + k)) (ar (21 + o)) i j n), ?_, ?_, ?_⟩
                      · rintro _ _ ⟨rfl, rfl⟩ _ _ ⟨rfl, g, rfl, hg⟩
                        refine Rl_sheet hR0 (fun _ _ => rfl) (fun x h => by rw [pb_up, if_neg (by omega)]) (fun x h => by rw [pb_up, if_neg (by omega)]) (rsh_new (k := o) hs (Or.inr ⟨e1', so', le', b1', b2', c1', ?_, c3', ?_, fun x hx => ?_⟩) (fun x hx hne => ⟨rfl, rfl, rfl, ?_, ?_, ?_, fun y hy => ?_⟩))
                        · rw [pb_up, if_neg (by omega)]; exact c2'
                        · rw [pb_up, if_neg (by omega)]; exact c4'
                        · rw [pb_up, if_pos rfl, pb_up, if_pos rfl, hg]
                          by_cases z : j ≤ x ∧ x < j + n
                          · rw [pk_cpy_in z.1 z.2, if_pos (by omega), c5 _ (by omega)]
                            congr 1
                            omega
                          · rw [pk_cpy_out (by omega), if_neg (by omega)]
                            exact c5' x hx
                        · rw [pb_up, if_neg (by omega)]
                        · rw [pb_up, if_neg (by omega)]
                        · rw [pb_up, if_neg (by omega)]
                        · rw [pb_up, if_pos rfl, hg, if_neg (by omega)]
                      · simp [p1, p2, p3, q5, q2, q4, h4, h4', r1', r2', pb_cl hi, pb_cl hj, pb_cl hn, show i + n ≤ 80 by omega, show j + n ≤ 80 by omega]
                      · have s1 : ¬ nI le < nI i := by rw [t1]; omega
                        have s2 : ¬ nI le' < nI j := by rw [t2]; omega
                        have s3 : ¬ nI le - nI i < nI n := by rw [pk_sub (by omega), nI_ltI (by omega) hn]; omega
                        have s4 : nI n ≤ nI le' - nI j := by rw [pk_sub (by omega), nI_leI hn (by omega)]; omega
                        simp only [p1, p2, p3, n9, n9', q5, q2, q4, s1, s2, s3, s4, and_self, not_true_eq_false, false_implies, true_implies, not_false_eq_true, and_true, true_and, show ((1 : Int32) = 0) = False from by simp]
                        refine ⟨fun y => ?_, fun y => ?_⟩
                        · exact cp10a h4 h4' (by omega) (by omega) ((nI_leI hj hi).mp y) (fun g hg => ⟨rfl, g, rfl, hg⟩)
                        · rw [nI_leI hj hi] at y
                          exact cp10b h4 h4' (by omega) (by omega) (by omega) (fun g hg => ⟨rfl, g, rfl, hg⟩)
                    · have r2' : ¬ ((0 : Int) ≤ j ∧ (j : Int) + n ≤ le') := by omega
                      refine ⟨-13, fun jv1 br1 => jv1 = va_up jv0 0 3 ∧ br1 = br, fun iv1 ar1 => iv1 = va_up iv0 1 3 ∧ ar1 = ar, by rintro _ _ ⟨rfl, rfl⟩ _ _ ⟨rfl, rfl⟩; exact hRf 3, ?_, ?_⟩
                      · simp only [if_pos r1', if_neg r2']; simp [p1, p2, p3, q5, h4, h4']
                      · have s1 : ¬ nI le < nI i := by rw [t1]; omega
                        have s3 : ¬ nI le - nI i < nI n := by rw [pk_sub (by omega), nI_ltI (by omega) hn]; omega
                        by_cases s2 : nI le' < nI j
                        · simp [p1, p2, p3, n9, n9', q5, q2, q4, s1, s2]
                        · have s4 : ¬ nI n ≤ nI le' - nI j := by
                            rw [t2] at s2
                            rw [pk_sub (by omega), nI_leI hn (by omega)]; omega
                          simp [p1, p2, p3, n9, n9', q5, q2, q4, s1, s2, s3, s4]
                  · have r1' : ¬ ((0 : Int) ≤ i ∧ (i : Int) + n ≤ le) := by omega
                    refine ⟨-13, fun jv1 br1 => jv1 = va_up jv0 0 3 ∧ br1 = br, fun iv1 ar1 => iv1 = va_up iv0 1 3 ∧ ar1 = ar, by rintro _ _ ⟨rfl, rfl⟩ _ _ ⟨rfl, rfl⟩; exact hRf 3, ?_, ?_⟩
                    · simp only [if_neg r1']; simp [p1, p2, p3, q5, h4, h4']
                    · by_cases s1 : nI le < nI i
                      · simp [p1, p2, p3, n9, n9', q5, q2, q4, s1]
                      · by_cases s2 : nI le' < nI j
                        · simp [p1, p2, p3, n9, n9', q5, q2, q4, s1, s2]
                        · have s3 : nI le - nI i < nI n := by
                            rw [t1] at s1
                            rw [pk_sub (by omega), nI_ltI (by omega) hn]; omega
                          simp [p1, p2, p3, n9, n9', q5, q2, q4, s1, s2, s3]
          · exact ⟨-12, fun jv1 br1 => jv1 = va_up jv0 0 2 ∧ br1 = br, fun iv1 ar1 => iv1 = va_up iv0 1 2 ∧ ar1 = ar, by rintro _ _ ⟨rfl, rfl⟩ _ _ ⟨rfl, rfl⟩; exact hRf 2, by simp [p1, p2, p3], by simp [p1, p2, p3, n9, n9']⟩
    · exact ⟨-1, fun jv1 br1 => jv1 = jv0 ∧ br1 = br, fun iv1 ar1 => iv1 = iv0 ∧ ar1 = ar, by rintro _ _ ⟨rfl, rfl⟩ _ _ ⟨rfl, rfl⟩; exact hR0, by simp [p1, p2], by simp [p1, p2]⟩
  · exact ⟨-1, fun jv1 br1 => jv1 = jv0 ∧ br1 = br, fun iv1 ar1 => iv1 = iv0 ∧ ar1 = ar, by rintro _ _ ⟨rfl, rfl⟩ _ _ ⟨rfl, rfl⟩; exact hR0, by simp [p1], by simp [p1]⟩
