/-! ===== taking cells ===== -/
theorem fc0 {so le : Nat} {x2 x3 : Int32} {N : Int} (h : fc so le x2 x3 N = 0) : x2 = nI so ∧ ∃ i n : Nat, i + n ≤ le ∧ x3 = nI i ∧ N = n ∧ i < 2 ^ 31 := by
  unfold fc at h
  by_cases a : ¬ nI so = x2
  · rw [if_pos a] at h; exact absurd h (by decide)
  · rw [if_neg a] at h
    by_cases b : N < 0
    · rw [if_pos b] at h; exact absurd h (by decide)
    · rw [if_neg b] at h
      by_cases c : 0 ≤ x3.toInt ∧ x3.toInt + N ≤ le
      · obtain ⟨i, hi, rfl⟩ := nI_of (x := x3) (by rw [Int32.lt_iff_toInt_lt, pb_i0]; omega)
        rw [nI_toInt (by omega)] at c
        exact ⟨(Classical.not_not.mp a).symm, i, N.toNat, by omega, rfl, by omega, hi⟩
      · rw [if_neg c] at h; exact absurd h (by decide)
theorem fc1 {so le i n : Nat} {N : Int} (hle : le ≤ 80) (h : i + n ≤ le) (hN : N = n) : fc so le (nI so) (nI i) N = 0 := by
  unfold fc
  rw [if_neg (by simp), if_neg (by omega), if_pos]
  rw [nI_toInt (by omega)]
  omega
theorem tk9_none {kt : kw_T} {iv : fw_F} {ar : fw_R} {k : Nat} {x2 x3 : Int32} {x4 : Int64} {Q : Int32 → fw_F → fw_R → Prop} (hk : k < 4) (h : iv (9 + k) = 0) : wpX9_takeCells kt iv ar (nI k) x2 x3 x4 Q ↔ Q (-11) (va_up iv 1 1) ar := by
  unfold wpX9_takeCells wpX9_faulted
  have p1 : 0 ≤ nI k ∧ nI k ≤ 3 := pb_in (a := 0) (c := 3) rfl rfl (by decide) (by omega) (by omega)
  have hv := pb_vin (n := k) (N := 4) hk (by decide)
  simp only [ev9_isSheet, pb_cl (show k < 2 ^ 31 by omega), forall_eq, fo9_none h]
  simp [p1, hv, hk]
theorem tk9_bad {kt : kw_T} {iv : fw_F} {ar : fw_R} {k so le : Nat} {x2 x3 : Int32} {x4 : Int64} {Q : Int32 → fw_F → fw_R → Prop} (hk : k < 4) (h : iv (9 + k) = 1) (hs : iv (13 + k) = nI so) (hl : iv (17 + k) = nI le) (hle : le ≤ 80) (hf : ¬ fc so le x2 x3 x4.toInt = 0) : wpX9_takeCells kt iv ar (nI k) x2 x3 x4 Q ↔ Q (-10 - fc so le x2 x3 x4.toInt) (va_up iv 1 (fc so le x2 x3 x4.toInt)) ar := by
  unfold wpX9_takeCells wpX9_faulted
  have p1 : 0 ≤ nI k ∧ nI k ≤ 3 := pb_in (a := 0) (c := 3) rfl rfl (by decide) (by omega) (by omega)
  have hv := pb_vin (n := k) (N := 4) hk (by decide)
  simp only [ev9_isSheet, pb_cl (show k < 2 ^ 31 by omega), forall_eq, fo9_some h hs hl hle]
  simp [p1, hv, hk, hf]
theorem tk9_ok {kt : kw_T} {iv : fw_F} {ar : fw_R} {k so le i n : Nat} {Q : Int32 → fw_F → fw_R → Prop} (hk : k < 4) (h : iv (9 + k) = 1) (hs : iv (13 + k) = nI so) (hl : iv (17 + k) = nI le) (hle : le ≤ 80) (hi : i + n ≤ le) : wpX9_takeCells kt iv ar (nI k) (nI so) (nI i) (lN n) Q ↔ Q 0 iv (va_up ar 25 (va_cpy (ar (21 + k)) (ar 25) i 0 n)) := by
  unfold wpX9_takeCells
  have p1 : 0 ≤ nI k ∧ nI k ≤ 3 := pb_in (a := 0) (c := 3) rfl rfl (by decide) (by omega) (by omega)
  have hv := pb_vin (n := k) (N := 4) hk (by decide)
  have f0 := fc1 (so := so) (le := le) (i := i) (n := n) (N := (lN n).toInt) hle hi (lN_toInt (by omega))
  have n1 : ¬ nI i < 0 := by
    rw [show (0 : Int32) = nI 0 from rfl, nI_ltI (by omega) (by omega)]; omega
  have n2 : ¬ nI n < 0 := by
    rw [show (0 : Int32) = nI 0 from rfl, nI_ltI (by omega) (by omega)]; omega
  simp only [ev9_isSheet, pb_cl (show k < 2 ^ 31 by omega), pb_cl (show i < 2 ^ 31 by omega), forall_eq, fo9_some h hs hl hle, f0, lN_i, pb_cl (show n < 2 ^ 31 by omega)]
  simp [p1, hv, hk, n1, n2, show i + n ≤ 80 by omega, show n ≤ 80 by omega]
theorem Rl_taken {kt : kw_T} {iv : fw_F} {ar : fw_R} {jv : fw_F} {br : fw_R} (hR : Rl kt iv ar jv br) (g : Nat → Int32) : Rl kt iv (va_up ar 25 g) jv br := by
  refine Rl_ag hR ⟨fun _ _ _ => rfl, fun k h1 h2 h3 h4 h5 h6 h7 h8 => ?_⟩ ag10_rf
  rw [pb_up, if_neg h7]
theorem op_cell : lw_o28 Rl := by
  intro kt iv ar jv br hR a1 a2 a3
  unfold pu_cell wpX9_cell wpX10_cell wpX10_lost
  simp only [forall_eq, rs9, ev10_isSheet, ev10_isSort]
  have hR0 := Rl_fault hR 0
  have hRf := Rl_fault hR0
  generalize va_up iv 1 0 = iv0 at hR0 hRf ⊢
  generalize va_up jv 0 0 = jv0 at hR0 hRf ⊢
  by_cases p1 : 0 ≤ a1 ∧ a1 ≤ 3
  · by_cases p2 : 0 ≤ a3 ∧ a3 ≤ 2
    · obtain ⟨k, -, hk, rfl⟩ := pb_rng 0 3 rfl rfl (by decide) (by decide) p1
      have hv := pb_vin (n := k) (N := 4) (by omega) (by decide)
      have hc := pb_cl (n := k) (by omega)
      have h4 : k < 4 := by omega
      have hs := hR0.2.2.2.2.1
      simp only [hc, hv]
      rcases rsh_at hs h4 with ⟨e1, e2⟩ | ⟨e1, so, le, b1, b2, c1, c2, c3, c4, c5⟩
      · simp only [tk9_none h4 e1]
        exact ⟨-9223372036854775808, fun jv1 br1 => jv1 = va_up jv0 0 1 ∧ br1 = br, fun iv1 ar1 => iv1 = va_up iv0 1 1 ∧ ar1 = ar, by rintro _ _ ⟨rfl, rfl⟩ _ _ ⟨rfl, rfl⟩; exact hRf 1, by simp [p1, p2], by simp [p1, p2, e2]⟩
      · have n9 := nI_ne9 (a := so) (by omega)
        simp only [c2, c4, ev10_within]
        by_cases p3 : nI so = a3
        · subst p3
          by_cases p4 : 0 ≤ a2 ∧ a2 ≤ nI le - 1
          · have p4' := p4
            obtain ⟨i, hi, rfl⟩ := (pb_lt1 (by omega)).mp p4
            have ei : (80 : Int32) * nI k + nI i = nI (80 * k + i) := by
              rw [show (80 : Int32) = nI 80 from rfl, pk_mul, nI_add]
            rw [show (1 : Int64) = lN 1 from rfl]
            simp only [tk9_ok h4 e1 c1 c3 b2 (show i + 1 ≤ le by omega), ei, pb_cl (show 80 * k + i < 2 ^ 31 by omega)]
            have hvi := pb_vin (n := 80 * k + i) (N := 320) (by omega) (by decide)
            have hv0 : vp_in (0 : Int32) 80 := pb_vin (n := 0) (by omega) (by decide)
            have ec : va_cpy (ar (21 + k)) (ar 25) i 0 1 0 = br 4 (80 * k + i) := by
              rw [pk_cpy_in (by omega) (by omega)]
              exact c5 i hi
            have e0 : (0 : Int32).toNatClampNeg = 0 := rfl
            have eu : va_up ar 25 (va_cpy (ar (21 + k)) (ar 25) i 0 1) 25 = va_cpy (ar (21 + k)) (ar 25) i 0 1 := by rw [pb_up, if_pos rfl]
            refine ⟨(br 4 (80 * k + i)).toInt64, fun jv1 br1 => jv1 = jv0 ∧ br1 = br, fun iv1 ar1 => iv1 = iv0 ∧ ar1 = va_up ar 25 (va_cpy (ar (21 + k)) (ar 25) i 0 1), by rintro _ _ ⟨rfl, rfl⟩ _ _ ⟨rfl, rfl⟩; exact Rl_taken hR0 _, ?_, ?_⟩
            · simp [p1, p2, hv0, e0, eu, ec]
            · simp [p1, p2, n9, p4', hvi]
          · have f3 : fc so le (nI so) a2 (1 : Int64).toInt = 3 := by
              unfold fc
              rw [if_neg (by simp), if_neg (by decide), if_neg]
              intro y
              rw [show (1 : Int64).toInt = 1 from rfl] at y
              refine p4 ((pb_lt1 (by omega)).mpr ?_)
              obtain ⟨i, hi, rfl⟩ := nI_of (x := a2) (by rw [Int32.lt_iff_toInt_lt, pb_i0]; omega)
              rw [nI_toInt (by omega)] at y
              exact ⟨i, by omega, rfl⟩
            simp only [tk9_bad (kt := kt) (ar := ar) (x2 := nI so) (x3 := a2) (x4 := 1) h4 e1 c1 c3 b2 (by rw [f3]; decide), f3]
            exact ⟨-9223372036854775808, fun jv1 br1 => jv1 = va_up jv0 0 3 ∧ br1 = br, fun iv1 ar1 => iv1 = va_up iv0 1 3 ∧ ar1 = ar, by rintro _ _ ⟨rfl, rfl⟩ _ _ ⟨rfl, rfl⟩; exact hRf 3, by simp [p1, p2], by simp [p1, p2, n9, p4]⟩
        · have f2 : fc so le a3 a2 (1 : Int64).toInt = 2 := by unfold fc; rw [if_pos p3]
          simp only [tk9_bad (kt := kt) (ar := ar) (x2 := a3) (x3 := a2) (x4 := 1) h4 e1 c1 c3 b2 (by rw [f2]; decide), f2]
          exact ⟨-9223372036854775808, fun jv1 br1 => jv1 = va_up jv0 0 2 ∧ br1 = br, fun iv1 ar1 => iv1 = va_up iv0 1 2 ∧ ar1 = ar, by rintro _ _ ⟨rfl, rfl⟩ _ _ ⟨rfl, rfl⟩; exact hRf 2, by simp [p1, p2], by simp [p1, p2, n9, p3]⟩
    · exact ⟨-9223372036854775808, fun jv1 br1 => jv1 = jv0 ∧ br1 = br, fun iv1 ar1 => iv1 = iv0 ∧ ar1 = ar, by rintro _ _ ⟨rfl, rfl⟩ _ _ ⟨rfl, rfl⟩; exact hR0, by simp [p1, p2], by simp [p1, p2]⟩
  · exact ⟨-9223372036854775808, fun jv1 br1 => jv1 = jv0 ∧ br1 = br, fun iv1 ar1 => iv1 = iv0 ∧ ar1 = ar, by rintro _ _ ⟨rfl, rfl⟩ _ _ ⟨rfl, rfl⟩; exact hR0, by simp [p1], by simp [p1]⟩
