/-! ===== sheets ===== -/
/-- the FAULT of taking n cells from x3 on as a row of sort x2 -/
def fc (so le : Nat) (x2 x3 : Int32) (n : Int) : Int32 := if ¬ nI so = x2 then 2 else if n < 0 then 4 else if 0 ≤ x3.toInt ∧ x3.toInt + n ≤ le then 0 else 3
theorem pb_l0 : (0 : Int64).toInt = 0 := rfl
theorem pb_i0 : (0 : Int32).toInt = 0 := rfl
theorem re9 {kt : kw_T} {iv : fw_F} {ar : fw_R} {k le : Nat} {x1 : Int32} {x2 : Int64} {Q : Int32 → Prop} (h : iv (17 + k) = nI le) (hle : le ≤ 80) (hn : 0 ≤ x2.toInt) : wpX6_reaches kt iv ar k x1 x2 Q ↔ Q (if 0 ≤ x1.toInt ∧ x1.toInt + x2.toInt ≤ le then 1 else 0) := by
  unfold wpX6_reaches
  rw [ev9_within, h]
  by_cases p : 0 ≤ x1 ∧ x1 ≤ nI le
  · obtain ⟨i, -, hi, rfl⟩ := pb_rng 0 le rfl rfl (by decide) (by omega) p
    have e1 : (nI le - nI i).toInt64 = lN (le - i) := by rw [pk_sub hi, nI_l (by omega)]
    have e2 : (0 < lg_cmp x2 ((nI le - nI i).toInt64)) ↔ ¬ (0 ≤ (nI i).toInt ∧ (nI i).toInt + x2.toInt ≤ le) := by
      rw [lg_cmp_gt, e1, Int64.lt_iff_toInt_lt, lN_toInt (by omega), nI_toInt (by omega)]
      omega
    simp only [p, e2]
    by_cases z : 0 ≤ (nI i).toInt ∧ (nI i).toInt + x2.toInt ≤ le
    · simp [z]
    · rw [if_neg z]; simp [z]
  · have z : ¬ (0 ≤ x1.toInt ∧ x1.toInt + x2.toInt ≤ le) := by
      intro z
      apply p
      rw [Int32.le_iff_toInt_le, Int32.le_iff_toInt_le, nI_toInt (by omega), pb_i0]
      omega
    rw [if_neg z]
    simp [p]
theorem fo9_none {kt : kw_T} {iv : fw_F} {ar : fw_R} {k : Nat} {x1 x2 : Int32} {x3 : Int64} {Q : Int32 → Prop} (h : iv (9 + k) = 0) : wpX6_faultOfTaking kt iv ar k x1 x2 x3 Q ↔ Q 1 := by
  unfold wpX6_faultOfTaking
  simp [h]
theorem fo9_some {kt : kw_T} {iv : fw_F} {ar : fw_R} {k so le : Nat} {x1 x2 : Int32} {x3 : Int64} {Q : Int32 → Prop} (h : iv (9 + k) = 1) (hs : iv (13 + k) = nI so) (hl : iv (17 + k) = nI le) (hle : le ≤ 80) : wpX6_faultOfTaking kt iv ar k x1 x2 x3 Q ↔ Q (fc so le x1 x2 x3.toInt) := by
  unfold wpX6_faultOfTaking fc
  have e0 : (0 ≤ lg_cmp x3 0) ↔ ¬ x3.toInt < 0 := by
    rw [lg_cmp_ge, Int64.le_iff_toInt_le, pb_l0]
    omega
  rw [h, hs]
  by_cases p : nI so = x1
  · by_cases q : x3.toInt < 0
    · simp [p, e0, q]
    · simp only [re9 hl hle (show 0 ≤ x3.toInt by omega), e0]
      by_cases z : 0 ≤ x2.toInt ∧ x2.toInt + x3.toInt ≤ le <;> simp [p, q, z]
  · simp [p]
theorem ag_none {jv : fw_F} {br : fw_R} {k : Nat} {x2 x3 x4 x5 : Int32} {Q : Int32 → Prop} (hk : k < 4) (h : br 2 k = -9) : wpX10_against jv br (nI k) x2 x3 x4 x5 Q ↔ Q 1 := by
  unfold wpX10_against
  simp only [pb_vin (n := k) (N := 4) hk (by decide), pb_cl (n := k) (by omega), h]
  simp
theorem nI_ne9 {a : Nat} (h : a < 2 ^ 31) : ¬ nI a = -9 := by
  intro z
  have := congrArg Int32.toInt z
  rw [nI_toInt h] at this
  have e : (-9 : Int32).toInt = -9 := rfl
  rw [e] at this
  omega
theorem ag_some {jv : fw_F} {br : fw_R} {k so le e : Nat} {x2 x3 x4 : Int32} {Q : Int32 → Prop} (hk : k < 4) (hso : so < 3) (hle : le ≤ 80) (h : br 2 k = nI so) (hl : br 3 k = nI le) (he : e = 1 ∨ e = 2) : wpX10_against jv br (nI k) x2 x3 x4 (nI e) Q ↔ Q (fc so le x2 x3 (e * x4.toInt)) := by
  unfold wpX10_against fc
  have n9 := nI_ne9 (a := so) (by omega)
  have e0 : (0 ≤ x4) ↔ ¬ (e : Int) * x4.toInt < 0 := by
    rw [Int32.le_iff_toInt_le, pb_i0]
    rcases he with rfl | rfl <;> omega
  have ne : ¬ nI e = 0 := by rcases he with rfl | rfl <;> decide
  simp only [pb_vin (n := k) (N := 4) hk (by decide), pb_cl (n := k) (by omega), h, hl, n9, e0, ne, not_false_eq_true, true_and, false_implies, true_implies, and_true, not_true]
  by_cases p : nI so = x2
  · by_cases q : (e : Int) * x4.toInt < 0
    · simp [p, q]
    · have hx4 : 0 ≤ x4.toInt := by rcases he with rfl | rfl <;> omega
      by_cases i0 : x3 < 0
      · have i1 : ¬ (0 ≤ x3.toInt ∧ x3.toInt + (e : Int) * x4.toInt ≤ le) := by
          rw [Int32.lt_iff_toInt_lt, pb_i0] at i0
          omega
        simp [p, q, i0, i1]
      · obtain ⟨i, hi, rfl⟩ := nI_of i0
        rw [nI_ltI (by omega) hi, nI_toInt hi]
        by_cases i2 : le < i
        · have i1 : ¬ (0 ≤ (i : Int) ∧ (i : Int) + (e : Int) * x4.toInt ≤ le) := by omega
          rw [if_neg i1]
          simp [p, q, i0, i2]
        · rw [pk_sub (by omega), pk_div (by omega) (by rcases he with rfl | rfl <;> omega) (by rcases he with rfl | rfl <;> omega)]
          obtain ⟨m, hm, rfl⟩ := nI_of (x := x4) (by rw [Int32.lt_iff_toInt_lt, pb_i0]; omega)
          have hd : (le - i) / e ≤ 80 := Nat.le_trans (Nat.div_le_self _ _) (by omega)
          rw [nI_leI hm (by omega), nI_toInt hm]
          have e3 : (m ≤ (le - i) / e) ↔ ((i : Int) + (e : Int) * (m : Int) ≤ le) := by
            rcases he with rfl | rfl <;> omega
          have e4 : (0 ≤ (i : Int) ∧ (i : Int) + (e : Int) * (m : Int) ≤ le) ↔ ((i : Int) + (e : Int) * (m : Int) ≤ le) := by omega
          have q2 : ¬ (e : Int) * (m : Int) < 0 := by rcases he with rfl | rfl <;> omega
          simp only [e3, e4, i0, i2, p, q2, not_false_eq_true, true_and, false_implies, true_implies, and_true, not_true, if_false]
          by_cases z : (i : Int) + (e : Int) * (m : Int) ≤ le
          · simp [z]
          · have z2 : (le : Int) < (i : Int) + (e : Int) * (m : Int) := by omega
            simp [z, z2]
  · simp [p]
/-! ===== lose, put, cell ===== -/
theorem ag9_s (iv : fw_F) (ar : fw_R) : ag9 iv ar iv ar := ag9_rf
theorem rsh_at {iv : fw_F} {ar br : fw_R} (h : rsh iv ar br) {k : Nat} (hk : k < 4) : (iv (9 + k) = 0 ∧ br 2 k = -9) ∨ (iv (9 + k) = 1 ∧ ∃ so le : Nat, so < 3 ∧ le ≤ 80 ∧ iv (13 + k) = nI so ∧ br 2 k = nI so ∧ iv (17 + k) = nI le ∧ br 3 k = nI le ∧ ∀ i, i < le → ar (21 + k) i = br 4 (80 * k + i)) := h k hk
/-- the FAULT set -/
theorem Rl_fault {kt : kw_T} {iv : fw_F} {ar : fw_R} {jv : fw_F} {br : fw_R} (hR : Rl kt iv ar jv br) (v : Int32) : Rl kt (va_up iv 1 v) ar (va_up jv 0 v) br := by
  unfold Rl rk rh rb rma rsh at *
  simp only [pb_up] at *
  obtain ⟨h1, h2, h3, h4, h5, h6⟩ := hR
  refine ⟨by simpa using h1, by simpa using h2, by simpa using h3, by simpa using h4, fun k hk => ?_, by simpa using h6.1⟩
  have := h5 k hk
  simpa [show ¬ 9 + k = 1 by omega, show ¬ 13 + k = 1 by omega, show ¬ 17 + k = 1 by omega] using this
theorem va_up2 {α : Type} (f : Nat → α) (k : Nat) (v w : α) : va_up (va_up f k v) k w = va_up f k w := by
  funext j
  unfold va_up
  by_cases h : j = k <;> simp [h]
theorem Rl_sheet {kt : kw_T} {iv : fw_F} {ar : fw_R} {jv : fw_F} {br : fw_R} (hR : Rl kt iv ar jv br) {iv1 : fw_F} {ar1 br1 : fw_R} (hi : ∀ k, k < 9 ∨ 21 ≤ k → iv1 k = iv k) (ha : ∀ k, k < 21 ∨ 25 ≤ k → ar1 k = ar k) (hb : ∀ k, k < 2 ∨ 5 ≤ k → br1 k = br k) (hs : rsh iv1 ar1 br1) : Rl kt iv1 ar1 jv br1 := by
  unfold Rl rk rh rb rma at *
  rw [hi 0 (by omega), hi 1 (by omega), hi 2 (by omega), hi 3 (by omega), hi 4 (by omega), hi 5 (by omega), hi 7 (by omega), hi 21 (by omega), ha 3 (by omega), ha 5 (by omega), ha 11 (by omega), ha 12 (by omega), hb 6 (by omega), hb 7 (by omega), hb 8 (by omega), hb 9 (by omega), hb 12 (by omega), hb 18 (by omega), hb 29 (by omega), hb 30 (by omega)]
  exact ⟨hR.1, hR.2.1, hR.2.2.1, hR.2.2.2.1, hs, hR.2.2.2.2.2⟩
theorem op_lose : lw_o26 Rl := by
  intro kt iv ar jv br hR a1
  unfold pu_lose wpX9_lose wpX10_lose
  simp only [ev9_isSheet, ev10_isSheet]
  by_cases p1 : 0 ≤ a1 ∧ a1 ≤ 3
  · obtain ⟨k, -, hk, rfl⟩ := pb_rng 0 3 rfl rfl (by decide) (by decide) p1
    have hs := hR.2.2.2.2.1
    have hv := pb_vin (n := k) (N := 4) (by omega) (by decide)
    have hc := pb_cl (n := k) (by omega)
    have h4 : k < 4 := by omega
    rcases rsh_at hs (show k < 4 by omega) with ⟨e1, e2⟩ | ⟨e1, so, le, b1, b2, c1, c2, c3, c4, c5⟩
    · refine ⟨0, fun jv1 br1 => jv1 = jv ∧ br1 = va_up br 2 (upd (br 2) k (-9)), fun iv1 ar1 => iv1 = iv ∧ ar1 = ar, ?_, ?_, ?_⟩
      · rintro _ _ ⟨rfl, rfl⟩ _ _ ⟨rfl, rfl⟩
        refine Rl_sheet hR (fun _ _ => rfl) (fun _ _ => rfl) (fun k h => by rw [pb_up, if_neg (by omega)]) (fun j hj => ?_)
        have := hs j hj
        simp only [pb_up, pb_upd]
        by_cases z : j = k
        · subst z; simp [e1, pb_upd]
        · simpa [z, pb_upd] using this
      · simp [p1, hv, hc, e1]
      · simp [p1, hv, hc, e2]
    · have n9 := nI_ne9 (a := so) (by omega)
      refine ⟨1, fun jv1 br1 => jv1 = jv ∧ br1 = va_up br 2 (upd (br 2) k (-9)), fun iv1 ar1 => iv1 = va_up iv (9 + k) 0 ∧ ar1 = ar, ?_, ?_, ?_⟩
      · rintro _ _ ⟨rfl, rfl⟩ _ _ ⟨rfl, rfl⟩
        refine Rl_sheet hR (fun j h => by rw [pb_up, if_neg (by omega)]) (fun _ _ => rfl) (fun k h => by rw [pb_up, if_neg (by omega)]) (fun j hj => ?_)
        have := hs j hj
        simp only [pb_up, pb_upd]
        by_cases z : j = k
        · subst z; simp [pb_upd]
        · have z1 : ¬ 9 + j = 9 + k := by omega
          have z2 : ¬ 13 + j = 9 + k := by omega
          have z3 : ¬ 17 + j = 9 + k := by omega
          simpa [z, z1, z2, z3, pb_upd] using this
      · simp [p1, hv, hc, e1, h4]
      · simp [p1, hv, hc, c2, n9]
  · exact ⟨-1, fun jv1 br1 => jv1 = jv ∧ br1 = br, fun iv1 ar1 => iv1 = iv ∧ ar1 = ar, by rintro _ _ ⟨rfl, rfl⟩ _ _ ⟨rfl, rfl⟩; exact hR, by simp [p1], by simp [p1]⟩
