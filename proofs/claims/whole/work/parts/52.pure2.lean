/-! ===== the hand ===== -/
def wt (W : Nat → Nat) (row k st : Nat) : Nat := if k = 2 then W (5 * row + k) else min 9 (W (5 * row + k) + st)
theorem wt_le {W : Nat → Nat} {row k st : Nat} (hW : ∀ j, j < 15 → W j ≤ 9) (hr : row < 3) (hk : k < 5) : wt W row k st ≤ 9 := by
  have := hW (5 * row + k) (by omega)
  unfold wt
  split <;> omega
theorem we9 {kt : kw_T} {iv : fw_F} {ar : fw_R} {W : Nat → Nat} {row k st : Nat} {Q : Int32 → Prop} (hW : ∀ j, j < 15 → W j ≤ 9) (ha : ∀ j, j < 15 → ar 3 j = nI (W j)) (hr : row < 3) (hk : k < 5) (hs : st ≤ 9) : wpX1_weighs kt iv ar (nI row) (nI k - 2) (nI st) Q ↔ Q (nI (wt W row k st)) := by
  unfold wpX1_weighs
  have e1 : ((5 * nI row) + (nI k - 2)) + 2 = nI (5 * row + k) := by
    rw [← nI_add, ← pk_mul, show nI 5 = 5 from rfl]
    grind
  have h9 := hW (5 * row + k) (by omega)
  have e2 : (nI k - 2 = 0) ↔ k = 2 := by
    rw [← nI_eq (a := k) (b := 2) (by omega) (by omega), show nI 2 = 2 from rfl]
    constructor <;> intro h <;> grind
  rw [e1]
  simp only [pb_vin (show 5 * row + k < 15 by omega) (by decide), pb_cl (show 5 * row + k < 2 ^ 31 by omega), ha _ (show 5 * row + k < 15 by omega), e2, forall_eq, true_and, nI_add]
  have e3 : (nI (W (5 * row + k) + st) < 9) ↔ W (5 * row + k) + st < 9 := nI_ltI (b := 9) (by omega) (by omega)
  unfold wt
  by_cases c : k = 2
  · simp [c]
  · by_cases z : W (5 * row + k) + st < 9
    · simp [c, e3, z, show min 9 (W (5 * row + k) + st) = W (5 * row + k) + st by omega]
    · simp [c, e3, z, show min 9 (W (5 * row + k) + st) = 9 by omega]; rfl
theorem we10 {jv : fw_F} {br : fw_R} {W : Nat → Nat} {row k st : Nat} {Q : Int32 → Prop} (hW : ∀ j, j < 15 → W j ≤ 9) (ha : ∀ j, j < 15 → br 12 j = nI (W j)) (hr : row < 3) (hk : k < 5) (hs : st ≤ 9) : wpX10_weightOf jv br (nI row) (nI k) (nI st) Q ↔ Q (nI (wt W row k st)) := by
  unfold wpX10_weightOf
  have e1 : (5 * nI row) + nI k = nI (5 * row + k) := by
    rw [← nI_add, ← pk_mul, show nI 5 = 5 from rfl]
  have h9 := hW (5 * row + k) (by omega)
  have e2 : (nI k = 2) ↔ k = 2 := nI_eq (a := k) (b := 2) (by omega) (by omega)
  rw [e1]
  simp only [pb_vin (show 5 * row + k < 15 by omega) (by decide), pb_cl (show 5 * row + k < 2 ^ 31 by omega), ha _ (show 5 * row + k < 15 by omega), e2, forall_eq, true_and, nI_add]
  have e3 : (nI (W (5 * row + k) + st) ≤ 9) ↔ W (5 * row + k) + st ≤ 9 := nI_leI (b := 9) (by omega) (by omega)
  unfold wt
  by_cases c : k = 2
  · simp [c]
  · by_cases z : W (5 * row + k) + st ≤ 9
    · simp [c, e3, z, show min 9 (W (5 * row + k) + st) = W (5 * row + k) + st by omega]
    · simp [c, e3, z, show min 9 (W (5 * row + k) + st) = 9 by omega]; rfl
def sg (T n : Nat) : Nat := if T = 0 then 0 else min 9 (n / T)
theorem sg_le {T n : Nat} : sg T n ≤ 9 := by unfold sg; split <;> omega
theorem st9 {kt : kw_T} {iv : fw_F} {ar : fw_R} {T n : Nat} {Q : Int32 → Prop} (hT : T ≤ 9) (h : iv 3 = nI T) (hn : n < 2 ^ 31) : wpX1_stageOf kt iv ar (nI n) Q ↔ Q (nI (sg T n)) := by
  unfold wpX1_stageOf sg
  rw [h, show (1 : Int32) = nI 1 from rfl, nI_leI (by omega) (by omega), show (nI T = 0) ↔ T = 0 from nI_eq (b := 0) (by omega) (by omega)]
  by_cases c : T = 0
  · simp [c]; rfl
  · have h1 : n / T ≤ n := Nat.div_le_self n T
    rw [pk_div hn (by omega) (by omega)]
    have e3 : (nI (n / T) < 9) ↔ n / T < 9 := nI_ltI (b := 9) (by omega) (by omega)
    by_cases z : n / T < 9
    · simp [show 1 ≤ T by omega, c, e3, z, show min 9 (n / T) = n / T by omega]
    · simp [show 1 ≤ T by omega, c, e3, z, show min 9 (n / T) = 9 by omega]; rfl
theorem st10 {jv : fw_F} {br : fw_R} {T n : Nat} {Q : Int32 → Prop} (hT : T ≤ 9) (h : jv 11 = nI T) (hn : n < 2 ^ 31) : wpX10_stageOf jv br (nI n) Q ↔ Q (nI (sg T n)) := by
  unfold wpX10_stageOf sg
  rw [h, show (nI T = 0) ↔ T = 0 from nI_eq (b := 0) (by omega) (by omega)]
  by_cases c : T = 0
  · simp [c]; rfl
  · have h1 : n / T ≤ n := Nat.div_le_self n T
    rw [pk_div hn (by omega) (by omega)]
    have e3 : (nI (n / T) ≤ 9) ↔ n / T ≤ 9 := nI_leI (b := 9) (by omega) (by omega)
    have e4 : (9 < nI (n / T)) ↔ 9 < n / T := nI_ltI (a := 9) (by omega) (by omega)
    by_cases z : n / T ≤ 9
    · have z2 : ¬ 9 < n / T := by omega
      simp [c, e3, e4, z, z2, show min 9 (n / T) = n / T by omega]
    · have z2 : 9 < n / T := by omega
      simp [c, e3, e4, z, z2, show min 9 (n / T) = 9 by omega]; rfl
theorem to_cases {to : Nat} (h : to ≤ 1) : (nI to = 0 ↔ to = 0) := nI_eq (b := 0) (by omega) (by omega)
theorem op_weight : lw_o6 Rl := by
  intro kt iv ar jv br hR a1 a2 a3
  obtain ⟨-, ⟨to, T, W, h1, h2, h3, h4, h5, h6, h7, h8⟩, -⟩ := id hR
  unfold pu_weight wpX9_weight wpX10_weight
  simp only [ev9_within, ev10_within, ev9_isStage, ev10_isStage, h2, h3]
  by_cases p1 : 0 ≤ a1 ∧ a1 ≤ 2
  · by_cases p2 : -2 ≤ a2 ∧ a2 ≤ 2
    · by_cases p3 : 0 ≤ a3 ∧ a3 ≤ 9
      · by_cases p4 : to = 0
        · exact ⟨-3, hR, by simp [p1, p2, p3, p4, show nI 0 = 0 from rfl], by simp [p1, p2, p3, p4, show nI 0 = 0 from rfl]⟩
        · obtain ⟨row, -, hr, rfl⟩ := pb_rng 0 2 rfl rfl (by decide) (by decide) p1
          obtain ⟨st, -, hs, rfl⟩ := pb_rng 0 9 rfl rfl (by decide) (by decide) p3
          obtain ⟨k, -, hk, ek⟩ := pb_rng (x := a2 + 2) (xa := 0) (xc := 4) 0 4 rfl rfl (by decide) (by decide) (by clear h7 h8; grind)
          have e2 : a2 = nI k - 2 := by grind
          have e3 : nI to ≠ 0 := fun z => p4 ((to_cases h1).mp z)
          refine ⟨nI (wt W row k st), hR, ?_, ?_⟩
          · simp only [p1, p2, p3, e3]
            simp
            rw [e2, we9 (fun j hj => (h7 j hj).1) (fun j hj => (h7 j hj).2.1) (by omega) (by omega) (by omega)]
          · simp only [p1, p2, p3, e3]
            simp
            rw [ek, we10 (fun j hj => (h7 j hj).1) (fun j hj => (h7 j hj).2.2) (by omega) (by omega) (by omega)]
      · exact ⟨-2, hR, by simp [p1, p2, p3], by simp [p1, p2, p3]⟩
    · exact ⟨-2, hR, by simp [p1, p2], by simp [p1, p2]⟩
  · exact ⟨-1, hR, by simp [p1], by simp [p1]⟩
theorem op_stage : lw_o7 Rl := by
  intro kt iv ar jv br hR a1
  obtain ⟨-, ⟨to, T, W, h1, h2, h3, h4, h5, h6, h7, h8⟩, -⟩ := id hR
  unfold pu_stage wpX9_stage wpX10_stage
  simp only [ev9_within, ev10_within, h2, h3]
  by_cases p1 : 0 ≤ a1 ∧ a1 ≤ 9999
  · by_cases p4 : to = 0
    · exact ⟨-3, hR, by simp [p1, p4, show nI 0 = 0 from rfl], by simp [p1, p4, show nI 0 = 0 from rfl]⟩
    · obtain ⟨n, -, hn, rfl⟩ := pb_rng 0 9999 rfl rfl (by decide) (by decide) p1
      have e3 : nI to ≠ 0 := fun z => p4 ((to_cases h1).mp z)
      refine ⟨nI (sg T n), hR, ?_, ?_⟩
      · simp only [p1, e3]
        simp
        rw [st9 h4 h5 (by omega)]
      · simp only [p1, e3]
        simp
        rw [st10 h4 h6 (by omega)]
  · exact ⟨-2, hR, by simp [p1], by simp [p1]⟩
