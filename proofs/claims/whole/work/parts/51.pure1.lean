/-! ===== knives, cells: which there are ===== -/
theorem pb_lt1 {x : Int32} {n : Nat} (hn : n < 2 ^ 30) : (0 ≤ x ∧ x ≤ nI n - 1) ↔ ∃ i, i < n ∧ x = nI i := by
  constructor
  · intro ⟨h1, h2⟩
    have h0 : ¬ x < 0 := by grind
    obtain ⟨j, hj, rfl⟩ := nI_of h0
    refine ⟨j, ?_, rfl⟩
    rw [show (1 : Int32) = nI 1 from rfl, Int32.le_iff_toInt_le, pk_sub_toInt hn (by decide), nI_toInt hj] at h2
    omega
  · rintro ⟨i, hi, rfl⟩
    refine ⟨nI_pos' (by omega), ?_⟩
    rw [show (1 : Int32) = nI 1 from rfl, Int32.le_iff_toInt_le, pk_sub_toInt hn (by decide), nI_toInt (by omega)]
    omega
theorem pb_lt2 {x : Int32} {n : Nat} (hn : n < 2 ^ 31) : (¬ x < 0 ∧ ¬ nI n ≤ x) ↔ ∃ i, i < n ∧ x = nI i := by
  constructor
  · intro ⟨h1, h2⟩
    obtain ⟨j, hj, rfl⟩ := nI_of h1
    rw [nI_leI hn hj] at h2
    exact ⟨j, by omega, rfl⟩
  · rintro ⟨i, hi, rfl⟩
    rw [nI_leI hn (by omega)]
    exact ⟨nI_pos (by omega), by omega⟩
theorem kn9_yes {kt : kw_T} {iv : fw_F} {ar : fw_R} {n i : Nat} {Q : Option Nat → Prop} (hn : n ≤ 6) (h0 : iv 0 = nI n) (hk : kt.1 = n) (hi : i < n) : wpX9_knifeAt kt iv ar (nI i) Q ↔ Q (some i) := by
  unfold wpX9_knifeAt
  rw [ev9_within, h0, pb_lt1 (by omega)]
  have hx : ∃ j, j < n ∧ nI i = nI j := ⟨i, hi, rfl⟩
  have hv : vp_in (nI i) 6 := pb_vin (by omega) (by decide)
  have hik : i < kt.1 := by omega
  simp only [hx, hv, pb_cl (show i < 2 ^ 31 by omega)]
  simp [hik]
theorem kA_yes {kt : kw_T} {iv : fw_F} {ar : fw_R} {n i : Nat} {A : Prop} {B : Nat → Prop} (hn : n ≤ 6) (h0 : iv 0 = nI n) (hk : kt.1 = n) (hi : i < n) : wpX9_knifeAt kt iv ar (nI i) (fun r1 => (r1 = none → A) ∧ (∀ j : Nat, r1 = some j → j < kt.1 ∧ B j)) ↔ B i := by
  rw [kn9_yes hn h0 hk hi]
  have hik : i < kt.1 := by omega
  simp [hik]
theorem kn9_no {kt : kw_T} {iv : fw_F} {ar : fw_R} {n : Nat} {x : Int32} {Q : Option Nat → Prop} (hn : n ≤ 6) (h0 : iv 0 = nI n) (hx : ¬ ∃ i, i < n ∧ x = nI i) : wpX9_knifeAt kt iv ar x Q ↔ Q none := by
  unfold wpX9_knifeAt
  rw [ev9_within, h0, pb_lt1 (by omega)]
  simp only [hx]
  simp
theorem kA_no {kt : kw_T} {iv : fw_F} {ar : fw_R} {n : Nat} {x : Int32} {A : Prop} {B : Nat → Prop} (hn : n ≤ 6) (h0 : iv 0 = nI n) (hx : ¬ ∃ i, i < n ∧ x = nI i) : wpX9_knifeAt kt iv ar x (fun r1 => (r1 = none → A) ∧ (∀ j : Nat, r1 = some j → j < kt.1 ∧ B j)) ↔ A := by
  rw [kn9_no hn h0 hx]
  simp
theorem kn10_yes {jv : fw_F} {br : fw_R} {n i : Nat} {Q : Int32 → Prop} (hn : n ≤ 6) (h0 : jv 5 = nI n) (hi : i < n) : wpX10_isKnife jv br (nI i) Q ↔ Q 1 := by
  unfold wpX10_isKnife
  have hx := (pb_lt2 (x := nI i) (n := n) (by omega)).mpr ⟨i, hi, rfl⟩
  rw [h0]
  simp [hx.1, hx.2]
theorem kn10_no {jv : fw_F} {br : fw_R} {n : Nat} {x : Int32} {Q : Int32 → Prop} (hn : n ≤ 6) (h0 : jv 5 = nI n) (hx : ¬ ∃ i, i < n ∧ x = nI i) : wpX10_isKnife jv br x Q ↔ Q 0 := by
  unfold wpX10_isKnife
  rw [← pb_lt2 (x := x) (n := n) (by omega)] at hx
  rw [h0]
  by_cases h1 : x < 0
  · simp [h1]
  · have h2 : nI n ≤ x := by
      by_cases z : nI n ≤ x
      · exact z
      · exact absurd ⟨h1, z⟩ hx
    simp [h1, h2]
theorem ce9_yes {kt : kw_T} {iv : fw_F} {ar : fw_R} {h w c : Nat} {Q : Int32 → Prop} (hh : h ≤ 6) (hw : w ≤ 6) (e1 : iv 4 = nI h) (e2 : iv 5 = nI w) (hc : c < h * w) : wpX0_knows kt iv ar (nI c) Q ↔ Q 1 := by
  have h36 : h * w ≤ 36 := Nat.mul_le_mul hh hw
  unfold wpX0_knows wpX0_count
  dsimp only
  rw [ev9_within, e1, e2, pk_mul, pb_lt1 (by omega)]
  have hx : ∃ j, j < h * w ∧ nI c = nI j := ⟨c, hc, rfl⟩
  simp only [hx]
  simp
theorem ce9_no {kt : kw_T} {iv : fw_F} {ar : fw_R} {h w : Nat} {x : Int32} {Q : Int32 → Prop} (hh : h ≤ 6) (hw : w ≤ 6) (e1 : iv 4 = nI h) (e2 : iv 5 = nI w) (hx : ¬ ∃ c, c < h * w ∧ x = nI c) : wpX0_knows kt iv ar x Q ↔ Q 0 := by
  have h36 : h * w ≤ 36 := Nat.mul_le_mul hh hw
  unfold wpX0_knows wpX0_count
  dsimp only
  rw [ev9_within, e1, e2, pk_mul, pb_lt1 (by omega)]
  simp only [hx]
  simp
theorem ce10_yes {jv : fw_F} {br : fw_R} {h w c : Nat} {Q : Int32 → Prop} (hh : h ≤ 6) (hw : w ≤ 6) (e1 : jv 16 = nI h) (e2 : jv 17 = nI w) (hc : c < h * w) : wpX10_isCell jv br (nI c) Q ↔ Q 1 := by
  have h36 : h * w ≤ 36 := Nat.mul_le_mul hh hw
  unfold wpX10_isCell
  have hx := (pb_lt2 (x := nI c) (n := h * w) (by omega)).mpr ⟨c, hc, rfl⟩
  rw [e1, e2, pk_mul]
  simp [hx.1, hx.2]
theorem ce10_no {jv : fw_F} {br : fw_R} {h w : Nat} {x : Int32} {Q : Int32 → Prop} (hh : h ≤ 6) (hw : w ≤ 6) (e1 : jv 16 = nI h) (e2 : jv 17 = nI w) (hx : ¬ ∃ c, c < h * w ∧ x = nI c) : wpX10_isCell jv br x Q ↔ Q 0 := by
  have h36 : h * w ≤ 36 := Nat.mul_le_mul hh hw
  unfold wpX10_isCell
  rw [← pb_lt2 (x := x) (n := h * w) (by omega)] at hx
  rw [e1, e2, pk_mul]
  by_cases h1 : x < 0
  · simp [h1]
  · have h2 : nI (h * w) ≤ x := by
      by_cases z : nI (h * w) ≤ x
      · exact z
      · exact absurd ⟨h1, z⟩ hx
    simp [h1, h2]
/-! ===== the small calls ===== -/
theorem op_trace : lw_o33 Rl := by
  intro kt iv ar jv br hR
  exact ⟨iv 21, hR, rfl, hR.2.2.2.2.2.1.symm⟩
theorem op_fault : lw_o34 Rl := by
  intro kt iv ar jv br hR
  exact ⟨iv 1, hR, rfl, hR.2.2.2.2.2.2.symm⟩
theorem op_many : lw_o35 Rl := by
  intro kt iv ar jv br hR a1
  obtain ⟨⟨n, kd, pc, tn, bd, hk⟩, ⟨to, T, W, hh⟩, ⟨h, w, L, hb⟩, ⟨m, f, c, hm⟩, -⟩ := id hR
  have e0 := hk.2.2.1.trans hk.2.2.2.1.symm
  have e4 := hb.2.2.2.1.trans hb.2.2.2.2.2.1.symm
  have e5 := hb.2.2.2.2.1.trans hb.2.2.2.2.2.2.1.symm
  have e7 := hm.2.1.trans hm.2.2.1.symm
  have e3 := hh.2.2.2.2.1.trans hh.2.2.2.2.2.1.symm
  unfold pu_many wpX9_many wpX10_many wpX0_count
  rw [← e0, ← e4, ← e5, ← e7, ← e3]
  by_cases c0 : a1 = 0
  · exact ⟨_, hR, by simp [c0]; rfl, by simp [c0]⟩
  by_cases c1 : a1 = 1
  · exact ⟨_, hR, by simp [c1]; rfl, by simp [c1]⟩
  by_cases c2 : a1 = 2
  · exact ⟨_, hR, by simp [c2]; rfl, by simp [c2]⟩
  by_cases c3 : a1 = 3
  · exact ⟨_, hR, by simp [c3]; rfl, by simp [c3]⟩
  by_cases c4 : a1 = 4
  · exact ⟨_, hR, by simp [c4]; rfl, by simp [c4]⟩
  by_cases c5 : a1 = 5
  · exact ⟨_, hR, by simp [c5]; rfl, by simp [c5]⟩
  · exact ⟨-2, hR, by simp [c0, c1, c2, c3, c4, c5], by simp [c0, c1, c2, c3, c4, c5]⟩
theorem op_ofKnife : lw_o1 Rl := by
  intro kt iv ar jv br hR a1 a2
  obtain ⟨⟨n, kd, pc, tn, bd, hn, h1, h2, h3, hk⟩, -⟩ := id hR
  unfold pu_ofKnife wpX9_ofKnife wpX10_ofKnife
  by_cases hx : ∃ i, i < n ∧ a1 = nI i
  · obtain ⟨i, hi, rfl⟩ := hx
    obtain ⟨b, ⟨c0, c1, c2, c3, c4, c5, -⟩, d0, d1, d2, d3⟩ := hk i hi
    simp only [kA_yes hn h2 h1 hi, kn10_yes hn h3 hi]
    have hv := pb_vin (n := i) (N := 6) (by omega) (by decide)
    have hc := pb_cl (n := i) (by omega)
    unfold wpX3_kindNumber wpX2_kindNumber wpX8_kindNumber wpX10_width
    simp only [hv, hc, c0, c1, c2, c3, c4, c5, d0, d1, d2, d3]
    by_cases z0 : a2 = 0
    · refine ⟨nI (kd i), hR, ?_, by simp [z0]⟩
      rcases (show kd i = 0 ∨ kd i = 1 ∨ kd i = 2 by omega) with e | e | e <;> simp [z0, e] <;> rfl
    by_cases z1 : a2 = 1
    · exact ⟨_, hR, by simp [z1]; rfl, by simp [z1]⟩
    by_cases z2 : a2 = 2
    · exact ⟨_, hR, by simp [z2]; rfl, by simp [z2]⟩
    by_cases z3 : a2 = 3
    · exact ⟨_, hR, by simp [z3]; rfl, by simp [z3]⟩
    by_cases z4 : a2 = 4
    · refine ⟨nI (wd (kd i) (bd i)), hR, by simp [z4], ?_⟩
      rcases (show kd i = 0 ∨ kd i = 1 ∨ kd i = 2 by omega) with e | e | e
      · simp [z4, e, wd, show nI 0 ≤ 0 from by decide]
      · simp [z4, e, wd, show ¬ nI 1 ≤ 0 from by decide, nI_1]
      · simp [z4, e, wd, show ¬ nI 2 ≤ 0 from by decide, nI_1]
    · exact ⟨-2, hR, by simp [z0, z1, z2, z3, z4], by simp [z0, z1, z2, z3, z4]⟩
  · simp only [kA_no hn h2 hx, kn10_no hn h3 hx]
    exact ⟨-1, hR, by simp, by simp⟩
