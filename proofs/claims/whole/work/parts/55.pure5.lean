/-! ===== how a knife comes ===== -/
def adf (a b : Nat) : Nat := if b ≤ a then a - b else b - a
theorem pb_abs {a b : Nat} (ha : a < 2 ^ 30) (hb : b < 2 ^ 30) : (if 0 ≤ nI a - nI b then nI a - nI b else 0 - (nI a - nI b)) = nI (adf a b) := by
  unfold adf
  by_cases h : b ≤ a
  · rw [if_pos h, pk_sub h, if_pos (nI_pos' (by omega))]
  · rw [if_neg h, if_neg (Int32.not_le.mpr (pk_sneg hb (by omega))), ← pk_sub (show a ≤ b by omega)]
    grind
theorem pb_min {a b : Nat} (ha : a < 2 ^ 31) (hb : b < 2 ^ 31) : (if nI a < nI b then nI a else nI b) = nI (min a b) := by
  by_cases h : a < b
  · rw [if_pos ((nI_ltI ha hb).mpr h), Nat.min_eq_left (by omega)]
  · rw [if_neg (fun z => h ((nI_ltI ha hb).mp z)), Nat.min_eq_right (by omega)]
theorem cl9 {a p w : Nat} {Q : Int32 → Prop} (hp : p ≤ 9) (hw : w ≤ 6) (ha : a < 24 * p) : wpX3_cameLying (nI a) (nI p) (nI w) Q ↔ Q (nI (cm p w a)) := by
  unfold wpX3_cameLying
  have hwp : w * p ≤ 54 := Nat.mul_le_mul hw hp
  have m24 : (24 : Int32) * nI p = nI (24 * p) := pk_mul 24 p
  have m18 : (18 : Int32) * nI p = nI (18 * p) := pk_mul 18 p
  have m12 : (12 : Int32) * nI p = nI (12 * p) := pk_mul 12 p
  have m6 : (6 : Int32) * nI p = nI (6 * p) := pk_mul 6 p
  have m2 : (2 : Int32) * nI p = nI (2 * p) := pk_mul 2 p
  have s24 : nI (24 * p) - nI a = nI (24 * p - a) := pk_sub (by omega)
  simp only [m24, m18, m12, m6, m2, pk_mul w p, s24, pb_abs (show a < 2 ^ 30 by omega) (show 12 * p < 2 ^ 30 by omega), pb_abs (show a < 2 ^ 30 by omega) (show 18 * p < 2 ^ 30 by omega), pb_abs (show a < 2 ^ 30 by omega) (show 6 * p < 2 ^ 30 by omega), pb_min (show 24 * p - a < 2 ^ 31 by omega) (show a < 2 ^ 31 by omega)]
  have b18 : adf a (18 * p) < 2 ^ 31 := by unfold adf; split <;> omega
  have b12 : adf a (12 * p) < 2 ^ 31 := by unfold adf; split <;> omega
  have b6 : adf a (6 * p) < 2 ^ 31 := by unfold adf; split <;> omega
  simp only [pb_min b18 b6, forall_eq]
  rw [nI_ltI (by omega) (by omega), nI_ltI (by omega) b12, nI_ltI (by omega) (by omega)]
  unfold cm
  have e0 : (w * p < min (24 * p - a) a) ↔ ¬ (a ≤ w * p ∨ 24 * p - a ≤ w * p) := by omega
  have e1 : (w * p < adf a (12 * p)) ↔ ¬ (a ≤ 12 * p + w * p ∧ 12 * p ≤ a + w * p) := by unfold adf; split <;> omega
  have e2 : (2 * p < min (adf a (18 * p)) (adf a (6 * p))) ↔ ¬ ((a ≤ 8 * p ∧ 4 * p ≤ a) ∨ (a ≤ 20 * p ∧ 16 * p ≤ a)) := by unfold adf; split <;> split <;> omega
  simp only [e0, e1, e2]
  by_cases c0 : a ≤ w * p ∨ 24 * p - a ≤ w * p
  · rw [if_pos c0]; simp only [c0]; simp; rfl
  · rw [if_neg c0]
    by_cases c1 : a ≤ 12 * p + w * p ∧ 12 * p ≤ a + w * p
    · rw [if_pos c1]; simp only [c0, c1]; simp; rfl
    · rw [if_neg c1]
      by_cases c2 : (a ≤ 8 * p ∧ 4 * p ≤ a) ∨ (a ≤ 20 * p ∧ 16 * p ≤ a)
      · rw [if_pos c2]; simp only [c0, c1, c2]; simp; rfl
      · rw [if_neg c2]; simp only [c0, c1, c2]; simp; rfl
theorem ne10 {a t p w : Nat} {Q : Int32 → Prop} (hp : p ≤ 9) (hw : w ≤ 6) (ha : a < 24 * p) (ht : t ≤ 18) : wpX10_isNear (nI a) (nI t) (nI w) (nI p) Q ↔ Q (if min (adf a (t * p)) (24 * p - adf a (t * p)) ≤ w * p then 1 else 0) := by
  unfold wpX10_isNear
  have hwp : w * p ≤ 54 := Nat.mul_le_mul hw hp
  have htp : t * p ≤ 18 * p := Nat.mul_le_mul_right p ht
  have m24 : (24 : Int32) * nI p = nI (24 * p) := pk_mul 24 p
  simp only [m24, pk_mul t p, pk_mul w p, forall_eq]
  rw [nI_leI (by omega) (by omega)]
  by_cases c : a ≤ t * p
  · have e : adf a (t * p) = t * p - a := by unfold adf; split <;> omega
    rw [pk_sub c, pk_sub (show t * p - a ≤ 24 * p by omega), e]
    simp only [c, true_implies, not_true, false_implies, and_true]
    rw [nI_leI (by omega) (by omega), nI_ltI (by omega) (by omega), nI_ltI (by omega) (by omega)]
    by_cases d : 24 * p - (t * p - a) ≤ t * p - a
    · rw [show min (t * p - a) (24 * p - (t * p - a)) = 24 * p - (t * p - a) by omega]
      by_cases z : 24 * p - (t * p - a) ≤ w * p
      · have z2 : ¬ w * p < 24 * p - (t * p - a) := by omega
        simp only [d, z, z2]; simp
      · have z2 : w * p < 24 * p - (t * p - a) := by omega
        simp only [d, z, z2]; simp
    · rw [show min (t * p - a) (24 * p - (t * p - a)) = t * p - a by omega]
      by_cases z : t * p - a ≤ w * p
      · have z2 : ¬ w * p < t * p - a := by omega
        simp only [d, z, z2]; simp
      · have z2 : w * p < t * p - a := by omega
        simp only [d, z, z2]; simp
  · have e : adf a (t * p) = a - t * p := by unfold adf; split <;> omega
    rw [pk_sub (show t * p ≤ a by omega), pk_sub (show a - t * p ≤ 24 * p by omega), e]
    simp only [c, true_implies, not_false_eq_true, false_implies, true_and]
    rw [nI_leI (by omega) (by omega), nI_ltI (by omega) (by omega), nI_ltI (by omega) (by omega)]
    by_cases d : 24 * p - (a - t * p) ≤ a - t * p
    · rw [show min (a - t * p) (24 * p - (a - t * p)) = 24 * p - (a - t * p) by omega]
      by_cases z : 24 * p - (a - t * p) ≤ w * p
      · have z2 : ¬ w * p < 24 * p - (a - t * p) := by omega
        simp only [d, z, z2]; simp
      · have z2 : w * p < 24 * p - (a - t * p) := by omega
        simp only [d, z, z2]; simp
    · rw [show min (a - t * p) (24 * p - (a - t * p)) = a - t * p by omega]
      by_cases z : a - t * p ≤ w * p
      · have z2 : ¬ w * p < a - t * p := by omega
        simp only [d, z, z2]; simp
      · have z2 : w * p < a - t * p := by omega
        simp only [d, z, z2]; simp
theorem cm10 {a p w : Nat} {Q : Int32 → Prop} (hp : p ≤ 9) (hw : w ≤ 6) (ha : a < 24 * p) : wpX10_came (nI a) (nI w) (nI p) Q ↔ Q (nI (cm p w a)) := by
  unfold wpX10_came
  have r0 := @ne10 a 0 p w
  have r12 := @ne10 a 12 p w
  have r6 := @ne10 a 6 p 2
  have r18 := @ne10 a 18 p 2
  simp only [show nI 0 = 0 from rfl, show nI 12 = 12 from rfl, show nI 6 = 6 from rfl, show nI 18 = 18 from rfl, show nI 2 = 2 from rfl] at r0 r12 r6 r18
  simp only [r0 hp hw ha (by omega), r12 hp hw ha (by omega), r6 hp (by omega) ha (by omega), r18 hp (by omega) ha (by omega)]
  unfold cm
  have e0 : (min (adf a (0 * p)) (24 * p - adf a (0 * p)) ≤ w * p) ↔ (a ≤ w * p ∨ 24 * p - a ≤ w * p) := by unfold adf; split <;> omega
  have e1 : (min (adf a (12 * p)) (24 * p - adf a (12 * p)) ≤ w * p) ↔ (a ≤ 12 * p + w * p ∧ 12 * p ≤ a + w * p) := by unfold adf; split <;> omega
  have e2 : (min (adf a (6 * p)) (24 * p - adf a (6 * p)) ≤ 2 * p) ↔ (a ≤ 8 * p ∧ 4 * p ≤ a) := by unfold adf; split <;> omega
  have e3 : (min (adf a (18 * p)) (24 * p - adf a (18 * p)) ≤ 2 * p) ↔ (a ≤ 20 * p ∧ 16 * p ≤ a) := by unfold adf; split <;> omega
  simp only [e0, e1, e2, e3]
  by_cases c0 : a ≤ w * p ∨ 24 * p - a ≤ w * p
  · rw [if_pos c0, if_pos c0]; simp; rfl
  · rw [if_neg c0, if_neg c0]
    by_cases c1 : a ≤ 12 * p + w * p ∧ 12 * p ≤ a + w * p
    · rw [if_pos c1, if_pos c1]; simp; rfl
    · rw [if_neg c1, if_neg c1]
      by_cases c2 : a ≤ 8 * p ∧ 4 * p ≤ a
      · rw [if_pos c2, if_pos (Or.inl c2)]; simp; rfl
      · by_cases c3 : a ≤ 20 * p ∧ 16 * p ≤ a
        · rw [if_neg c2, if_pos c3, if_pos (Or.inr c3)]; simp; rfl
        · rw [if_neg c2, if_neg c3, if_neg (fun z => z.elim c2 c3)]; simp; rfl
theorem cm_lt {p w a : Nat} : cm p w a < 4 := by
  unfold cm; split
  · decide
  · split
    · decide
    · split <;> decide
