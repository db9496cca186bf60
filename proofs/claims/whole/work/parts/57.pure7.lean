/-! ===== shares ===== -/
theorem pb_lc {x : Int64} : (lg_cmp x 0 = 0) ↔ x = 0 := lg_cmp_eq x 0
theorem pb_lz {b : Nat} (h : b < 2 ^ 63) : (lN b = 0) ↔ b = 0 := pk_lEQ (b := 0) h (by decide)
theorem gs9 {x0 x2 : Int64} {Q : Int64 → Prop} {K : Int64 → Int64 → Int32 → Prop} {fu a b st : Nat} (ha : a < 2 ^ 63) (hb : b < 2 ^ 63) (hb0 : b ≠ 0) (hs : st < 200) (h : wpX9_commonDivisor_L9 x0 x2 Q K fu (lN b) (lN (a % b)) (nI (st + 1))) : wpX9_commonDivisor_L9 x0 x2 Q K (fu + 1) (lN a) (lN b) (nI st) := by
  have c1 : ¬ (200 : Int32) ≤ nI st := nI_ge (b := 200) hs (by decide)
  have c2 : ¬ lN b = 0 := fun z => hb0 ((pb_lz hb).mp z)
  refine ⟨fun z => absurd z c1, fun _ => ⟨fun z => absurd (pb_lc.mp z) c2, fun _ => ⟨c2, ?_⟩⟩⟩
  rintro _ rfl _ rfl
  rw [pk_lRem ha (by omega) hb, nI_1]
  exact h
theorem gz9 {x0 x2 : Int64} {Q : Int64 → Prop} {K : Int64 → Int64 → Int32 → Prop} {a st : Nat} (hs : st < 200) (h : ∀ z, K (lN a) (lN 0) z) : wpX9_commonDivisor_L9 x0 x2 Q K 1 (lN a) (lN 0) (nI st) := by
  have c1 : ¬ (200 : Int32) ≤ nI st := nI_ge (b := 200) hs (by decide)
  exact ⟨fun z => absurd z c1, fun _ => ⟨fun _ => h _, fun z => absurd (pb_lc.mpr rfl) z⟩⟩
theorem gl9 {x0 x2 : Int64} {Q : Int64 → Prop} {K : Int64 → Int64 → Int32 → Prop} : ∀ (k a b st : Nat), b < 2 ^ k → a < 2 ^ 63 → b < 2 ^ 63 → st + 2 * k + 1 ≤ 200 → (∀ z, K (lN (Nat.gcd a b)) (lN 0) z) → ∃ fu, wpX9_commonDivisor_L9 x0 x2 Q K fu (lN a) (lN b) (nI st) := by
  intro k
  induction k with
  | zero =>
    intro a b st hb ha hb2 hs h
    have e : b = 0 := by simp at hb; exact hb
    subst e
    rw [Nat.gcd_zero_right] at h
    exact ⟨1, gz9 (by omega) h⟩
  | succ k ih =>
    intro a b st hb ha hb2 hs h
    by_cases h0 : b = 0
    · subst h0
      rw [Nat.gcd_zero_right] at h
      exact ⟨1, gz9 (by omega) h⟩
    · have hm : a % b < b := Nat.mod_lt _ (by omega)
      have g1 : Nat.gcd a b = Nat.gcd b (a % b) := by rw [Nat.gcd_comm a b, Nat.gcd_rec b a, Nat.gcd_comm]
      by_cases h1 : a % b = 0
      · rw [g1, h1, Nat.gcd_zero_right] at h
        exact ⟨2, gs9 ha hb2 h0 (by omega) (by rw [h1]; exact gz9 (by omega) h)⟩
      · have hm2 : b % (a % b) < a % b := Nat.mod_lt _ (by omega)
        have g2 : Nat.gcd b (a % b) = Nat.gcd (a % b) (b % (a % b)) := by rw [Nat.gcd_comm b, Nat.gcd_rec (a % b) b, Nat.gcd_comm]
        have hsm : b % (a % b) < 2 ^ k := by
          have e1 : 2 ^ (k + 1) = 2 * 2 ^ k := by rw [Nat.pow_succ]; omega
          rcases Nat.lt_or_ge b (2 * (a % b)) with q | q
          · have e2 : b % (a % b) = b - a % b := by
              rw [Nat.mod_eq_sub_mod (by omega), Nat.mod_eq_of_lt (by omega)]
            omega
          · omega
        obtain ⟨fu, hf⟩ := ih (a % b) (b % (a % b)) (st + 2) hsm (by omega) (by omega) (by omega) (by rw [← g2, ← g1]; exact h)
        exact ⟨fu + 2, gs9 ha hb2 h0 (by omega) (gs9 hb2 (by omega) h1 (by omega) hf)⟩
theorem gl10 {x0 x2 : Int64} {Q : Int64 → Prop} {K : Int64 → Int64 → Prop} : ∀ (m a b : Nat), b < m → a < 2 ^ 63 → b < 2 ^ 63 → K (lN (Nat.gcd a b)) (lN 0) → ∃ fu, wpX10_common_L17 x0 x2 Q K fu (lN a) (lN b) := by
  intro m
  induction m with
  | zero => intro a b h; omega
  | succ m ih =>
    intro a b hb ha hb2 h
    by_cases h0 : b = 0
    · subst h0
      rw [Nat.gcd_zero_right] at h
      exact ⟨1, fun _ => h, fun z => absurd (pb_lc.mpr rfl) z⟩
    · have hm : a % b < b := Nat.mod_lt _ (by omega)
      have g1 : Nat.gcd a b = Nat.gcd b (a % b) := by rw [Nat.gcd_comm a b, Nat.gcd_rec b a, Nat.gcd_comm]
      obtain ⟨fu, hf⟩ := ih b (a % b) (by omega) hb2 (by omega) (by rw [← g1]; exact h)
      have c2 : ¬ lN b = 0 := fun z => h0 ((pb_lz hb2).mp z)
      refine ⟨fu + 1, fun z => absurd (pb_lc.mp z) c2, fun _ => ⟨c2, ?_⟩⟩
      rintro _ rfl
      rw [pk_lRem ha (by omega) hb2]
      exact hf
/-- a share: upper u (any sign), lower d -/
def shv (u : Int64) (d : Nat) (x4 : Int32) : Int64 := if x4 = 0 then u / lN (Nat.gcd u.toInt.natAbs d) else lN d / lN (Nat.gcd u.toInt.natAbs d)
theorem pb_labs {u : Int64} (h : -4611686018427387904 ≤ u.toInt ∧ u.toInt ≤ 4611686018427387904) : (u.toInt.natAbs < 2 ^ 63) ∧ ((if 0 < u then u else -u) = lN u.toInt.natAbs) ∧ ((if 0 ≤ lg_cmp u 0 then u else -u) = lN u.toInt.natAbs) := by
  have hb : u.toInt.natAbs < 2 ^ 63 := by omega
  have pos : ∀ v : Int64, 0 ≤ v.toInt → v = lN v.toInt.natAbs := by
    intro v hv
    apply Int64.toInt_inj.mp
    have := Int64.toInt_lt v
    rw [pk_lT (by omega)]
    omega
  have neg : u.toInt < 0 → -u = lN u.toInt.natAbs := by
    intro hv
    apply Int64.toInt_inj.mp
    rw [pk_lT hb, Int64.toInt_neg, Int.bmod_eq_of_le (by omega) (by omega)]
    omega
  refine ⟨hb, ?_, ?_⟩
  · by_cases c : 0 < u
    · rw [if_pos c]
      rw [Int64.lt_iff_toInt_lt, pb_l0] at c
      exact pos u (by omega)
    · rw [if_neg c]
      rw [Int64.lt_iff_toInt_lt, pb_l0] at c
      by_cases z : u.toInt = 0
      · have e : u = 0 := Int64.toInt_inj.mp (by rw [z, pb_l0])
        rw [e]; rfl
      · exact neg (by omega)
  · by_cases c : 0 ≤ lg_cmp u 0
    · rw [if_pos c]
      rw [lg_cmp_ge, Int64.le_iff_toInt_le, pb_l0] at c
      exact pos u c
    · rw [if_neg c]
      rw [lg_cmp_ge, Int64.le_iff_toInt_le, pb_l0] at c
      exact neg (by omega)
theorem sh9 {u : Int64} {d : Nat} {x4 : Int32} {Q : Int64 → Prop} (hu : -4611686018427387904 ≤ u.toInt ∧ u.toInt ≤ 4611686018427387904) (hd : 1 ≤ d) (hd2 : d < 2 ^ 31) (h : Q (shv u d x4)) : wpX9_share u (lN d) x4 Q := by
  obtain ⟨hb, e1, -⟩ := pb_labs hu
  have g0 : 0 < Nat.gcd u.toInt.natAbs d := Nat.gcd_pos_of_pos_right _ (by omega)
  have gd : Nat.gcd u.toInt.natAbs d ≤ d := Nat.gcd_le_right _ (by omega)
  have c1 : 0 < lg_cmp (lN d) 0 := by rw [lg_cmp_gt]; exact (pk_lLT (a := 0) (by decide) (by omega)).mpr (by omega)
  have c2 : 0 < lg_cmp (lN (Nat.gcd u.toInt.natAbs d)) 0 := by rw [lg_cmp_gt]; exact (pk_lLT (a := 0) (by decide) (by omega)).mpr (by omega)
  have c3 : ¬ lN (Nat.gcd u.toInt.natAbs d) = 0 := fun z => by have := (pb_lz (by omega)).mp z; omega
  refine ⟨fun _ => ?_, fun z => absurd c1 z⟩
  unfold wpX9_commonDivisor
  rw [e1]
  refine gl9 31 _ _ 0 hd2 hb (by omega) (by omega) (fun z => ?_)
  unfold shv at h
  refine ⟨fun _ => ⟨fun z => ⟨c3, by rw [if_neg z] at h; exact h⟩, fun z => ⟨c3, by rw [if_pos z] at h; exact h⟩⟩, fun z => absurd c2 z⟩
theorem sh10 {u : Int64} {d : Nat} {x4 : Int32} {Q : Int64 → Prop} (hu : -4611686018427387904 ≤ u.toInt ∧ u.toInt ≤ 4611686018427387904) (hd : 1 ≤ d) (hd2 : d < 2 ^ 31) (h : Q (shv u d x4)) : wpX10_share u (lN d) x4 Q := by
  obtain ⟨hb, -, e1⟩ := pb_labs hu
  have g0 : 0 < Nat.gcd u.toInt.natAbs d := Nat.gcd_pos_of_pos_right _ (by omega)
  have gd : Nat.gcd u.toInt.natAbs d ≤ d := Nat.gcd_le_right _ (by omega)
  have c3 : ¬ lN (Nat.gcd u.toInt.natAbs d) = 0 := fun z => by have := (pb_lz (by omega)).mp z; omega
  unfold wpX10_share wpX10_common
  unfold shv at h
  have fin : (¬ x4 = 0 → (¬ lN (Nat.gcd u.toInt.natAbs d) = 0 ∧ Q (lN d / lN (Nat.gcd u.toInt.natAbs d)))) ∧ (x4 = 0 → (¬ lN (Nat.gcd u.toInt.natAbs d) = 0 ∧ Q (u / lN (Nat.gcd u.toInt.natAbs d)))) := ⟨fun z => ⟨c3, by rw [if_neg z] at h; exact h⟩, fun z => ⟨c3, by rw [if_pos z] at h; exact h⟩⟩
  refine ⟨fun c => ?_, fun c => ?_⟩
  · rw [if_pos c] at e1
    obtain ⟨fu, hf⟩ := gl10 (x0 := u) (x2 := lN d) (Q := fun r1 => (¬ x4 = 0 → (¬ r1 = 0 ∧ Q (lN d / r1))) ∧ (x4 = 0 → (¬ r1 = 0 ∧ Q (u / r1)))) (K := fun w5 _ => (¬ x4 = 0 → (¬ w5 = 0 ∧ Q (lN d / w5))) ∧ (x4 = 0 → (¬ w5 = 0 ∧ Q (u / w5)))) (d + 1) u.toInt.natAbs d (by omega) hb (by omega) fin
    rw [← e1] at hf
    exact ⟨fu, hf⟩
  · rw [if_neg c] at e1
    rintro _ rfl
    rw [e1]
    exact gl10 (d + 1) u.toInt.natAbs d (by omega) hb (by omega) fin
theorem pb_i2l {n : Nat} (h : n < 2 ^ 31) : (nI n).toInt64 = lN n := nI_l h
theorem pb_lb {n : Nat} (h : n < 2 ^ 40) : -4611686018427387904 ≤ (lN n).toInt ∧ (lN n).toInt ≤ 4611686018427387904 := by
  rw [pk_lT (by omega)]; omega
theorem op_lies : lw_o2 Rl := by
  intro kt iv ar jv br hR a1 a2 a3 a4
  obtain ⟨⟨n, kd, pc, tn, bd, hn, h1, h2, h3, hk⟩, -⟩ := id hR
  unfold pu_lies wpX9_lies wpX10_lies
  by_cases hx : ∃ i, i < n ∧ a1 = nI i
  · obtain ⟨i, hi, rfl⟩ := hx
    obtain ⟨⟨b0, b1, b2, b3, b4, b5⟩, ⟨c0, c1, c2, c3, c4, c5, c6⟩, d0, d1, d2, d3⟩ := hk i hi
    have hv := pb_vin (n := i) (N := 6) (by omega) (by decide)
    have hc := pb_cl (n := i) (by omega)
    simp only [kA_yes hn h2 h1 hi, kn10_yes hn h3 hi, ev9_isThrow, ev10_isStart, ev10_isFeet, ev9_within, ev10_isWhich, hv, hc, c2, c3, d1, d2]
    by_cases p1 : 0 ≤ a2 ∧ a2 ≤ 23
    · by_cases p2 : 1 ≤ a3 ∧ a3 ≤ 40
      · by_cases p3 : 0 ≤ a4 ∧ a4 ≤ 1
        · obtain ⟨s, -, hs, rfl⟩ := pb_rng 0 23 rfl rfl (by decide) (by decide) p1
          obtain ⟨f, hf, hf2, rfl⟩ := pb_rng 1 40 rfl rfl (by decide) (by decide) p2
          have hr := rd_lt (p := pc i) (t := tn i) (s := s) (f := f) b1
          refine ⟨shv (lN (rd (pc i) (tn i) s f)) (pc i) a4, hR, ?_, ?_⟩
          · simp only [p1, p2, p3]; simp
            rw [ro9 c2 b1 b2 b4 hs hf2, pb_i2l (by omega), pb_i2l (by omega)]
            exact sh9 (pb_lb (by omega)) b1 (by omega) rfl
          · simp only [p1, p2, p3]; simp
            rw [ro10 b1 b2 b4 hs hf2, pb_i2l (by omega), pb_i2l (by omega)]
            exact sh10 (pb_lb (by omega)) b1 (by omega) rfl
        · exact ⟨-9223372036854775808, hR, by simp [p1, p2, p3], by simp [p1, p2, p3]⟩
      · exact ⟨-9223372036854775808, hR, by simp [p1, p2], by simp [p1, p2]⟩
    · exact ⟨-9223372036854775808, hR, by simp [p1], by simp [p1]⟩
  · simp only [kA_no hn h2 hx, kn10_no hn h3 hx]
    exact ⟨-9223372036854775808, hR, by simp, by simp⟩
