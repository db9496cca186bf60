theorem pb_xor (a b : Nat) : nI a ^^^ nI b = nI (a ^^^ b) := by
  apply Int32.toBitVec_inj.mp
  show (nI a ^^^ nI b).toBitVec = (nI (a ^^^ b)).toBitVec
  rw [Int32.toBitVec_xor]
  unfold nI
  simp [Int32.toBitVec_ofNat]
def rd (p t s f : Nat) : Nat := (s * p + t * f) % (24 * p)
theorem rd_lt {p t s f : Nat} (hp : 1 ≤ p) : rd p t s f < 24 * p := Nat.mod_lt _ (by omega)
theorem ro9 {kt : kw_T} {iv : fw_F} {ar : fw_R} {i p t s f : Nat} {Q : Int32 → Prop} (e : kt.2.2.1 i 1 = nI p) (hp : 1 ≤ p) (hp9 : p ≤ 9) (ht : t ≤ 24) (hs : s ≤ 23) (hf : f ≤ 40) : wpX3_roundBy kt iv ar i (nI s) (nI t) (nI f) Q ↔ Q (nI (rd p t s f)) := by
  unfold wpX3_roundBy wpJ9_floorMod_7cf53 rd
  have h1 : s * p ≤ 23 * 9 := Nat.mul_le_mul hs hp9
  have h2 : t * f ≤ 24 * 40 := Nat.mul_le_mul ht hf
  have m24 : (24 : Int32) * nI p = nI (24 * p) := pk_mul 24 p
  have hx : (s * p + t * f) ^^^ (24 * p) < 2 ^ 12 := Nat.xor_lt_two_pow (by omega) (by omega)
  rw [e, m24, pk_mul, pk_mul, nI_add, pk_rem (by omega) (by omega) (by omega), pb_xor]
  have z : ¬ nI (24 * p) = 0 := nI_ne0 (by omega) (by omega)
  simp [z, nI_pos' (show (s * p + t * f) ^^^ (24 * p) < 2 ^ 31 by omega)]
theorem ro10 {p t s f : Nat} {Q : Int32 → Prop} (hp : 1 ≤ p) (hp9 : p ≤ 9) (ht : t ≤ 24) (hs : s ≤ 23) (hf : f ≤ 40) : wpX10_round (nI s) (nI t) (nI f) (nI p) Q ↔ Q (nI (rd p t s f)) := by
  unfold wpX10_round rd
  have h1 : s * p ≤ 23 * 9 := Nat.mul_le_mul hs hp9
  have h2 : t * f ≤ 24 * 40 := Nat.mul_le_mul ht hf
  have m24 : (24 : Int32) * nI p = nI (24 * p) := pk_mul 24 p
  rw [m24, pk_mul, pk_mul, nI_add, pk_rem (by omega) (by omega) (by omega)]
  have z : ¬ nI (24 * p) = 0 := nI_ne0 (by omega) (by omega)
  simp [z]
theorem ca9 {kt : kw_T} {iv : fw_F} {ar : fw_R} {i p t s f w : Nat} {Q : Int32 → Prop} (e : kt.2.2.1 i 1 = nI p) (ha : ∀ a, a < 24 * p → kt.2.2.2 i a = nI (cm p w a)) (hp : 1 ≤ p) (hp9 : p ≤ 9) (ht : t ≤ 24) (hs : s ≤ 23) (hf : f ≤ 40) : wpX3_cameBy kt iv ar i (nI s) (nI t) (nI f) Q ↔ Q (nI (cm p w (rd p t s f))) := by
  unfold wpX3_cameBy
  have hr := rd_lt (p := p) (t := t) (s := s) (f := f) hp
  rw [ro9 e hp hp9 ht hs hf, pb_cl (by omega), ha _ hr]
  simp [pb_vin (show rd p t s f < 216 by omega) (by decide)]
abbrev stk (k c : Nat) : Prop := c = 0 ∨ c = 1 ∧ k = 2
theorem so9 {kt : kw_T} {iv : fw_F} {ar : fw_R} {i c : Nat} {Q : Int32 → Prop} (hc : c < 4) : (wpX3_sticksSo kt iv ar i (nI c) Q ↔ (c = 0 → Q 1) ∧ (¬ c = 0 → Q 0)) ∧ (wpX8_sticksSo kt iv ar i (nI c) Q ↔ (c = 0 ∨ c = 1 → Q 1) ∧ (¬ (c = 0 ∨ c = 1) → Q 0)) := by
  unfold wpX3_sticksSo wpX8_sticksSo
  rcases (show c = 0 ∨ c = 1 ∨ c = 2 ∨ c = 3 by omega) with rfl | rfl | rfl | rfl
  · simp [show nI 0 = 0 from rfl]
  · simp [show nI 1 = 1 from rfl]
  · simp [show nI 2 = 2 from rfl]
  · simp [show nI 3 = 3 from rfl]
theorem ho9 {kt : kw_T} {iv : fw_F} {ar : fw_R} {i p t s f w k : Nat} {Q : Int32 → Prop} (ek : kt.2.1 i = k) (hk : k < 3) (e : kt.2.2.1 i 1 = nI p) (e2 : kt.2.2.1 i 2 = nI t) (ha : ∀ a, a < 24 * p → kt.2.2.2 i a = nI (cm p w a)) (hp : 1 ≤ p) (hp9 : p ≤ 9) (ht : t ≤ 24) (hs : s ≤ 23) (hf : f ≤ 40) : wpX3_holdsFast kt iv ar i (nI s) (nI f) Q ↔ (stk k (cm p w (rd p t s f)) → Q 1) ∧ (¬ stk k (cm p w (rd p t s f)) → Q 0) := by
  unfold wpX3_holdsFast
  rw [e2, ca9 e ha hp hp9 ht hs hf, ek]
  have hc := cm_lt (p := p) (w := w) (a := rd p t s f)
  generalize cm p w (rd p t s f) = c at hc ⊢
  simp only [(so9 hc).1, (so9 hc).2]
  unfold stk
  rcases (show k = 0 ∨ k = 1 ∨ k = 2 by omega) with rfl | rfl | rfl <;> simp
theorem wi10 {jv : fw_F} {br : fw_R} {i k b : Nat} {Q : Int32 → Prop} (hi : i < 6) (hk : k < 3) (e1 : br 6 i = nI k) (e2 : br 9 i = nI b) : wpX10_width jv br (nI i) Q ↔ Q (nI (wd k b)) := by
  unfold wpX10_width
  simp only [pb_vin (n := i) (N := 6) hi (by decide), pb_cl (n := i) (by omega), e1, e2]
  unfold wd
  rcases (show k = 0 ∨ k = 1 ∨ k = 2 by omega) with rfl | rfl | rfl
  · simp [show nI 0 = 0 from rfl]
  · simp [show nI 1 = 1 from rfl]; rw [show (1 : Int32) = nI 1 from rfl, nI_add]
  · simp [show nI 2 = 2 from rfl]; rw [show (1 : Int32) = nI 1 from rfl, nI_add]
theorem wd_le {k b : Nat} (hb : b ≤ 5) : wd k b ≤ 6 := by unfold wd; split <;> omega
theorem co10 {jv : fw_F} {br : fw_R} {i k b p t s f : Nat} {Q : Int32 → Prop} (hi : i < 6) (hk : k < 3) (hb : b ≤ 5) (e1 : br 6 i = nI k) (e2 : br 9 i = nI b) (e3 : br 7 i = nI p) (e4 : br 8 i = nI t) (hp : 1 ≤ p) (hp9 : p ≤ 9) (ht : t ≤ 24) (hs : s ≤ 23) (hf : f ≤ 40) : wpX10_cameOf jv br (nI i) (nI s) (nI f) Q ↔ Q (nI (cm p (wd k b) (rd p t s f))) := by
  unfold wpX10_cameOf
  simp only [pb_vin (n := i) (N := 6) hi (by decide), pb_cl (n := i) (by omega), e3, e4, true_and]
  rw [ro10 hp hp9 ht hs hf, wi10 hi hk e1 e2, cm10 hp9 (wd_le hb) (rd_lt hp)]
theorem is10 {jv : fw_F} {br : fw_R} {i k b p t s f : Nat} {Q : Int32 → Prop} (hi : i < 6) (hk : k < 3) (hb : b ≤ 5) (e1 : br 6 i = nI k) (e2 : br 9 i = nI b) (e3 : br 7 i = nI p) (e4 : br 8 i = nI t) (hp : 1 ≤ p) (hp9 : p ≤ 9) (ht : t ≤ 24) (hs : s ≤ 23) (hf : f ≤ 40) : wpX10_isStuck jv br (nI i) (nI s) (nI f) Q ↔ (stk k (cm p (wd k b) (rd p t s f)) → Q 1) ∧ (¬ stk k (cm p (wd k b) (rd p t s f)) → Q 0) := by
  unfold wpX10_isStuck
  rw [co10 hi hk hb e1 e2 e3 e4 hp hp9 ht hs hf]
  simp only [pb_vin (n := i) (N := 6) hi (by decide), pb_cl (n := i) (by omega), e1, true_and]
  have hc := cm_lt (p := p) (w := wd k b) (a := rd p t s f)
  generalize cm p (wd k b) (rd p t s f) = c at hc ⊢
  unfold stk
  rw [show (nI c = 0) ↔ c = 0 from nI_eq (b := 0) (by omega) (by omega), show (nI c = 1) ↔ c = 1 from nI_eq (b := 1) (by omega) (by omega), show (nI k = 2) ↔ k = 2 from nI_eq (b := 2) (by omega) (by omega)]
  by_cases c0 : c = 0 <;> by_cases c1 : c = 1 <;> by_cases c2 : k = 2 <;> simp [c0, c1, c2]
  all_goals omega
theorem op_comes : lw_o3 Rl := by
  intro kt iv ar jv br hR a1 a2 a3
  obtain ⟨⟨n, kd, pc, tn, bd, hn, h1, h2, h3, hk⟩, -⟩ := id hR
  unfold pu_comes wpX9_comes wpX10_comes
  by_cases hx : ∃ i, i < n ∧ a1 = nI i
  · obtain ⟨i, hi, rfl⟩ := hx
    obtain ⟨⟨b0, b1, b2, b3, b4, b5⟩, ⟨c0, c1, c2, c3, c4, c5, c6⟩, d0, d1, d2, d3⟩ := hk i hi
    simp only [kA_yes hn h2 h1 hi, kn10_yes hn h3 hi, ev9_isThrow, ev10_isStart, ev10_isFeet]
    by_cases p1 : 0 ≤ a2 ∧ a2 ≤ 23
    · by_cases p2 : 1 ≤ a3 ∧ a3 ≤ 40
      · obtain ⟨s, -, hs, rfl⟩ := pb_rng 0 23 rfl rfl (by decide) (by decide) p1
        obtain ⟨f, hf, hf2, rfl⟩ := pb_rng 1 40 rfl rfl (by decide) (by decide) p2
        refine ⟨nI (cm (pc i) (wd (kd i) (bd i)) (rd (pc i) (tn i) s f)), hR, ?_, ?_⟩
        · simp only [p1, p2]; simp
          rw [c3, ca9 c2 c6 b1 b2 b4 hs hf2]
        · simp only [p1, p2]; simp
          rw [co10 (by omega) b0 b5 d0 d3 d1 d2 b1 b2 b4 hs hf2]
      · exact ⟨-2, hR, by simp [p1, p2], by simp [p1, p2]⟩
    · exact ⟨-2, hR, by simp [p1], by simp [p1]⟩
  · simp only [kA_no hn h2 hx, kn10_no hn h3 hx]
    exact ⟨-1, hR, by simp, by simp⟩
