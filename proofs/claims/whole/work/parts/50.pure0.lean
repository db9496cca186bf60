/-! ===== plain facts of numbers ===== -/
theorem pb_rng {x : Int32} (a c : Nat) {xa xc : Int32} (ha : xa = nI a) (hc : xc = nI c) (hac : a < 2 ^ 31) (hb : c < 2 ^ 31) (h : xa ≤ x ∧ x ≤ xc) : ∃ j : Nat, a ≤ j ∧ j ≤ c ∧ x = nI j := by
  subst ha
  subst hc
  have h0 : ¬ x < 0 := fun z => by
    have h1 : nI a < nI 0 := Int32.lt_of_le_of_lt h.1 z
    rw [nI_ltI hac (by decide)] at h1
    omega
  obtain ⟨j, hj, rfl⟩ := nI_of h0
  rw [nI_leI hac hj, nI_leI hj hb] at h
  exact ⟨j, h.1, h.2, rfl⟩
theorem pb_in {a c j : Nat} {xa xc : Int32} (ha : xa = nI a) (hc : xc = nI c) (hb : c < 2 ^ 31) (h1 : a ≤ j) (h2 : j ≤ c) : xa ≤ nI j ∧ nI j ≤ xc := by
  subst ha
  subst hc
  rw [nI_leI (by omega) (by omega), nI_leI (by omega) (by omega)]
  exact ⟨h1, h2⟩
theorem pb_up {α : Type} (f : Nat → α) (k : Nat) (v : α) (j : Nat) : va_up f k v j = if j = k then v else f j := rfl
theorem pb_upd (f : Nat → Int32) (k : Nat) (v : Int32) (j : Nat) : upd f k v j = if j = k then v else f j := rfl
theorem pb_cl {n : Nat} (h : n < 2 ^ 31) : (nI n).toNatClampNeg = n := nI_clamp h
theorem pb_vin {n N : Nat} (h : n < N) (hN : N < 2 ^ 31) : vp_in (nI n) N := vp_in_nI h hN
-- the answers of the leaves
theorem ev9_within {a b c : Int32} {Q : Int32 → Prop} : wpX9_within a b c Q ↔ ((b ≤ a ∧ a ≤ c) → Q 1) ∧ (¬ (b ≤ a ∧ a ≤ c) → Q 0) := by
  unfold wpX9_within
  by_cases h1 : a < b
  · have h2 : ¬ (b ≤ a ∧ a ≤ c) := by grind
    simp [h1, h2]
  · by_cases h3 : c < a
    · have h2 : ¬ (b ≤ a ∧ a ≤ c) := by grind
      simp [h1, h3, h2]
    · have h2 : b ≤ a ∧ a ≤ c := by grind
      simp [h1, h3, h2]
theorem ev10_within {a b c : Int32} {Q : Int32 → Prop} : wpX10_within a b c Q ↔ ((b ≤ a ∧ a ≤ c) → Q 1) ∧ (¬ (b ≤ a ∧ a ≤ c) → Q 0) := by
  unfold wpX10_within
  by_cases h1 : a < b
  · have h2 : ¬ (b ≤ a ∧ a ≤ c) := by grind
    simp [h1, h2]
  · by_cases h3 : c < a
    · have h2 : ¬ (b ≤ a ∧ a ≤ c) := by grind
      simp [h1, h3, h2]
    · have h2 : b ≤ a ∧ a ≤ c := by grind
      simp [h1, h3, h2]
theorem ev01 {Q : Int32 → Prop} : (((0 : Int32) = 0 ∨ (0 : Int32) = 1) ∧ Q 0 ↔ Q 0) ∧ (((1 : Int32) = 0 ∨ (1 : Int32) = 1) ∧ Q 1 ↔ Q 1) := by simp
theorem ev9_isStage {a : Int32} {Q : Int32 → Prop} : wpX9_isStage a Q ↔ ((0 ≤ a ∧ a ≤ 9) → Q 1) ∧ (¬ (0 ≤ a ∧ a ≤ 9) → Q 0) := by
  unfold wpX9_isStage; rw [ev9_within]; simp
theorem ev9_isSheet {a : Int32} {Q : Int32 → Prop} : wpX9_isSheet a Q ↔ ((0 ≤ a ∧ a ≤ 3) → Q 1) ∧ (¬ (0 ≤ a ∧ a ≤ 3) → Q 0) := by
  unfold wpX9_isSheet; rw [ev9_within]; simp
theorem ev10_isStage {a : Int32} {Q : Int32 → Prop} : wpX10_isStage a Q ↔ ((0 ≤ a ∧ a ≤ 9) → Q 1) ∧ (¬ (0 ≤ a ∧ a ≤ 9) → Q 0) := by
  unfold wpX10_isStage; rw [ev10_within]; simp
theorem ev10_isSheet {a : Int32} {Q : Int32 → Prop} : wpX10_isSheet a Q ↔ ((0 ≤ a ∧ a ≤ 3) → Q 1) ∧ (¬ (0 ≤ a ∧ a ≤ 3) → Q 0) := by
  unfold wpX10_isSheet; rw [ev10_within]; simp
theorem ev10_isSort {a : Int32} {Q : Int32 → Prop} : wpX10_isSort a Q ↔ ((0 ≤ a ∧ a ≤ 2) → Q 1) ∧ (¬ (0 ≤ a ∧ a ≤ 2) → Q 0) := by
  unfold wpX10_isSort; rw [ev10_within]; simp
theorem ev10_isWhich {a : Int32} {Q : Int32 → Prop} : wpX10_isWhich a Q ↔ ((0 ≤ a ∧ a ≤ 1) → Q 1) ∧ (¬ (0 ≤ a ∧ a ≤ 1) → Q 0) := by
  unfold wpX10_isWhich; rw [ev10_within]; simp
theorem ev10_isStart {a : Int32} {Q : Int32 → Prop} : wpX10_isStart a Q ↔ ((0 ≤ a ∧ a ≤ 23) → Q 1) ∧ (¬ (0 ≤ a ∧ a ≤ 23) → Q 0) := by
  unfold wpX10_isStart; rw [ev10_within]; simp
theorem ev10_isFeet {a : Int32} {Q : Int32 → Prop} : wpX10_isFeet a Q ↔ ((1 ≤ a ∧ a ≤ 40) → Q 1) ∧ (¬ (1 ≤ a ∧ a ≤ 40) → Q 0) := by
  unfold wpX10_isFeet; rw [ev10_within]; simp
theorem ev10_isTicks {a : Int32} {Q : Int32 → Prop} : wpX10_isTicks a Q ↔ ((1 ≤ a ∧ a ≤ 60) → Q 1) ∧ (¬ (1 ≤ a ∧ a ≤ 60) → Q 0) := by
  unfold wpX10_isTicks; rw [ev10_within]; simp
theorem ev9_isThrow {a b : Int32} {Q : Int32 → Prop} : wpX9_isThrow a b Q ↔ (((0 ≤ a ∧ a ≤ 23) ∧ (1 ≤ b ∧ b ≤ 40)) → Q 1) ∧ (¬ ((0 ≤ a ∧ a ≤ 23) ∧ (1 ≤ b ∧ b ≤ 40)) → Q 0) := by
  unfold wpX9_isThrow
  simp only [ev9_within]
  by_cases h1 : 0 ≤ a ∧ a ≤ 23 <;> by_cases h2 : 1 ≤ b ∧ b ≤ 40 <;> simp [h1, h2]
/-! ===== how class and reference stand to each other ===== -/
def wd (k b : Nat) : Nat := if k = 0 then b else b + 1
/-- how a knife comes that lies a paces of a 24th round -/
def cm (p w a : Nat) : Nat := if a ≤ w * p ∨ 24 * p - a ≤ w * p then 0 else if a ≤ 12 * p + w * p ∧ 12 * p ≤ a + w * p then 1 else if (a ≤ 8 * p ∧ 4 * p ≤ a) ∨ (a ≤ 20 * p ∧ 16 * p ≤ a) then 2 else 3
def rk (kt : kw_T) (iv : fw_F) (jv : fw_F) (br : fw_R) (n : Nat) (kd pc tn bd : Nat → Nat) : Prop :=
  n ≤ 6 ∧ kt.1 = n ∧ iv 0 = nI n ∧ jv 5 = nI n ∧ ∀ i, i < n → (kd i < 3 ∧ 1 ≤ pc i ∧ pc i ≤ 9 ∧ 1 ≤ tn i ∧ tn i ≤ 24 ∧ bd i ≤ 5) ∧ (kt.2.1 i = kd i ∧ kt.2.2.1 i 0 = nI i ∧ kt.2.2.1 i 1 = nI (pc i) ∧ kt.2.2.1 i 2 = nI (tn i) ∧ kt.2.2.1 i 3 = nI (bd i) ∧ kt.2.2.1 i 4 = nI (wd (kd i) (bd i)) ∧ ∀ a, a < 24 * pc i → kt.2.2.2 i a = nI (cm (pc i) (wd (kd i) (bd i)) a)) ∧ (br 6 i = nI (kd i) ∧ br 7 i = nI (pc i) ∧ br 8 i = nI (tn i) ∧ br 9 i = nI (bd i))
def rh (iv : fw_F) (ar : fw_R) (jv : fw_F) (br : fw_R) (to T : Nat) (W : Nat → Nat) : Prop :=
  to ≤ 1 ∧ iv 2 = nI to ∧ jv 10 = nI to ∧ T ≤ 9 ∧ iv 3 = nI T ∧ jv 11 = nI T ∧ (∀ j, j < 15 → W j ≤ 9 ∧ ar 3 j = nI (W j) ∧ br 12 j = nI (W j)) ∧ (to = 1 → ∀ r, r < 3 → 1 ≤ W (5 * r) + W (5 * r + 1) + W (5 * r + 2) + W (5 * r + 3) + W (5 * r + 4))
def rb (iv : fw_F) (ar : fw_R) (jv : fw_F) (br : fw_R) (h w : Nat) (L : Nat → Nat) : Prop :=
  h ≤ 6 ∧ w ≤ 6 ∧ (h = 0 ↔ w = 0) ∧ iv 4 = nI h ∧ iv 5 = nI w ∧ jv 16 = nI h ∧ jv 17 = nI w ∧ ∀ c, c < h * w → L c < 4 ∧ ar 5 c = nI (L c) ∧ br 18 c = nI (L c)
def rma (iv : fw_F) (ar : fw_R) (jv : fw_F) (br : fw_R) (m : Nat) (f c : Nat → Nat) : Prop :=
  m ≤ 10 ∧ iv 7 = nI m ∧ jv 28 = nI m ∧ ∀ i, i < m → (1 ≤ f i ∧ f i ≤ 40 ∧ c i < 4) ∧ ar 11 i = nI (f i) ∧ br 29 i = nI (f i) ∧ ar 12 i = nI (c i) ∧ br 30 i = nI (c i)
def rsh (iv : fw_F) (ar : fw_R) (br : fw_R) : Prop :=
  ∀ k, k < 4 → (iv (9 + k) = 0 ∧ br 2 k = -9) ∨ (iv (9 + k) = 1 ∧ ∃ so le : Nat, so < 3 ∧ le ≤ 80 ∧ iv (13 + k) = nI so ∧ br 2 k = nI so ∧ iv (17 + k) = nI le ∧ br 3 k = nI le ∧ ∀ i, i < le → ar (21 + k) i = br 4 (80 * k + i))
def Rl (kt : kw_T) (iv : fw_F) (ar : fw_R) (jv : fw_F) (br : fw_R) : Prop :=
  (∃ n kd pc tn bd, rk kt iv jv br n kd pc tn bd) ∧ (∃ to T W, rh iv ar jv br to T W) ∧ (∃ h w L, rb iv ar jv br h w L) ∧ (∃ m f c, rma iv ar jv br m f c) ∧ rsh iv ar br ∧ iv 21 = jv 1 ∧ iv 1 = jv 0
/-- the same but for what is only used in passing -/
def ag9 (iv : fw_F) (ar : fw_R) (iv1 : fw_F) (ar1 : fw_R) : Prop := (∀ k, k ≠ 6 → k ≠ 8 → iv1 k = iv k) ∧ ∀ k, k ≠ 7 → k ≠ 8 → k ≠ 9 → k ≠ 13 → k ≠ 14 → k ≠ 15 → k ≠ 25 → k ≠ 26 → ar1 k = ar k
def ag10 (jv : fw_F) (br : fw_R) (jv1 : fw_F) (br1 : fw_R) : Prop := (∀ k, k ≠ 13 → k ≠ 14 → k ≠ 19 → k ≠ 20 → k ≠ 27 → jv1 k = jv k) ∧ ∀ k, k ≠ 15 → k ≠ 21 → k ≠ 22 → k ≠ 23 → k ≠ 24 → k ≠ 25 → k ≠ 26 → k ≠ 31 → k ≠ 32 → br1 k = br k
theorem ag9_rf {iv : fw_F} {ar : fw_R} : ag9 iv ar iv ar := ⟨fun _ _ _ => rfl, fun _ _ _ _ _ _ _ _ _ => rfl⟩
theorem ag10_rf {iv : fw_F} {ar : fw_R} : ag10 iv ar iv ar := ⟨fun _ _ _ _ _ _ => rfl, fun _ _ _ _ _ _ _ _ _ _ => rfl⟩
theorem Rl_ag {kt : kw_T} {iv iv1 : fw_F} {ar ar1 : fw_R} {jv jv1 : fw_F} {br br1 : fw_R} (hR : Rl kt iv ar jv br) (h9 : ag9 iv ar iv1 ar1) (h10 : ag10 jv br jv1 br1) : Rl kt iv1 ar1 jv1 br1 := by
  obtain ⟨a1, a2⟩ := h9
  obtain ⟨b1, b2⟩ := h10
  unfold Rl rk rh rb rma rsh at *
  rw [a1 0 (by decide) (by decide), a1 1 (by decide) (by decide), a1 2 (by decide) (by decide), a1 3 (by decide) (by decide), a1 4 (by decide) (by decide), a1 5 (by decide) (by decide), a1 7 (by decide) (by decide), a1 21 (by decide) (by decide),
    a2 3 (by decide) (by decide) (by decide) (by decide) (by decide) (by decide) (by decide) (by decide), a2 5 (by decide) (by decide) (by decide) (by decide) (by decide) (by decide) (by decide) (by decide), a2 11 (by decide) (by decide) (by decide) (by decide) (by decide) (by decide) (by decide) (by decide), a2 12 (by decide) (by decide) (by decide) (by decide) (by decide) (by decide) (by decide) (by decide),
    b1 0 (by decide) (by decide) (by decide) (by decide) (by decide), b1 1 (by decide) (by decide) (by decide) (by decide) (by decide), b1 5 (by decide) (by decide) (by decide) (by decide) (by decide), b1 10 (by decide) (by decide) (by decide) (by decide) (by decide), b1 11 (by decide) (by decide) (by decide) (by decide) (by decide), b1 16 (by decide) (by decide) (by decide) (by decide) (by decide), b1 17 (by decide) (by decide) (by decide) (by decide) (by decide), b1 28 (by decide) (by decide) (by decide) (by decide) (by decide),
    b2 2 (by decide) (by decide) (by decide) (by decide) (by decide) (by decide) (by decide) (by decide) (by decide), b2 3 (by decide) (by decide) (by decide) (by decide) (by decide) (by decide) (by decide) (by decide) (by decide), b2 4 (by decide) (by decide) (by decide) (by decide) (by decide) (by decide) (by decide) (by decide) (by decide), b2 6 (by decide) (by decide) (by decide) (by decide) (by decide) (by decide) (by decide) (by decide) (by decide), b2 7 (by decide) (by decide) (by decide) (by decide) (by decide) (by decide) (by decide) (by decide) (by decide), b2 8 (by decide) (by decide) (by decide) (by decide) (by decide) (by decide) (by decide) (by decide) (by decide), b2 9 (by decide) (by decide) (by decide) (by decide) (by decide) (by decide) (by decide) (by decide) (by decide), b2 12 (by decide) (by decide) (by decide) (by decide) (by decide) (by decide) (by decide) (by decide) (by decide), b2 18 (by decide) (by decide) (by decide) (by decide) (by decide) (by decide) (by decide) (by decide) (by decide), b2 29 (by decide) (by decide) (by decide) (by decide) (by decide) (by decide) (by decide) (by decide) (by decide), b2 30 (by decide) (by decide) (by decide) (by decide) (by decide) (by decide) (by decide) (by decide) (by decide)]
  obtain ⟨h1, h2, h3, h4, h5, h6⟩ := hR
  refine ⟨h1, h2, h3, h4, fun k hk => ?_, h6⟩
  rw [a1 (9 + k) (by omega) (by omega), a1 (13 + k) (by omega) (by omega), a1 (17 + k) (by omega) (by omega), a2 (21 + k) (by omega) (by omega) (by omega) (by omega) (by omega) (by omega) (by omega) (by omega)]
  exact h5 k hk
theorem Rl_0 : Rl kt0 (fun _ => 0) (fun _ _ => 0) (fun _ => 0) mr0 := by
  refine ⟨⟨0, fun _ => 0, fun _ => 0, fun _ => 0, fun _ => 0, by omega, rfl, rfl, rfl, fun i h => absurd h (Nat.not_lt_zero i)⟩, ⟨0, 0, fun _ => 0, by omega, rfl, rfl, by omega, rfl, rfl, fun j _ => ⟨Nat.zero_le _, rfl, rfl⟩, fun h => absurd h (by omega)⟩, ⟨0, 0, fun _ => 0, by omega, by omega, by omega, rfl, rfl, rfl, rfl, fun c h => absurd h (by omega)⟩, ⟨0, fun _ => 0, fun _ => 0, by omega, rfl, rfl, fun i h => absurd h (Nat.not_lt_zero i)⟩, fun k hk => Or.inl ⟨rfl, ?_⟩, rfl, rfl⟩
  rcases (show k = 0 ∨ k = 1 ∨ k = 2 ∨ k = 3 by omega) with rfl | rfl | rfl | rfl <;> rfl
