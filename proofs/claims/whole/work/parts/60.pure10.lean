/-! ===== the reference's straying ===== -/
theorem cb10 {jv : fw_F} {br : fw_R} {h w c k j : Nat} {Q : Int32 → Prop} (hh : h ≤ 6) (hw : w ≤ 6) (e1 : jv 16 = nI h) (e2 : jv 17 = nI w) (hc : c < h * w) (hk : k < 5) (hj : j < 5) (h1 : inr h w c k j → Q (nI (cix w c k j))) (h0 : ¬ inr h w c k j → Q (-9)) : wpX10_cellBy jv br (nI c) (nI k - 2) (nI j - 2) Q := by
  unfold wpX10_cellBy
  have h36 : h * w ≤ 36 := Nat.mul_le_mul hh hw
  have hw1 : 1 ≤ w := by
    rcases Nat.eq_zero_or_pos w with z | z
    · subst z; simp at hc
    · exact z
  have d1 : c / w ≤ c := Nat.div_le_self c w
  have d2 : c % w ≤ c := Nat.mod_le c w
  have c2 : ¬ nI w = 0 := nI_ne0 (by omega) (by omega)
  have nz : ¬ (1 : Int32) = 0 := by decide
  rw [e1, e2, pk_rem (show c < 2 ^ 31 by omega) (by omega) (by omega), pk_div (show c < 2 ^ 31 by omega) (by omega) (by omega)]
  refine ⟨c2, ?_⟩
  rintro _ rfl
  refine ⟨c2, ?_⟩
  rintro _ rfl
  have r1 := in_row (a := c / w) (k := k) (h := h) (by omega) (by omega) (by omega)
  have r2 := in_col (a := c % w) (k := j) (w := w) (by omega) (by omega) (by omega)
  rw [ev10_within]
  refine ⟨fun z => ⟨fun y => absurd y nz, fun _ => ?_⟩, fun z => ⟨fun _ => h0 (fun y => z (r1.mpr y.1)), fun y => absurd rfl y⟩⟩
  rw [ev10_within]
  refine ⟨fun z2 => ⟨fun y => absurd y nz, fun _ => ?_⟩, fun z2 => ⟨fun _ => h0 (fun y => z2 (r2.mpr y.2)), fun y => absurd rfl y⟩⟩
  have z3 := r1.mp z
  have z4 := r2.mp z2
  have e3 : nI (c / w) - (nI k - 2) = nI (c / w + 2 - k) := by
    rw [← pk_sub z3.1, ← nI_add, show nI 2 = 2 from rfl]; grind
  have e4 : nI (c % w) + (nI j - 2) = nI (c % w + j - 2) := by
    rw [← pk_sub z4.1, ← nI_add, show nI 2 = 2 from rfl]; grind
  rw [e3, e4, pk_mul, nI_add, Nat.mul_comm]
  exact h1 ⟨z3, z4⟩
theorem cix_lt {h w c k j : Nat} (z : inr h w c k j) : cix w c k j < h * w := cell_lt z.1.2 z.2.2
theorem sm5_mul {g : Nat → Nat} {a : Nat} : ∀ n, sm5 (fun j => g j * a) n = sm5 g n * a
  | 0 => by simp [sm5]
  | n + 1 => by unfold sm5; rw [sm5_mul n, Nat.add_mul]
theorem sm5_cong {g g2 : Nat → Nat} : ∀ {n}, (∀ k, k < n → g k = g2 k) → sm5 g n = sm5 g2 n
  | 0, _ => rfl
  | n + 1, h => by unfold sm5; rw [sm5_cong (n := n) (fun k hk => h k (by omega)), h n (by omega)]
/-- the set that the reference means by its two flags -/
def sset (x3 x4 : Int32) : Nat := if x4 = 0 then (if x3 = 0 then 4 else 12) else 1
theorem sset_lt {x3 x4 : Int32} : sset x3 x4 < 16 := by unfold sset; split; split <;> decide; decide
theorem hu10 {l : Nat} {x3 : Int32} {Q : Int32 → Prop} (hl : l < 4) (h1 : hit (if x3 = 0 then 4 else 12) l = true → Q 1) (h0 : ¬ hit (if x3 = 0 then 4 else 12) l = true → Q 0) : wpX10_isHurt (nI l) x3 Q := by
  unfold wpX10_isHurt
  have e2 : (nI l = 2) ↔ l = 2 := nI_eq (b := 2) (by omega) (by omega)
  have e3 : (nI l = 3) ↔ l = 3 := nI_eq (b := 3) (by omega) (by omega)
  rw [e2, e3]
  by_cases z : x3 = 0
  · rw [if_pos z] at h1 h0
    rcases (show l = 0 ∨ l = 1 ∨ l = 2 ∨ l = 3 by omega) with rfl | rfl | rfl | rfl
    · simp [h0 (by decide)]
    · simp [h0 (by decide)]
    · simp [h1 (by decide)]
    · simp [h0 (by decide), z]
  · rw [if_neg z] at h1 h0
    rcases (show l = 0 ∨ l = 1 ∨ l = 2 ∨ l = 3 by omega) with rfl | rfl | rfl | rfl
    · simp [h0 (by decide)]
    · simp [h0 (by decide)]
    · simp [h1 (by decide)]
    · simp [h1 (by decide), z]
theorem ct10 {jv : fw_F} {br : fw_R} {h w c st : Nat} {S W : Nat → Nat} {x3 x4 : Int32} {Q : Int32 → Prop} (hh : h ≤ 6) (hw : w ≤ 6) (e1 : jv 16 = nI h) (e2 : jv 17 = nI w) (hS : ∀ c, c < h * w → br 22 c = nI (S c) ∧ S c < 4) (hc : c < h * w) (hW : ∀ j, j < 15 → W j ≤ 9) (ha : ∀ j, j < 15 → br 12 j = nI (W j)) (hst : st ≤ 9) (hQ : Q (nI (wto h w (sset x3 x4) S W st c))) : wpX10_comesBy jv br (nI c) (nI st) x3 x4 Q := by
  unfold wpX10_comesBy
  have h36 : h * w ≤ 36 := Nat.mul_le_mul hh hw
  have pz : ∀ k, k < 100 → nI k - 2 + 2 = nI k := fun k _ => by grind
  have p3 : ∀ k, k < 100 → ((3 : Int32) ≤ nI k - 2 ↔ 5 ≤ k) := fun k hk => by
    rw [Int32.le_iff_toInt_le, show (2 : Int32) = nI 2 from rfl, pk_sub_toInt (by omega) (by omega), show (3 : Int32).toInt = 3 from rfl]
    omega
  refine pk_loop (σ := Int32) (fun n k z => wpX10_comesBy_L7 (nI c) (nI st) x3 x4 jv br Q (fun w33 _ => Q w33) n z (nI k - 2)) (fun k z => z = nI (sm5 (fun k => sm5 (fun j => if inr h w c k j ∧ hit (sset x3 x4) (S (cix w c k j)) = true then wt W 2 j st else 0) 5 * wt W 1 k st) k)) 5 0 0 (by omega) rfl ?_ ?_
  · rintro n _ rfl
    exact ⟨fun _ => hQ, fun y => absurd ((p3 5 (by omega)).mpr (by omega)) y⟩
  · rintro n k _ hk rfl ih
    refine ⟨fun y => absurd ((p3 k (by omega)).mp y) (by omega), fun _ => ?_⟩
    refine pk_loop (σ := Int32) (fun m j z => wpX10_comesBy_L17 (nI c) (nI st) x3 x4 (nI k - 2) jv br Q _ m z (nI j - 2)) (fun j z => z = nI (sm5 (fun k => sm5 (fun j => if inr h w c k j ∧ hit (sset x3 x4) (S (cix w c k j)) = true then wt W 2 j st else 0) 5 * wt W 1 k st) k + sm5 (fun j => if inr h w c k j ∧ hit (sset x3 x4) (S (cix w c k j)) = true then wt W 2 j st else 0) j * wt W 1 k st)) 5 0 _ (by omega) (by simp [sm5]) ?_ ?_
    · rintro m _ rfl
      refine ⟨fun _ => ?_, fun y => absurd ((p3 5 (by omega)).mpr (by omega)) y⟩
      rintro _ rfl
      rw [(pb_d (k := k) (by omega)).2]
      exact ih _ rfl
    · rintro m j _ hj rfl ih2
      refine ⟨fun y => absurd ((p3 j (by omega)).mp y) (by omega), fun _ => ?_⟩
      have ih3 := ih2 _ rfl
      simp only [sm5] at ih3
      have no : ¬ (inr h w c k j ∧ hit (sset x3 x4) (S (cix w c k j)) = true) → ∀ y, y = nI (sm5 (fun k => sm5 (fun j => if inr h w c k j ∧ hit (sset x3 x4) (S (cix w c k j)) = true then wt W 2 j st else 0) 5 * wt W 1 k st) k + sm5 (fun j => if inr h w c k j ∧ hit (sset x3 x4) (S (cix w c k j)) = true then wt W 2 j st else 0) j * wt W 1 k st) + 0 → ∀ y2, y2 = nI j - 2 + 1 → wpX10_comesBy_L17 (nI c) (nI st) x3 x4 (nI k - 2) jv br Q (fun (w30 : Int32) (_ : Int32) => ∀ y32 : Int32, y32 = nI k - 2 + 1 → wpX10_comesBy_L7 (nI c) (nI st) x3 x4 jv br Q (fun (w33 : Int32) (_ : Int32) => Q w33) n w30 y32) m y y2 := fun g y hy y2 hy2 => by
        rw [if_neg g] at ih3
        rw [hy, hy2, show (0 : Int32) = nI 0 from rfl, nI_add, (pb_d (k := j) (by omega)).2]
        exact ih3
      have yes : (inr h w c k j ∧ hit (sset x3 x4) (S (cix w c k j)) = true) → wpX10_weightOf jv br 1 ((nI k - 2) + 2) (nI st) (fun r16 => wpX10_weightOf jv br 2 ((nI j - 2) + 2) (nI st) (fun r17 => ∀ y18 : Int32, y18 = nI (sm5 (fun k => sm5 (fun j => if inr h w c k j ∧ hit (sset x3 x4) (S (cix w c k j)) = true then wt W 2 j st else 0) 5 * wt W 1 k st) k + sm5 (fun j => if inr h w c k j ∧ hit (sset x3 x4) (S (cix w c k j)) = true then wt W 2 j st else 0) j * wt W 1 k st) + (r16 * r17) → ∀ y19 : Int32, y19 = nI j - 2 + 1 → wpX10_comesBy_L17 (nI c) (nI st) x3 x4 (nI k - 2) jv br Q (fun (w30 : Int32) (_ : Int32) => ∀ y32 : Int32, y32 = nI k - 2 + 1 → wpX10_comesBy_L7 (nI c) (nI st) x3 x4 jv br Q (fun (w33 : Int32) (_ : Int32) => Q w33) n w30 y32) m y18 y19)) := fun g => by
        rw [pz k (by omega), pz j (by omega)]
        refine (we10 (row := 1) hW ha (by omega) hk hst).mpr ?_
        refine (we10 (row := 2) hW ha (by omega) hj hst).mpr ?_
        rintro _ rfl _ rfl
        rw [if_pos g] at ih3
        rw [(pb_d (k := j) (by omega)).2, pk_mul, nI_add]
        have e : ∀ a b x y : Nat, a + b * x + x * y = a + (b + y) * x := fun a b x y => by rw [Nat.add_mul, Nat.mul_comm x y, Nat.add_assoc]
        rw [e]
        exact ih3
      refine cb10 hh hw e1 e2 hc hk hj (fun z => ?_) (fun z => ?_)
      · have hlt := cix_lt z
        have s4 := hS _ hlt
        refine ⟨fun y => absurd y (nI_ne9 (by omega)), fun _ => ⟨fun x40 => ⟨pb_vin (by omega) (by decide), ?_⟩, fun x40 => ⟨pb_vin (by omega) (by decide), ?_⟩⟩⟩
        · rw [pb_cl (by omega), s4.1]
          have es : sset x3 x4 = if x3 = 0 then 4 else 12 := by unfold sset; rw [if_pos x40]
          refine hu10 s4.2 (fun g => ⟨fun y => absurd y (by decide), fun _ => yes ⟨z, by rw [es]; exact g⟩⟩) (fun g => ⟨fun _ => no (fun u => g (by rw [es] at u; exact u.2)), fun y => absurd rfl y⟩)
        · rw [pb_cl (by omega), s4.1]
          have es : sset x3 x4 = 1 := by unfold sset; rw [if_neg x40]
          have e0 : (nI (S (cix w c k j)) = 0) ↔ hit 1 (S (cix w c k j)) = true := by
            have e5 : (nI (S (cix w c k j)) = 0) ↔ S (cix w c k j) = 0 := nI_eq (b := 0) (by omega) (by omega)
            rw [e5]
            have l4 := s4.2
            generalize S (cix w c k j) = l at l4 ⊢
            rcases (show l = 0 ∨ l = 1 ∨ l = 2 ∨ l = 3 by omega) with rfl | rfl | rfl | rfl <;> decide
          rw [e0]
          exact ⟨fun g => no (fun u => g (by rw [es] at u; exact u.2)), fun g => yes ⟨z, by rw [es]; exact g⟩⟩
      · exact ⟨fun _ => no (fun u => z u.1), fun y => absurd rfl y⟩
theorem aw9 {kt : kw_T} {iv : fw_F} {ar : fw_R} {W : Nat → Nat} {st : Nat} {Q : Int32 → Prop} (hW : ∀ j, j < 15 → W j ≤ 9) (ha : ∀ j, j < 15 → ar 3 j = nI (W j)) (hs : st ≤ 9) (h : Q (nI (sm5 (fun k => wt W 1 k st) 5 * sm5 (fun k => wt W 2 k st) 5))) : wpX9_weightOfAll kt iv ar (nI st) Q := by
  unfold wpX9_weightOfAll
  refine su9 (row := 1) hW ha (by omega) hs ?_
  refine su9 (row := 2) hW ha (by omega) hs ?_
  rw [pk_mul]
  exact h
theorem aw10 {jv : fw_F} {br : fw_R} {W : Nat → Nat} {st : Nat} {Q : Int32 → Prop} (hW : ∀ j, j < 15 → W j ≤ 9) (ha : ∀ j, j < 15 → br 12 j = nI (W j)) (hs : st ≤ 9) (h : Q (nI (sm5 (fun k => wt W 1 k st) 5 * sm5 (fun k => wt W 2 k st) 5))) : wpX10_allWays jv br (nI st) Q := by
  unfold wpX10_allWays
  refine su10 (row := 1) hW ha (by omega) hs ?_
  refine su10 (row := 2) hW ha (by omega) hs ?_
  rw [pk_mul]
  exact h
theorem ls10 {jv : fw_F} {br : fw_R} {h w : Nat} {L : Nat → Nat} {Q : fw_F → fw_R → Prop} (hh : h ≤ 6) (hw : w ≤ 6) (e1 : jv 16 = nI h) (e2 : jv 17 = nI w) (hL : ∀ c, c < h * w → br 18 c = nI (L c)) (hQ : ∀ g : Nat → Int32, (∀ c, c < h * w → g c = nI (L c)) → Q jv (va_up br 22 g)) : wpX10_laySeen jv br Q := by
  unfold wpX10_laySeen
  have h36 : h * w ≤ 36 := Nat.mul_le_mul hh hw
  refine pk_loop (σ := fw_R) (fun n i s => wpX10_laySeen_L2 Q (fun _ iv7 ar8 => Q iv7 ar8) n (nI i) jv s) (fun i s => ∃ g : Nat → Int32, s = va_up br 22 g ∧ ∀ c, c < i → g c = nI (L c)) (h * w) 0 br (by omega) ⟨br 22, by funext j; unfold va_up; split <;> simp_all, fun c hc => absurd hc (by omega)⟩ ?_ ?_
  · rintro n _ ⟨g, rfl, hg⟩
    refine ⟨fun _ => hQ g hg, fun y => absurd ?_ y⟩
    rw [e1, e2, pk_mul]
    exact nI_le (Nat.le_refl _) (by omega)
  · rintro n i _ hi ⟨g, rfl, hg⟩ ih
    refine ⟨fun y => absurd y ?_, fun _ => ⟨pb_vin (by omega) (by decide), pb_vin (by omega) (by decide), ?_⟩⟩
    · rw [e1, e2, pk_mul]
      exact nI_ge hi (by omega)
    · rintro _ rfl _ rfl
      rw [nI_1]
      refine ih _ ⟨upd g i (nI (L i)), ?_, fun c hc => ?_⟩
      · rw [pb_cl (by omega)]
        simp only [pb_up, va_up2]
        simp only [show ¬ (18 : Nat) = 22 from by decide, if_false, if_true]
        rw [hL i hi]
      · rw [pb_upd]
        by_cases z : c = i
        · rw [if_pos z, z]
        · rw [if_neg z]; exact hg c (by omega)
