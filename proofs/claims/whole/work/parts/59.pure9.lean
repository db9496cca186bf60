/-! ===== the board ===== -/
def rot (h : Nat) : Nat → Nat × Nat → Nat × Nat
  | 0, u => u
  | q + 1, u => (h - 1 - (rot h q u).2, (rot h q u).1)
theorem rot_lt {h r c : Nat} (hr : r < h) (hc : c < h) : ∀ q, (rot h q (r, c)).1 < h ∧ (rot h q (r, c)).2 < h
  | 0 => ⟨hr, hc⟩
  | q + 1 => by
    have := rot_lt hr hc q
    unfold rot
    dsimp only
    omega
def rotc (h w q r c : Nat) : Nat := (rot h q (r, c)).1 * w + (rot h q (r, c)).2
theorem cell_lt {h w r c : Nat} (hr : r < h) (hc : c < w) : r * w + c < h * w := by
  have h1 : (r + 1) * w ≤ h * w := Nat.mul_le_mul_right w (by omega)
  rw [Nat.succ_mul] at h1
  omega
theorem rotc_lt {h w q r c : Nat} (hr : r < h) (hc : c < w) (hq : q = 0 ∨ h = w) : rotc h w q r c < h * w := by
  unfold rotc
  rcases hq with rfl | rfl
  · exact cell_lt hr hc
  · have := rot_lt hr hc q
    exact cell_lt this.1 this.2
theorem rw9 {kt : kw_T} {iv : fw_F} {ar : fw_R} {w c : Nat} {Q : Int32 → Prop} (hw : w ≤ 6) (hw1 : 1 ≤ w) (hc : c < 2 ^ 31) (e : iv 5 = nI w) : (wpX0_rowOf kt iv ar (nI c) Q ↔ Q (nI (c / w))) ∧ (wpX0_columnOf kt iv ar (nI c) Q ↔ Q (nI (c % w))) := by
  unfold wpX0_rowOf wpX0_columnOf
  have c1 : (1 : Int32) ≤ nI w := nI_le (a := 1) hw1 (by omega)
  have c2 : ¬ nI w = 0 := nI_ne0 (by omega) (by omega)
  rw [e, pk_div hc (by omega) (by omega), ← pk_div hc (show 0 < w by omega) (by omega), pk_rem hc (by omega) (by omega), pk_div hc (by omega) (by omega)]
  simp [c1, c2]
theorem la9 {kt : kw_T} {iv : fw_F} {ar : fw_R} {h w r c q : Nat} {L : Nat → Nat} {Q : Int32 → Prop} (hh : h ≤ 6) (hw : w ≤ 6) (e1 : iv 4 = nI h) (e2 : iv 5 = nI w) (hL : ∀ c, c < h * w → ar 5 c = nI (L c)) (hr : r < h) (hc : c < w) (hq : q = 0 ∨ h = w) (hq3 : q ≤ 3) (hQ : Q (nI (L (rotc h w q r c)))) : wpX0_letterAt kt iv ar (nI r) (nI c) (nI q) Q := by
  unfold wpX0_letterAt
  have h36 : h * w ≤ 36 := Nat.mul_le_mul hh hw
  have p1 := (pb_lt1 (x := nI r) (n := h) (by omega)).mpr ⟨r, hr, rfl⟩
  have p2 := (pb_lt1 (x := nI c) (n := w) (by omega)).mpr ⟨c, hc, rfl⟩
  have nz : ¬ (1 : Int32) = 0 := by decide
  rw [ev9_within, e1]
  refine ⟨fun _ => ⟨fun z => absurd z nz, fun _ => ?_⟩, fun z => absurd p1 z⟩
  rw [ev9_within, e2]
  refine ⟨fun _ => ⟨fun _ => ?_, fun z => absurd z nz⟩, fun z => absurd p2 z⟩
  have key : ∀ j, j ≤ q → (rot h j (r, c)).1 < h ∧ (rot h j (r, c)).2 < w := by
    intro j hj
    rcases hq with rfl | rfl
    · have e : j = 0 := by omega
      subst e
      exact ⟨hr, hc⟩
    · exact rot_lt hr hc j
  refine pk_loop (σ := Int32 × Int32) (fun n j u => wpX0_letterAt_L39 kt (nI r) (nI c) (nI q) iv ar Q _ n u.1 u.2 (nI j)) (fun j u => u = (nI (rot h j (r, c)).1, nI (rot h j (r, c)).2)) q 0 (nI r, nI c) (by omega) rfl ?_ ?_
  · intro n u hu
    rw [hu]
    refine ⟨fun _ => ?_, fun z => absurd (nI_le (Nat.le_refl q) (by omega)) z⟩
    rintro _ rfl
    have hk := key q (Nat.le_refl q)
    have hlt := cell_lt hk.1 hk.2
    dsimp only
    rw [pk_mul, nI_add, ce9_yes hh hw e1 e2 hlt]
    refine ⟨fun z => absurd z nz, fun _ => ⟨pb_vin (by omega) (by decide), ?_⟩⟩
    rw [pb_cl (by omega), hL _ hlt]
    exact hQ
  · intro n j u hj hu ih
    rw [hu]
    refine ⟨fun z => absurd z (nI_ge hj (by omega)), fun _ => ?_⟩
    rintro _ rfl _ rfl
    have hk := key j (by omega)
    have hhw : h = w := by rcases hq with e | e <;> omega
    have e3 : nI h - 1 - nI (rot h j (r, c)).2 = nI (h - 1 - (rot h j (r, c)).2) := by
      rw [show (1 : Int32) = nI 1 from rfl, pk_sub (by omega), pk_sub (by omega)]
    rw [e1]
    dsimp only
    rw [e3, nI_1]
    exact ih (nI (h - 1 - (rot h j (r, c)).2), nI (rot h j (r, c)).1) rfl
theorem la9_out {kt : kw_T} {iv : fw_F} {ar : fw_R} {h w : Nat} {x1 x2 x3 : Int32} {Q : Int32 → Prop} (e1 : iv 4 = nI h) (e2 : iv 5 = nI w) (ho : ¬ ((0 ≤ x1 ∧ x1 ≤ nI h - 1) ∧ (0 ≤ x2 ∧ x2 ≤ nI w - 1))) (hQ : Q (-1)) : wpX0_letterAt kt iv ar x1 x2 x3 Q := by
  unfold wpX0_letterAt
  have nz : ¬ (1 : Int32) = 0 := by decide
  rw [ev9_within, e1]
  refine ⟨fun a => ⟨fun z => absurd z nz, fun _ => ?_⟩, fun z => ⟨fun _ => hQ, fun z => absurd rfl z⟩⟩
  rw [ev9_within, e2]
  exact ⟨fun b => absurd ⟨a, b⟩ ho, fun _ => ⟨fun z => absurd rfl z, fun _ => hQ⟩⟩
/-- a letter is of a set -/
def hit (s l : Nat) : Bool := (s >>> l) % 2 == 1
theorem hit_bits : ∀ s, s < 16 → ∀ l, l < 4 → ((((nI s) >>> ((nI l) &&& 31)) &&& 1) = 1 ↔ hit s l = true) := by decide +kernel
/-- the cell that is strayed to is on the board -/
abbrev inr (h w c k j : Nat) : Prop := (k ≤ c / w + 2 ∧ c / w + 2 - k < h) ∧ (2 ≤ c % w + j ∧ c % w + j - 2 < w)
def cix (w c k j : Nat) : Nat := (c / w + 2 - k) * w + (c % w + j - 2)
theorem in_row {a k h : Nat} (ha : a < 100) (hk : k < 100) (hh : h < 100) : (0 ≤ nI a - (nI k - 2) ∧ nI a - (nI k - 2) ≤ nI h - 1) ↔ (k ≤ a + 2 ∧ a + 2 - k < h) := by
  have e : nI a - (nI k - 2) = nI (a + 2) - nI k := by rw [← nI_add, show nI 2 = 2 from rfl]; grind
  rw [e, Int32.le_iff_toInt_le, Int32.le_iff_toInt_le, pb_i0, show (1 : Int32) = nI 1 from rfl, pk_sub_toInt (by omega) (by omega), pk_sub_toInt (by omega) (by omega)]
  omega
theorem in_col {a k w : Nat} (ha : a < 100) (hk : k < 100) (hh : w < 100) : (0 ≤ nI a + (nI k - 2) ∧ nI a + (nI k - 2) ≤ nI w - 1) ↔ (2 ≤ a + k ∧ a + k - 2 < w) := by
  have e : nI a + (nI k - 2) = nI (a + k) - nI 2 := by rw [← nI_add, show nI 2 = 2 from rfl]; grind
  rw [e, Int32.le_iff_toInt_le, Int32.le_iff_toInt_le, pb_i0, show (1 : Int32) = nI 1 from rfl, pk_sub_toInt (by omega) (by omega), pk_sub_toInt (by omega) (by omega)]
  omega
theorem io9 {kt : kw_T} {iv : fw_F} {ar : fw_R} {h w c k j q s : Nat} {L S : Nat → Nat} {Q : Int32 → Prop} (hh : h ≤ 6) (hw : w ≤ 6) (e1 : iv 4 = nI h) (e2 : iv 5 = nI w) (hL : ∀ c, c < h * w → ar 5 c = nI (L c)) (hL4 : ∀ c, c < h * w → L c < 4) (hS : ∀ r c, r < h → c < w → S (r * w + c) = L (rotc h w q r c)) (hc : c < h * w) (hk : k < 5) (hj : j < 5) (hq : q = 0 ∨ h = w) (hq3 : q ≤ 3) (hs : s < 16) (h1 : inr h w c k j → hit s (S (cix w c k j)) = true → Q 1) (h0 : ¬ (inr h w c k j ∧ hit s (S (cix w c k j)) = true) → Q 0) : wpX0_isOf kt iv ar (nI s) (nI (c / w) - (nI k - 2)) (nI (c % w) + (nI j - 2)) (nI q) Q := by
  unfold wpX0_isOf
  have h36 : h * w ≤ 36 := Nat.mul_le_mul hh hw
  have d1 : c / w ≤ c := Nat.div_le_self c w
  have d2 : c % w ≤ c := Nat.mod_le c w
  have r1 := in_row (a := c / w) (k := k) (h := h) (by omega) (by omega) (by omega)
  have r2 := in_col (a := c % w) (k := j) (w := w) (by omega) (by omega) (by omega)
  by_cases z : inr h w c k j
  · have e3 : nI (c / w) - (nI k - 2) = nI (c / w + 2 - k) := by
      rw [← pk_sub z.1.1, ← nI_add, show nI 2 = 2 from rfl]; grind
    have e4 : nI (c % w) + (nI j - 2) = nI (c % w + j - 2) := by
      rw [← pk_sub z.2.1, ← nI_add, show nI 2 = 2 from rfl]; grind
    rw [e3, e4]
    refine la9 hh hw e1 e2 hL z.1.2 z.2.2 hq hq3 ?_
    have hlt := rotc_lt (q := q) z.1.2 z.2.2 hq
    have e5 : S (cix w c k j) = L (rotc h w q (c / w + 2 - k) (c % w + j - 2)) := hS _ _ z.1.2 z.2.2
    have l4 := hL4 _ hlt
    rw [← e5] at l4 ⊢
    have n1 : ¬ nI (S (cix w c k j)) = -1 := by
      intro y
      have := congrArg Int32.toInt y
      rw [nI_toInt (by omega)] at this
      have e : (-1 : Int32).toInt = -1 := rfl
      omega
    refine ⟨fun y => absurd y n1, fun _ => ⟨fun y => ?_, fun y => ?_⟩⟩
    · rw [hit_bits s hs _ l4] at y
      exact h0 (fun u => y u.2)
    · rw [hit_bits s hs _ l4] at y
      exact h1 z y
  · refine la9_out e1 e2 (fun y => z ⟨r1.mp y.1, r2.mp y.2⟩) ?_
    exact ⟨fun _ => h0 (fun u => z u.1), fun y => absurd rfl y⟩
/-- the weights of all ways to stray from a cell to a letter of a set -/
def wto (h w s : Nat) (S W : Nat → Nat) (st c : Nat) : Nat := sm5 (fun k => sm5 (fun j => if inr h w c k j ∧ hit s (S (cix w c k j)) = true then wt W 2 j st else 0) 5 * wt W 1 k st) 5
theorem wto_in {h w s : Nat} {S W : Nat → Nat} {st c k n : Nat} (hn : n ≤ 5) (hW : ∀ j, j < 15 → W j ≤ 9) : sm5 (fun j => if inr h w c k j ∧ hit s (S (cix w c k j)) = true then wt W 2 j st else 0) n ≤ 45 := by
  refine Nat.le_trans (sm5_le (c := 9) (fun j hj => ?_)) (by omega)
  split
  · exact wt_le hW (by omega) (by omega)
  · omega
theorem wt9 {kt : kw_T} {iv : fw_F} {ar : fw_R} {h w c q s st : Nat} {L S W : Nat → Nat} {Q : Int32 → Prop} (hh : h ≤ 6) (hw : w ≤ 6) (e1 : iv 4 = nI h) (e2 : iv 5 = nI w) (hL : ∀ c, c < h * w → ar 5 c = nI (L c)) (hL4 : ∀ c, c < h * w → L c < 4) (hS : ∀ r c, r < h → c < w → S (r * w + c) = L (rotc h w q r c)) (hc : c < h * w) (hq : q = 0 ∨ h = w) (hq3 : q ≤ 3) (hs : s < 16) (hW : ∀ j, j < 15 → W j ≤ 9) (ha : ∀ j, j < 15 → ar 3 j = nI (W j)) (hst : st ≤ 9) (hQ : Q (nI (wto h w s S W st c))) : wpX9_weightTo kt iv ar (nI s) (nI c) (nI st) (nI q) Q := by
  unfold wpX9_weightTo
  have h36 : h * w ≤ 36 := Nat.mul_le_mul hh hw
  have hw1 : 1 ≤ w := by
    rcases Nat.eq_zero_or_pos w with z | z
    · subst z; simp at hc
    · exact z
  rw [(rw9 hw hw1 (by omega) e2).1, (rw9 hw hw1 (by omega) e2).2]
  refine pk_loop (σ := Int32) (fun n k z => wpX9_weightTo_L27 kt (nI s) (nI c) (nI st) (nI q) (nI (c % w)) (nI (c / w)) iv ar Q (fun w16 _ => Q w16) n z (nI k - 2)) (fun k z => z = nI (sm5 (fun k => sm5 (fun j => if inr h w c k j ∧ hit s (S (cix w c k j)) = true then wt W 2 j st else 0) 5 * wt W 1 k st) k)) 5 0 0 (by omega) rfl ?_ ?_
  · rintro n _ rfl
    exact ⟨fun _ => hQ, fun y => absurd ((pb_d (k := 5) (by omega)).1.mpr (by omega)) y⟩
  · rintro n k _ hk rfl ih
    refine ⟨fun y => absurd ((pb_d (k := k) (by omega)).1.mp y) (by omega), fun _ => ?_⟩
    refine pk_loop (σ := Int32) (fun m j z => wpX9_weightTo_L40 kt (nI s) (nI c) (nI st) (nI q) (nI k - 2) _ (nI (c % w)) (nI (c / w)) iv ar Q _ m z (nI j - 2)) (fun j z => z = nI (sm5 (fun j => if inr h w c k j ∧ hit s (S (cix w c k j)) = true then wt W 2 j st else 0) j)) 5 0 0 (by omega) rfl ?_ ?_
    · rintro m _ rfl
      refine ⟨fun _ => ?_, fun y => absurd ((pb_d (k := 5) (by omega)).1.mpr (by omega)) y⟩
      refine (we9 (kt := kt) (iv := iv) (row := 1) hW ha (by omega) hk hst).mpr ?_
      rintro _ rfl _ rfl
      rw [(pb_d (k := k) (by omega)).2, pk_mul, nI_add]
      exact ih _ rfl
    · rintro m j _ hj rfl ih2
      refine ⟨fun y => absurd ((pb_d (k := j) (by omega)).1.mp y) (by omega), fun _ => ?_⟩
      have ih3 := ih2 _ rfl
      simp only [sm5] at ih3
      refine io9 hh hw e1 e2 hL hL4 hS hc hk hj hq hq3 hs (fun g1 g2 => ?_) (fun g => ?_)
      · refine ⟨fun y => absurd y (by decide), fun _ => ?_⟩
        refine (we9 (kt := kt) (iv := iv) (row := 2) hW ha (by omega) hj hst).mpr ?_
        rintro _ rfl _ rfl
        rw [(pb_d (k := j) (by omega)).2, nI_add]
        rw [if_pos ⟨g1, g2⟩] at ih3
        exact ih3
      · refine ⟨fun _ => ?_, fun y => absurd rfl y⟩
        rintro _ rfl
        rw [(pb_d (k := j) (by omega)).2]
        rw [if_neg g] at ih3
        exact ih3
