/-! ===== where one may throw ===== -/
theorem sm5_le2 {g g2 : Nat → Nat} : ∀ {n}, (∀ k, k < n → g k ≤ g2 k) → sm5 g n ≤ sm5 g2 n
  | 0, _ => Nat.le_refl _
  | n + 1, h => by unfold sm5; exact Nat.add_le_add (sm5_le2 (fun k hk => h k (by omega))) (h n (by omega))
theorem wto_mono {h w s s2 : Nat} {S W : Nat → Nat} {st c : Nat} (hs : ∀ l, l < 4 → hit s l = true → hit s2 l = true) (hS : ∀ c, c < h * w → S c < 4) : wto h w s S W st c ≤ wto h w s2 S W st c := by
  unfold wto
  refine sm5_le2 (fun k hk => Nat.mul_le_mul_right _ (sm5_le2 (fun j hj => ?_)))
  by_cases z : inr h w c k j ∧ hit s (S (cix w c k j)) = true
  · rw [if_pos z, if_pos ⟨z.1, hs _ (hS _ (cix_lt z.1)) z.2⟩]
    exact Nat.le_refl _
  · rw [if_neg z]; exact Nat.zero_le _
theorem im9 {kt : kw_T} {iv : fw_F} {ar : fw_R} {W : Nat → Nat} {st m v : Nat} {Q : Int32 → Prop} (hW : ∀ j, j < 15 → W j ≤ 9) (ha : ∀ j, j < 15 → ar 3 j = nI (W j)) (hs : st ≤ 9) (hm : m ≤ 1000) (hv : v ≤ 2025) (hb : alw W st ≤ 2025) (h1 : v * 1000 ≤ m * alw W st → Q 1) (h0 : ¬ v * 1000 ≤ m * alw W st → Q 0) : wpX9_isAtMost kt iv ar (nI m) (nI v) (nI st) Q := by
  unfold wpX9_isAtMost
  refine aw9 hW ha hs ?_
  change (0 < lg_cmp ((nI v).toInt64 * lN 1000) ((nI m).toInt64 * (nI (alw W st)).toInt64) → Q 0) ∧ (¬ 0 < lg_cmp ((nI v).toInt64 * lN 1000) ((nI m).toInt64 * (nI (alw W st)).toInt64) → Q 1)
  have m1 : m * alw W st ≤ 1000 * 2025 := Nat.mul_le_mul hm hb
  rw [pb_i2l (by omega), pb_i2l (by omega), pb_i2l (by omega), lN_mul, lN_mul, lg_cmp_gt, pk_lLT (by omega) (by omega)]
  exact ⟨fun z => h0 (by omega), fun z => h1 (by omega)⟩
theorem lo10 {jv : fw_F} {br : fw_R} {h w c st m : Nat} {S W : Nat → Nat} {x3 : Int32} {Q : Int32 → Prop} (hh : h ≤ 6) (hw : w ≤ 6) (e1 : jv 16 = nI h) (e2 : jv 17 = nI w) (hS : ∀ c, c < h * w → br 22 c = nI (S c) ∧ S c < 4) (hc : c < h * w) (hW : ∀ j, j < 15 → W j ≤ 9) (ha : ∀ j, j < 15 → br 12 j = nI (W j)) (hst : st ≤ 9) (hm : m ≤ 1000) (hb : alw W st ≤ 2025) (h1 : wto h w (sset x3 0) S W st c * 1000 ≤ m * alw W st → Q 1) (h0 : ¬ wto h w (sset x3 0) S W st c * 1000 ≤ m * alw W st → Q 0) : wpX10_isLow jv br (nI c) (nI st) x3 (nI m) Q := by
  unfold wpX10_isLow
  have l1 := wto_le (h := h) (w := w) (s := sset x3 0) (S := S) (st := st) (c := c) hW
  have m1 : m * alw W st ≤ 1000 * 2025 := Nat.mul_le_mul hm hb
  refine ct10 hh hw e1 e2 hS hc hW ha hst ?_
  refine aw10 hW ha hst ?_
  change (nI m * nI (alw W st) < nI 1000 * nI (wto h w (sset x3 0) S W st c) → Q 0) ∧ (¬ nI m * nI (alw W st) < nI 1000 * nI (wto h w (sset x3 0) S W st c) → Q 1)
  rw [pk_mul, pk_mul, nI_ltI (by omega) (by omega)]
  exact ⟨fun z => h0 (by omega), fun z => h1 (by omega)⟩
def alo (h w : Nat) (L W : Nat → Nat) (st m c : Nat) : Bool := decide (L c = 0 ∧ wto h w 12 L W st c * 1000 ≤ m * alw W st)
theorem ia9 {kt : kw_T} {iv : fw_F} {ar : fw_R} {h w c st m : Nat} {L W : Nat → Nat} {Q : Int32 → Prop} (hh : h ≤ 6) (hw : w ≤ 6) (e1 : iv 4 = nI h) (e2 : iv 5 = nI w) (hL : ∀ c, c < h * w → L c < 4 ∧ ar 5 c = nI (L c)) (hc : c < h * w) (hW : ∀ j, j < 15 → W j ≤ 9) (ha : ∀ j, j < 15 → ar 3 j = nI (W j)) (hst : st ≤ 9) (hm : m ≤ 1000) (hb : alw W st ≤ 2025) (h1 : alo h w L W st m c = true → Q 1) (h0 : ¬ alo h w L W st m c = true → Q 0) : wpX9_isAllowed kt iv ar (nI c) (nI m) (nI st) Q := by
  unfold wpX9_isAllowed
  refine lc9 (L := L) (q := 0) hh hw e1 e2 (fun c hc => (hL c hc).2) hc (Or.inl rfl) (by omega) ?_
  rw [rotc0, (cdiv hc).2.2.2.2]
  have l4 := (hL c hc).1
  have e5 : (nI (L c) = 0) ↔ L c = 0 := nI_eq (b := 0) (by omega) (by omega)
  rw [e5]
  refine ⟨fun z => ?_, fun z => h0 (fun u => z (of_decide_eq_true u).1)⟩
  refine wt9 (s := 12) (q := 0) (L := L) (S := L) hh hw e1 e2 (fun c hc => (hL c hc).2) (fun c hc => (hL c hc).1) (fun r c _ _ => rfl) hc (Or.inl rfl) (by omega) (by omega) hW ha hst ?_
  refine im9 hW ha hst hm (wto_le hW) hb (fun y => ⟨Or.inr rfl, h1 (decide_eq_true ⟨z, y⟩)⟩) (fun y => ⟨Or.inl rfl, h0 (fun u => y (of_decide_eq_true u).2)⟩)
theorem ia10 {jv : fw_F} {br : fw_R} {h w c st m : Nat} {L W : Nat → Nat} {Q : Int32 → Prop} (hh : h ≤ 6) (hw : w ≤ 6) (e1 : jv 16 = nI h) (e2 : jv 17 = nI w) (hL : ∀ c, c < h * w → br 18 c = nI (L c)) (hS : ∀ c, c < h * w → br 22 c = nI (L c) ∧ L c < 4) (hc : c < h * w) (hW : ∀ j, j < 15 → W j ≤ 9) (ha : ∀ j, j < 15 → br 12 j = nI (W j)) (hst : st ≤ 9) (hm : m ≤ 1000) (hb : alw W st ≤ 2025) (h1 : alo h w L W st m c = true → Q 1) (h0 : ¬ alo h w L W st m c = true → Q 0) : wpX10_isAllowed jv br (nI c) (nI m) (nI st) Q := by
  unfold wpX10_isAllowed
  have h36 : h * w ≤ 36 := Nat.mul_le_mul hh hw
  refine ⟨pb_vin (by omega) (by decide), ?_⟩
  rw [pb_cl (by omega), hL c hc]
  have l4 := (hS c hc).2
  have e5 : (nI (L c) = 0) ↔ L c = 0 := nI_eq (b := 0) (by omega) (by omega)
  rw [e5]
  refine ⟨fun z => h0 (fun u => z (of_decide_eq_true u).1), fun z => ?_⟩
  refine lo10 (x3 := 1) hh hw e1 e2 hS hc hW ha hst hm hb (fun y => ⟨fun q => absurd q (by decide), fun _ => ?_⟩) (fun y => ⟨fun _ => h0 (fun u => y (of_decide_eq_true u).2), fun q => absurd rfl q⟩)
  have mo := wto_mono (h := h) (w := w) (s := 4) (s2 := 12) (S := L) (W := W) (st := st) (c := c) (by decide) (fun c hc => (hS c hc).2)
  have s12 : sset 1 0 = 12 := by decide
  rw [s12] at y
  have s4 : sset 0 0 = 4 := by decide
  refine lo10 (x3 := 0) hh hw e1 e2 hS hc hW ha hst hm hb (fun _ => ⟨fun q => absurd q (by decide), fun _ => h1 (decide_eq_true ⟨z, y⟩)⟩) (fun y2 => absurd ?_ y2)
  rw [s4]
  exact Nat.le_trans (Nat.mul_le_mul_right 1000 mo) y
theorem rr9 {kt : kw_T} {iv : fw_F} {ar : fw_R} {h w to : Nat} {x1 x2 : Int32} {Q : Int32 → Prop} (hh : h ≤ 6) (hw : w ≤ 6) (hhw : h = 0 ↔ w = 0) (e1 : iv 4 = nI h) (e2 : iv 5 = nI w) (ht : to ≤ 1) (e3 : iv 2 = nI to) : wpX9_refusesRule kt iv ar x1 x2 Q ↔ Q (if 0 ≤ x1 ∧ x1 ≤ 1000 then if 0 ≤ x2 ∧ x2 ≤ 9 then if to = 1 ∧ 1 ≤ h then 0 else -3 else -2 else -2) := by
  unfold wpX9_refusesRule wpX0_count
  have h36 : h * w ≤ 36 := Nat.mul_le_mul hh hw
  simp only [ev9_within, ev9_isStage, e1, e2, e3, pk_mul]
  have t0 := to_cases ht
  have z0 : (nI (h * w) ≤ 0) ↔ h * w = 0 := by
    rw [show (0 : Int32) = nI 0 from rfl, nI_leI (by omega) (by omega)]; omega
  rw [t0, z0]
  have z1 : h * w = 0 ↔ h = 0 := by
    rw [Nat.mul_eq_zero]; omega
  rw [z1]
  by_cases a : 0 ≤ x1 ∧ x1 ≤ 1000 <;> by_cases b : 0 ≤ x2 ∧ x2 ≤ 9 <;> by_cases c : to = 0 <;> by_cases d : h = 0 <;> simp [a, b, c, d, show ¬ to = 0 → to = 1 by omega, show ¬ h = 0 → 1 ≤ h by omega]
theorem wr10 {jv : fw_F} {br : fw_R} {h to : Nat} {x1 x2 : Int32} {Q : Int32 → Prop} (hh : h ≤ 6) (e1 : jv 16 = nI h) (ht : to ≤ 1) (e3 : jv 10 = nI to) : wpX10_whyRule jv br x1 x2 Q ↔ Q (if 0 ≤ x1 ∧ x1 ≤ 1000 then if 0 ≤ x2 ∧ x2 ≤ 9 then if to = 1 ∧ 1 ≤ h then 0 else -3 else -2 else -2) := by
  unfold wpX10_whyRule
  simp only [ev10_within, ev10_isStage, e1, e3]
  have t0 := to_cases ht
  have z0 : (nI h ≤ 0) ↔ h = 0 := by
    rw [show (0 : Int32) = nI 0 from rfl, nI_leI (by omega) (by omega)]; omega
  rw [t0, z0]
  by_cases a : 0 ≤ x1 ∧ x1 ≤ 1000 <;> by_cases b : 0 ≤ x2 ∧ x2 ≤ 9 <;> by_cases c : to = 0 <;> by_cases d : h = 0 <;> simp [a, b, c, d, show ¬ to = 0 → to = 1 by omega, show ¬ h = 0 → 1 ≤ h by omega]
theorem op_allowed : lw_o14 Rl := by
  intro kt iv ar jv br hR a1 a2
  obtain ⟨-, ⟨to, T, W, g1, g2, g3, g4, g5, g6, g7, g8⟩, ⟨h, w, L, u1, u2, u3, u4, u5, u6, u7, u8⟩, -⟩ := id hR
  unfold pu_allowed wpX9_allowed wpX10_allowed
  have h36 : h * w ≤ 36 := Nat.mul_le_mul u1 u2
  simp only [rr9 u1 u2 u3 u4 u5 g1 g2, wr10 u1 u6 g1 g3]
  by_cases a : 0 ≤ a1 ∧ a1 ≤ 1000
  · by_cases b : 0 ≤ a2 ∧ a2 ≤ 9
    · by_cases c : to = 1 ∧ 1 ≤ h
      · simp only [if_pos a, if_pos b, if_pos c]
        obtain ⟨m, -, hm, rfl⟩ := pb_rng 0 1000 rfl rfl (by decide) (by decide) a
        obtain ⟨st, -, hst, rfl⟩ := pb_rng 0 9 rfl rfl (by decide) (by decide) b
        have hW := fun j hj => (g7 j hj).1
        have l3 := (alw_b (st := st) hW (g8 c.1)).2
        refine ⟨stf (fun f => alo h w L W st m (f - 1)) (min (h * w) 31), fun jv1 br1 => Rl kt iv ar jv1 br1, fun _ _ z => z, ⟨fun _ => ?_, fun z => absurd trivial z⟩, ⟨fun _ => ?_, fun z => absurd trivial z⟩⟩
        · refine pk_loop (σ := Int32) (fun n j z => wpX9_allowed_L19 kt (nI m) (nI st) iv ar (fun r2 => r2 = stf (fun f => alo h w L W st m (f - 1)) (min (h * w) 31)) (fun w11 _ => w11 = stf (fun f => alo h w L W st m (f - 1)) (min (h * w) 31)) n z (nI j)) (fun j z => z = stf (fun f => alo h w L W st m (f - 1)) j) (min (h * w) 31) 0 0 (by omega) rfl ?_ ?_
          · rintro n _ rfl
            unfold wpX9_allowed_L19 wpX0_count
            rw [u4, u5, pk_mul]
            refine ⟨fun _ => rfl, fun y => ⟨fun _ => rfl, fun y2 => ?_⟩⟩
            rw [nI_leI (by omega) (by omega)] at y
            rw [show (30 : Int32) = nI 30 from rfl, nI_ltI (by omega) (by omega)] at y2
            omega
          · rintro n j _ hj rfl ih
            have ih2 := ih _ rfl
            simp only [stf, Nat.add_sub_cancel] at ih2
            unfold wpX9_allowed_L19 wpX0_count
            rw [u4, u5, pk_mul]
            refine ⟨fun y => absurd y (nI_ge (by omega) (by omega)), fun _ => ⟨fun y => absurd y (nI_nlt (a := 30) (by omega) (by omega)), fun _ => ?_⟩⟩
            refine ia9 u1 u2 u4 u5 (fun c hc => ⟨(u8 c hc).1, (u8 c hc).2.1⟩) (by omega) hW (fun j hj => (g7 j hj).2.1) hst hm l3 (fun g => ⟨fun z => absurd z (by decide), fun _ => ?_⟩) (fun g => ⟨fun _ => ?_, fun z => absurd rfl z⟩)
            · rintro _ rfl _ rfl
              rw [nI_1]
              rw [if_pos g] at ih2
              exact ih2
            · rintro _ rfl
              rw [nI_1]
              rw [if_neg g] at ih2
              exact ih2
        · refine ls10 u1 u2 u6 u7 (fun c hc => (u8 c hc).2.2) (fun g hg => ?_)
          refine pk_loop (σ := Int32) (fun n j z => wpX10_allowed_L23 (nI m) (nI st) jv (va_up br 22 g) (fun r2 jv2 br2 => r2 = stf (fun f => alo h w L W st m (f - 1)) (min (h * w) 31) ∧ Rl kt iv ar jv2 br2) (fun w13 _ => w13 = stf (fun f => alo h w L W st m (f - 1)) (min (h * w) 31) ∧ Rl kt iv ar jv (va_up br 22 g)) n z (nI j)) (fun j z => z = stf (fun f => alo h w L W st m (f - 1)) j) (min (h * w) 31) 0 0 (by omega) rfl ?_ ?_
          · rintro n _ rfl
            unfold wpX10_allowed_L23
            rw [u6, u7, pk_mul]
            refine ⟨fun _ => ⟨rfl, Rl_seen hR g⟩, fun y => ⟨fun _ => ⟨rfl, Rl_seen hR g⟩, fun y2 => ?_⟩⟩
            rw [nI_leI (by omega) (by omega)] at y
            rw [show (31 : Int32) = nI 31 from rfl, nI_leI (by omega) (by omega)] at y2
            omega
          · rintro n j _ hj rfl ih
            have ih2 := ih _ rfl
            simp only [stf, Nat.add_sub_cancel] at ih2
            unfold wpX10_allowed_L23
            rw [u6, u7, pk_mul]
            refine ⟨fun y => absurd y (nI_ge (by omega) (by omega)), fun _ => ⟨fun y => absurd y (nI_ge (b := 31) (by omega) (by omega)), fun _ => ?_⟩⟩
            refine ia10 u1 u2 u6 u7 (fun c hc => (u8 c hc).2.2) (fun c hc => ⟨hg c hc, (u8 c hc).1⟩) (by omega) hW (fun j hj => (g7 j hj).2.2) hst hm l3 (fun g => ⟨fun z => absurd z (by decide), fun _ => ?_⟩) (fun g => ⟨fun _ => ?_, fun z => absurd rfl z⟩)
            · rintro _ rfl _ rfl
              rw [nI_1]
              rw [if_pos g] at ih2
              exact ih2
            · rintro _ rfl _ rfl
              rw [nI_1, show ∀ x : Int32, x ||| 0 = x from fun x => by simp]
              rw [if_neg g] at ih2
              exact ih2
      · exact ⟨-3, fun jv1 br1 => Rl kt iv ar jv1 br1, fun _ _ z => z, by simp [a, b, c], by simp [a, b, c, hR]⟩
    · exact ⟨-2, fun jv1 br1 => Rl kt iv ar jv1 br1, fun _ _ z => z, by simp [a, b], by simp [a, b, hR]⟩
  · exact ⟨-2, fun jv1 br1 => Rl kt iv ar jv1 br1, fun _ _ z => z, by simp [a], by simp [a, hR]⟩
