/-! ===== the board's plain calls ===== -/
theorem cdiv {h w c : Nat} (hc : c < h * w) : 1 ≤ w ∧ 1 ≤ h ∧ c / w < h ∧ c % w < w ∧ c / w * w + c % w = c := by
  have hw1 : 1 ≤ w := by
    rcases Nat.eq_zero_or_pos w with z | z
    · subst z; simp at hc
    · exact z
  have hh1 : 1 ≤ h := by
    rcases Nat.eq_zero_or_pos h with z | z
    · subst z; simp at hc
    · exact z
  refine ⟨hw1, hh1, Nat.div_lt_of_lt_mul (by rw [Nat.mul_comm]; exact hc), Nat.mod_lt _ hw1, ?_⟩
  rw [Nat.mul_comm]
  exact Nat.div_add_mod c w
theorem rotc0 {h w r c : Nat} : rotc h w 0 r c = r * w + c := rfl
theorem lc9 {kt : kw_T} {iv : fw_F} {ar : fw_R} {h w c q : Nat} {L : Nat → Nat} {Q : Int32 → Prop} (hh : h ≤ 6) (hw : w ≤ 6) (e1 : iv 4 = nI h) (e2 : iv 5 = nI w) (hL : ∀ c, c < h * w → ar 5 c = nI (L c)) (hc : c < h * w) (hq : q = 0 ∨ h = w) (hq3 : q ≤ 3) (hQ : Q (nI (L (rotc h w q (c / w) (c % w))))) : wpX0_rowOf kt iv ar (nI c) (fun r3 => wpX0_columnOf kt iv ar (nI c) (fun r4 => wpX0_letterAt kt iv ar r3 r4 (nI q) Q)) := by
  obtain ⟨d1, d2, d3, d4, d5⟩ := cdiv hc
  have h36 : h * w ≤ 36 := Nat.mul_le_mul hh hw
  refine (rw9 hw d1 (by omega) e2).1.mpr ?_
  refine (rw9 hw d1 (by omega) e2).2.mpr ?_
  exact la9 hh hw e1 e2 hL d3 d4 hq hq3 hQ
theorem Rl_seen {kt : kw_T} {iv : fw_F} {ar : fw_R} {jv : fw_F} {br : fw_R} (hR : Rl kt iv ar jv br) (g : Nat → Int32) : Rl kt iv ar jv (va_up br 22 g) := by
  refine Rl_ag hR ag9_rf ⟨fun _ _ _ _ _ _ => rfl, fun k h1 h2 h3 h4 h5 h6 h7 h8 h9 => ?_⟩
  rw [pb_up, if_neg h3]
theorem op_ofCell : lw_o11 Rl := by
  intro kt iv ar jv br hR a1
  obtain ⟨-, -, ⟨h, w, L, u1, u2, u3, u4, u5, u6, u7, u8⟩, -⟩ := id hR
  unfold pu_ofCell wpX9_ofCell wpX10_ofCell
  by_cases hx : ∃ c, c < h * w ∧ a1 = nI c
  · obtain ⟨c, hc, rfl⟩ := hx
    have h36 : h * w ≤ 36 := Nat.mul_le_mul u1 u2
    simp only [ce9_yes u1 u2 u4 u5 hc, ce10_yes u1 u2 u6 u7 hc]
    refine ⟨nI (L c), hR, ⟨fun _ => ?_, fun y => absurd y (by decide)⟩, fun y => absurd y (by decide), fun _ => ⟨pb_vin (by omega) (by decide), ?_⟩⟩
    · have e := lc9 (kt := kt) (q := 0) (Q := fun r2 => r2 = nI (L c)) u1 u2 u4 u5 (fun c hc => (u8 c hc).2.1) hc (Or.inl rfl) (by omega) (by rw [rotc0, (cdiv hc).2.2.2.2])
      exact e
    · rw [pb_cl (by omega)]; exact (u8 c hc).2.2
  · simp only [ce9_no u1 u2 u4 u5 hx, ce10_no u1 u2 u6 u7 hx]
    exact ⟨-1, hR, by simp, by simp⟩
theorem wto_le {h w s : Nat} {S W : Nat → Nat} {st c : Nat} (hW : ∀ j, j < 15 → W j ≤ 9) : wto h w s S W st c ≤ 2025 := by
  unfold wto
  refine Nat.le_trans (sm5_le (c := 405) (fun k hk => ?_)) (by omega)
  have a := wto_in (h := h) (w := w) (s := s) (S := S) (st := st) (c := c) (k := k) (n := 5) (Nat.le_refl _) hW
  have b := wt_le (W := W) (row := 1) (k := k) (st := st) hW (by omega) hk
  exact Nat.le_trans (Nat.mul_le_mul a b) (by omega)
def alw (W : Nat → Nat) (st : Nat) : Nat := sm5 (fun k => wt W 1 k st) 5 * sm5 (fun k => wt W 2 k st) 5
theorem alw_b {W : Nat → Nat} {st : Nat} (hW : ∀ j, j < 15 → W j ≤ 9) (hp : ∀ r, r < 3 → 1 ≤ W (5 * r) + W (5 * r + 1) + W (5 * r + 2) + W (5 * r + 3) + W (5 * r + 4)) : 1 ≤ alw W st ∧ alw W st ≤ 2025 := by
  have l1 : sm5 (fun k => wt W 1 k st) 5 ≤ 45 := Nat.le_trans (sm5_le (c := 9) (fun k hk => wt_le hW (by omega) hk)) (by omega)
  have l2 : sm5 (fun k => wt W 2 k st) 5 ≤ 45 := Nat.le_trans (sm5_le (c := 9) (fun k hk => wt_le hW (by omega) hk)) (by omega)
  have l3 := sm_pos (st := st) (hp 1 (by omega))
  have l4 := sm_pos (st := st) (hp 2 (by omega))
  exact ⟨Nat.mul_le_mul l3 l4, Nat.mul_le_mul l1 l2⟩
theorem op_hurts : lw_o12 Rl := by
  intro kt iv ar jv br hR a1 a2 a3 a4 ha3
  obtain ⟨-, ⟨to, T, W, g1, g2, g3, g4, g5, g6, g7, g8⟩, ⟨h, w, L, u1, u2, u3, u4, u5, u6, u7, u8⟩, -⟩ := id hR
  unfold pu_hurts wpX9_hurts wpX10_hurts
  by_cases hx : ∃ c, c < h * w ∧ a1 = nI c
  · obtain ⟨c, hc, rfl⟩ := hx
    have h36 : h * w ≤ 36 := Nat.mul_le_mul u1 u2
    simp only [ce9_yes u1 u2 u4 u5 hc, ce10_yes u1 u2 u6 u7 hc, ev9_within, ev10_isWhich, ev9_isStage, ev10_isStage, g2, g3]
    by_cases p4 : 0 ≤ a2 ∧ a2 ≤ 9
    · by_cases p3 : 0 ≤ a4 ∧ a4 ≤ 1
      · by_cases p5 : to = 0
        · exact ⟨-9223372036854775808, fun jv1 br1 => Rl kt iv ar jv1 br1, fun _ _ z => z, by simp [p3, p4, p5, show nI 0 = 0 from rfl], by simp [p3, p4, p5, show nI 0 = 0 from rfl, hR]⟩
        · obtain ⟨st, -, hst, rfl⟩ := pb_rng 0 9 rfl rfl (by decide) (by decide) p4
          have e3 : nI to ≠ 0 := fun z => p5 ((to_cases g1).mp z)
          have hW := fun j hj => (g7 j hj).1
          have l1 := wto_le (h := h) (w := w) (s := sset a3 0) (S := L) (st := st) (c := c) hW
          have l3 := alw_b (st := st) hW (g8 (by omega))
          refine ⟨shv (lN (wto h w (sset a3 0) L W st c)) (alw W st) a4, fun jv1 br1 => Rl kt iv ar jv1 br1, fun _ _ z => z, ?_, ?_⟩
          · simp only [p3, p4, e3]; simp
            have key : ∀ s : Nat, s < 16 → s = sset a3 0 → wpX9_weightTo kt iv ar (nI s) (nI c) (nI st) (nI 0) (fun r9 => wpX9_weightOfAll kt iv ar (nI st) (fun r10 => wpX9_share r9.toInt64 r10.toInt64 a4 (fun r11 => r11 = shv (lN (wto h w (sset a3 0) L W st c)) (alw W st) a4))) := fun s hs es => by
              refine wt9 (L := L) (S := L) (W := W) u1 u2 u4 u5 (fun c hc => (u8 c hc).2.1) (fun c hc => (u8 c hc).1) (fun r c _ _ => rfl) hc (Or.inl rfl) (by omega) hs hW (fun j hj => (g7 j hj).2.1) hst ?_
              refine aw9 hW (fun j hj => (g7 j hj).2.1) hst ?_
              rw [es]
              change wpX9_share _ (nI (alw W st)).toInt64 _ _
              rw [pb_i2l (by omega), pb_i2l (by omega)]
              exact sh9 (pb_lb (by omega)) l3.1 (by omega) rfl
            exact ⟨fun z => key 4 (by omega) (by unfold sset; rw [if_pos rfl, if_pos z]), fun z => key 12 (by omega) (by unfold sset; rw [if_pos rfl, if_neg z])⟩
          · simp only [p3, p4, e3]; simp
            refine ls10 u1 u2 u6 u7 (fun c hc => (u8 c hc).2.2) (fun g hg => ?_)
            refine ct10 (S := L) (W := W) u1 u2 u6 u7 (fun c hc => ⟨hg c hc, (u8 c hc).1⟩) hc hW (fun j hj => (g7 j hj).2.2) hst ?_
            refine aw10 hW (fun j hj => (g7 j hj).2.2) hst ?_
            change wpX10_share _ (nI (alw W st)).toInt64 _ _
            rw [pb_i2l (by omega), pb_i2l (by omega)]
            exact sh10 (pb_lb (by omega)) l3.1 (by omega) ⟨rfl, Rl_seen hR g⟩
      · exact ⟨-9223372036854775808, fun jv1 br1 => Rl kt iv ar jv1 br1, fun _ _ z => z, by simp [p3, p4], by simp [p3, p4, hR]⟩
    · exact ⟨-9223372036854775808, fun jv1 br1 => Rl kt iv ar jv1 br1, fun _ _ z => z, by simp [p4], by simp [p4, hR]⟩
  · simp only [ce9_no u1 u2 u4 u5 hx, ce10_no u1 u2 u6 u7 hx]
    exact ⟨-9223372036854775808, fun jv1 br1 => Rl kt iv ar jv1 br1, fun _ _ z => z, by simp, by simp [hR]⟩
theorem op_holds : lw_o13 Rl := by
  intro kt iv ar jv br hR a1 a2 a3 a4 a5 a6
  obtain ⟨⟨n, kd, pc, tn, bd, hn, h1, h2, h3, hk⟩, ⟨to, T, W, g1, g2, g3, g4, g5, g6, g7, g8⟩, ⟨h, w, L, u1, u2, u3, u4, u5, u6, u7, u8⟩, -⟩ := id hR
  unfold pu_holds wpX9_holds wpX10_holds
  by_cases hx : ∃ i, i < n ∧ a1 = nI i
  · obtain ⟨i, hi, rfl⟩ := hx
    obtain ⟨⟨b0, b1, b2, b3, b4, b5⟩, ⟨c0, c1, c2, c3, c4, c5, c6⟩, d0, d1, d2, d3⟩ := hk i hi
    simp only [kA_yes hn h2 h1 hi, kn10_yes hn h3 hi]
    by_cases hy : ∃ c, c < h * w ∧ a4 = nI c
    · obtain ⟨c, hc, rfl⟩ := hy
      have h36 : h * w ≤ 36 := Nat.mul_le_mul u1 u2
      simp only [ce9_yes u1 u2 u4 u5 hc, ce10_yes u1 u2 u6 u7 hc, ev9_isThrow, ev10_isStart, ev10_isFeet, ev9_within, ev10_isWhich, ev9_isStage, ev10_isStage, g2, g3]
      by_cases p1 : 0 ≤ a2 ∧ a2 ≤ 23
      · by_cases p2 : 1 ≤ a3 ∧ a3 ≤ 40
        · by_cases p4 : 0 ≤ a5 ∧ a5 ≤ 9
          · by_cases p3 : 0 ≤ a6 ∧ a6 ≤ 1
            · by_cases p5 : to = 0
              · exact ⟨-9223372036854775808, fun jv1 br1 => Rl kt iv ar jv1 br1, fun _ _ z => z, by simp [p1, p2, p3, p4, p5, show nI 0 = 0 from rfl], by simp [p1, p2, p3, p4, p5, show nI 0 = 0 from rfl, hR]⟩
              · obtain ⟨s, -, hs, rfl⟩ := pb_rng 0 23 rfl rfl (by decide) (by decide) p1
                obtain ⟨f, hf, hf2, rfl⟩ := pb_rng 1 40 rfl rfl (by decide) (by decide) p2
                obtain ⟨st, -, hst, rfl⟩ := pb_rng 0 9 rfl rfl (by decide) (by decide) p4
                have e3 : nI to ≠ 0 := fun z => p5 ((to_cases g1).mp z)
                have hW := fun j hj => (g7 j hj).1
                have l1 := swt_le (kd := kd i) (p := pc i) (t := tn i) (w := wd (kd i) (bd i)) (st := st) (s := s) (f := f) hW
                have l2 : sm5 (fun k => wt W 0 k st) 5 ≤ 45 := Nat.le_trans (sm5_le (c := 9) (fun k hk => wt_le hW (by omega) hk)) (by omega)
                have l3 := sm_pos (st := st) (g8 (by omega) 0 (by omega))
                have l5 := wto_le (h := h) (w := w) (s := 1) (S := L) (st := st) (c := c) hW
                have l6 := alw_b (st := st) hW (g8 (by omega))
                have m1 : swt (kd i) (pc i) (tn i) (wd (kd i) (bd i)) W st s f * wto h w 1 L W st c ≤ 45 * 2025 := Nat.mul_le_mul l1 l5
                have m2 : sm5 (fun k => wt W 0 k st) 5 * alw W st ≤ 45 * 2025 := Nat.mul_le_mul l2 l6.2
                have m3 : 1 ≤ sm5 (fun k => wt W 0 k st) 5 * alw W st := Nat.mul_le_mul l3 l6.1
                refine ⟨shv (lN (swt (kd i) (pc i) (tn i) (wd (kd i) (bd i)) W st s f * wto h w 1 L W st c)) (sm5 (fun k => wt W 0 k st) 5 * alw W st) a6, fun jv1 br1 => Rl kt iv ar jv1 br1, fun _ _ z => z, ?_, ?_⟩
                · simp only [p1, p2, p3, p4, e3]; simp only [and_self, not_true_eq_false, false_implies, true_implies, not_false_eq_true, and_true, true_and, show ((1 : Int32) = 0) = False from by simp, ne_eq]
                  refine sw9 c0 b0 c2 c3 c6 b1 b2 b4 hW (fun j hj => (g7 j hj).2.1) hs hf2 hst ?_
                  refine wt9 (L := L) (S := L) (W := W) (s := 1) (q := 0) u1 u2 u4 u5 (fun c hc => (u8 c hc).2.1) (fun c hc => (u8 c hc).1) (fun r c _ _ => rfl) hc (Or.inl rfl) (by omega) (by omega) hW (fun j hj => (g7 j hj).2.1) hst ?_
                  intro y14 hy14
                  refine su9 (row := 0) hW (fun j hj => (g7 j hj).2.1) (by omega) hst ?_
                  refine aw9 hW (fun j hj => (g7 j hj).2.1) hst ?_
                  intro y17 hy17
                  rw [hy14, hy17]
                  change wpX9_share _ ((nI _).toInt64 * (nI (alw W st)).toInt64) _ _
                  rw [pb_i2l (by omega), pb_i2l (by omega), pb_i2l (by omega), pb_i2l (by omega), lN_mul, lN_mul]
                  exact sh9 (pb_lb (by omega)) m3 (by omega) rfl
                · simp only [p1, p2, p3, p4, e3]; simp only [and_self, not_true_eq_false, false_implies, true_implies, not_false_eq_true, and_true, true_and, show ((1 : Int32) = 0) = False from by simp, ne_eq]
                  refine ls10 u1 u2 u6 u7 (fun c hc => (u8 c hc).2.2) (fun g hg => ?_)
                  refine sw10 (by omega) b0 b5 d0 d3 d1 d2 b1 b2 b4 hW (fun j hj => (g7 j hj).2.2) hs hf2 hst ?_
                  refine ct10 (S := L) (W := W) (x3 := 1) (x4 := 1) u1 u2 u6 u7 (fun c hc => ⟨hg c hc, (u8 c hc).1⟩) hc hW (fun j hj => (g7 j hj).2.2) hst ?_
                  intro y18 hy18
                  refine su10 (row := 0) hW (fun j hj => (g7 j hj).2.2) (by omega) hst ?_
                  refine aw10 hW (fun j hj => (g7 j hj).2.2) hst ?_
                  rw [hy18]
                  change wpX10_share _ ((nI _).toInt64 * (nI (alw W st)).toInt64) _ _
                  rw [show sset 1 1 = 1 from by decide, pb_i2l (by omega), pb_i2l (by omega), pb_i2l (by omega), pb_i2l (by omega), lN_mul, lN_mul]
                  exact sh10 (pb_lb (by omega)) m3 (by omega) ⟨rfl, Rl_seen hR g⟩
            · exact ⟨-9223372036854775808, fun jv1 br1 => Rl kt iv ar jv1 br1, fun _ _ z => z, by simp [p1, p2, p3, p4], by simp [p1, p2, p3, p4, hR]⟩
          · exact ⟨-9223372036854775808, fun jv1 br1 => Rl kt iv ar jv1 br1, fun _ _ z => z, by simp [p1, p2, p4], by simp [p1, p2, p4, hR]⟩
        · exact ⟨-9223372036854775808, fun jv1 br1 => Rl kt iv ar jv1 br1, fun _ _ z => z, by simp [p1, p2], by simp [p1, p2, hR]⟩
      · exact ⟨-9223372036854775808, fun jv1 br1 => Rl kt iv ar jv1 br1, fun _ _ z => z, by simp [p1], by simp [p1, hR]⟩
    · simp only [ce9_no u1 u2 u4 u5 hy, ce10_no u1 u2 u6 u7 hy]
      exact ⟨-9223372036854775808, fun jv1 br1 => Rl kt iv ar jv1 br1, fun _ _ z => z, by simp, by simp [hR]⟩
  · simp only [kA_no hn h2 hx, kn10_no hn h3 hx]
    exact ⟨-9223372036854775808, fun jv1 br1 => Rl kt iv ar jv1 br1, fun _ _ z => z, by simp, by simp [hR]⟩
