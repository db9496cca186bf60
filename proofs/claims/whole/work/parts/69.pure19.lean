/-! ===== how likely it would have hurt, by chalk ===== -/
/-- whether a throw by chalk would have hurt -/
def bkh (h w c : Nat) (L : Nat → Nat) (u v : Int32) : Bool := decide ((0 ≤ nI (c / w) - u ∧ nI (c / w) - u ≤ nI h - 1) ∧ (0 ≤ nI (c % w) + v ∧ nI (c % w) + v ≤ nI w - 1)) && hit 12 (L ((nI (c / w) - u).toNatClampNeg * w + (nI (c % w) + v).toNatClampNeg))
theorem bk9 {kt : kw_T} {iv : fw_F} {ar : fw_R} {h w c : Nat} {u v : Int32} {L : Nat → Nat} {Q : Int32 → Prop} (hh : h ≤ 6) (hw : w ≤ 6) (e1 : iv 4 = nI h) (e2 : iv 5 = nI w) (hL : ∀ c, c < h * w → L c < 4 ∧ ar 5 c = nI (L c)) (h1 : bkh h w c L u v = true → Q 1) (h0 : ¬ bkh h w c L u v = true → Q 0) : wpX0_isOf kt iv ar 12 (nI (c / w) - u) (nI (c % w) + v) 0 Q := by
  unfold wpX0_isOf
  have h36 : h * w ≤ 36 := Nat.mul_le_mul hh hw
  unfold bkh at h1 h0
  by_cases z : (0 ≤ nI (c / w) - u ∧ nI (c / w) - u ≤ nI h - 1) ∧ (0 ≤ nI (c % w) + v ∧ nI (c % w) + v ≤ nI w - 1)
  · rw [decide_eq_true z, Bool.true_and] at h1 h0
    obtain ⟨r, hr, er⟩ := (pb_lt1 (by omega)).mp z.1
    obtain ⟨s, hs, es⟩ := (pb_lt1 (by omega)).mp z.2
    rw [er, es, pb_cl (by omega), pb_cl (by omega)] at h1 h0
    rw [er, es]
    have hlt := cell_lt hr hs
    refine la9 (q := 0) (L := L) hh hw e1 e2 (fun c hc => (hL c hc).2) hr hs (Or.inl rfl) (by omega) ?_
    rw [rotc0]
    have l4 := (hL _ hlt).1
    have n1 : ¬ nI (L (r * w + s)) = -1 := by
      intro y
      have := congrArg Int32.toInt y
      rw [nI_toInt (by omega)] at this
      have e : (-1 : Int32).toInt = -1 := rfl
      omega
    refine ⟨fun y => absurd y n1, fun _ => ⟨fun y => ?_, fun y => ?_⟩⟩
    · rw [show (12 : Int32) = nI 12 from rfl, hit_bits 12 (by omega) _ l4] at y
      exact h0 y
    · rw [show (12 : Int32) = nI 12 from rfl, hit_bits 12 (by omega) _ l4] at y
      exact h1 y
  · rw [decide_eq_false z, Bool.false_and] at h1 h0
    refine la9_out e1 e2 z ?_
    exact ⟨fun _ => h0 (by decide), fun y => absurd rfl y⟩
theorem bk10 {jv : fw_F} {br : fw_R} {h w c : Nat} {u v : Int32} {L : Nat → Nat} {Q : Prop} {Q1 : Prop} (hh : h ≤ 6) (hw : w ≤ 6) (e1 : jv 16 = nI h) (e2 : jv 17 = nI w) (hL : ∀ c, c < h * w → L c < 4 ∧ br 18 c = nI (L c)) (hc : c < h * w) (h1 : bkh h w c L u v = true → Q1) (h0 : ¬ bkh h w c L u v = true → Q) : wpX10_cellBy jv br (nI c) u v (fun (r18 : Int32) => (r18 = (-9) → Q) ∧ (¬ r18 = (-9) → (vp_in r18 36 ∧ (wpX10_isHurt ((br 18) r18.toNatClampNeg) 1 (fun (r23 : Int32) => (r23 = 0 → Q) ∧ (¬ r23 = 0 → Q1)))))) := by
  unfold wpX10_cellBy
  have h36 : h * w ≤ 36 := Nat.mul_le_mul hh hw
  obtain ⟨d1, d2, d3, d4, d5⟩ := cdiv hc
  have c2 : ¬ nI w = 0 := nI_ne0 (by omega) (by omega)
  have nz : ¬ (1 : Int32) = 0 := by decide
  rw [e1, e2, pk_rem (show c < 2 ^ 31 by omega) (by omega) (by omega), pk_div (show c < 2 ^ 31 by omega) (by omega) (by omega)]
  refine ⟨c2, ?_⟩
  rintro _ rfl
  refine ⟨c2, ?_⟩
  rintro _ rfl
  unfold bkh at h1 h0
  rw [ev10_within]
  refine ⟨fun z => ⟨fun y => absurd y nz, fun _ => ?_⟩, fun z => ⟨fun _ => ⟨fun _ => h0 ?_, fun y => absurd rfl y⟩, fun y => absurd rfl y⟩⟩
  · rw [ev10_within]
    refine ⟨fun z2 => ⟨fun y => absurd y nz, fun _ => ?_⟩, fun z2 => ⟨fun _ => ⟨fun _ => h0 ?_, fun y => absurd rfl y⟩, fun y => absurd rfl y⟩⟩
    · rw [decide_eq_true ⟨z, z2⟩, Bool.true_and] at h1 h0
      obtain ⟨r, hr, er⟩ := (pb_lt1 (by omega)).mp z
      obtain ⟨s, hs, es⟩ := (pb_lt1 (by omega)).mp z2
      rw [er, es, pb_cl (by omega), pb_cl (by omega)] at h1 h0
      rw [er, es, pk_mul, nI_add, Nat.mul_comm]
      have hlt := cell_lt hr hs
      refine ⟨fun y => absurd y (nI_ne9 (by omega)), fun _ => ⟨pb_vin (by omega) (by decide), ?_⟩⟩
      rw [pb_cl (by omega), (hL _ hlt).2]
      refine hu10 (x3 := 1) (hL _ hlt).1 (fun g => ⟨fun y => absurd y nz, fun _ => h1 ?_⟩) (fun g => ⟨fun _ => h0 ?_, fun y => absurd rfl y⟩)
      · exact g
      · exact g
    · rw [decide_eq_false (fun y => z2 y.2), Bool.false_and]; decide
  · rw [decide_eq_false (fun y => z y.1), Bool.false_and]; decide
def bsm (g : Nat → Bool) : Nat → Nat
  | 0 => 0
  | r + 1 => bsm g r + (if g r = true then 1 else 0)
theorem bsm_le {g : Nat → Bool} : ∀ n, bsm g n ≤ n
  | 0 => Nat.le_refl _
  | n + 1 => by
    have := bsm_le (g := g) n
    unfold bsm
    split <;> omega
theorem bs9 {kt : kw_T} {x2 x3 x4 x6 : Int32} {n h w c : Nat} {iv : fw_F} {ar : fw_R} {V : Nat → Int32} {L : Nat → Nat} {Q : Int64 → fw_F → fw_R → Prop} {K : Int32 → Int32 → Prop} (hn : 2 * n ≤ 80) (hh : h ≤ 6) (hw : w ≤ 6) (e1 : iv 4 = nI h) (e2 : iv 5 = nI w) (hL : ∀ c, c < h * w → L c < 4 ∧ ar 5 c = nI (L c)) (hc : c < h * w) (hV : ∀ t, t < 2 * n → ar 25 t = V t) (hK : K (nI (bsm (fun r => bkh h w c L (V (2 * r)) (V (2 * r + 1))) n)) (nI n)) : ∃ ku, wpX9_byChalk_L53 kt (nI c) x2 x3 x4 (nI n) x6 iv ar Q K ku 0 0 := by
  have h36 : h * w ≤ 36 := Nat.mul_le_mul hh hw
  obtain ⟨d1, d2, d3, d4, d5⟩ := cdiv hc
  refine pk_loop (σ := Int32) (fun m r s => wpX9_byChalk_L53 kt (nI c) x2 x3 x4 (nI n) x6 iv ar Q K m s (nI r)) (fun r s => s = nI (bsm (fun r => bkh h w c L (V (2 * r)) (V (2 * r + 1))) r)) n 0 0 (by omega) rfl ?_ ?_
  · rintro m _ rfl
    exact ⟨fun _ => hK, fun y => absurd (nI_le (Nat.le_refl _) (by omega)) y⟩
  · rintro m r _ hr rfl ih
    have ih2 := ih _ rfl
    simp only [bsm] at ih2
    unfold wpX9_byChalk_L53
    have e3 : (2 : Int32) * nI r = nI (2 * r) := pk_mul 2 r
    rw [e3, nI_1]
    refine ⟨fun y => absurd y (nI_ge hr (by omega)), fun _ => ?_⟩
    refine (rw9 hw d1 (by omega) e2).1.mpr ⟨pb_vin (by omega) (by decide), ?_⟩
    rintro _ rfl
    refine (rw9 hw d1 (by omega) e2).2.mpr ⟨pb_vin (by omega) (by decide), ?_⟩
    rintro _ rfl
    rw [pb_cl (by omega), pb_cl (by omega), hV _ (by omega), hV _ (by omega)]
    refine bk9 hh hw e1 e2 hL (fun g => ⟨fun y => absurd y (by decide), fun _ => ?_⟩) (fun g => ⟨fun _ => ?_, fun y => absurd rfl y⟩)
    · rintro _ rfl _ rfl
      rw [nI_1, nI_1]
      rw [if_pos g] at ih2
      exact ih2
    · rintro _ rfl
      rw [nI_1]
      rw [if_neg g] at ih2
      exact ih2
theorem bs10 {x2 x3 x4 x6 : Int32} {n h w c f : Nat} {jv : fw_F} {br : fw_R} {V : Nat → Int32} {L : Nat → Nat} {Q : Int64 → fw_F → fw_R → Prop} {K : Int32 → Int32 → Prop} (hn : 2 * n ≤ 80) (hf : f + 2 * n ≤ 320) (hh : h ≤ 6) (hw : w ≤ 6) (e1 : jv 16 = nI h) (e2 : jv 17 = nI w) (hL : ∀ c, c < h * w → L c < 4 ∧ br 18 c = nI (L c)) (hc : c < h * w) (hV : ∀ t, t < 2 * n → br 4 (f + t) = V t) (hK : K (nI (bsm (fun r => bkh h w c L (V (2 * r)) (V (2 * r + 1))) n)) (nI n)) : ∃ ku, wpX10_byChalk_L94 (nI c) x2 x3 x4 (nI n) x6 (nI f) jv br Q K ku 0 0 := by
  refine pk_loop (σ := Int32) (fun m r s => wpX10_byChalk_L94 (nI c) x2 x3 x4 (nI n) x6 (nI f) jv br Q K m s (nI r)) (fun r s => s = nI (bsm (fun r => bkh h w c L (V (2 * r)) (V (2 * r + 1))) r)) n 0 0 (by omega) rfl ?_ ?_
  · rintro m _ rfl
    exact ⟨fun _ => hK, fun y => absurd (nI_le (Nat.le_refl _) (by omega)) y⟩
  · rintro m r _ hr rfl ih
    have ih2 := ih _ rfl
    simp only [bsm] at ih2
    unfold wpX10_byChalk_L94
    have e3 : nI f + (2 : Int32) * nI r = nI (f + 2 * r) := by rw [show (2 : Int32) = nI 2 from rfl, pk_mul, nI_add]
    rw [e3, nI_1]
    refine ⟨fun y => absurd y (nI_ge hr (by omega)), fun _ => ⟨pb_vin (by omega) (by decide), pb_vin (by omega) (by decide), ?_⟩⟩
    rw [pb_cl (by omega), pb_cl (by omega), hV _ (by omega), Nat.add_assoc, hV _ (by omega)]
    refine bk10 hh hw e1 e2 hL hc (fun g => ?_) (fun g => ?_)
    · rintro _ rfl _ rfl
      rw [nI_1, nI_1]
      rw [if_pos g] at ih2
      exact ih2
    · rintro _ rfl _ rfl
      rw [nI_1, show (0 : Int32) = nI 0 from rfl, nI_add]
      rw [if_neg g] at ih2
      exact ih2
theorem op_byChalk : lw_o24 Rl := by
  intro kt iv ar jv br hR a1 a2 a3 a4 a5 a6
  unfold pu_byChalk wpX9_byChalk wpX10_byChalk wpX10_lost
  simp only [forall_eq]
  have hR0 := Rl_fault hR 0
  have hRf := Rl_fault hR0
  generalize va_up iv 1 0 = iv0 at hR0 hRf ⊢
  generalize va_up jv 0 0 = jv0 at hR0 hRf ⊢
  obtain ⟨-, -, ⟨h, w, L, u1, u2, u3, u4, u5, u6, u7, u8⟩, -⟩ := id hR0
  by_cases hx : ∃ c, c < h * w ∧ a1 = nI c
  · obtain ⟨c, hc, rfl⟩ := hx
    simp only [ce9_yes u1 u2 u4 u5 hc, ce10_yes u1 u2 u6 u7 hc, ev10_isSheet, ev10_isSort]
    by_cases pp : (0 ≤ a2 ∧ a2 ≤ 3) ∧ (0 ≤ a3 ∧ a3 ≤ 2)
    · obtain ⟨p1, p2⟩ := pp
      obtain ⟨k, -, hk, rfl⟩ := pb_rng 0 3 rfl rfl (by decide) (by decide) p1
      have h4 : k < 4 := by omega
      have hs := hR0.2.2.2.2.1
      rcases rsh_at hs h4 with ⟨e1, e2⟩ | ⟨e1, so, le, b1, b2, c1, c2, c3, c4, c5⟩
      · simp only [tcn h4 p2 e1, ag_none h4 e2]
        exact ⟨-9223372036854775808, fun jv1 br1 => jv1 = va_up jv0 0 1 ∧ br1 = br, fun iv1 ar1 => iv1 = va_up iv0 1 1 ∧ ar1 = ar, by rintro _ _ ⟨rfl, rfl⟩ _ _ ⟨rfl, rfl⟩; exact hRf 1, by simp, by simp [p1, p2]⟩
      · rw [show (2 : Int32) = nI 2 from rfl] 
        simp only [ag_some (e := 2) h4 b1 b2 c2 c4 (Or.inr rfl)]
        rw [show nI 2 = (2 : Int32) from rfl] 
        by_cases p3 : fc so le a3 a4 (2 * a5.toInt) = 0
        · simp only [show ((2 : Nat) : Int) = 2 from rfl, p3]
          obtain ⟨rfl, i, n', q1, rfl, q2, q3⟩ := fc0 p3
          obtain ⟨n, hn, rfl⟩ := nI_of (x := a5) (by rw [Int32.lt_iff_toInt_lt, pb_i0]; omega)
          rw [nI_toInt (by omega)] at q2
          have q4 : n' = 2 * n := by omega
          subst q4
          have ei : (80 : Int32) * nI k + nI i = nI (80 * k + i) := by
            rw [show (80 : Int32) = nI 80 from rfl, pk_mul, nI_add]
          simp only [ei]
          have hA : ∀ t, t < 2 * n → ar (21 + k) (i + t) = br 4 (80 * k + i + t) := fun t ht => by
            rw [c5 (i + t) (by omega), Nat.add_assoc]
          have eq : ∀ t, t < 2 * n → va_up ar 25 (va_cpy (ar (21 + k)) (ar 25) i 0 (2 * n)) 25 t = br 4 (80 * k + i + t) := fun t ht => by
            rw [pb_up, if_pos rfl, pk_cpy_in (by omega) (by omega)]
            exact hA t ht
          by_cases g : gch (fun t => br 4 (80 * k + i + t)) n
          · by_cases p6 : 0 ≤ a6 ∧ a6 ≤ 1
            · have bl := bsm_le (g := fun r => bkh h w c L (br 4 (80 * k + i + 2 * r)) (br 4 (80 * k + i + (2 * r + 1)))) n
              refine ⟨shv (lN (bsm (fun r => bkh h w c L (br 4 (80 * k + i + 2 * r)) (br 4 (80 * k + i + (2 * r + 1)))) n)) n a6, fun jv1 br1 => jv1 = jv0 ∧ br1 = br, fun iv1 ar1 => iv1 = iv0 ∧ ar1 = va_up ar 25 (va_cpy (ar (21 + k)) (ar 25) i 0 (2 * n)), by rintro _ _ ⟨rfl, rfl⟩ _ _ ⟨rfl, rfl⟩; exact Rl_taken hR0 _, ?_, ?_⟩
              · refine ⟨fun _ => ?_, fun y => absurd y (by decide)⟩
                refine tc9 (V := fun t => br 4 (80 * k + i + t)) h4 b1 e1 c1 c3 b2 q1 hA (fun _ => ⟨fun y => absurd y (by decide), fun _ => ?_⟩) (fun y => absurd g y)
                rw [ev9_within]
                refine ⟨fun _ => ⟨fun _ => ?_, fun y => absurd y (by decide)⟩, fun y => absurd p6 y⟩
                refine bs9 (V := fun t => br 4 (80 * k + i + t)) (L := L) (by omega) u1 u2 u4 u5 (fun c hc => ⟨(u8 c hc).1, (u8 c hc).2.1⟩) hc eq ?_
                rw [pb_i2l (by omega), pb_i2l (by omega)]
                exact sh9 (pb_lb (by omega)) g.1 (by omega) ⟨rfl, rfl, rfl⟩
              · simp only [p1, p2, and_self, not_true_eq_false, false_implies, true_implies, not_false_eq_true, and_true, true_and, show ((1 : Int32) = 0) = False from by simp]
                refine ic10 (V := fun t => br 4 (80 * k + i + t)) (by omega) (by omega) (fun t ht => rfl) (fun _ => ⟨fun y => absurd y (by decide), fun _ => ?_⟩) (fun y => absurd g y)
                rw [ev10_isWhich]
                refine ⟨fun _ => ⟨fun _ => ?_, fun y => absurd y (by decide)⟩, fun y => absurd p6 y⟩
                refine bs10 (V := fun t => br 4 (80 * k + i + t)) (L := L) (by omega) (by omega) u1 u2 u6 u7 (fun c hc => ⟨(u8 c hc).1, (u8 c hc).2.2⟩) hc (fun t ht => rfl) ?_
                rw [pb_i2l (by omega), pb_i2l (by omega)]
                exact sh10 (pb_lb (by omega)) g.1 (by omega) rfl
            · refine ⟨-9223372036854775808, fun jv1 br1 => jv1 = jv0 ∧ br1 = br, fun iv1 ar1 => iv1 = iv0 ∧ ar1 = va_up ar 25 (va_cpy (ar (21 + k)) (ar 25) i 0 (2 * n)), by rintro _ _ ⟨rfl, rfl⟩ _ _ ⟨rfl, rfl⟩; exact Rl_taken hR0 _, ?_, ?_⟩
              · refine ⟨fun _ => ?_, fun y => absurd y (by decide)⟩
                refine tc9 (V := fun t => br 4 (80 * k + i + t)) h4 b1 e1 c1 c3 b2 q1 hA (fun _ => ?_) (fun y => absurd g y)
                simp [ev9_within, p6]
              · simp only [p1, p2, and_self, not_true_eq_false, false_implies, true_implies, not_false_eq_true, and_true, true_and, show ((1 : Int32) = 0) = False from by simp]
                refine ic10 (V := fun t => br 4 (80 * k + i + t)) (by omega) (by omega) (fun t ht => rfl) (fun _ => ?_) (fun y => absurd g y)
                simp [ev10_isWhich, p6]
          · refine ⟨-9223372036854775808, fun jv1 br1 => jv1 = jv0 ∧ br1 = br, fun iv1 ar1 => iv1 = iv0 ∧ ar1 = va_up ar 25 (va_cpy (ar (21 + k)) (ar 25) i 0 (2 * n)), by rintro _ _ ⟨rfl, rfl⟩ _ _ ⟨rfl, rfl⟩; exact Rl_taken hR0 _, ?_, ?_⟩
            · refine ⟨fun _ => ?_, fun y => absurd y (by decide)⟩
              refine tc9 (V := fun t => br 4 (80 * k + i + t)) h4 b1 e1 c1 c3 b2 q1 hA (fun y => absurd y g) (fun _ => ?_)
              simp
            · simp only [p1, p2, and_self, not_true_eq_false, false_implies, true_implies, not_false_eq_true, and_true, true_and, show ((1 : Int32) = 0) = False from by simp]
              refine ic10 (V := fun t => br 4 (80 * k + i + t)) (by omega) (by omega) (fun t ht => rfl) (fun y => absurd y g) (fun _ => ?_)
              simp
        · simp only [tcb h4 p2 e1 c1 c3 b2 p3, show ((2 : Nat) : Int) = 2 from rfl]
          exact ⟨-9223372036854775808, fun jv1 br1 => jv1 = va_up jv0 0 (fc so le a3 a4 (2 * a5.toInt)) ∧ br1 = br, fun iv1 ar1 => iv1 = va_up iv0 1 (fc so le a3 a4 (2 * a5.toInt)) ∧ ar1 = ar, by rintro _ _ ⟨rfl, rfl⟩ _ _ ⟨rfl, rfl⟩; exact hRf _, by simp, by simp [p1, p2, p3]⟩
    · simp only [tcr pp]
      refine ⟨-9223372036854775808, fun jv1 br1 => jv1 = jv0 ∧ br1 = br, fun iv1 ar1 => iv1 = iv0 ∧ ar1 = ar, by rintro _ _ ⟨rfl, rfl⟩ _ _ ⟨rfl, rfl⟩; exact hR0, by simp, ?_⟩
      by_cases p1 : 0 ≤ a2 ∧ a2 ≤ 3
      · by_cases p2 : 0 ≤ a3 ∧ a3 ≤ 2
        · exact absurd ⟨p1, p2⟩ pp
        · simp [p1, p2]
      · simp [p1]
  · simp only [ce9_no u1 u2 u4 u5 hx, ce10_no u1 u2 u6 u7 hx]
    exact ⟨-9223372036854775808, fun jv1 br1 => jv1 = jv0 ∧ br1 = br, fun iv1 ar1 => iv1 = iv0 ∧ ar1 = ar, by rintro _ _ ⟨rfl, rfl⟩ _ _ ⟨rfl, rfl⟩; exact hR0, by simp, by simp⟩
