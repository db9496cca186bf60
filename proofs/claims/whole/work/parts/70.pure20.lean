/-! ===== a knife more ===== -/
theorem ki9 {x p t b w : Nat} {Q : fw_F → fw_R → Prop} (hp1 : 1 ≤ p) (hp : p ≤ 9) (hw : w ≤ 6) (hQ : ∀ (iv9 : fw_F) (ar9 : fw_R), iv9 0 = nI x → iv9 1 = nI p → iv9 2 = nI t → iv9 3 = nI b → iv9 4 = nI w → (∀ a, a < 24 * p → ar9 0 a = nI (cm p w a)) → Q iv9 ar9) : wpX3_init (nI x) (nI p) (nI t) (nI b) (nI w) Q := by
  unfold wpX3_init wpX3_b
  have ep : (if (1 : Int32) < (if nI p < 9 then nI p else 9) then (if nI p < 9 then nI p else 9) else 1) = nI p := by
    have e9 : (if nI p < 9 then nI p else 9) = nI p := by
      by_cases z : p = 9
      · subst z; rw [if_neg (by decide)]; rfl
      · rw [if_pos (show nI p < 9 from nI_lt (b := 9) (by omega) (by omega))]
    rw [e9]
    by_cases z : p = 1
    · subst z; rw [if_neg (by decide)]; rfl
    · rw [if_pos (show (1 : Int32) < nI p from nI_lt (a := 1) (by omega) (by omega))]
  rw [ep]
  rintro _ rfl _ rfl _ rfl _ rfl _ rfl
  generalize hv : va_up (va_up (va_up (va_up (va_up (fun _ => (0 : Int32)) 0 (nI x)) 1 (nI p)) 2 (nI t)) 3 (nI b)) 4 (nI w) = v
  have v1 : v 1 = nI p := by rw [← hv]; rfl
  refine pk_loop (σ := fw_R) (fun m i s => wpX3_init_L52 (nI x) (nI p) (nI t) (nI b) (nI w) Q (fun _ iv12 ar13 => Q iv12 ar13) m (nI i) v s) (fun i s => ∀ a, a < i → s 0 a = nI (cm p w a)) (24 * p) 0 (fun _ _ => 0) (by omega) (fun a h => absurd h (by omega)) ?_ ?_
  · intro m s hs
    refine ⟨fun _ => hQ v s ?_ v1 ?_ ?_ ?_ hs, fun y => absurd ?_ y⟩
    · rw [← hv]; rfl
    · rw [← hv]; rfl
    · rw [← hv]; rfl
    · rw [← hv]; rfl
    · rw [v1, show (24 : Int32) = nI 24 from rfl, pk_mul]
      exact nI_le (Nat.le_refl _) (by omega)
  · intro m i s hi hs ih
    unfold wpX3_init_L52
    rw [v1, show (24 : Int32) = nI 24 from rfl, pk_mul]
    refine ⟨fun y => absurd y (nI_ge hi (by omega)), fun _ => ?_⟩
    refine (cl9 hp hw hi).mpr ⟨pb_vin (by omega) (by decide), ?_⟩
    rintro _ rfl _ rfl
    rw [nI_1]
    refine ih _ (fun a ha => ?_)
    rw [pb_up, if_pos rfl, pb_cl (by omega), pb_upd]
    by_cases z : a = i
    · rw [if_pos z, z]
    · rw [if_neg z]; exact hs a (by omega)
theorem Rl_kn {kt kt1 : kw_T} {iv iv1 : fw_F} {ar : fw_R} {jv jv1 : fw_F} {br br1 : fw_R} (hR : Rl kt iv ar jv br) (hi : ∀ k, k ≠ 0 → iv1 k = iv k) (hj : ∀ k, k ≠ 5 → jv1 k = jv k) (hb : ∀ k, k < 6 ∨ 9 < k → br1 k = br k) (hk : ∃ n kd pc tn bd, rk kt1 iv1 jv1 br1 n kd pc tn bd) : Rl kt1 iv1 ar jv1 br1 := by
  obtain ⟨-, h2, h3, h4, h5, h6, h7⟩ := hR
  refine ⟨hk, ?_, ?_, ?_, ?_, ?_, ?_⟩
  · unfold rh at *
    rw [hi 2 (by omega), hi 3 (by omega), hj 10 (by omega), hj 11 (by omega), hb 12 (by omega)]; exact h2
  · unfold rb at *
    rw [hi 4 (by omega), hi 5 (by omega), hj 16 (by omega), hj 17 (by omega), hb 18 (by omega)]; exact h3
  · unfold rma at *
    rw [hi 7 (by omega), hj 28 (by omega), hb 29 (by omega), hb 30 (by omega)]; exact h4
  · intro k hk
    rw [hi (9 + k) (by omega), hi (13 + k) (by omega), hi (17 + k) (by omega), hb 2 (by omega), hb 3 (by omega), hb 4 (by omega)]
    exact h5 k hk
  · rw [hi 21 (by omega), hj 1 (by omega)]; exact h6
  · rw [hi 1 (by omega), hj 0 (by omega)]; exact h7
theorem op_knife : lw_o0 Rl := by
  intro kt iv ar jv br hR a1 a2 a3 a4
  obtain ⟨⟨n, kd, pc, tn, bd, hn, h1, h2, h3, hk⟩, -⟩ := id hR
  unfold pu_knife wpX9_knife wpX10_knife
  simp only [ev9_within, ev10_within, h2, h3]
  by_cases p1 : 0 ≤ a1 ∧ a1 ≤ 2
  · by_cases p2 : 1 ≤ a2 ∧ a2 ≤ 9
    · by_cases p3 : 1 ≤ a3 ∧ a3 ≤ 24
      · by_cases p4 : 0 ≤ a4 ∧ a4 ≤ 5
        · by_cases p5 : n = 6
          · subst p5
            exact ⟨-4, fun kt1 iv1 ar1 => kt1 = kt ∧ iv1 = iv ∧ ar1 = ar, fun jv1 br1 => jv1 = jv ∧ br1 = br, by rintro _ _ _ _ _ ⟨rfl, rfl, rfl⟩ ⟨rfl, rfl⟩; exact hR, by simp [p1, p2, p3, p4, show ¬ nI 6 < 6 from by decide], by simp [p1, p2, p3, p4, show nI 6 = 6 from rfl]⟩
          · have p1' := p1
            have p2' := p2
            have p3' := p3
            have p4' := p4
            obtain ⟨kk, -, hkk, rfl⟩ := pb_rng 0 2 rfl rfl (by decide) (by decide) p1
            obtain ⟨p, hp1, hp2, rfl⟩ := pb_rng 1 9 rfl rfl (by decide) (by decide) p2
            obtain ⟨t, ht1, ht2, rfl⟩ := pb_rng 1 24 rfl rfl (by decide) (by decide) p3
            obtain ⟨b, -, hb, rfl⟩ := pb_rng 0 5 rfl rfl (by decide) (by decide) p4
            have n6 : nI n < 6 := nI_lt (b := 6) (by omega) (by omega)
            have n6' : ¬ nI n = 6 := fun y => p5 ((nI_eq (b := 6) (by omega) (by omega)).mp y)
            have hv := pb_vin (n := n) (N := 6) (by omega) (by decide)
            have hc := pb_cl (n := n) (by omega)
            have k0 : (nI kk = 0) ↔ kk = 0 := nI_eq (b := 0) (by omega) (by omega)
            have k1 : (nI kk = 1) ↔ kk = 1 := nI_eq (b := 1) (by omega) (by omega)
            refine ⟨nI n, fun kt1 iv1 ar1 => ∃ (v : fw_F) (s : fw_R), kt1 = kt_add kt kk v s ∧ iv1 = va_up iv 0 (nI (n + 1)) ∧ ar1 = ar ∧ v 0 = nI n ∧ v 1 = nI p ∧ v 2 = nI t ∧ v 3 = nI b ∧ v 4 = nI (wd kk b) ∧ (∀ a, a < 24 * p → s 0 a = nI (cm p (wd kk b) a)), fun jv1 br1 => jv1 = va_up jv 5 (nI (n + 1)) ∧ (∀ k, k < 6 ∨ 9 < k → br1 k = br k) ∧ br1 6 = upd (br 6) n (nI kk) ∧ br1 7 = upd (br 7) n (nI p) ∧ br1 8 = upd (br 8) n (nI t) ∧ br1 9 = upd (br 9) n (nI b), ?_, ?_, ?_⟩
            · rintro _ _ _ _ br1 ⟨v, s, rfl, rfl, rfl, v0, v1, v2, v3, v4, hs⟩ ⟨rfl, hb1, b6, b7, b8, b9⟩
              refine Rl_kn hR (fun k h => by rw [pb_up, if_neg h]) (fun k h => by rw [pb_up, if_neg h]) hb1 ⟨n + 1, va_up kd n kk, va_up pc n p, va_up tn n t, va_up bd n b, by omega, by unfold kt_add; rw [h1], by rw [pb_up, if_pos rfl], by rw [pb_up, if_pos rfl], fun i hi => ?_⟩
              unfold kt_add
              dsimp only
              rw [h1, b6, b7, b8, b9]
              simp only [pb_up, pb_upd]
              by_cases z : i = n
              · subst z
                simp only [if_pos]
                exact ⟨⟨by omega, hp1, hp2, ht1, ht2, hb⟩, ⟨trivial, v0, v1, v2, v3, v4, hs⟩, trivial, trivial, trivial, trivial⟩
              · simp only [if_neg z]
                exact hk i (by omega)
            · simp only [p1', p2', p3', p4', and_self, not_true_eq_false, false_implies, true_implies, not_false_eq_true, and_true, true_and, show ((1 : Int32) = 0) = False from by simp, n6, forall_eq, k0, k1, hv, hc, h1, nI_1]
              refine ⟨fun y => ⟨fun y2 => ?_, fun y2 => ?_⟩, fun y => ?_⟩
              · unfold wpX8_init wpX2_init
                rw [nI_1]
                refine ki9 hp1 hp2 (by omega) (fun v s v0 v1 v2 v3 v4 hs => ?_)
                have ek : kk = 2 := by omega
                subst ek
                exact ⟨v, s, rfl, v0, v1, v2, v3, v4, hs⟩
              · unfold wpX2_init
                rw [nI_1]
                refine ki9 hp1 hp2 (by omega) (fun v s v0 v1 v2 v3 v4 hs => ?_)
                subst y2
                exact ⟨v, s, rfl, v0, v1, v2, v3, v4, hs⟩
              · refine ki9 hp1 hp2 (by omega) (fun v s v0 v1 v2 v3 v4 hs => ?_)
                subst y
                exact ⟨v, s, rfl, v0, v1, v2, v3, v4, hs⟩
            · simp only [p1', p2', p3', p4', and_self, not_true_eq_false, false_implies, true_implies, not_false_eq_true, and_true, true_and, show ((1 : Int32) = 0) = False from by simp, n6', forall_eq, hv, hc, nI_1]
              refine ⟨?_, fun k h => ?_, ?_, ?_, ?_, ?_⟩
              · rw [pb_up, if_pos rfl, nI_pred]
              · rw [pb_up, if_neg (by omega), pb_up, if_neg (by omega), pb_up, if_neg (by omega), pb_up, if_neg (by omega)]
              · rw [pb_up, if_neg (by omega), pb_up, if_neg (by omega), pb_up, if_neg (by omega), pb_up, if_pos rfl]
              · rw [pb_up, if_neg (by omega), pb_up, if_neg (by omega), pb_up, if_pos rfl, pb_up, if_neg (by omega)]
              · rw [pb_up, if_neg (by omega), pb_up, if_pos rfl, pb_up, if_neg (by omega), pb_up, if_neg (by omega)]
              · rw [pb_up, if_pos rfl, pb_up, if_neg (by omega), pb_up, if_neg (by omega), pb_up, if_neg (by omega)]
        · exact ⟨-2, fun kt1 iv1 ar1 => kt1 = kt ∧ iv1 = iv ∧ ar1 = ar, fun jv1 br1 => jv1 = jv ∧ br1 = br, by rintro _ _ _ _ _ ⟨rfl, rfl, rfl⟩ ⟨rfl, rfl⟩; exact hR, by simp [p1, p2, p3, p4], by simp [p1, p2, p3, p4]⟩
      · exact ⟨-2, fun kt1 iv1 ar1 => kt1 = kt ∧ iv1 = iv ∧ ar1 = ar, fun jv1 br1 => jv1 = jv ∧ br1 = br, by rintro _ _ _ _ _ ⟨rfl, rfl, rfl⟩ ⟨rfl, rfl⟩; exact hR, by simp [p1, p2, p3], by simp [p1, p2, p3]⟩
    · exact ⟨-2, fun kt1 iv1 ar1 => kt1 = kt ∧ iv1 = iv ∧ ar1 = ar, fun jv1 br1 => jv1 = jv ∧ br1 = br, by rintro _ _ _ _ _ ⟨rfl, rfl, rfl⟩ ⟨rfl, rfl⟩; exact hR, by simp [p1, p2], by simp [p1, p2]⟩
  · exact ⟨-2, fun kt1 iv1 ar1 => kt1 = kt ∧ iv1 = iv ∧ ar1 = ar, fun jv1 br1 => jv1 = jv ∧ br1 = br, by rintro _ _ _ _ _ ⟨rfl, rfl, rfl⟩ ⟨rfl, rfl⟩; exact hR, by simp [p1], by simp [p1]⟩
