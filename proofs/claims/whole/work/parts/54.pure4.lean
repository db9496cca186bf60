/-! ===== marks, bodies ===== -/
theorem op_mark : lw_o19 Rl := by
  intro kt iv ar jv br hR a1 a2
  obtain ⟨-, -, -, ⟨m, f, c, h1, h2, h3, h4⟩, -⟩ := id hR
  unfold pu_mark wpX9_mark wpX10_mark wpX4_add
  simp only [ev9_within, ev10_within, ev10_isFeet, h2, h3]
  by_cases p1 : 1 ≤ a1 ∧ a1 ≤ 40
  · by_cases p2 : 0 ≤ a2 ∧ a2 ≤ 3
    · by_cases p3 : m = 10
      · refine ⟨-4, fun jv1 br1 => jv1 = jv ∧ br1 = br, fun iv1 ar1 => iv1 = iv ∧ ar1 = ar, by rintro _ _ ⟨rfl, rfl⟩ _ _ ⟨rfl, rfl⟩; exact hR, ?_, ?_⟩
        · subst p3; simp [p1, p2, show ¬ nI 10 < 10 from by decide]
        · subst p3; simp [p1, p2, show nI 10 = 10 from rfl]
      · obtain ⟨f0, hf0, hf1, rfl⟩ := pb_rng 1 40 rfl rfl (by decide) (by decide) p1
        obtain ⟨c0, -, hc0, rfl⟩ := pb_rng 0 3 rfl rfl (by decide) (by decide) p2
        have hm : m < 10 := by omega
        have q1 : nI m < 10 := nI_lt (b := 10) hm (by decide)
        have q2 : 0 ≤ nI m ∧ nI m ≤ 9 := pb_in (a := 0) (c := 9) rfl rfl (by decide) (by omega) (by omega)
        have q3 : ¬ nI m = 10 := fun z => p3 ((nI_eq (b := 10) (by omega) (by omega)).mp z)
        have hv := pb_vin (n := m) (N := 10) hm (by decide)
        have hc := pb_cl (n := m) (by omega)
        refine ⟨nI m, fun jv1 br1 => jv1 = va_up jv 28 (nI (m + 1)) ∧ br1 = va_up (va_up br 29 (upd (br 29) m (nI f0))) 30 (upd (br 30) m (nI c0)), fun iv1 ar1 => iv1 = va_up iv 7 (nI (m + 1)) ∧ ar1 = va_up (va_up ar 11 (upd (ar 11) m (nI f0))) 12 (upd (ar 12) m (nI c0)), ?_, ?_, ?_⟩
        · rintro _ _ ⟨rfl, rfl⟩ _ _ ⟨rfl, rfl⟩
          obtain ⟨g1, g2, g3, -, g5, g6⟩ := hR
          unfold Rl rk rh rb rma rsh at *
          simp only [pb_up] at *
          refine ⟨by simpa using g1, by simpa using g2, by simpa using g3, ⟨m + 1, fun i => if i = m then f0 else f i, fun i => if i = m then c0 else c i, by omega, by simp, by simp, fun i hi => ?_⟩, fun k hk => ?_, by simpa using g6⟩
          · by_cases z : i = m
            · subst z; simp [pb_upd]; omega
            · have := h4 i (by omega)
              simpa [z, pb_upd] using this
          · have := g5 k hk
            simpa [show ¬ 9 + k = 7 by omega, show ¬ 13 + k = 7 by omega, show ¬ 17 + k = 7 by omega, show ¬ 21 + k = 11 by omega, show ¬ 21 + k = 12 by omega] using this
        · have e : nI m + 1 = nI (m + 1) := nI_1 m
          simp [p1, p2, q1, q2, hv, hc, h2, pb_up, e, nI_pred]
        · have e : nI m + 1 = nI (m + 1) := nI_1 m
          simp [p1, p2, q3, hv, hc, h3, pb_up, e, nI_pred]
    · exact ⟨-2, fun jv1 br1 => jv1 = jv ∧ br1 = br, fun iv1 ar1 => iv1 = iv ∧ ar1 = ar, by rintro _ _ ⟨rfl, rfl⟩ _ _ ⟨rfl, rfl⟩; exact hR, by simp [p1, p2], by simp [p1, p2]⟩
  · exact ⟨-2, fun jv1 br1 => jv1 = jv ∧ br1 = br, fun iv1 ar1 => iv1 = iv ∧ ar1 = ar, by rintro _ _ ⟨rfl, rfl⟩ _ _ ⟨rfl, rfl⟩; exact hR, by simp [p1], by simp [p1]⟩
theorem op_back : lw_o20 Rl := by
  intro kt iv ar jv br hR a1
  obtain ⟨-, -, -, ⟨m, f, c, h1, h2, h3, h4⟩, -⟩ := id hR
  unfold pu_back wpX9_back wpX10_back
  simp only [ev9_within, ev10_within, h2, h3]
  by_cases p1 : 0 ≤ a1 ∧ a1 ≤ nI m
  · obtain ⟨k, -, hk, rfl⟩ := pb_rng 0 m rfl rfl (by decide) (by omega) p1
    have e : nI m - nI k = nI (m - k) := pk_sub hk
    refine ⟨nI (m - k), fun jv1 br1 => jv1 = va_up jv 28 (nI (m - k)) ∧ br1 = br, fun iv1 ar1 => iv1 = va_up iv 7 (nI (m - k)) ∧ ar1 = ar, ?_, ?_, ?_⟩
    · rintro _ _ ⟨rfl, rfl⟩ _ _ ⟨rfl, rfl⟩
      obtain ⟨g1, g2, g3, -, g5, g6⟩ := hR
      unfold Rl rk rh rb rma rsh at *
      simp only [pb_up] at *
      refine ⟨by simpa using g1, by simpa using g2, by simpa using g3, ⟨m - k, f, c, by omega, by simp, by simp, fun i hi => h4 i (by omega)⟩, fun k hk => ?_, by simpa using g6⟩
      have := g5 k hk
      simpa [show ¬ 9 + k = 7 by omega, show ¬ 13 + k = 7 by omega, show ¬ 17 + k = 7 by omega] using this
    · simp [p1, e, pb_up]
    · simp [p1, e, pb_up]
  · exact ⟨-2, fun jv1 br1 => jv1 = jv ∧ br1 = br, fun iv1 ar1 => iv1 = iv ∧ ar1 = ar, by rintro _ _ ⟨rfl, rfl⟩ _ _ ⟨rfl, rfl⟩; exact hR, by simp [p1], by simp [p1]⟩
theorem Rl_trace {kt : kw_T} {iv : fw_F} {ar : fw_R} {jv : fw_F} {br : fw_R} (hR : Rl kt iv ar jv br) (v : Int32) : Rl kt (va_up iv 21 v) ar (va_up jv 1 v) br := by
  unfold Rl rk rh rb rma rsh at *
  simp only [pb_up] at *
  obtain ⟨h1, h2, h3, h4, h5, h6⟩ := hR
  refine ⟨by simpa using h1, by simpa using h2, by simpa using h3, by simpa using h4, fun k hk => ?_, by simpa using h6.2⟩
  have := h5 k hk
  simpa [show ¬ 9 + k = 21 by omega, show ¬ 13 + k = 21 by omega, show ¬ 17 + k = 21 by omega] using this
theorem op_tell : lw_o30 Rl := by
  intro kt iv ar jv br hR a1
  obtain ⟨⟨n, kd, pc, tn, bd, hn, h1, h2, h3, hk⟩, -⟩ := id hR
  unfold pu_tell wpX9_tell wpX10_tell
  by_cases hx : ∃ i, i < n ∧ a1 = nI i
  · obtain ⟨i, hi, rfl⟩ := hx
    obtain ⟨b, ⟨c0, c1, c2, c3, c4, c5, -⟩, d0, d1, d2, d3⟩ := hk i hi
    simp only [kA_yes hn h2 h1 hi, kn10_yes hn h3 hi]
    have hv := pb_vin (n := i) (N := 6) (by omega) (by decide)
    have hc := pb_cl (n := i) (by omega)
    have ht := hR.2.2.2.2.2.1
    unfold wpX8_telling wpX2_telling wpX3_telling wpX3_tellingOfKnife wpX7_leave wpX10_begins
    simp only [hv, hc, c0, c2, d0, d1, forall_eq, va_up2, true_and, not_true, not_false_eq_true, true_implies, false_implies, and_true]
    rcases (show kd i = 0 ∨ kd i = 1 ∨ kd i = 2 by omega) with e | e | e
    · refine ⟨nI (pc i), fun jv1 br1 => jv1 = va_up jv 1 (31 * jv 1 + 1) ∧ br1 = br, fun iv1 ar1 => iv1 = va_up iv 21 (31 * jv 1 + 1) ∧ ar1 = ar, ?_, ?_, ?_⟩
      · rintro _ _ ⟨rfl, rfl⟩ _ _ ⟨rfl, rfl⟩; exact Rl_trace hR _
      · simp [e, ht]
      · simp [e, show ¬ nI 0 = 1 from by decide, show ¬ nI 0 = 2 from by decide]
    · refine ⟨nI (pc i) + 100, fun jv1 br1 => jv1 = va_up jv 1 (31 * (31 * jv 1 + 2) + 1) ∧ br1 = br, fun iv1 ar1 => iv1 = va_up iv 21 (31 * (31 * jv 1 + 2) + 1) ∧ ar1 = ar, ?_, ?_, ?_⟩
      · rintro _ _ ⟨rfl, rfl⟩ _ _ ⟨rfl, rfl⟩; exact Rl_trace hR _
      · simp [e, ht, pb_up]
      · simp [e, show nI 1 = 1 from rfl, pb_up]
    · refine ⟨2 * nI (pc i) + 100, fun jv1 br1 => jv1 = va_up jv 1 (31 * (31 * (31 * (31 * jv 1 + 3) + 2) + 1) + 1) ∧ br1 = br, fun iv1 ar1 => iv1 = va_up iv 21 (31 * (31 * (31 * (31 * jv 1 + 3) + 2) + 1) + 1) ∧ ar1 = ar, ?_, ?_, ?_⟩
      · rintro _ _ ⟨rfl, rfl⟩ _ _ ⟨rfl, rfl⟩; exact Rl_trace hR _
      · simp [e, ht, pb_up]; grind
      · simp [e, show nI 2 = 2 from rfl, pb_up]
  · simp only [kA_no hn h2 hx, kn10_no hn h3 hx]
    exact ⟨-1, fun jv1 br1 => jv1 = jv ∧ br1 = br, fun iv1 ar1 => iv1 = iv ∧ ar1 = ar, by rintro _ _ ⟨rfl, rfl⟩ _ _ ⟨rfl, rfl⟩; exact hR, by simp, by simp⟩
theorem op_whet : lw_o31 Rl := by
  intro kt iv ar jv br hR a1
  obtain ⟨⟨n, kd, pc, tn, bd, hn, h1, h2, h3, hk⟩, -⟩ := id hR
  unfold pu_whet wpX9_whet wpX10_whet
  by_cases hx : ∃ i, i < n ∧ a1 = nI i
  · obtain ⟨i, hi, rfl⟩ := hx
    obtain ⟨b, ⟨c0, c1, c2, c3, c4, c5, -⟩, d0, d1, d2, d3⟩ := hk i hi
    simp only [kA_yes hn h2 h1 hi, kn10_yes hn h3 hi]
    have hv := pb_vin (n := i) (N := 6) (by omega) (by decide)
    have hc := pb_cl (n := i) (by omega)
    have ht := hR.2.2.2.2.2.1
    unfold wpX8_whetting wpX3_whetting wpX7_leave wpX10_begins
    simp only [hv, hc, c0, c1, d0, forall_eq]
    rcases (show kd i = 0 ∨ kd i = 1 ∨ kd i = 2 by omega) with e | e | e
    · refine ⟨nI i, fun jv1 br1 => jv1 = va_up jv 1 (31 * jv 1 + 4) ∧ br1 = br, fun iv1 ar1 => iv1 = va_up iv 21 (31 * jv 1 + 4) ∧ ar1 = ar, ?_, ?_, ?_⟩
      · rintro _ _ ⟨rfl, rfl⟩ _ _ ⟨rfl, rfl⟩; exact Rl_trace hR _
      · simp [e, ht]
      · simp [e, show ¬ nI 0 = 2 from by decide]
    · refine ⟨nI i, fun jv1 br1 => jv1 = va_up jv 1 (31 * jv 1 + 4) ∧ br1 = br, fun iv1 ar1 => iv1 = va_up iv 21 (31 * jv 1 + 4) ∧ ar1 = ar, ?_, ?_, ?_⟩
      · rintro _ _ ⟨rfl, rfl⟩ _ _ ⟨rfl, rfl⟩; exact Rl_trace hR _
      · simp [e, ht]
      · simp [e, show ¬ nI 1 = 2 from by decide]
    · refine ⟨20, fun jv1 br1 => jv1 = va_up jv 1 (31 * jv 1 + 5) ∧ br1 = br, fun iv1 ar1 => iv1 = va_up iv 21 (31 * jv 1 + 5) ∧ ar1 = ar, ?_, ?_, ?_⟩
      · rintro _ _ ⟨rfl, rfl⟩ _ _ ⟨rfl, rfl⟩; exact Rl_trace hR _
      · simp [e, ht]
      · simp [e, show nI 2 = 2 from rfl]
  · simp only [kA_no hn h2 hx, kn10_no hn h3 hx]
    exact ⟨-1, fun jv1 br1 => jv1 = jv ∧ br1 = br, fun iv1 ar1 => iv1 = iv ∧ ar1 = ar, by rintro _ _ ⟨rfl, rfl⟩ _ _ ⟨rfl, rfl⟩; exact hR, by simp, by simp⟩
theorem op_as : lw_o32 Rl := by
  intro kt iv ar jv br hR a1 a2
  obtain ⟨⟨n, kd, pc, tn, bd, hn, h1, h2, h3, hk⟩, -⟩ := id hR
  have h2' : va_up iv 1 0 0 = nI n := by rw [pb_up, if_neg (by decide)]; exact h2
  have h3' : va_up jv 0 0 5 = nI n := by rw [pb_up, if_neg (by decide)]; exact h3
  unfold pu_as wpX9_as wpX10_as
  simp only [forall_eq]
  by_cases hx : ∃ i, i < n ∧ a1 = nI i
  · obtain ⟨i, hi, rfl⟩ := hx
    obtain ⟨b, ⟨c0, c1, c2, c3, c4, c5, -⟩, d0, d1, d2, d3⟩ := hk i hi
    simp only [kA_yes hn h2' h1 hi, kn10_yes hn h3' hi, ev9_within, ev10_within]
    have hv := pb_vin (n := i) (N := 6) (by omega) (by decide)
    have hc := pb_cl (n := i) (by omega)
    unfold wpX9_faulted wpX10_fails
    simp only [hv, hc, c0, d0, forall_eq, va_up2]
    by_cases p2 : 0 ≤ a2 ∧ a2 ≤ 2
    · obtain ⟨j, -, hj, rfl⟩ := pb_rng 0 2 rfl rfl (by decide) (by decide) p2
      rw [nI_ltI (by omega) (by omega)]
      by_cases z : kd i < j
      · refine ⟨-12, fun jv1 br1 => jv1 = va_up jv 0 2 ∧ br1 = br, fun iv1 ar1 => iv1 = va_up iv 1 2 ∧ ar1 = ar, by rintro _ _ ⟨rfl, rfl⟩ _ _ ⟨rfl, rfl⟩; exact Rl_fault hR _, ?_, ?_⟩
        · rcases (show j = 1 ∨ j = 2 by omega) with rfl | rfl
          · have e : kd i = 0 := by omega
            simp [e, show nI 1 = 1 from rfl]
          · have e : kd i = 0 ∨ kd i = 1 := by omega
            simp [e, show nI 2 = 2 from rfl]
        · simp [z, p2]
      · refine ⟨1, fun jv1 br1 => jv1 = va_up jv 0 0 ∧ br1 = br, fun iv1 ar1 => iv1 = va_up iv 1 0 ∧ ar1 = ar, by rintro _ _ ⟨rfl, rfl⟩ _ _ ⟨rfl, rfl⟩; exact Rl_fault hR _, ?_, ?_⟩
        · rcases (show j = 0 ∨ j = 1 ∨ j = 2 by omega) with rfl | rfl | rfl
          · simp [show nI 0 = 0 from rfl]
          · have e : ¬ kd i = 0 := by omega
            simp [e, show nI 1 = 1 from rfl]
          · have e : ¬ (kd i = 0 ∨ kd i = 1) := by omega
            simp [e, show nI 2 = 2 from rfl]
        · simp [z, p2]
    · exact ⟨-2, fun jv1 br1 => jv1 = va_up jv 0 0 ∧ br1 = br, fun iv1 ar1 => iv1 = va_up iv 1 0 ∧ ar1 = ar, by rintro _ _ ⟨rfl, rfl⟩ _ _ ⟨rfl, rfl⟩; exact Rl_fault hR _, by simp [p2], by simp [p2]⟩
  · simp only [kA_no hn h2' hx, kn10_no hn h3' hx]
    exact ⟨-1, fun jv1 br1 => jv1 = va_up jv 0 0 ∧ br1 = br, fun iv1 ar1 => iv1 = va_up iv 1 0 ∧ ar1 = ar, by rintro _ _ ⟨rfl, rfl⟩ _ _ ⟨rfl, rfl⟩; exact Rl_fault hR _, by simp, by simp⟩
