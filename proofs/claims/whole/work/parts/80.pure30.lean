theorem Rl_bd {kt : kw_T} {iv iv1 : fw_F} {ar ar1 : fw_R} {jv jv1 : fw_F} {br br1 : fw_R} (hR : Rl kt iv ar jv br) (hi : ∀ k, k ≠ 4 → k ≠ 5 → iv1 k = iv k) (ha : ∀ k, k ≠ 5 → k ≠ 25 → ar1 k = ar k) (hj : ∀ k, k ≠ 16 → k ≠ 17 → k ≠ 13 → k ≠ 19 → k ≠ 20 → jv1 k = jv k) (hb : ∀ k, k ≠ 18 → k ≠ 21 → br1 k = br k) (hk : ∃ h w L, rb iv1 ar1 jv1 br1 h w L) : Rl kt iv1 ar1 jv1 br1 := by
  obtain ⟨h2, h3, -, h4, h5, h6, h7⟩ := hR
  refine ⟨?_, ?_, hk, ?_, ?_, ?_, ?_⟩
  · unfold rk at *
    rw [hi 0 (by decide) (by decide), hj 5 (by decide) (by decide) (by decide) (by decide) (by decide), hb 6 (by decide) (by decide), hb 7 (by decide) (by decide), hb 8 (by decide) (by decide), hb 9 (by decide) (by decide)]; exact h2
  · unfold rh at *
    rw [hi 2 (by decide) (by decide), hi 3 (by decide) (by decide), hj 10 (by decide) (by decide) (by decide) (by decide) (by decide), hj 11 (by decide) (by decide) (by decide) (by decide) (by decide), ha 3 (by decide) (by decide), hb 12 (by decide) (by decide)]; exact h3
  · unfold rma at *
    rw [hi 7 (by decide) (by decide), hj 28 (by decide) (by decide) (by decide) (by decide) (by decide), ha 11 (by decide) (by decide), ha 12 (by decide) (by decide), hb 29 (by decide) (by decide), hb 30 (by decide) (by decide)]; exact h4
  · intro k hk
    rw [hi (9 + k) (by omega) (by omega), hi (13 + k) (by omega) (by omega), hi (17 + k) (by omega) (by omega), ha (21 + k) (by omega) (by omega), hb 2 (by decide) (by decide), hb 3 (by decide) (by decide), hb 4 (by decide) (by decide)]
    exact h5 k hk
  · rw [hi 21 (by decide) (by decide), hj 1 (by decide) (by decide) (by decide) (by decide) (by decide)]; exact h6
  · rw [hi 1 (by decide) (by decide), hj 0 (by decide) (by decide) (by decide) (by decide) (by decide)]; exact h7
theorem rdb_ag {jv : fw_F} {br : fw_R} {v : fw_F} {r : fw_R} (h : rdb jv br v r) : ag10 jv br v r := ⟨fun k h1 _ h2 h3 _ => h.1 k h1 h2 h3, fun k _ h1 _ _ _ _ _ _ _ => h.2 k h1⟩
theorem op_board : lw_o10 Rl := by
  intro kt iv ar jv br hR a1 a2 a3 a4
  unfold pu_board wpX9_board wpX10_board wpX9_takeText wpX10_fails
  simp only [forall_eq, rs9, ev10_isSheet, ev10_isSort]
  have hR0 := Rl_fault hR 0
  have hRf := Rl_fault hR0
  generalize va_up iv 1 0 = iv0 at hR0 hRf ⊢
  generalize va_up jv 0 0 = jv0 at hR0 hRf ⊢
  by_cases p1 : 0 ≤ a1 ∧ a1 ≤ 3
  · by_cases p2 : 0 ≤ a2 ∧ a2 ≤ 2
    · obtain ⟨k, -, hk, rfl⟩ := pb_rng 0 3 rfl rfl (by decide) (by decide) p1
      have h4 : k < 4 := by omega
      have hs := hR0.2.2.2.2.1
      have ha4 : (a4.toInt64).toInt = a4.toInt := Int32.toInt_toInt64 a4
      rcases rsh_at hs h4 with ⟨e1, e2⟩ | ⟨e1, so, le, b1, b2, c1, c2, c3, c4, c5⟩
      · simp only [tk9_none h4 e1, ag_none h4 e2]
        exact ⟨-11, fun jv1 br1 => jv1 = va_up jv0 0 1 ∧ br1 = br, fun iv1 ar1 => iv1 = va_up iv0 1 1 ∧ ar1 = ar, by rintro _ _ ⟨rfl, rfl⟩ _ _ ⟨rfl, rfl⟩; exact hRf 1, by simp [p1, p2], by simp [p1, p2]⟩
      · have eag := fun (Q : Int32 → Prop) => ag_some (jv := jv0) (br := br) (x2 := a2) (x3 := a3) (x4 := a4) (Q := Q) (e := 1) h4 b1 b2 c2 c4 (Or.inl rfl)
        rw [show nI 1 = (1 : Int32) from rfl] at eag
        have e1x : ((1 : Nat) : Int) * a4.toInt = a4.toInt := by omega
        rw [e1x] at eag
        simp only [eag]
        by_cases p3 : fc so le a2 a3 a4.toInt = 0
        · simp only [p3]
          obtain ⟨rfl, i, n, q1, rfl, q2, q3⟩ := fc0 p3
          obtain ⟨n', hn', rfl⟩ := nI_of (x := a4) (by rw [Int32.lt_iff_toInt_lt, pb_i0]; omega)
          rw [nI_toInt (by omega)] at q2
          have q4 : n' = n := by omega
          subst q4
          have ei : (80 : Int32) * nI k + nI i = nI (80 * k + i) := by
            rw [show (80 : Int32) = nI 80 from rfl, pk_mul, nI_add]
          simp only [ei, nI_add, pb_i2l hn', tk9_ok h4 e1 c1 c3 b2 q1]
          generalize hV : (fun t => br 4 (80 * k + i + t)) = V
          have hV10 : ∀ t, t < n' → br 4 (80 * k + i + t) = V t := fun t _ => by rw [← hV]
          have hV9 : ∀ t, t < n' → va_up ar 25 (va_cpy (ar (21 + k)) (ar 25) i 0 n') 25 t = V t := fun t ht => by
            rw [pb_up, if_pos rfl, pk_cpy_in (by omega) (by omega), c5 _ (by omega), ← hV10 t ht]
            congr 1
            omega
          obtain ⟨s, hst⟩ := stb_ex V n'
          have s80 : s ≤ n' := hst.1
          have rd0 : rdb jv0 br (va_up jv0 13 (nI (80 * k + i))) br := rdb_13 ⟨fun _ _ _ _ => rfl, fun _ _ => rfl⟩ _
          have rd13 : va_up jv0 13 (nI (80 * k + i)) 13 = nI (80 * k + i) := by rw [pb_up, if_pos rfl]
          by_cases pc : okb V n' s
          · obtain ⟨g1, g2, -⟩ := stb_d hst (by have := pc.1; have := pc.2.1; omega)
            have h36 : dg (V 1) * dg (V 2) ≤ 36 := Nat.mul_le_mul g1.2.2 g2.2.2
            refine ⟨nI (dg (V 1) * dg (V 2)), fun jv1 br1 => (∀ k, k ≠ 16 → k ≠ 17 → k ≠ 13 → k ≠ 19 → k ≠ 20 → jv1 k = jv0 k) ∧ jv1 16 = nI (dg (V 1)) ∧ jv1 17 = nI (dg (V 2)) ∧ (∀ k, k ≠ 18 → k ≠ 21 → br1 k = br k) ∧ ∀ j, j < dg (V 1) * dg (V 2) → br1 18 j = nI (lt (V (cps (dg (V 2)) j))), fun iv1 ar1 => iv1 = va_up (va_up iv0 4 (nI (dg (V 1)))) 5 (nI (dg (V 2))) ∧ ∃ g : Nat → Int32, ar1 = va_up (va_up ar 25 (va_cpy (ar (21 + k)) (ar 25) i 0 n')) 5 g ∧ ∀ j, j < dg (V 1) * dg (V 2) → g j = nI (lt (V (cps (dg (V 2)) j))), ?_, ?_, ?_⟩
            · rintro _ _ ⟨rfl, g, rfl, hg⟩ jv1 br1 ⟨w1, w2, w3, w4, w5⟩
              refine Rl_bd hR0 (fun k h1 h2 => by rw [pb_up, if_neg h2, pb_up, if_neg h1]) (fun k h1 h2 => by rw [pb_up, if_neg h1, pb_up, if_neg h2]) w1 w4 ⟨dg (V 1), dg (V 2), fun j => lt (V (cps (dg (V 2)) j)), g1.2.2, g2.2.2, by omega, ?_, ?_, w2, w3, fun c hc => ⟨lt_lt, ?_, w5 c hc⟩⟩
              · rw [pb_up, if_neg (by decide), pb_up, if_pos rfl]
              · rw [pb_up, if_pos rfl]
              · rw [pb_up, if_pos rfl]; exact hg c hc
            · simp only [if_pos p1, if_pos p2]
              refine ⟨fun _ => ⟨fun _ => ?_, fun y => absurd trivial y⟩, fun y => absurd trivial y⟩
              refine fb9 (V := V) (by omega) hV9 hst (fun _ => ⟨fun _ => ?_, fun y => absurd rfl y⟩) (fun y => absurd pc y)
              refine rdb9 (V := V) (by omega) hV9 hst pc (fun g hg => ?_)
              unfold wpX0_count
              refine ⟨?_, rfl, g, rfl, hg⟩
              rw [pb_up, if_neg (by decide), pb_up, if_pos rfl, pb_up, if_pos rfl, pk_mul]
            · refine ⟨fun _ => ⟨fun _ => ⟨fun _ => ⟨fun _ => ⟨fun _ => ?_, fun y => absurd trivial y⟩, fun y => absurd y (by decide)⟩, fun y => absurd p2 y⟩, fun y => absurd y (by decide)⟩, fun y => absurd p1 y⟩
              refine rb10 (V := V) (by omega) (by omega) hV10 hst rd0 rd13 (fun y => absurd pc y) (fun _ v r st => ⟨fun _ => ?_, fun y => absurd y (by decide)⟩)
              obtain ⟨t1, t2, t3, t4, t5⟩ := st
              have eJ : va_up (va_up v 16 (v 19)) 17 (va_up v 16 (v 19) 20) = va_up (va_up v 16 (nI (dg (V 1)))) 17 (nI (dg (V 2))) := by
                rw [t3, show va_up v 16 (nI (dg (V 1))) 20 = nI (dg (V 2)) from by rw [pb_up, if_neg (by decide)]; exact t4]
              rw [eJ]
              have f16 : va_up (va_up v 16 (nI (dg (V 1)))) 17 (nI (dg (V 2))) 16 = nI (dg (V 1)) := by rw [pb_up, if_neg (by decide), pb_up, if_pos rfl]
              have f17 : va_up (va_up v 16 (nI (dg (V 1)))) 17 (nI (dg (V 2))) 17 = nI (dg (V 2)) := by rw [pb_up, if_pos rfl]
              have fo : ∀ k, k ≠ 16 → k ≠ 17 → k ≠ 13 → k ≠ 19 → k ≠ 20 → va_up (va_up v 16 (nI (dg (V 1)))) 17 (nI (dg (V 2))) k = jv0 k := fun k h1 h2 h3 h4 h5 => by
                rw [pb_up, if_neg h2, pb_up, if_neg h1]; exact t1.1 k h3 h4 h5
              generalize va_up (va_up v 16 (nI (dg (V 1)))) 17 (nI (dg (V 2))) = J at f16 f17 fo ⊢
              refine pk_loop (σ := fw_R) (fun m j u => wpX10_board_L104 (nI k) (nI so) (nI i) (nI n') _ _ m (nI j) J u) (fun j u => ∃ g : Nat → Int32, u = va_up r 18 g ∧ ∀ x, x < j → g x = nI (lt (V (cps (dg (V 2)) x)))) (dg (V 1) * dg (V 2)) 0 r (by omega) ⟨r 18, (va_upS _ _).symm, fun x hx => absurd hx (by omega)⟩ ?_ ?_
              · rintro m _ ⟨g, rfl, hg⟩
                unfold wpX10_board_L104
                rw [f16, f17, pk_mul]
                refine ⟨fun _ => ⟨rfl, fo, f16, f17, fun k h1 h2 => ?_, fun j hj => ?_⟩, fun y => absurd (nI_le (Nat.le_refl _) (by omega)) y⟩
                · rw [pb_up, if_neg h1]; exact t1.2 k h2
                · rw [pb_up, if_pos rfl]; exact hg j hj
              · rintro m j _ hj ⟨g, rfl, hg⟩ ih
                unfold wpX10_board_L104
                rw [f16, f17, pk_mul]
                refine ⟨fun y => absurd y (nI_ge hj (by omega)), fun _ => ⟨pb_vin (by omega) (by decide), pb_vin (by omega) (by decide), ?_⟩⟩
                rintro _ rfl _ rfl
                rw [nI_1, pb_cl (by omega)]
                refine ih _ ⟨upd g j (nI (lt (V (cps (dg (V 2)) j)))), ?_, fun x hx => ?_⟩
                · rw [va_up2, pb_up, if_pos rfl]
                  have e21 : va_up r 18 g 21 j = nI (lt (V (cps (dg (V 2)) j))) := t5 j hj
                  rw [e21]
                · rw [pb_upd]
                  by_cases z : x = j
                  · rw [if_pos z, z]
                  · rw [if_neg z]; exact hg x (by omega)
          · refine ⟨-100 - nI s, fun jv1 br1 => rdb jv0 br jv1 br1, fun iv1 ar1 => iv1 = iv0 ∧ ar1 = va_up ar 25 (va_cpy (ar (21 + k)) (ar 25) i 0 n'), ?_, ?_, ?_⟩
            · rintro _ _ ⟨rfl, rfl⟩ jv1 br1 h
              exact Rl_ag (Rl_taken hR0 _) ag9_rf (rdb_ag h)
            · simp only [if_pos p1, if_pos p2]
              refine ⟨fun _ => ⟨fun _ => ?_, fun y => absurd trivial y⟩, fun y => absurd trivial y⟩
              exact fb9 (V := V) (by omega) hV9 hst (fun y => absurd y pc) (fun _ => ⟨fun y => absurd y (nI_ne9 (by omega)), fun _ => by simp⟩)
            · refine ⟨fun _ => ⟨fun _ => ⟨fun _ => ⟨fun _ => ⟨fun _ => ?_, fun y => absurd trivial y⟩, fun y => absurd y (by decide)⟩, fun y => absurd p2 y⟩, fun y => absurd y (by decide)⟩, fun y => absurd p1 y⟩
              refine rb10 (V := V) (by omega) (by omega) hV10 hst rd0 rd13 (fun _ v r q5 q6 => ⟨fun y => absurd rfl y, fun _ => ⟨?_, q5⟩⟩) (fun y => absurd y pc)
              rw [q6, pk_sub (by omega), show 80 * k + i + s - (80 * k + i) = s by omega]
        · have p3' : ¬ fc so le a2 a3 (a4.toInt64).toInt = 0 := by rw [ha4]; exact p3
          simp only [tk9_bad h4 e1 c1 c3 b2 p3', ha4]
          have nz : ¬ (-10 - fc so le a2 a3 a4.toInt) = 0 := by
            unfold fc
            split
            · decide
            · split
              · decide
              · split <;> decide
          exact ⟨-10 - fc so le a2 a3 a4.toInt, fun jv1 br1 => jv1 = va_up jv0 0 (fc so le a2 a3 a4.toInt) ∧ br1 = br, fun iv1 ar1 => iv1 = va_up iv0 1 (fc so le a2 a3 a4.toInt) ∧ ar1 = ar, by rintro _ _ ⟨rfl, rfl⟩ _ _ ⟨rfl, rfl⟩; exact hRf _, by simp [p1, p2, nz], by simp [p1, p2, p3]⟩
    · exact ⟨-2, fun jv1 br1 => jv1 = jv0 ∧ br1 = br, fun iv1 ar1 => iv1 = iv0 ∧ ar1 = ar, by rintro _ _ ⟨rfl, rfl⟩ _ _ ⟨rfl, rfl⟩; exact hR0, by simp [p1, p2], by simp [p1, p2]⟩
  · exact ⟨-1, fun jv1 br1 => jv1 = jv0 ∧ br1 = br, fun iv1 ar1 => iv1 = iv0 ∧ ar1 = ar, by rintro _ _ ⟨rfl, rfl⟩ _ _ ⟨rfl, rfl⟩; exact hR0, by simp [p1], by simp [p1]⟩
