theorem Rl_hd {kt : kw_T} {iv iv1 : fw_F} {ar ar1 : fw_R} {jv jv1 : fw_F} {br br1 : fw_R} (hR : Rl kt iv ar jv br) (hi : ∀ k, k ≠ 2 → k ≠ 3 → iv1 k = iv k) (ha : ∀ k, k ≠ 3 → k ≠ 25 → ar1 k = ar k) (hj : ∀ k, k ≠ 10 → k ≠ 11 → k ≠ 13 → k ≠ 14 → jv1 k = jv k) (hb : ∀ k, k ≠ 12 → k ≠ 15 → br1 k = br k) (hk : ∃ to T W, rh iv1 ar1 jv1 br1 to T W) : Rl kt iv1 ar1 jv1 br1 := by
  obtain ⟨h2, -, h3, h4, h5, h6, h7⟩ := hR
  refine ⟨?_, hk, ?_, ?_, ?_, ?_, ?_⟩
  · unfold rk at *
    rw [hi 0 (by decide) (by decide), hj 5 (by decide) (by decide) (by decide) (by decide), hb 6 (by decide) (by decide), hb 7 (by decide) (by decide), hb 8 (by decide) (by decide), hb 9 (by decide) (by decide)]; exact h2
  · unfold rb at *
    rw [hi 4 (by decide) (by decide), hi 5 (by decide) (by decide), hj 16 (by decide) (by decide) (by decide) (by decide), hj 17 (by decide) (by decide) (by decide) (by decide), ha 5 (by decide) (by decide), hb 18 (by decide) (by decide)]; exact h3
  · unfold rma at *
    rw [hi 7 (by decide) (by decide), hj 28 (by decide) (by decide) (by decide) (by decide), ha 11 (by decide) (by decide), ha 12 (by decide) (by decide), hb 29 (by decide) (by decide), hb 30 (by decide) (by decide)]; exact h4
  · intro k hk
    rw [hi (9 + k) (by omega) (by omega), hi (13 + k) (by omega) (by omega), hi (17 + k) (by omega) (by omega), ha (21 + k) (by omega) (by omega), hb 2 (by decide) (by decide), hb 3 (by decide) (by decide), hb 4 (by decide) (by decide)]
    exact h5 k hk
  · rw [hi 21 (by decide) (by decide), hj 1 (by decide) (by decide) (by decide) (by decide)]; exact h6
  · rw [hi 1 (by decide) (by decide), hj 0 (by decide) (by decide) (by decide) (by decide)]; exact h7
theorem rdh_ag {jv : fw_F} {br : fw_R} {v : fw_F} {r : fw_R} (h : rdh jv br v r) : ag10 jv br v r := ⟨fun k h1 h2 _ _ _ => h.1 k h1 h2, fun k h1 _ _ _ _ _ _ _ _ => h.2 k h1⟩
theorem op_hand : lw_o5 Rl := by
  intro kt iv ar jv br hR a1 a2 a3 a4
  unfold pu_hand wpX9_hand wpX10_hand wpX9_takeText wpX10_fails
  simp only [forall_eq, rs9, ev10_isSheet, ev10_isSort]
  have hR0 := Rl_fault hR 0
  have hRf := Rl_fault hR0
  generalize va_up iv 1 0 = iv0 at hR0 hRf ⊢
  generalize va_up jv 0 0 = jv0 at hR0 hRf ⊢
  by_cases p1 : 0 ≤ a1 ∧ a1 ≤ 3
  · by_cases p2 : 0 ≤ a2 ∧ a2 ≤ 2
    · obtain ⟨k, -, hk, rfl⟩ := pb_rng 0 3 rfl rfl (by decide) (by decide) p1
      have h4 : k < 4 := by omega
      have hs := hR0.2.2.2.2.1
      have ha4 : (a4.toInt64).toInt = a4.toInt := Int32.toInt_toInt64 a4
      rcases rsh_at hs h4 with ⟨e1, e2⟩ | ⟨e1, so, le, b1, b2, c1, c2, c3, c4, c5⟩
      · simp only [tk9_none h4 e1, ag_none h4 e2]
        exact ⟨-11, fun jv1 br1 => jv1 = va_up jv0 0 1 ∧ br1 = br, fun iv1 ar1 => iv1 = va_up iv0 1 1 ∧ ar1 = ar, by rintro _ _ ⟨rfl, rfl⟩ _ _ ⟨rfl, rfl⟩; exact hRf 1, by simp [p1, p2], by simp [p1, p2]⟩
      · have eag := fun (Q : Int32 → Prop) => ag_some (jv := jv0) (br := br) (x2 := a2) (x3 := a3) (x4 := a4) (Q := Q) (e := 1) h4 b1 b2 c2 c4 (Or.inl rfl)
        rw [show nI 1 = (1 : Int32) from rfl] at eag
        have e1x : ((1 : Nat) : Int) * a4.toInt = a4.toInt := by omega
        rw [e1x] at eag
        simp only [eag]
        by_cases p3 : fc so le a2 a3 a4.toInt = 0
        · simp only [p3]
          obtain ⟨rfl, i, n, q1, rfl, q2, q3⟩ := fc0 p3
          obtain ⟨n', hn', rfl⟩ := nI_of (x := a4) (by rw [Int32.lt_iff_toInt_lt, pb_i0]; omega)
          rw [nI_toInt (by omega)] at q2
          have q4 : n' = n := by omega
          subst q4
          have ei : (80 : Int32) * nI k + nI i = nI (80 * k + i) := by
            rw [show (80 : Int32) = nI 80 from rfl, pk_mul, nI_add]
          simp only [ei, nI_add, pb_i2l hn', tk9_ok h4 e1 c1 c3 b2 q1]
          generalize hV : (fun t => br 4 (80 * k + i + t)) = V
          have hV10 : ∀ t, t < n' → br 4 (80 * k + i + t) = V t := fun t _ => by rw [← hV]
          have hV9 : ∀ t, t < n' → va_up ar 25 (va_cpy (ar (21 + k)) (ar 25) i 0 n') 25 t = V t := fun t ht => by
            rw [pb_up, if_pos rfl, pk_cpy_in (by omega) (by omega), c5 _ (by omega), ← hV10 t ht]
            congr 1
            omega
          obtain ⟨s, hst⟩ := sth_ex V n'
          have s80 : s ≤ n' := hst.1
          have rd0 : rdh jv0 br (va_up jv0 13 (nI (80 * k + i))) br := rdh_13 ⟨fun _ _ _ => rfl, fun _ _ => rfl⟩ _
          have rd13 : va_up jv0 13 (nI (80 * k + i)) 13 = nI (80 * k + i) := by rw [pb_up, if_pos rfl]
          by_cases pc : s = n' ∧ (n' = 20 ∨ n' = 23)
          · have gp := hst.2.1
            rw [pc.1] at gp
            have dd : ∀ j, j < 15 → dig (V (7 * (j / 5) + 1 + j % 5)) := fun j hj => gph_d (by omega) (by omega) (by omega) (gp _ (by omega))
            refine ⟨1, fun jv1 br1 => (∀ k, k ≠ 10 → k ≠ 11 → k ≠ 13 → k ≠ 14 → jv1 k = jv0 k) ∧ jv1 10 = 1 ∧ jv1 11 = nI (if n' = 23 then dg (V 22) else 0) ∧ (∀ k, k ≠ 12 → k ≠ 15 → br1 k = br k) ∧ ∀ j, j < 15 → br1 12 j = nI (dg (V (7 * (j / 5) + 1 + j % 5))), fun iv1 ar1 => iv1 = va_up (va_up iv0 3 (nI (if n' = 23 then dg (V 22) else 0))) 2 1 ∧ ∃ g : Nat → Int32, ar1 = va_up (va_up ar 25 (va_cpy (ar (21 + k)) (ar 25) i 0 n')) 3 g ∧ ∀ j, j < 15 → g j = nI (dg (V (7 * (j / 5) + 1 + j % 5))), ?_, ?_, ?_⟩
            · rintro _ _ ⟨rfl, g, rfl, hg⟩ jv1 br1 ⟨w1, w2, w3, w4, w5⟩
              refine Rl_hd hR0 (fun k h1 h2 => by rw [pb_up, if_neg h1, pb_up, if_neg h2]) (fun k h1 h2 => by rw [pb_up, if_neg h1, pb_up, if_neg h2]) w1 w4 ⟨1, (if n' = 23 then dg (V 22) else 0), fun j => dg (V (7 * (j / 5) + 1 + j % 5)), by omega, ?_, w2, ?_, ?_, w3, fun j hj => ⟨(dg_eq (dd j hj)).2.1, ?_, w5 j hj⟩, fun _ r hr => ?_⟩
              · rw [pb_up, if_pos rfl]; rfl
              · split
                · have := gp 22 (by omega)
                  unfold gph at this
                  rw [if_neg (by omega), if_neg (by omega), if_neg (by omega), if_pos (by omega)] at this
                  exact (dg_eq this.1).2.1
                · omega
              · rw [pb_up, if_neg (by decide), pb_up, if_pos rfl]
              · rw [pb_up, if_pos rfl]; exact hg j hj
              · have := gp (7 * r + 5) (by omega)
                unfold gph at this
                rw [if_neg (by omega), if_neg (by omega), if_neg (by omega), if_neg (by omega)] at this
                have ne := this.2 (by omega)
                dsimp only
                rw [show 7 * (5 * r / 5) + 1 + 5 * r % 5 = 7 * r + 5 - 4 by omega, show 7 * ((5 * r + 1) / 5) + 1 + (5 * r + 1) % 5 = 7 * r + 5 - 3 by omega, show 7 * ((5 * r + 2) / 5) + 1 + (5 * r + 2) % 5 = 7 * r + 5 - 2 by omega, show 7 * ((5 * r + 3) / 5) + 1 + (5 * r + 3) % 5 = 7 * r + 5 - 1 by omega, show 7 * ((5 * r + 4) / 5) + 1 + (5 * r + 4) % 5 = 7 * r + 5 by omega]
                omega
            · simp only [if_pos p1, if_pos p2]
              refine ⟨fun _ => ⟨fun _ => ?_, fun y => absurd trivial y⟩, fun y => absurd trivial y⟩
              refine ff9 (V := V) (by omega) hV9 hst ?_
              rw [if_pos pc]
              refine ⟨fun _ => ?_, fun y => absurd rfl y⟩
              refine rd9 (V := V) pc.2 hV9 gp (fun g hg => ⟨trivial, rfl, g, rfl, hg⟩)
            · refine ⟨fun _ => ⟨fun _ => ⟨fun _ => ⟨fun _ => ⟨fun _ => ?_, fun y => absurd trivial y⟩, fun y => absurd y (by decide)⟩, fun y => absurd p2 y⟩, fun y => absurd y (by decide)⟩, fun y => absurd p1 y⟩
              refine rh10 (V := V) (by omega) (by omega) hV10 hst rd0 rd13 (fun y => absurd pc y) (fun _ v r q5 q6 q7 => ⟨fun _ => ?_, fun y => absurd y (by decide)⟩)
              refine pk_loop (σ := fw_R) (fun m j u => wpX10_hand_L101 (nI k) (nI so) (nI i) (nI n') _ _ m (nI j) (va_up (va_up v 10 1) 11 (va_up v 10 1 14)) u) (fun j u => ∃ g : Nat → Int32, u = va_up r 12 g ∧ ∀ x, x < j → g x = nI (dg (V (7 * (x / 5) + 1 + x % 5)))) 15 0 r (by omega) ⟨r 12, (va_upS _ _).symm, fun x hx => absurd hx (by omega)⟩ ?_ ?_
              · rintro m _ ⟨g, rfl, hg⟩
                refine ⟨fun _ => ⟨rfl, fun k h1 h2 h3 h4 => ?_, ?_, ?_, fun k h1 h2 => ?_, fun j hj => ?_⟩, fun y => absurd (nI_le (a := 15) (b := 15) (by omega) (by omega)) y⟩
                · rw [pb_up, if_neg h2, pb_up, if_neg h1]; exact q5.1 k h3 h4
                · rw [pb_up, if_neg (by decide), pb_up, if_pos rfl]
                · rw [pb_up, if_pos rfl, pb_up, if_neg (by decide)]; exact q7
                · rw [pb_up, if_neg h1]; exact q5.2 k h2
                · rw [pb_up, if_pos rfl]; exact hg j hj
              · rintro m j _ hj ⟨g, rfl, hg⟩ ih
                refine ⟨fun y => absurd y (nI_ge (b := 15) hj (by omega)), fun _ => ⟨pb_vin (by omega) (by decide), pb_vin (by omega) (by decide), ?_⟩⟩
                rintro _ rfl _ rfl
                rw [nI_1, pb_cl (by omega)]
                refine ih _ ⟨upd g j (nI (dg (V (7 * (j / 5) + 1 + j % 5)))), ?_, fun x hx => ?_⟩
                · rw [va_up2, pb_up, if_pos rfl]
                  have e15 : va_up r 12 g 15 j = nI (dg (V (7 * (j / 5) + 1 + j % 5))) := q6 j hj
                  rw [e15]
                · rw [pb_upd]
                  by_cases z : x = j
                  · rw [if_pos z, z]
                  · rw [if_neg z]; exact hg x (by omega)
          · refine ⟨-100 - nI s, fun jv1 br1 => rdh jv0 br jv1 br1, fun iv1 ar1 => iv1 = iv0 ∧ ar1 = va_up ar 25 (va_cpy (ar (21 + k)) (ar 25) i 0 n'), ?_, ?_, ?_⟩
            · rintro _ _ ⟨rfl, rfl⟩ jv1 br1 h
              exact Rl_ag (Rl_taken hR0 _) ag9_rf (rdh_ag h)
            · simp only [if_pos p1, if_pos p2]
              refine ⟨fun _ => ⟨fun _ => ?_, fun y => absurd trivial y⟩, fun y => absurd trivial y⟩
              refine ff9 (V := V) (by omega) hV9 hst ?_
              rw [if_neg pc]
              exact ⟨fun y => absurd y (nI_ne9 (by omega)), fun _ => by simp⟩
            · refine ⟨fun _ => ⟨fun _ => ⟨fun _ => ⟨fun _ => ⟨fun _ => ?_, fun y => absurd trivial y⟩, fun y => absurd y (by decide)⟩, fun y => absurd p2 y⟩, fun y => absurd y (by decide)⟩, fun y => absurd p1 y⟩
              refine rh10 (V := V) (by omega) (by omega) hV10 hst rd0 rd13 (fun _ v r q5 q6 => ⟨fun y => absurd rfl y, fun _ => ⟨?_, q5⟩⟩) (fun y => absurd y pc)
              rw [q6, pk_sub (by omega), show 80 * k + i + s - (80 * k + i) = s by omega]
        · have p3' : ¬ fc so le a2 a3 (a4.toInt64).toInt = 0 := by rw [ha4]; exact p3
          simp only [tk9_bad h4 e1 c1 c3 b2 p3', ha4]
          have nz : ¬ (-10 - fc so le a2 a3 a4.toInt) = 0 := by
            unfold fc
            split
            · decide
            · split
              · decide
              · split <;> decide
          exact ⟨-10 - fc so le a2 a3 a4.toInt, fun jv1 br1 => jv1 = va_up jv0 0 (fc so le a2 a3 a4.toInt) ∧ br1 = br, fun iv1 ar1 => iv1 = va_up iv0 1 (fc so le a2 a3 a4.toInt) ∧ ar1 = ar, by rintro _ _ ⟨rfl, rfl⟩ _ _ ⟨rfl, rfl⟩; exact hRf _, by simp [p1, p2, nz], by simp [p1, p2, p3]⟩
    · exact ⟨-2, fun jv1 br1 => jv1 = jv0 ∧ br1 = br, fun iv1 ar1 => iv1 = iv0 ∧ ar1 = ar, by rintro _ _ ⟨rfl, rfl⟩ _ _ ⟨rfl, rfl⟩; exact hR0, by simp [p1, p2], by simp [p1, p2]⟩
  · exact ⟨-1, fun jv1 br1 => jv1 = jv0 ∧ br1 = br, fun iv1 ar1 => iv1 = iv0 ∧ ar1 = ar, by rintro _ _ ⟨rfl, rfl⟩ _ _ ⟨rfl, rfl⟩; exact hR0, by simp [p1], by simp [p1]⟩
