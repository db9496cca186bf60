/-! ===== sheets ===== -/
theorem rs9 {x0 x1 : Int32} {Q : Int32 → Prop} : wpX9_refusesSheet x0 x1 Q ↔ Q (if 0 ≤ x0 ∧ x0 ≤ 3 then if 0 ≤ x1 ∧ x1 ≤ 2 then 0 else -2 else -1) := by
  unfold wpX9_refusesSheet
  simp only [ev9_isSheet, ev9_within]
  by_cases a : 0 ≤ x0 ∧ x0 ≤ 3 <;> by_cases b : 0 ≤ x1 ∧ x1 ≤ 2 <;> simp [a, b]
theorem rsh_new {iv ar br iv1 ar1 br1 : _} {k : Nat} (hs : rsh iv ar br) (hnew : (iv1 (9 + k) = 0 ∧ br1 2 k = -9) ∨ (iv1 (9 + k) = 1 ∧ ∃ so le : Nat, so < 3 ∧ le ≤ 80 ∧ iv1 (13 + k) = nI so ∧ br1 2 k = nI so ∧ iv1 (17 + k) = nI le ∧ br1 3 k = nI le ∧ ∀ i, i < le → ar1 (21 + k) i = br1 4 (80 * k + i))) (hold : ∀ j, j < 4 → j ≠ k → iv1 (9 + j) = iv (9 + j) ∧ iv1 (13 + j) = iv (13 + j) ∧ iv1 (17 + j) = iv (17 + j) ∧ ar1 (21 + j) = ar (21 + j) ∧ br1 2 j = br 2 j ∧ br1 3 j = br 3 j ∧ ∀ i, i < 80 → br1 4 (80 * j + i) = br 4 (80 * j + i)) : rsh iv1 ar1 br1 := by
  intro j hj
  by_cases z : j = k
  · subst z; exact hnew
  · obtain ⟨o1, o2, o3, o4, o5, o6, o7⟩ := hold j hj z
    rw [o1, o2, o3, o4, o5, o6]
    rcases hs j hj with a | ⟨a, so, le, b1, b2, c1, c2, c3, c4, c5⟩
    · exact Or.inl a
    · refine Or.inr ⟨a, so, le, b1, b2, c1, c2, c3, c4, fun i hi => ?_⟩
      rw [o7 i (by omega)]
      exact c5 i hi
theorem va_upS {α : Type} (f : Nat → α) (k : Nat) : va_up f k (f k) = f := by
  funext j; unfold va_up; split <;> simp_all
theorem op_sheet : lw_o25 Rl := by
  intro kt iv ar jv br hR a1 a2 a3
  unfold pu_sheet wpX9_sheet wpX10_sheet wpX9_faulted wpX10_fails
  simp only [forall_eq, rs9, ev10_isSheet, ev10_isSort]
  have hR0 := Rl_fault hR 0
  have hR4 := Rl_fault hR0 4
  generalize va_up iv 1 0 = iv0 at hR0 hR4 ⊢
  generalize va_up jv 0 0 = jv0 at hR0 hR4 ⊢
  by_cases p1 : 0 ≤ a1 ∧ a1 ≤ 3
  · by_cases p2 : 0 ≤ a2 ∧ a2 ≤ 2
    · by_cases p3 : a3 ≤ 80
      · by_cases p4 : 0 ≤ a3
        · obtain ⟨k, -, hk, rfl⟩ := pb_rng 0 3 rfl rfl (by decide) (by decide) p1
          obtain ⟨so, -, hso, rfl⟩ := pb_rng 0 2 rfl rfl (by decide) (by decide) p2
          obtain ⟨n, -, hn, rfl⟩ := pb_rng 0 80 rfl rfl (by decide) (by decide) ⟨p4, p3⟩
          have hv := pb_vin (n := k) (N := 4) (by omega) (by decide)
          have hc := pb_cl (n := k) (by omega)
          have h4 : k < 4 := by omega
          have hs := hR0.2.2.2.2.1
          have en : (if 0 < (if 80 < nI n then 80 else nI n) then (if 80 < nI n then 80 else nI n) else 0) = nI n := by
            rw [if_neg (show ¬ (80 : Int32) < nI n from nI_nlt (a := 80) hn (by omega))]
            by_cases z : n = 0
            · subst z; rw [if_neg (by decide)]; rfl
            · rw [if_pos (show (0 : Int32) < nI n from nI_lt (a := 0) (by omega) (by omega))]
          refine ⟨1, fun jv1 br1 => jv1 = jv0 ∧ ∃ g : Nat → Int32, br1 = va_up (va_up (va_up br 2 (upd (br 2) k (nI so))) 3 (upd (br 3) k (nI n))) 4 g ∧ (∀ i, i < 80 → g (80 * k + i) = 0) ∧ ∀ j, j < 4 → j ≠ k → ∀ i, i < 80 → g (80 * j + i) = br 4 (80 * j + i), fun iv1 ar1 => iv1 = va_up (va_up (va_up iv0 (9 + k) 1) (13 + k) (nI so)) (17 + k) (nI n) ∧ ∃ g : Nat → Int32, ar1 = va_up ar (21 + k) g ∧ ∀ i, i < n → g i = 0, ?_, ?_, ?_⟩
          · rintro _ _ ⟨rfl, g, rfl, hg⟩ _ _ ⟨rfl, g', rfl, hg1, hg2⟩
            refine Rl_sheet hR0 (fun j h => by rw [pb_up, if_neg (by omega), pb_up, if_neg (by omega), pb_up, if_neg (by omega)]) (fun j h => by rw [pb_up, if_neg (by omega)]) (fun j h => by rw [pb_up, if_neg (by omega), pb_up, if_neg (by omega), pb_up, if_neg (by omega)]) (rsh_new (k := k) hs (Or.inr ⟨?_, so, n, by omega, hn, ?_, ?_, ?_, ?_, fun i hi => ?_⟩) (fun j hj hne => ⟨?_, ?_, ?_, ?_, ?_, ?_, fun i hi => ?_⟩))
            · rw [pb_up, if_neg (by omega), pb_up, if_neg (by omega), pb_up, if_pos rfl]
            · rw [pb_up, if_neg (by omega), pb_up, if_pos rfl]
            · rw [pb_up, if_neg (by omega), pb_up, if_neg (by omega), pb_up, if_pos rfl, pb_upd, if_pos rfl]
            · rw [pb_up, if_pos rfl]
            · rw [pb_up, if_neg (by omega), pb_up, if_pos rfl, pb_upd, if_pos rfl]
            · rw [pb_up, if_pos rfl, pb_up, if_pos rfl, hg i hi, hg1 i (by omega)]
            · rw [pb_up, if_neg (by omega), pb_up, if_neg (by omega), pb_up, if_neg (by omega)]
            · rw [pb_up, if_neg (by omega), pb_up, if_neg (by omega), pb_up, if_neg (by omega)]
            · rw [pb_up, if_neg (by omega), pb_up, if_neg (by omega), pb_up, if_neg (by omega)]
            · rw [pb_up, if_neg (by omega)]
            · rw [pb_up, if_neg (by omega), pb_up, if_neg (by omega), pb_up, if_pos rfl, pb_upd, if_neg hne]
            · rw [pb_up, if_neg (by omega), pb_up, if_pos rfl, pb_upd, if_neg hne]
            · rw [pb_up, if_pos rfl, hg2 j hj hne i hi]
          · simp only [if_pos p1, if_pos p2]
            refine ⟨fun _ => ⟨fun _ => ⟨fun _ => ⟨hv, fun _ => ?_⟩, fun z => absurd p4 z⟩, fun z => absurd p3 z⟩, fun z => absurd trivial z⟩
            rw [hc]
            unfold wpX6_renew
            rintro _ rfl _ rfl _ rfl
            rw [en]
            refine pk_loop (σ := fw_R) (fun m i s => wpX6_renew_L26 kt k (nI so) (nI n) _ _ m (nI i) (va_up (va_up (va_up iv0 (9 + k) 1) (13 + k) (nI so)) (17 + k) (nI n)) s) (fun i s => ∃ g : Nat → Int32, s = va_up ar (21 + k) g ∧ ∀ c, c < i → g c = 0) n 0 ar (by omega) ⟨ar (21 + k), (va_upS _ _).symm, fun c hc => absurd hc (by omega)⟩ ?_ ?_
            · rintro m _ ⟨g, rfl, hg⟩
              refine ⟨fun _ => ⟨trivial, rfl, g, rfl, hg⟩, fun y => absurd ?_ y⟩
              rw [pb_up, if_pos rfl]
              exact nI_le (Nat.le_refl _) (by omega)
            · rintro m i _ hi ⟨g, rfl, hg⟩ ih
              refine ⟨fun y => absurd y ?_, fun _ => ⟨pb_vin (by omega) (by decide), ?_⟩⟩
              · rw [pb_up, if_pos rfl]
                exact nI_ge hi (by omega)
              · rintro _ rfl _ rfl
                rw [nI_1]
                refine ih _ ⟨upd g i 0, ?_, fun c hc => ?_⟩
                · rw [pb_cl (by omega), va_up2, pb_up, if_pos rfl]
                · rw [pb_upd]
                  by_cases z : c = i
                  · rw [if_pos z]
                  · rw [if_neg z]; exact hg c (by omega)
          · refine ⟨fun _ => ⟨fun _ => ⟨fun _ => ⟨fun z => absurd z (by decide), fun _ => ⟨fun _ => ⟨fun _ => ⟨hv, hv, ?_⟩, fun z => absurd p4 z⟩, fun z => absurd p3 z⟩⟩, fun z => absurd p2 z⟩, fun z => absurd z (by decide)⟩, fun z => absurd p1 z⟩
            rw [hc]
            have e3 : va_up (va_up br 2 (upd (br 2) k (nI so))) 3 (upd (va_up br 2 (upd (br 2) k (nI so)) 3) k (nI n)) = va_up (va_up br 2 (upd (br 2) k (nI so))) 3 (upd (br 3) k (nI n)) := by
              rw [show va_up br 2 (upd (br 2) k (nI so)) 3 = br 3 from by rw [pb_up, if_neg (by omega)]]
            rw [e3]
            generalize hB : va_up (va_up br 2 (upd (br 2) k (nI so))) 3 (upd (br 3) k (nI n)) = B
            have hB4 : B 4 = br 4 := by rw [← hB, pb_up, if_neg (by omega), pb_up, if_neg (by omega)]
            refine pk_loop (σ := fw_R) (fun m i s => wpX10_sheet_L57 (nI k) (nI so) (nI n) _ _ m (nI i) jv0 s) (fun i s => ∃ g : Nat → Int32, s = va_up B 4 g ∧ (∀ c, c < i → g (80 * k + c) = 0) ∧ ∀ j, j < 4 → j ≠ k → ∀ i, i < 80 → g (80 * j + i) = br 4 (80 * j + i)) 80 0 B (by omega) ⟨B 4, (va_upS _ _).symm, fun c hc => absurd hc (by omega), fun j _ _ i _ => by rw [hB4]⟩ ?_ ?_
            · rintro m _ ⟨g, rfl, hg, hg2⟩
              exact ⟨fun _ => ⟨rfl, rfl, g, rfl, hg, hg2⟩, fun y => absurd (nI_le (a := 80) (b := 80) (by omega) (by omega)) y⟩
            · rintro m i _ hi ⟨g, rfl, hg, hg2⟩ ih
              have ei : (80 : Int32) * nI k + nI i = nI (80 * k + i) := by
                rw [show (80 : Int32) = nI 80 from rfl, pk_mul, nI_add]
              unfold wpX10_sheet_L57
              rw [ei]
              refine ⟨fun y => absurd y (nI_ge (b := 80) hi (by omega)), fun _ => ⟨pb_vin (by omega) (by decide), ?_⟩⟩
              rintro _ rfl _ rfl
              rw [nI_1]
              refine ih _ ⟨upd g (80 * k + i) 0, ?_, fun c hc => ?_, fun j hj hne i' hi' => ?_⟩
              · rw [pb_cl (by omega), va_up2, pb_up, if_pos rfl]
              · rw [pb_upd]
                by_cases z : c = i
                · rw [if_pos (by omega)]
                · rw [if_neg (by omega)]; exact hg c (by omega)
              · rw [pb_upd, if_neg (by omega)]
                exact hg2 j hj hne i' hi'
        · refine ⟨-14, fun jv1 br1 => jv1 = va_up jv0 0 4 ∧ br1 = br, fun iv1 ar1 => iv1 = va_up iv0 1 4 ∧ ar1 = ar, ?_, ?_, ?_⟩
          · rintro _ _ ⟨rfl, rfl⟩ _ _ ⟨rfl, rfl⟩; exact hR4
          · simp [p1, p2, p3, p4]
          · simp [p1, p2, p3, p4]
      · exact ⟨-2, fun jv1 br1 => jv1 = jv0 ∧ br1 = br, fun iv1 ar1 => iv1 = iv0 ∧ ar1 = ar, by rintro _ _ ⟨rfl, rfl⟩ _ _ ⟨rfl, rfl⟩; exact hR0, by simp [p1, p2, p3], by simp [p1, p2, p3]⟩
    · exact ⟨-2, fun jv1 br1 => jv1 = jv0 ∧ br1 = br, fun iv1 ar1 => iv1 = iv0 ∧ ar1 = ar, by rintro _ _ ⟨rfl, rfl⟩ _ _ ⟨rfl, rfl⟩; exact hR0, by simp [p1, p2], by simp [p1, p2]⟩
  · exact ⟨-1, fun jv1 br1 => jv1 = jv0 ∧ br1 = br, fun iv1 ar1 => iv1 = iv0 ∧ ar1 = ar, by rintro _ _ ⟨rfl, rfl⟩ _ _ ⟨rfl, rfl⟩; exact hR0, by simp [p1], by simp [p1]⟩
def nrw (so : Nat) (v : Int32) : Int32 := if so = 0 then v.toInt8.toInt32 else if so = 1 then v.toInt16.toInt32 else v
theorem op_put : lw_o27 Rl := by
  intro kt iv ar jv br hR a1 a2 a3
  unfold pu_put wpX9_put wpX10_put wpX9_faulted wpX10_fails
  simp only [forall_eq, ev9_isSheet, ev10_isSheet]
  have hR0 := Rl_fault hR 0
  have hRf := Rl_fault hR0
  generalize va_up iv 1 0 = iv0 at hR0 hRf ⊢
  generalize va_up jv 0 0 = jv0 at hR0 hRf ⊢
  by_cases p1 : 0 ≤ a1 ∧ a1 ≤ 3
  · obtain ⟨k, -, hk, rfl⟩ := pb_rng 0 3 rfl rfl (by decide) (by decide) p1
    have hv := pb_vin (n := k) (N := 4) (by omega) (by decide)
    have hc := pb_cl (n := k) (by omega)
    have h4 : k < 4 := by omega
    have hs := hR0.2.2.2.2.1
    simp only [hc, hv, h4]
    rcases rsh_at hs h4 with ⟨e1, e2⟩ | ⟨e1, so, le, b1, b2, c1, c2, c3, c4, c5⟩
    · simp only [fo9_none e1]
      exact ⟨-11, fun jv1 br1 => jv1 = va_up jv0 0 1 ∧ br1 = br, fun iv1 ar1 => iv1 = va_up iv0 1 1 ∧ ar1 = ar, by rintro _ _ ⟨rfl, rfl⟩ _ _ ⟨rfl, rfl⟩; exact hRf 1, by simp [p1], by simp [p1, e2]⟩
    · have n9 := nI_ne9 (a := so) (by omega)
      simp only [fo9_some e1 c1 c3 b2, c1, c2, c4, ev10_within]
      have ef : fc so le (nI so) a2 (1 : Int64).toInt = if 0 ≤ a2 ∧ a2 ≤ nI le - 1 then 0 else 3 := by
        unfold fc
        rw [if_neg (by simp), if_neg (by decide)]
        by_cases z : 0 ≤ a2 ∧ a2 ≤ nI le - 1
        · obtain ⟨i, hi, rfl⟩ := (pb_lt1 (by omega)).mp z
          rw [if_pos z, if_pos]
          rw [nI_toInt (by omega), show (1 : Int64).toInt = 1 from rfl]
          omega
        · rw [if_neg z, if_neg]
          intro y
          rw [show (1 : Int64).toInt = 1 from rfl] at y
          refine z ((pb_lt1 (by omega)).mpr ?_)
          obtain ⟨i, hi, rfl⟩ := nI_of (x := a2) (by rw [Int32.lt_iff_toInt_lt, pb_i0]; omega)
          rw [nI_toInt (by omega)] at y
          exact ⟨i, by omega, rfl⟩
      rw [ef]
      by_cases p2 : 0 ≤ a2 ∧ a2 ≤ nI le - 1
      · have p2' := p2
        obtain ⟨i, hi, rfl⟩ := (pb_lt1 (by omega)).mp p2
        have ei : (80 : Int32) * nI k + nI i = nI (80 * k + i) := by
          rw [show (80 : Int32) = nI 80 from rfl, pk_mul, nI_add]
        have s0 : (nI so = 0) ↔ so = 0 := nI_eq (b := 0) (by omega) (by omega)
        have s1 : (nI so = 1) ↔ so = 1 := nI_eq (b := 1) (by omega) (by omega)
        refine ⟨1, fun jv1 br1 => jv1 = jv0 ∧ br1 = va_up br 4 (upd (br 4) (80 * k + i) (nrw so a3)), fun iv1 ar1 => iv1 = iv0 ∧ ar1 = va_up ar (21 + k) (upd (ar (21 + k)) i (nrw so a3)), ?_, ?_, ?_⟩
        · rintro _ _ ⟨rfl, rfl⟩ _ _ ⟨rfl, rfl⟩
          refine Rl_sheet hR0 (fun _ _ => rfl) (fun j h => by rw [pb_up, if_neg (by omega)]) (fun j h => by rw [pb_up, if_neg (by omega)]) (rsh_new (k := k) hs (Or.inr ⟨e1, so, le, b1, b2, c1, ?_, c3, ?_, fun j hj => ?_⟩) (fun j hj hne => ⟨rfl, rfl, rfl, ?_, ?_, ?_, fun i' hi' => ?_⟩))
          · rw [pb_up, if_neg (by omega)]; exact c2
          · rw [pb_up, if_neg (by omega)]; exact c4
          · rw [pb_up, if_pos rfl, pb_up, if_pos rfl, pb_upd, pb_upd]
            by_cases z : j = i
            · rw [if_pos z, if_pos (by omega)]
            · rw [if_neg z, if_neg (by omega)]; exact c5 j hj
          · rw [pb_up, if_neg (by omega)]
          · rw [pb_up, if_neg (by omega)]
          · rw [pb_up, if_neg (by omega)]
          · rw [pb_up, if_pos rfl, pb_upd, if_neg (by omega)]
        · simp only [if_pos p2', wpX6_store, ev9_within, c3, c1, s0, s1, forall_eq]
          simp only [p2', pb_cl (show i < 2 ^ 31 by omega)]
          have hvi := pb_vin (n := i) (N := 80) (by omega) (by decide)
          by_cases z0 : so = 0
          · simp [z0, hvi, nrw, p1]
          · by_cases z1 : so = 1
            · simp [z1, hvi, nrw, p1]
            · simp [z0, z1, hvi, nrw, p1]
        · simp only [s0, s1, n9, ei, pb_cl (show 80 * k + i < 2 ^ 31 by omega)]
          have hvi := pb_vin (n := 80 * k + i) (N := 320) (by omega) (by decide)
          by_cases z0 : so = 0
          · simp [z0, hvi, nrw, p1, p2']
          · by_cases z1 : so = 1
            · simp [z1, hvi, nrw, p1, p2']
            · simp [z0, z1, hvi, nrw, p1, p2']
      · exact ⟨-13, fun jv1 br1 => jv1 = va_up jv0 0 3 ∧ br1 = br, fun iv1 ar1 => iv1 = va_up iv0 1 3 ∧ ar1 = ar, by rintro _ _ ⟨rfl, rfl⟩ _ _ ⟨rfl, rfl⟩; exact hRf 3, by simp [p1, p2], by simp [p1, p2, n9]⟩
  · exact ⟨-1, fun jv1 br1 => jv1 = jv0 ∧ br1 = br, fun iv1 ar1 => iv1 = iv0 ∧ ar1 = ar, by rintro _ _ ⟨rfl, rfl⟩ _ _ ⟨rfl, rfl⟩; exact hR0, by simp [p1], by simp [p1]⟩
