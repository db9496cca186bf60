/-! ===== a hand ===== -/
theorem sc10 {v : fw_F} {r : fw_R} {f n p s : Nat} {V : Nat → Int32} {code : Int32} {Q : Int32 → Prop} (hf : f + n ≤ 320) (hV : ∀ t, t < n → r 4 (f + t) = V t) (hs : sth V n s) (hp : v 13 = nI (f + p)) (hps : p ≤ s) (hg : gph V p ↔ V p = code) (h1 : p < s → Q 1) (h0 : p = s → Q 0) : wpX10_isCode v r code (nI (f + n)) Q := by
  obtain ⟨s1, s2, s3⟩ := hs
  refine cd10 (V := V) hf hV hp (by omega) (fun q1 q2 => ?_) (fun u => ?_)
  · rcases Nat.lt_or_ge p s with z | z
    · exact h1 z
    · have e : p = s := by omega
      subst e
      rcases s3 with y | y
      · omega
      · exact absurd (hg.mpr q2) y
  · rcases Nat.lt_or_ge p s with z | z
    · exact absurd ⟨by omega, hg.mp (s2 p z)⟩ u
    · exact h0 (by omega)
theorem gph_l {V : Nat → Int32} {row : Nat} (h : row < 4) : gph V (7 * row) ↔ V (7 * row) = fw_LI row := by
  unfold gph
  rw [if_neg (by omega), if_pos (by omega), show 7 * row / 7 = row by omega]
theorem gph_c {V : Nat → Int32} {p : Nat} (h : p < 23) (h6 : p % 7 = 6) : gph V p ↔ V p = 59 := by
  unfold gph
  rw [if_neg (by omega), if_neg (by omega), if_pos h6]
theorem rl10 {jv : fw_F} {br : fw_R} {v : fw_F} {r : fw_R} {V : Nat → Int32} {f n s row fu : Nat} {code : Int32} {Q : Int32 → fw_F → fw_R → Prop} {K : Int32 → fw_F → fw_R → Prop} (hf : f + n ≤ 320) (hn : n ≤ 80) (hV : ∀ t, t < n → br 4 (f + t) = V t) (hs : sth V n s) (hr : row < 3) (hc : fw_LI row = code) (hp : 7 * row ≤ s) (h1 : rdh jv br v r) (h13 : v 13 = nI (f + 7 * row)) (hw : rdw V r (5 * row)) (hQ0 : s < 7 * row + 6 → ∀ v' r', rdh jv br v' r' → v' 13 = nI (f + s) → Q 0 v' r') (hK : 7 * row + 6 ≤ s → ∀ v' r', rdh jv br v' r' → v' 13 = nI (f + (7 * row + 6)) → rdw V r' (5 * row + 5) → wpX10_readHand_L2 (nI (f + n)) Q K fu (nI (row + 1)) v' r') : wpX10_isCode v r code (nI (f + n)) (fun (r5 : Int32) => (¬ r5 = 0 → (∀ iv7 : fw_F, iv7 = va_up v 13 ((v 13) + 1) → (wpX10_readRow iv7 r (nI row) (nI (f + n)) (fun (r8 : Int32) (iv9 : fw_F) (ar10 : fw_R) => (¬ r8 = 0 → (∀ y12 : Int32, y12 = nI row + 1 → (wpX10_readHand_L2 (nI (f + n)) Q K fu y12 iv9 ar10))) ∧ (r8 = 0 → (Q 0 iv9 ar10)))))) ∧ (r5 = 0 → (Q 0 v r))) := by
  have r4 : ∀ t, t < n → r 4 (f + t) = V t := fun t ht => by rw [h1.2 4 (by decide)]; exact hV t ht
  refine sc10 (V := V) hf r4 hs h13 hp (by rw [← hc]; exact gph_l (by omega)) (fun z => ⟨fun _ => ?_, fun y => absurd y (by decide)⟩) (fun z => ⟨fun y => absurd rfl y, fun _ => hQ0 (by omega) v r h1 (by rw [h13, z])⟩)
  rintro _ rfl
  refine rr10 (V := V) hf hn hV hs hr (by omega) (rdh_13 h1 _) (by rw [pb_up, if_pos rfl, h13, nI_1, Nat.add_assoc]) hw (fun z v' r' q1 q2 => ⟨fun y => absurd rfl y, fun _ => hQ0 z v' r' q1 q2⟩) (fun z v' r' q1 q2 q3 => ⟨fun _ => ?_, fun y => absurd y (by decide)⟩)
  rintro _ rfl
  rw [nI_1]
  exact hK z v' r' q1 q2 q3
theorem rs10 {jv : fw_F} {br : fw_R} {v : fw_F} {r : fw_R} {V : Nat → Int32} {f n s row fu : Nat} {Q : Int32 → fw_F → fw_R → Prop} {K : Int32 → fw_F → fw_R → Prop} (hf : f + n ≤ 320) (hn : n ≤ 80) (hV : ∀ t, t < n → br 4 (f + t) = V t) (hs : sth V n s) (hr : row < 3) (hp : (if row = 0 then 0 else 7 * row - 1) ≤ s) (h1 : rdh jv br v r) (h13 : v 13 = nI (f + (if row = 0 then 0 else 7 * row - 1))) (hw : rdw V r (5 * row)) (hQ0 : s < 7 * row + 6 → ∀ v' r', rdh jv br v' r' → v' 13 = nI (f + s) → Q 0 v' r') (hK : 7 * row + 6 ≤ s → ∀ v' r', rdh jv br v' r' → v' 13 = nI (f + (7 * row + 6)) → rdw V r' (5 * row + 5) → wpX10_readHand_L2 (nI (f + n)) Q K fu (nI (row + 1)) v' r') : wpX10_readHand_L2 (nI (f + n)) Q K (fu + 1) (nI row) v r := by
  have r4 : ∀ t, t < n → r 4 (f + t) = V t := fun t ht => by rw [h1.2 4 (by decide)]; exact hV t ht
  rcases (show row = 0 ∨ row = 1 ∨ row = 2 by omega) with rfl | rfl | rfl
  · refine ⟨fun y => absurd y (by decide), fun _ => ⟨fun _ => ⟨fun y => absurd rfl y, fun _ => ?_⟩, fun y => absurd (by decide) y⟩⟩
    exact rl10 (row := 0) hf hn hV hs (by omega) rfl (by omega) h1 h13 hw hQ0 hK
  · refine ⟨fun y => absurd y (by decide), fun _ => ⟨fun y => absurd y (by decide), fun _ => ?_⟩⟩
    refine sc10 (V := V) (p := 6) hf r4 hs h13 hp (gph_c (by omega) (by omega)) (fun z => ⟨fun _ => ?_, fun y => absurd y (by decide)⟩) (fun z => ⟨fun y => absurd rfl y, fun _ => hQ0 (by omega) v r h1 (by rw [h13, ← z]; rfl)⟩)
    rintro _ rfl
    refine ⟨fun _ => ⟨fun y => absurd rfl y, fun _ => ?_⟩, fun y => absurd y (by decide)⟩
    exact rl10 (row := 1) hf hn hV hs (by omega) rfl (by omega) (rdh_13 h1 _) (by rw [pb_up, if_pos rfl, h13, nI_1]; rfl) hw hQ0 hK
  · refine ⟨fun y => absurd y (by decide), fun _ => ⟨fun y => absurd y (by decide), fun _ => ?_⟩⟩
    refine sc10 (V := V) (p := 13) hf r4 hs h13 hp (gph_c (by omega) (by omega)) (fun z => ⟨fun _ => ?_, fun y => absurd y (by decide)⟩) (fun z => ⟨fun y => absurd rfl y, fun _ => hQ0 (by omega) v r h1 (by rw [h13, ← z]; rfl)⟩)
    rintro _ rfl
    refine ⟨fun _ => ⟨fun _ => ?_, fun y => absurd y (by decide)⟩, fun y => absurd y (by decide)⟩
    exact rl10 (row := 2) hf hn hV hs (by omega) rfl (by omega) (rdh_13 h1 _) (by rw [pb_up, if_pos rfl, h13, nI_1]; rfl) hw hQ0 hK
theorem rh10 {jv : fw_F} {br : fw_R} {v : fw_F} {V : Nat → Int32} {f n s : Nat} {Q : Int32 → fw_F → fw_R → Prop} (hf : f + n ≤ 320) (hn : n ≤ 80) (hV : ∀ t, t < n → br 4 (f + t) = V t) (hs : sth V n s) (h1 : rdh jv br v br) (h13 : v 13 = nI f) (hQ0 : ¬ (s = n ∧ (n = 20 ∨ n = 23)) → ∀ v' r', rdh jv br v' r' → v' 13 = nI (f + s) → Q 0 v' r') (hQ1 : (s = n ∧ (n = 20 ∨ n = 23)) → ∀ v' r', rdh jv br v' r' → rdw V r' 15 → v' 14 = nI (if n = 23 then dg (V 22) else 0) → Q 1 v' r') : wpX10_readHand v br (nI (f + n)) Q := by
  unfold wpX10_readHand
  refine ⟨4, ?_⟩
  refine rs10 (row := 0) hf hn hV hs (by omega) (by rw [if_pos rfl]; omega) h1 (by rw [if_pos rfl]; exact h13) (fun j hj => absurd hj (by omega)) (fun z => hQ0 (fun u => by omega)) (fun z0 v r h1 h13 hw => ?_)
  refine rs10 (row := 1) hf hn hV hs (by omega) z0 h1 h13 hw (fun z => hQ0 (fun u => by omega)) (fun z1 v r h1 h13 hw => ?_)
  refine rs10 (row := 2) hf hn hV hs (by omega) z1 h1 h13 hw (fun z => hQ0 (fun u => by omega)) (fun z2 v r h1 h13 hw => ?_)
  refine ⟨fun _ => ?_, fun y => absurd (by decide) y⟩
  have h13' : v 13 = nI (f + 20) := h13
  have hs' := hs
  obtain ⟨s1, s2, s3⟩ := hs
  have s23 := sth_23 hs'
  rintro _ rfl
  have g13 : va_up v 14 0 13 = nI (f + 20) := by rw [pb_up, if_neg (by decide)]; exact h13'
  have r4 : ∀ t, t < n → r 4 (f + t) = V t := fun t ht => by rw [h1.2 4 (by decide)]; exact hV t ht
  rw [g13, nI_eq (by omega) (by omega)]
  refine ⟨fun y => ?_, fun y => ?_⟩
  · refine sc10 (V := V) (p := 20) hf r4 hs' g13 z2 (gph_c (by omega) (by omega)) (fun z => ⟨fun _ => ?_, fun y => absurd y (by decide)⟩) (fun z => ⟨fun y => absurd rfl y, fun _ => hQ0 (fun u => by omega) _ _ (rdh_14 h1 _) (by rw [g13, z])⟩)
    rintro _ rfl
    have k13 : va_up (va_up v 14 0) 13 (nI (f + 20) + 1) 13 = nI (f + 21) := by rw [pb_up, if_pos rfl, nI_1]
    refine sc10 (V := V) (p := 21) (code := 116) hf r4 hs' k13 (by omega) (gph_l (row := 3) (by omega)) (fun z => ⟨fun _ => ?_, fun y => absurd y (by decide)⟩) (fun z => ⟨fun y => absurd rfl y, fun _ => hQ0 (fun u => by omega) _ _ (rdh_13 (rdh_14 h1 _) _) (by rw [k13, z])⟩)
    rintro _ rfl
    rw [k13]
    have l13 : va_up (va_up (va_up v 14 0) 13 (nI (f + 20) + 1)) 13 (nI (f + 21) + 1) 13 = nI (f + 22) := by rw [pb_up, if_pos rfl, nI_1]
    rw [l13]
    have hA : ∀ (x : Int32), rdh jv br (va_up (va_up (va_up (va_up v 14 0) 13 (nI (f + 20) + 1)) 13 (nI (f + 21) + 1)) 14 x) r := fun x => rdh_14 (rdh_13 (rdh_13 (rdh_14 h1 _) _) _) _
    have hB : ∀ (x : Int32), (va_up (va_up (va_up (va_up v 14 0) 13 (nI (f + 20) + 1)) 13 (nI (f + 21) + 1)) 14 x) 13 = nI (f + 22) := fun x => by rw [pb_up, if_neg (by decide)]; exact l13
    generalize hM : va_up (va_up (va_up v 14 0) 13 (nI (f + 20) + 1)) 13 (nI (f + 21) + 1) = M at hA hB
    have g22 : gph V 22 ↔ dig (V 22) ∧ 1 ≤ dg (V 22) := by
      unfold gph
      rw [if_neg (by omega), if_neg (by omega), if_neg (by omega), if_pos (by omega)]
    have stop : (22 < n ∧ dig (V 22) ∧ 1 ≤ dg (V 22)) ∨ s = 22 := by
      rcases Nat.lt_or_ge 22 s with q | q
      · have := g22.mp (s2 22 q)
        exact Or.inl ⟨by omega, this⟩
      · exact Or.inr (by omega)
    refine dt10 (V := V) hf r4 (by omega) (fun q1 q2 => ?_) (fun u => ?_)
    · rintro _ rfl
      have d9 := (dg_eq q2).2.1
      have e14 : va_up M 14 (nI (dg (V 22))) 14 = nI (dg (V 22)) := by rw [pb_up, if_pos rfl]
      rw [e14, hB, show (1 : Int32) = nI 1 from rfl, nI_leI (by omega) (by omega), show nI 1 = 1 from rfl]
      refine ⟨fun y1 => ?_, fun y1 => ?_⟩
      · have ns : s ≠ 22 := fun e => by
          rcases s3 with e2 | e2
          · omega
          · rw [e] at e2; exact e2 (g22.mpr ⟨q2, y1⟩)
        have es : s = 23 := by omega
        rintro _ rfl
        have e13 : va_up (va_up M 14 (nI (dg (V 22)))) 13 (nI (f + 22) + 1) 13 = nI (f + 23) := by rw [pb_up, if_pos rfl, nI_1]
        rw [e13, nI_eq (by omega) (by omega)]
        refine ⟨fun y2 => ?_, fun y2 => ?_⟩
        · exact hQ0 (fun u => by omega) _ _ (rdh_13 (hA _) _) (by rw [e13, es])
        · have en : n = 23 := by omega
          refine hQ1 ⟨by omega, Or.inr en⟩ _ _ (rdh_13 (hA _) _) hw ?_
          rw [pb_up, if_neg (by decide), e14, if_pos en]
      · rcases stop with q | q
        · exact absurd q.2.2 y1
        · exact hQ0 (fun u => by omega) _ _ (hA _) (by rw [hB, q])
    · rintro _ rfl
      have e14 : va_up M 14 (-9) 14 = -9 := by rw [pb_up, if_pos rfl]
      rw [e14]
      refine ⟨fun y1 => absurd y1 (by decide), fun _ => ?_⟩
      rcases stop with q | q
      · exact absurd ⟨q.1, q.2.1⟩ u
      · exact hQ0 (fun u => by omega) _ _ (hA _) (by rw [hB, q])
  · have en : n = 20 := by omega
    refine hQ1 ⟨by omega, Or.inl en⟩ _ _ (rdh_14 h1 _) hw ?_
    rw [pb_up, if_pos rfl, if_neg (by omega)]; rfl
theorem rd9 {kt : kw_T} {iv : fw_F} {ar : fw_R} {V : Nat → Int32} {n : Nat} {Q : fw_F → fw_R → Prop} (hn : n = 20 ∨ n = 23) (hV : ∀ t, t < n → ar 25 t = V t) (hg : ∀ q, q < n → gph V q) (hQ : ∀ g : Nat → Int32, (∀ j, j < 15 → g j = nI (dg (V (7 * (j / 5) + 1 + j % 5)))) → Q (va_up (va_up iv 3 (nI (if n = 23 then dg (V 22) else 0))) 2 1) (va_up ar 3 g)) : wpX1_read kt iv ar (nI n) Q := by
  unfold wpX1_read
  have a23 : (nI n = 23) ↔ n = 23 := nI_eq (b := 23) (by omega) (by omega)
  refine ⟨fun y => absurd y (nI_nlt (b := n) (a := n) (Nat.le_refl _) (by omega) |> fun _ => ?_), fun _ => ?_⟩
  · rw [show (20 : Int32) = nI 20 from rfl, nI_ltI (by omega) (by omega)]; omega
  · rw [a23]
    refine pk_loop (σ := fw_R) (fun m row s => wpX1_read_L16 kt (nI n) Q _ m (nI row) iv s) (fun row s => ∃ g : Nat → Int32, s = va_up ar 3 g ∧ ∀ j, j < 5 * row → g j = nI (dg (V (7 * (j / 5) + 1 + j % 5)))) 3 0 ar (by omega) ⟨ar 3, (va_upS _ _).symm, fun j hj => absurd hj (by omega)⟩ ?_ ?_
    · rintro m _ ⟨g, rfl, hg2⟩
      refine ⟨fun _ => ⟨fun y => ?_, fun y => ⟨pb_vin (n := 22) (by omega) (by decide), ?_⟩⟩, fun y => absurd (nI_le (a := 3) (b := 3) (by omega) (by omega)) y⟩
      · rintro _ rfl _ rfl
        have := hQ g hg2
        rw [if_neg y] at this
        exact this
      · rintro _ rfl _ rfl
        have := hQ g hg2
        rw [if_pos y] at this
        have d22 : dig (V 22) := by
          have := hg 22 (by omega)
          unfold gph at this
          rw [if_neg (by omega), if_neg (by omega), if_neg (by omega), if_pos (by omega)] at this
          exact this.1
        have e25 : va_up ar 3 g 25 (22 : Int32).toNatClampNeg = V 22 := hV 22 (by omega)
        rw [e25, (dg_eq d22).1]
        exact this
    · rintro m row _ hr ⟨g, rfl, hg2⟩ ih
      refine ⟨fun y => absurd y (nI_ge (b := 3) hr (by omega)), fun _ => ?_⟩
      refine pk_loop (σ := fw_R) (fun m2 k s => wpX1_read_L24 kt (nI n) (nI row) Q _ m2 (nI k) iv s) (fun k s => ∃ g : Nat → Int32, s = va_up ar 3 g ∧ ∀ j, j < 5 * row + k → g j = nI (dg (V (7 * (j / 5) + 1 + j % 5)))) 5 0 (va_up ar 3 g) (by omega) ⟨g, rfl, hg2⟩ ?_ ?_
      · rintro m2 _ ⟨g, rfl, hg2⟩
        refine ⟨fun _ => ?_, fun y => absurd (nI_le (a := 5) (b := 5) (by omega) (by omega)) y⟩
        rintro _ rfl
        rw [nI_1]
        exact ih _ ⟨g, rfl, hg2⟩
      · rintro m2 k _ hk ⟨g, rfl, hg2⟩ ih2
        have e1 : (7 : Int32) * nI row + 1 + nI k = nI (7 * row + 1 + k) := by rw [show (7 : Int32) = nI 7 from rfl, pk_mul, nI_1, nI_add]
        have e2 : (5 : Int32) * nI row + nI k = nI (5 * row + k) := by rw [show (5 : Int32) = nI 5 from rfl, pk_mul, nI_add]
        unfold wpX1_read_L24
        rw [e1, e2]
        refine ⟨fun y => absurd y (nI_ge (b := 5) hk (by omega)), fun _ => ⟨pb_vin (by omega) (by decide), pb_vin (by omega) (by decide), ?_⟩⟩
        rintro _ rfl _ rfl
        rw [nI_1 k, pb_cl (by omega), pb_cl (by omega)]
        have d : dig (V (7 * row + 1 + k)) := gph_d (by omega) (by omega) (by omega) (hg _ (by omega))
        have e25 : va_up ar 3 g 25 (7 * row + 1 + k) = V (7 * row + 1 + k) := hV _ (by omega)
        rw [e25, (dg_eq d).1, va_up2, pb_up, if_pos rfl]
        refine ih2 _ ⟨upd g (5 * row + k) (nI (dg (V (7 * row + 1 + k)))), rfl, fun j hj => ?_⟩
        rw [pb_upd]
        by_cases z : j = 5 * row + k
        · rw [if_pos z, show j / 5 = row by omega, show j % 5 = k by omega]
        · rw [if_neg z]; exact hg2 j (by omega)
