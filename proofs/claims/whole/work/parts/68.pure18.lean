/-! ===== chalk ===== -/
def okc (v : Int32) : Prop := -99 ≤ v ∧ v ≤ 99
theorem pb_2x {x : Int32} : (2 * x.toInt64).toInt = 2 * x.toInt := by
  have e : x.toInt64.toInt = x.toInt := Int32.toInt_toInt64 x
  have h1 := Int32.toInt_lt x
  have h2 := Int32.le_toInt x
  have e2 : (2 : Int64).toInt = 2 := rfl
  rw [Int64.toInt_mul, e, e2]
  exact Int.bmod_eq_of_le (by omega) (by omega)
theorem tl9 {kt : kw_T} {x1 x2 x3 : Int32} {n : Nat} {iv : fw_F} {ar : fw_R} {V : Nat → Int32} {Q : Int32 → fw_F → fw_R → Prop} (hn : 2 * n ≤ 80) (hV : ∀ t, t < 2 * n → ar 25 t = V t) : ∀ m t, t + m = 2 * n → ((∀ s, t ≤ s → s < 2 * n → okc (V s)) → Q 1 iv ar) → (¬ (∀ s, t ≤ s → s < 2 * n → okc (V s)) → Q 0 iv ar) → ∃ ku, wpX9_takeChalk_L45 kt x1 x2 x3 (nI n) iv ar Q (fun _ => Q 1 iv ar) ku (nI t)
  | 0, t, e, h1, h0 => ⟨1, by
      refine ⟨fun _ => h1 (fun s a b => absurd a (by omega)), fun y => absurd ?_ y⟩
      rw [show (2 : Int32) = nI 2 from rfl, pk_mul]
      exact nI_le (by omega) (by omega)⟩
  | m + 1, t, e, h1, h0 => by
    have ih := tl9 (kt := kt) (x1 := x1) (x2 := x2) (x3 := x3) (iv := iv) (Q := Q) hn hV m (t + 1) (by omega)
    by_cases z : okc (V t)
    · obtain ⟨ku, hku⟩ := ih (fun g => h1 (fun s a b => by
        by_cases y : s = t
        · subst y; exact z
        · exact g s (by omega) b)) (fun g => h0 (fun u => g (fun s a b => u s (by omega) b)))
      refine ⟨ku + 1, ?_⟩
      unfold wpX9_takeChalk_L45
      refine ⟨fun y => absurd y ?_, fun _ => ⟨pb_vin (by omega) (by decide), ?_⟩⟩
      · rw [show (2 : Int32) = nI 2 from rfl, pk_mul]
        exact nI_ge (by omega) (by omega)
      · rw [pb_cl (by omega), hV t (by omega), ev9_within]
        refine ⟨fun _ => ⟨fun _ => ?_, fun y => absurd y (by decide)⟩, fun y => absurd z y⟩
        rintro _ rfl
        rw [nI_1]; exact hku
    · refine ⟨1, ?_⟩
      unfold wpX9_takeChalk_L45
      refine ⟨fun y => absurd y ?_, fun _ => ⟨pb_vin (by omega) (by decide), ?_⟩⟩
      · rw [show (2 : Int32) = nI 2 from rfl, pk_mul]
        exact nI_ge (by omega) (by omega)
      · rw [pb_cl (by omega), hV t (by omega), ev9_within]
        exact ⟨fun y => absurd y z, fun _ => ⟨fun y => absurd rfl y, fun _ => h0 (fun u => z (u t (by omega) (by omega)))⟩⟩
theorem il10 {jv : fw_F} {br : fw_R} {n f : Nat} {V : Nat → Int32} {Q : Int32 → Prop} {K : Int32 → Prop} (hn : 2 * n ≤ 80) (hf : f + 2 * n ≤ 320) (hV : ∀ t, t < 2 * n → br 4 (f + t) = V t) : ∀ m t, t + m = 2 * n → ((∀ s, t ≤ s → s < 2 * n → okc (V s)) → K (nI (2 * n))) → (¬ (∀ s, t ≤ s → s < 2 * n → okc (V s)) → Q 0) → ∃ ku, wpX10_isChalk_L2 (nI f) (nI n) jv br Q K ku (nI t)
  | 0, t, e, h1, h0 => ⟨1, by
      have e3 : t = 2 * n := by omega
      subst e3
      refine ⟨fun _ => h1 (fun s a b => absurd a (by omega)), fun y => absurd ?_ y⟩
      rw [show (2 : Int32) = nI 2 from rfl, pk_mul]
      exact nI_le (by omega) (by omega)⟩
  | m + 1, t, e, h1, h0 => by
    have ih := il10 (jv := jv) (Q := Q) (K := K) hn hf hV m (t + 1) (by omega)
    by_cases z : okc (V t)
    · obtain ⟨ku, hku⟩ := ih (fun g => h1 (fun s a b => by
        by_cases y : s = t
        · subst y; exact z
        · exact g s (by omega) b)) (fun g => h0 (fun u => g (fun s a b => u s (by omega) b)))
      refine ⟨ku + 1, ?_⟩
      unfold wpX10_isChalk_L2
      rw [nI_add]
      refine ⟨fun y => absurd y ?_, fun _ => ⟨pb_vin (by omega) (by decide), ?_⟩⟩
      · rw [show (2 : Int32) = nI 2 from rfl, pk_mul]
        exact nI_ge (by omega) (by omega)
      · rw [pb_cl (by omega), hV t (by omega), ev10_within]
        refine ⟨fun _ => ⟨fun _ => ?_, fun y => absurd y (by decide)⟩, fun y => absurd z y⟩
        rintro _ rfl
        rw [nI_1]; exact hku
    · refine ⟨1, ?_⟩
      unfold wpX10_isChalk_L2
      rw [nI_add]
      refine ⟨fun y => absurd y ?_, fun _ => ⟨pb_vin (by omega) (by decide), ?_⟩⟩
      · rw [show (2 : Int32) = nI 2 from rfl, pk_mul]
        exact nI_ge (by omega) (by omega)
      · rw [pb_cl (by omega), hV t (by omega), ev10_within]
        exact ⟨fun y => absurd y z, fun _ => ⟨fun y => absurd rfl y, fun _ => h0 (fun u => z (u t (by omega) (by omega)))⟩⟩
def gch (V : Nat → Int32) (n : Nat) : Prop := 1 ≤ n ∧ ∀ s, s < 2 * n → okc (V s)
theorem tc9 {kt : kw_T} {iv : fw_F} {ar : fw_R} {k so le i n : Nat} {V : Nat → Int32} {Q : Int32 → fw_F → fw_R → Prop} (hk : k < 4) (hso : so < 3) (h : iv (9 + k) = 1) (hs : iv (13 + k) = nI so) (hl : iv (17 + k) = nI le) (hle : le ≤ 80) (hi : i + 2 * n ≤ le) (hV : ∀ t, t < 2 * n → ar (21 + k) (i + t) = V t) (h1 : gch V n → Q 1 iv (va_up ar 25 (va_cpy (ar (21 + k)) (ar 25) i 0 (2 * n)))) (h0 : ¬ gch V n → Q 0 iv (va_up ar 25 (va_cpy (ar (21 + k)) (ar 25) i 0 (2 * n)))) : wpX9_takeChalk kt iv ar (nI k) (nI so) (nI i) (nI n) Q := by
  unfold wpX9_takeChalk
  have q1 : 0 ≤ nI k ∧ nI k ≤ 3 := pb_in (a := 0) (c := 3) rfl rfl (by decide) (by omega) (by omega)
  have q2 : 0 ≤ nI so ∧ nI so ≤ 2 := pb_in (a := 0) (c := 2) rfl rfl (by decide) (by omega) (by omega)
  have e2 : (2 : Int64) * (nI n).toInt64 = lN (2 * n) := by
    rw [pb_i2l (by omega), show (2 : Int64) = lN 2 from rfl, lN_mul]
  simp only [rs9, if_pos q1, if_pos q2, e2, tk9_ok hk h hs hl hle hi, ev9_within]
  refine ⟨fun _ => ⟨fun _ => ⟨fun y => ⟨fun _ => ?_, fun y => absurd y (by decide)⟩, fun y => ⟨fun y => absurd trivial y, fun _ => ?_⟩⟩, fun y => absurd trivial y⟩, fun y => absurd trivial y⟩
  · have n1 : 1 ≤ n := by
      have := y.1
      rw [show (1 : Int32) = nI 1 from rfl, nI_leI (by omega) (by omega)] at this
      exact this
    refine tl9 (V := V) (by omega) (fun t ht => ?_) (2 * n) 0 (by omega) (fun g => h1 ⟨n1, fun s hs => g s (by omega) hs⟩) (fun g => h0 (fun u => g (fun s _ hs => u.2 s hs)))
    rw [pb_up, if_pos rfl, pk_cpy_in (by omega) (by omega)]
    exact hV t ht
  · refine h0 (fun u => y ⟨?_, ?_⟩)
    · exact nI_le (a := 1) u.1 (by omega)
    · exact nI_le (b := 40) (by omega) (by omega)
theorem ic10 {jv : fw_F} {br : fw_R} {f n : Nat} {V : Nat → Int32} {Q : Int32 → Prop} (hn : 2 * n ≤ 80) (hf : f + 2 * n ≤ 320) (hV : ∀ t, t < 2 * n → br 4 (f + t) = V t) (h1 : gch V n → Q 1) (h0 : ¬ gch V n → Q 0) : wpX10_isChalk jv br (nI f) (nI n) Q := by
  unfold wpX10_isChalk
  refine il10 (V := V) hn hf hV (2 * n) 0 (by omega) (fun g => ?_) (fun g => h0 (fun u => g (fun s _ hs => u.2 s hs)))
  rw [ev10_within]
  refine ⟨fun y => ⟨Or.inr rfl, h1 ⟨?_, fun s hs => g s (by omega) hs⟩⟩, fun y => ⟨Or.inl rfl, h0 (fun u => y ⟨?_, ?_⟩)⟩⟩
  · have := y.1
    rw [show (1 : Int32) = nI 1 from rfl, nI_leI (by omega) (by omega)] at this
    exact this
  · exact nI_le (a := 1) u.1 (by omega)
  · exact nI_le (b := 40) (by omega) (by omega)
/-- how chalk's sheet is refused, or what it gives: the class's answer beside the reference's -/
theorem tcr {kt : kw_T} {iv : fw_F} {ar : fw_R} {x1 x2 x3 x4 : Int32} {Q : Int32 → fw_F → fw_R → Prop} (h : ¬ ((0 ≤ x1 ∧ x1 ≤ 3) ∧ (0 ≤ x2 ∧ x2 ≤ 2))) : wpX9_takeChalk kt iv ar x1 x2 x3 x4 Q ↔ Q 0 iv ar := by
  unfold wpX9_takeChalk
  simp only [rs9]
  by_cases a : 0 ≤ x1 ∧ x1 ≤ 3
  · by_cases b : 0 ≤ x2 ∧ x2 ≤ 2
    · exact absurd ⟨a, b⟩ h
    · simp [a, b]
  · simp [a]
theorem tcn {kt : kw_T} {iv : fw_F} {ar : fw_R} {k : Nat} {x2 x3 x4 : Int32} {Q : Int32 → fw_F → fw_R → Prop} (hk : k < 4) (p2 : 0 ≤ x2 ∧ x2 ≤ 2) (h : iv (9 + k) = 0) : wpX9_takeChalk kt iv ar (nI k) x2 x3 x4 Q ↔ Q 0 (va_up iv 1 1) ar := by
  unfold wpX9_takeChalk
  have q1 : 0 ≤ nI k ∧ nI k ≤ 3 := pb_in (a := 0) (c := 3) rfl rfl (by decide) (by omega) (by omega)
  simp only [rs9, if_pos q1, if_pos p2, tk9_none hk h]
  simp
theorem tcb {kt : kw_T} {iv : fw_F} {ar : fw_R} {k so le : Nat} {x2 x3 x4 : Int32} {Q : Int32 → fw_F → fw_R → Prop} (hk : k < 4) (p2 : 0 ≤ x2 ∧ x2 ≤ 2) (h : iv (9 + k) = 1) (hs : iv (13 + k) = nI so) (hl : iv (17 + k) = nI le) (hle : le ≤ 80) (hf : ¬ fc so le x2 x3 (2 * x4.toInt) = 0) : wpX9_takeChalk kt iv ar (nI k) x2 x3 x4 Q ↔ Q 0 (va_up iv 1 (fc so le x2 x3 (2 * x4.toInt))) ar := by
  unfold wpX9_takeChalk
  have q1 : 0 ≤ nI k ∧ nI k ≤ 3 := pb_in (a := 0) (c := 3) rfl rfl (by decide) (by omega) (by omega)
  have hf' : ¬ fc so le x2 x3 (2 * x4.toInt64).toInt = 0 := by rw [pb_2x]; exact hf
  simp only [rs9, if_pos q1, if_pos p2, tk9_bad hk h hs hl hle hf']
  rw [pb_2x]
  have nz : ¬ (-10 - fc so le x2 x3 (2 * x4.toInt)) = 0 := by
    unfold fc
    split
    · decide
    · split
      · decide
      · split <;> decide
  simp [nz]
def csm (V : Nat → Int32) (o : Nat) (ab : Bool) : Nat → Int32
  | 0 => 0
  | r + 1 => csm V o ab r + (if ab = true then (if 0 ≤ V (2 * r + o) then V (2 * r + o) else 0 - V (2 * r + o)) else V (2 * r + o))
theorem cs9 {kt : kw_T} {x1 x2 x3 x6 : Int32} {n wh : Nat} {iv : fw_F} {ar : fw_R} {V : Nat → Int32} {Q : Int64 → fw_F → fw_R → Prop} {K : Int32 → Int32 → Prop} (hn : 2 * n ≤ 80) (hw : wh ≤ 3) (hV : ∀ t, t < 2 * n → ar 25 t = V t) (hK : K (csm V (wh % 2) (decide (2 ≤ wh)) n) (nI n)) : ∃ ku, wpX9_chalk_L51 kt x1 x2 x3 (nI n) (nI wh) x6 iv ar Q K ku 0 0 := by
  refine pk_loop (σ := Int32) (fun m r s => wpX9_chalk_L51 kt x1 x2 x3 (nI n) (nI wh) x6 iv ar Q K m s (nI r)) (fun r s => s = csm V (wh % 2) (decide (2 ≤ wh)) r) n 0 0 (by omega) rfl ?_ ?_
  · rintro m _ rfl
    exact ⟨fun _ => hK, fun y => absurd (nI_le (Nat.le_refl _) (by omega)) y⟩
  · rintro m r _ hr rfl ih
    have ih2 := ih _ rfl
    simp only [csm] at ih2
    unfold wpX9_chalk_L51
    have e1 : 2 * nI r + (nI wh - nI wh / 2 * 2) = nI (2 * r + wh % 2) := by
      rw [show (2 : Int32) = nI 2 from rfl, pk_rem (by omega) (by omega) (by omega), pk_mul, nI_add]
    rw [e1, pb_cl (by omega), hV _ (by omega), show (2 : Int32) = nI 2 from rfl, nI_leI (a := 2) (b := wh) (by omega) (by omega)]
    refine ⟨fun y => absurd y (nI_ge hr (by omega)), fun _ => ⟨pb_vin (by omega) (by decide), ?_⟩⟩
    rintro _ rfl
    refine ⟨fun y => ?_, fun y => ?_⟩
    · rintro _ rfl _ rfl
      rw [nI_1]
      rw [if_pos (decide_eq_true y)] at ih2
      exact ih2
    · rintro _ rfl _ rfl
      rw [nI_1]
      rw [if_neg (by rw [decide_eq_true_iff]; exact y)] at ih2
      exact ih2
theorem cs10 {x1 x2 x3 x6 : Int32} {n wh f : Nat} {jv : fw_F} {br : fw_R} {V : Nat → Int32} {Q : Int64 → fw_F → fw_R → Prop} {K : Int32 → Int32 → Prop} (hn : 2 * n ≤ 80) (hf : f + 2 * n ≤ 320) (hw : wh ≤ 3) (hV : ∀ t, t < 2 * n → br 4 (f + t) = V t) (hK : K (csm V (wh % 2) (decide (2 ≤ wh)) n) (nI n)) : ∃ ku, wpX10_chalk_L94 x1 x2 x3 (nI n) (nI wh) x6 (nI f) jv br Q K ku 0 0 := by
  refine pk_loop (σ := Int32) (fun m r s => wpX10_chalk_L94 x1 x2 x3 (nI n) (nI wh) x6 (nI f) jv br Q K m s (nI r)) (fun r s => s = csm V (wh % 2) (decide (2 ≤ wh)) r) n 0 0 (by omega) rfl ?_ ?_
  · rintro m _ rfl
    exact ⟨fun _ => hK, fun y => absurd (nI_le (Nat.le_refl _) (by omega)) y⟩
  · rintro m r _ hr rfl ih
    have ih2 := ih _ rfl
    simp only [csm] at ih2
    unfold wpX10_chalk_L94
    have e1 : nI f + 2 * nI r + (nI wh - nI wh / 2 * 2) = nI (f + (2 * r + wh % 2)) := by
      rw [show (2 : Int32) = nI 2 from rfl, pk_rem (by omega) (by omega) (by omega), pk_mul, nI_add, nI_add, Nat.add_assoc]
    rw [e1, pb_cl (by omega), hV _ (by omega), show (1 : Int32) = nI 1 from rfl, nI_leI (a := wh) (b := 1) (by omega) (by omega)]
    refine ⟨fun y => absurd y (nI_ge hr (by omega)), fun _ => ⟨pb_vin (by omega) (by decide), ?_⟩⟩
    rintro _ rfl
    refine ⟨fun y => ?_, fun y => ⟨fun y2 => ?_, fun y2 => ?_⟩⟩
    · rintro _ rfl _ rfl
      rw [nI_add]
      rw [if_neg (by rw [decide_eq_true_iff]; omega)] at ih2
      exact ih2
    · rintro _ rfl _ rfl
      rw [nI_add]
      rw [if_pos (decide_eq_true (by omega)), if_pos y2] at ih2
      exact ih2
    · rintro _ rfl _ rfl
      rw [nI_add]
      rw [if_pos (decide_eq_true (by omega)), if_neg y2, show ∀ x : Int32, 0 - x = -x from fun x => by grind] at ih2
      exact ih2
theorem pb_il {x : Int32} : -4611686018427387904 ≤ (x.toInt64).toInt ∧ (x.toInt64).toInt ≤ 4611686018427387904 := by
  have e : x.toInt64.toInt = x.toInt := Int32.toInt_toInt64 x
  have h1 := Int32.toInt_lt x
  have h2 := Int32.le_toInt x
  omega
theorem shv1 {u : Int64} {x4 : Int32} : shv u 1 x4 = if x4 = 0 then u else 1 := by
  unfold shv
  rw [Nat.gcd_one_right, show lN 1 = 1 from rfl]
  by_cases z : x4 = 0
  · rw [if_pos z, if_pos z]; exact Int64.div_one
  · rw [if_neg z, if_neg z]; decide
theorem op_chalk : lw_o23 Rl := by
  intro kt iv ar jv br hR a1 a2 a3 a4 a5 a6
  unfold pu_chalk wpX9_chalk wpX10_chalk wpX10_lost
  simp only [forall_eq, ev10_isSheet, ev10_isSort]
  have hR0 := Rl_fault hR 0
  have hRf := Rl_fault hR0
  generalize va_up iv 1 0 = iv0 at hR0 hRf ⊢
  generalize va_up jv 0 0 = jv0 at hR0 hRf ⊢
  by_cases pp : (0 ≤ a1 ∧ a1 ≤ 3) ∧ (0 ≤ a2 ∧ a2 ≤ 2)
  · obtain ⟨p1, p2⟩ := pp
    obtain ⟨k, -, hk, rfl⟩ := pb_rng 0 3 rfl rfl (by decide) (by decide) p1
    have h4 : k < 4 := by omega
    have hs := hR0.2.2.2.2.1
    rcases rsh_at hs h4 with ⟨e1, e2⟩ | ⟨e1, so, le, b1, b2, c1, c2, c3, c4, c5⟩
    · simp only [tcn h4 p2 e1, ag_none h4 e2]
      exact ⟨-9223372036854775808, fun jv1 br1 => jv1 = va_up jv0 0 1 ∧ br1 = br, fun iv1 ar1 => iv1 = va_up iv0 1 1 ∧ ar1 = ar, by rintro _ _ ⟨rfl, rfl⟩ _ _ ⟨rfl, rfl⟩; exact hRf 1, by simp, by simp [p1, p2]⟩
    · rw [show (2 : Int32) = nI 2 from rfl] 
      simp only [ag_some (e := 2) h4 b1 b2 c2 c4 (Or.inr rfl)]
      rw [show nI 2 = (2 : Int32) from rfl] 
      by_cases p3 : fc so le a2 a3 (2 * a4.toInt) = 0
      · simp only [show ((2 : Nat) : Int) = 2 from rfl, p3]
        obtain ⟨rfl, i, n', q1, rfl, q2, q3⟩ := fc0 p3
        obtain ⟨n, hn, rfl⟩ := nI_of (x := a4) (by rw [Int32.lt_iff_toInt_lt, pb_i0]; omega)
        rw [nI_toInt (by omega)] at q2
        have q4 : n' = 2 * n := by omega
        subst q4
        have ei : (80 : Int32) * nI k + nI i = nI (80 * k + i) := by
          rw [show (80 : Int32) = nI 80 from rfl, pk_mul, nI_add]
        simp only [ei]
        have hA : ∀ t, t < 2 * n → ar (21 + k) (i + t) = br 4 (80 * k + i + t) := fun t ht => by
          rw [c5 (i + t) (by omega), Nat.add_assoc]
        have eq : ∀ t, t < 2 * n → va_up ar 25 (va_cpy (ar (21 + k)) (ar 25) i 0 (2 * n)) 25 t = br 4 (80 * k + i + t) := fun t ht => by
          rw [pb_up, if_pos rfl, pk_cpy_in (by omega) (by omega)]
          exact hA t ht
        by_cases g : gch (fun t => br 4 (80 * k + i + t)) n
        · by_cases p5 : 0 ≤ a5 ∧ a5 ≤ 3
          · by_cases p6 : 0 ≤ a6 ∧ a6 ≤ 1
            · obtain ⟨wh, -, hwh, rfl⟩ := pb_rng 0 3 rfl rfl (by decide) (by decide) p5
              have e22 : ((2 : Int32) ≤ nI wh) ↔ 2 ≤ wh := nI_leI (a := 2) (by omega) (by omega)
              refine ⟨shv (csm (fun t => br 4 (80 * k + i + t)) (wh % 2) (decide (2 ≤ wh)) n).toInt64 (if 2 ≤ wh then 1 else n) a6, fun jv1 br1 => jv1 = jv0 ∧ br1 = br, fun iv1 ar1 => iv1 = iv0 ∧ ar1 = va_up ar 25 (va_cpy (ar (21 + k)) (ar 25) i 0 (2 * n)), by rintro _ _ ⟨rfl, rfl⟩ _ _ ⟨rfl, rfl⟩; exact Rl_taken hR0 _, ?_, ?_⟩
              · refine tc9 (V := fun t => br 4 (80 * k + i + t)) h4 b1 e1 c1 c3 b2 q1 hA (fun _ => ⟨fun _ => ?_, fun y => absurd y (by decide)⟩) (fun y => absurd g y)
                rw [ev9_within]
                refine ⟨fun _ => ⟨fun y => absurd y (by decide), fun _ => ?_⟩, fun y => absurd p5 y⟩
                rw [ev9_within]
                refine ⟨fun _ => ⟨fun _ => ?_, fun y => absurd y (by decide)⟩, fun y => absurd p6 y⟩
                refine cs9 (V := fun t => br 4 (80 * k + i + t)) (by omega) hwh eq ?_
                rw [e22]
                refine ⟨fun y => ?_, fun y => ?_⟩
                · rw [if_pos y]
                  exact sh9 (d := 1) pb_il (by omega) (by omega) ⟨rfl, rfl, rfl⟩
                · rw [if_neg y, pb_i2l (by omega)]
                  exact sh9 pb_il g.1 (by omega) ⟨rfl, rfl, rfl⟩
              · simp only [p1, p2, and_self, not_true_eq_false, false_implies, true_implies, not_false_eq_true, and_true, true_and, show ((1 : Int32) = 0) = False from by simp]
                refine ic10 (V := fun t => br 4 (80 * k + i + t)) (by omega) (by omega) (fun t ht => rfl) (fun _ => ⟨fun y => absurd y (by decide), fun _ => ?_⟩) (fun y => absurd g y)
                rw [ev10_within]
                refine ⟨fun _ => ⟨fun y => absurd y (by decide), fun _ => ?_⟩, fun y => absurd p5 y⟩
                rw [ev10_isWhich]
                refine ⟨fun _ => ⟨fun _ => ?_, fun y => absurd y (by decide)⟩, fun y => absurd p6 y⟩
                refine cs10 (V := fun t => br 4 (80 * k + i + t)) (by omega) (by omega) hwh (fun t ht => rfl) ?_
                rw [e22]
                refine ⟨fun y => ?_, fun y => ?_⟩
                · rw [if_pos y, shv1]
                  refine ⟨fun y2 => ?_, fun y2 => ?_⟩
                  · rw [if_neg y2]
                  · rw [if_pos y2]
                · rw [if_neg y, pb_i2l (by omega)]
                  exact sh10 pb_il g.1 (by omega) rfl
            · refine ⟨-9223372036854775808, fun jv1 br1 => jv1 = jv0 ∧ br1 = br, fun iv1 ar1 => iv1 = iv0 ∧ ar1 = va_up ar 25 (va_cpy (ar (21 + k)) (ar 25) i 0 (2 * n)), by rintro _ _ ⟨rfl, rfl⟩ _ _ ⟨rfl, rfl⟩; exact Rl_taken hR0 _, ?_, ?_⟩
              · refine tc9 (V := fun t => br 4 (80 * k + i + t)) h4 b1 e1 c1 c3 b2 q1 hA (fun _ => ?_) (fun y => absurd g y)
                simp [ev9_within, p5, p6]
              · simp only [p1, p2, and_self, not_true_eq_false, false_implies, true_implies, not_false_eq_true, and_true, true_and, show ((1 : Int32) = 0) = False from by simp]
                refine ic10 (V := fun t => br 4 (80 * k + i + t)) (by omega) (by omega) (fun t ht => rfl) (fun _ => ?_) (fun y => absurd g y)
                simp [ev10_within, ev10_isWhich, p5, p6]
          · refine ⟨-9223372036854775808, fun jv1 br1 => jv1 = jv0 ∧ br1 = br, fun iv1 ar1 => iv1 = iv0 ∧ ar1 = va_up ar 25 (va_cpy (ar (21 + k)) (ar 25) i 0 (2 * n)), by rintro _ _ ⟨rfl, rfl⟩ _ _ ⟨rfl, rfl⟩; exact Rl_taken hR0 _, ?_, ?_⟩
            · refine tc9 (V := fun t => br 4 (80 * k + i + t)) h4 b1 e1 c1 c3 b2 q1 hA (fun _ => ?_) (fun y => absurd g y)
              simp [ev9_within, p5]
            · simp only [p1, p2, and_self, not_true_eq_false, false_implies, true_implies, not_false_eq_true, and_true, true_and, show ((1 : Int32) = 0) = False from by simp]
              refine ic10 (V := fun t => br 4 (80 * k + i + t)) (by omega) (by omega) (fun t ht => rfl) (fun _ => ?_) (fun y => absurd g y)
              simp [ev10_within, p5]
        · refine ⟨-9223372036854775808, fun jv1 br1 => jv1 = jv0 ∧ br1 = br, fun iv1 ar1 => iv1 = iv0 ∧ ar1 = va_up ar 25 (va_cpy (ar (21 + k)) (ar 25) i 0 (2 * n)), by rintro _ _ ⟨rfl, rfl⟩ _ _ ⟨rfl, rfl⟩; exact Rl_taken hR0 _, ?_, ?_⟩
          · refine tc9 (V := fun t => br 4 (80 * k + i + t)) h4 b1 e1 c1 c3 b2 q1 hA (fun y => absurd y g) (fun _ => ?_)
            simp
          · simp only [p1, p2, and_self, not_true_eq_false, false_implies, true_implies, not_false_eq_true, and_true, true_and, show ((1 : Int32) = 0) = False from by simp]
            refine ic10 (V := fun t => br 4 (80 * k + i + t)) (by omega) (by omega) (fun t ht => rfl) (fun y => absurd y g) (fun _ => ?_)
            simp
      · simp only [tcb h4 p2 e1 c1 c3 b2 p3, show ((2 : Nat) : Int) = 2 from rfl]
        exact ⟨-9223372036854775808, fun jv1 br1 => jv1 = va_up jv0 0 (fc so le a2 a3 (2 * a4.toInt)) ∧ br1 = br, fun iv1 ar1 => iv1 = va_up iv0 1 (fc so le a2 a3 (2 * a4.toInt)) ∧ ar1 = ar, by rintro _ _ ⟨rfl, rfl⟩ _ _ ⟨rfl, rfl⟩; exact hRf _, by simp, by simp [p1, p2, p3]⟩
  · simp only [tcr pp]
    refine ⟨-9223372036854775808, fun jv1 br1 => jv1 = jv0 ∧ br1 = br, fun iv1 ar1 => iv1 = iv0 ∧ ar1 = ar, by rintro _ _ ⟨rfl, rfl⟩ _ _ ⟨rfl, rfl⟩; exact hR0, by simp, ?_⟩
    by_cases p1 : 0 ≤ a1 ∧ a1 ≤ 3
    · by_cases p2 : 0 ≤ a2 ∧ a2 ≤ 2
      · exact absurd ⟨p1, p2⟩ pp
      · simp [p1, p2]
    · simp [p1]
