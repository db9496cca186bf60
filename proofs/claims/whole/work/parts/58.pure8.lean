/-! ===== sums of weights, sets of feet ===== -/
def sm5 (g : Nat → Nat) : Nat → Nat
  | 0 => 0
  | n + 1 => sm5 g n + g n
theorem sm5_le {g : Nat → Nat} {c : Nat} : ∀ {n : Nat}, (∀ k, k < n → g k ≤ c) → sm5 g n ≤ n * c
  | 0, _ => by simp [sm5]
  | n + 1, h => by
    have h1 := sm5_le (n := n) (fun k hk => h k (by omega))
    have h2 := h n (by omega)
    unfold sm5
    rw [Nat.succ_mul]
    omega
theorem sm5_mono {g : Nat → Nat} {n k : Nat} (h : k < n) : g k ≤ sm5 g n := by
  induction n with
  | zero => omega
  | succ n ih =>
    unfold sm5
    by_cases e : k = n
    · subst e; omega
    · have := ih (by omega); omega
theorem pb_d {k : Nat} (hk : k < 100) : ((2 : Int32) < nI k - 2 ↔ 4 < k) ∧ (nI k - 2 + 1 = nI (k + 1) - 2) := by
  constructor
  · rw [Int32.lt_iff_toInt_lt, show (2 : Int32) = nI 2 from rfl, pk_sub_toInt (by omega) (by omega), nI_toInt (by omega)]
    omega
  · rw [← nI_1]; grind
theorem su9 {kt : kw_T} {iv : fw_F} {ar : fw_R} {W : Nat → Nat} {row st : Nat} {Q : Int32 → Prop} (hW : ∀ j, j < 15 → W j ≤ 9) (ha : ∀ j, j < 15 → ar 3 j = nI (W j)) (hr : row < 3) (hs : st ≤ 9) (h : Q (nI (sm5 (fun k => wt W row k st) 5))) : wpX1_sumOf kt iv ar (nI row) (nI st) Q := by
  unfold wpX1_sumOf
  refine pk_loop (σ := Int32) (fun n i s => wpX1_sumOf_L6 kt (nI row) (nI st) iv ar Q (fun w5 _ => Q w5) n s (nI i - 2)) (fun i s => s = nI (sm5 (fun k => wt W row k st) i)) 5 0 0 (by omega) rfl ?_ ?_
  · rintro n _ rfl
    exact ⟨fun _ => h, fun c => absurd ((pb_d (k := 5) (by omega)).1.mpr (by omega)) c⟩
  · rintro n i _ hi rfl ih
    refine ⟨fun c => absurd ((pb_d (k := i) (by omega)).1.mp c) (by omega), fun _ => ?_⟩
    rw [we9 hW ha hr hi hs]
    rintro _ rfl _ rfl
    rw [(pb_d (k := i) (by omega)).2, nI_add]
    exact ih _ rfl
theorem su10 {jv : fw_F} {br : fw_R} {W : Nat → Nat} {row st : Nat} {Q : Int32 → Prop} (hW : ∀ j, j < 15 → W j ≤ 9) (ha : ∀ j, j < 15 → br 12 j = nI (W j)) (hr : row < 3) (hs : st ≤ 9) (h : Q (nI (sm5 (fun k => wt W row k st) 5))) : wpX10_sumOf jv br (nI row) (nI st) Q := by
  unfold wpX10_sumOf
  refine pk_loop (σ := Int32) (fun n i s => wpX10_sumOf_L5 (nI row) (nI st) jv br Q (fun w5 _ => Q w5) n s (nI i)) (fun i s => s = nI (sm5 (fun k => wt W row k st) i)) 5 0 0 (by omega) rfl ?_ ?_
  · rintro n _ rfl
    exact ⟨fun _ => h, fun c => absurd (nI_le (b := 5) (Nat.le_refl 5) (by omega)) c⟩
  · rintro n i _ hi rfl ih
    refine ⟨fun c => absurd c (nI_ge (b := 5) hi (by omega)), fun _ => ?_⟩
    rw [we10 hW ha hr hi hs]
    rintro _ rfl _ rfl
    rw [nI_1, nI_add]
    exact ih _ rfl
theorem sm_pos {W : Nat → Nat} {row st : Nat} (h : 1 ≤ W (5 * row) + W (5 * row + 1) + W (5 * row + 2) + W (5 * row + 3) + W (5 * row + 4)) : 1 ≤ sm5 (fun k => wt W row k st) 5 := by
  simp only [sm5, wt]
  simp
  omega
def swt (kd p t w : Nat) (W : Nat → Nat) (st s f : Nat) : Nat := sm5 (fun k => if stk kd (cm p w (rd p t ((s + k + 22) % 24) f)) then wt W 0 k st else 0) 5
theorem swt_le {kd p t w : Nat} {W : Nat → Nat} {st s f : Nat} (hW : ∀ j, j < 15 → W j ≤ 9) : swt kd p t w W st s f ≤ 45 := by
  refine Nat.le_trans (sm5_le (c := 9) (fun k hk => ?_)) (by omega)
  split
  · exact wt_le hW (by omega) hk
  · omega
theorem sw9 {kt : kw_T} {iv : fw_F} {ar : fw_R} {i k p t w s f st : Nat} {W : Nat → Nat} {Q : Int32 → Prop} (ek : kt.2.1 i = k) (hk : k < 3) (e : kt.2.2.1 i 1 = nI p) (e2 : kt.2.2.1 i 2 = nI t) (hc : ∀ a, a < 24 * p → kt.2.2.2 i a = nI (cm p w a)) (hp : 1 ≤ p) (hp9 : p ≤ 9) (ht : t ≤ 24) (hW : ∀ j, j < 15 → W j ≤ 9) (ha : ∀ j, j < 15 → ar 3 j = nI (W j)) (hs : s ≤ 23) (hf : f ≤ 40) (hst : st ≤ 9) (h : Q (nI (swt k p t w W st s f))) : wpX9_stickWeight kt iv ar i (nI s) (nI f) (nI st) Q := by
  unfold wpX9_stickWeight
  refine pk_loop (σ := Int32) (fun n j z => wpX9_stickWeight_L7 kt i (nI s) (nI f) (nI st) iv ar Q (fun w8 _ => Q w8) n z (nI j - 2)) (fun j z => z = nI (sm5 (fun d => if stk k (cm p w (rd p t ((s + d + 22) % 24) f)) then wt W 0 d st else 0) j)) 5 0 0 (by omega) rfl ?_ ?_
  · rintro n _ rfl
    exact ⟨fun _ => h, fun c => absurd ((pb_d (k := 5) (by omega)).1.mpr (by omega)) c⟩
  · rintro n j _ hj rfl ih
    refine ⟨fun c => absurd ((pb_d (k := j) (by omega)).1.mp c) (by omega), fun _ => ?_⟩
    have e3 : (((nI s + (nI j - 2)) + 24) - ((nI s + (nI j - 2)) + 24) / 24 * 24) = nI ((s + j + 22) % 24) := by
      have e4 : (nI s + (nI j - 2)) + 24 = nI (s + j + 22) := by
        rw [← nI_add, ← nI_add, show nI 22 = 22 from rfl]; grind
      rw [e4, show (24 : Int32) = nI 24 from rfl, pk_rem (by omega) (by omega) (by omega)]
    rw [e3, ho9 ek hk e e2 hc hp hp9 ht (show (s + j + 22) % 24 ≤ 23 by omega) hf]
    have ih2 := ih _ rfl
    simp only [sm5] at ih2
    refine ⟨fun g => ⟨fun z => absurd z (by decide), fun _ => ?_⟩, fun g => ⟨fun _ => ?_, fun z => absurd rfl z⟩⟩
    · rw [show (0 : Int32) = nI 0 from rfl, we9 hW ha (by omega) hj hst]
      rintro _ rfl _ rfl
      rw [(pb_d (k := j) (by omega)).2, nI_add]
      rw [if_pos g] at ih2
      exact ih2
    · rintro _ rfl
      rw [(pb_d (k := j) (by omega)).2]
      rw [if_neg g] at ih2
      exact ih2
theorem sw10 {jv : fw_F} {br : fw_R} {i k b p t s f st : Nat} {W : Nat → Nat} {Q : Int32 → Prop} (hi : i < 6) (hk : k < 3) (hb : b ≤ 5) (e1 : br 6 i = nI k) (e2 : br 9 i = nI b) (e3 : br 7 i = nI p) (e4 : br 8 i = nI t) (hp : 1 ≤ p) (hp9 : p ≤ 9) (ht : t ≤ 24) (hW : ∀ j, j < 15 → W j ≤ 9) (ha : ∀ j, j < 15 → br 12 j = nI (W j)) (hs : s ≤ 23) (hf : f ≤ 40) (hst : st ≤ 9) (h : Q (nI (swt k p t (wd k b) W st s f))) : wpX10_stuckBy jv br (nI i) (nI s) (nI f) (nI st) Q := by
  unfold wpX10_stuckBy
  refine pk_loop (σ := Int32) (fun n j z => wpX10_stuckBy_L6 (nI i) (nI s) (nI f) (nI st) jv br Q (fun w8 _ => Q w8) n z (nI j)) (fun j z => z = nI (sm5 (fun d => if stk k (cm p (wd k b) (rd p t ((s + d + 22) % 24) f)) then wt W 0 d st else 0) j)) 5 0 0 (by omega) rfl ?_ ?_
  · rintro n _ rfl
    exact ⟨fun _ => h, fun c => absurd (nI_le (b := 5) (Nat.le_refl 5) (by omega)) c⟩
  · rintro n j _ hj rfl ih
    refine ⟨fun c => absurd c (nI_ge (b := 5) hj (by omega)), fun _ => ?_⟩
    have e5 : ((((nI s + nI j) + 24) - 2) - (((nI s + nI j) + 24) - 2) / 24 * 24) = nI ((s + j + 22) % 24) := by
      have e6 : ((nI s + nI j) + 24) - 2 = nI (s + j + 22) := by
        rw [← nI_add, ← nI_add, show nI 22 = 22 from rfl]; grind
      rw [e6, show (24 : Int32) = nI 24 from rfl, pk_rem (by omega) (by omega) (by omega)]
    rw [e5, is10 hi hk hb e1 e2 e3 e4 hp hp9 ht (show (s + j + 22) % 24 ≤ 23 by omega) hf]
    have ih2 := ih _ rfl
    simp only [sm5] at ih2
    refine ⟨fun g => ⟨fun z => absurd z (by decide), fun _ => ?_⟩, fun g => ⟨fun _ => ?_, fun z => absurd rfl z⟩⟩
    · rw [show (0 : Int32) = nI 0 from rfl, we10 hW ha (by omega) hj hst]
      rintro _ rfl _ rfl
      rw [nI_1, nI_add]
      rw [if_pos g] at ih2
      exact ih2
    · rintro _ rfl _ rfl
      rw [nI_1, show (0 : Int32) = nI 0 from rfl, nI_add]
      rw [if_neg g] at ih2
      exact ih2
theorem op_likely : lw_o8 Rl := by
  intro kt iv ar jv br hR a1 a2 a3 a4 a5
  obtain ⟨⟨n, kd, pc, tn, bd, hn, h1, h2, h3, hk⟩, ⟨to, T, W, g1, g2, g3, g4, g5, g6, g7, g8⟩, -⟩ := id hR
  unfold pu_likely wpX9_likely wpX10_likely
  by_cases hx : ∃ i, i < n ∧ a1 = nI i
  · obtain ⟨i, hi, rfl⟩ := hx
    obtain ⟨⟨b0, b1, b2, b3, b4, b5⟩, ⟨c0, c1, c2, c3, c4, c5, c6⟩, d0, d1, d2, d3⟩ := hk i hi
    simp only [kA_yes hn h2 h1 hi, kn10_yes hn h3 hi, ev9_isThrow, ev10_isStart, ev10_isFeet, ev9_within, ev10_isWhich, ev9_isStage, ev10_isStage, g2, g3]
    by_cases p1 : 0 ≤ a2 ∧ a2 ≤ 23
    · by_cases p2 : 1 ≤ a3 ∧ a3 ≤ 40
      · by_cases p4 : 0 ≤ a4 ∧ a4 ≤ 9
        · by_cases p3 : 0 ≤ a5 ∧ a5 ≤ 1
          · by_cases p5 : to = 0
            · exact ⟨-9223372036854775808, hR, by simp [p1, p2, p3, p4, p5, show nI 0 = 0 from rfl], by simp [p1, p2, p3, p4, p5, show nI 0 = 0 from rfl]⟩
            · obtain ⟨s, -, hs, rfl⟩ := pb_rng 0 23 rfl rfl (by decide) (by decide) p1
              obtain ⟨f, hf, hf2, rfl⟩ := pb_rng 1 40 rfl rfl (by decide) (by decide) p2
              obtain ⟨st, -, hst, rfl⟩ := pb_rng 0 9 rfl rfl (by decide) (by decide) p4
              have e3 : nI to ≠ 0 := fun z => p5 ((to_cases g1).mp z)
              have hW := fun j hj => (g7 j hj).1
              have l1 := swt_le (kd := kd i) (p := pc i) (t := tn i) (w := wd (kd i) (bd i)) (st := st) (s := s) (f := f) hW
              have l2 : sm5 (fun k => wt W 0 k st) 5 ≤ 45 := Nat.le_trans (sm5_le (c := 9) (fun k hk => wt_le hW (by omega) hk)) (by omega)
              have l3 := sm_pos (st := st) (g8 (by omega) 0 (by omega))
              refine ⟨shv (lN (swt (kd i) (pc i) (tn i) (wd (kd i) (bd i)) W st s f)) (sm5 (fun k => wt W 0 k st) 5) a5, hR, ?_, ?_⟩
              · simp only [p1, p2, p3, p4, e3]; simp
                refine sw9 c0 b0 c2 c3 c6 b1 b2 b4 hW (fun j hj => (g7 j hj).2.1) hs hf2 hst ?_
                rw [show (0 : Int32) = nI 0 from rfl]
                refine su9 hW (fun j hj => (g7 j hj).2.1) (by omega) hst ?_
                rw [pb_i2l (by omega), pb_i2l (by omega)]
                exact sh9 (pb_lb (by omega)) l3 (by omega) rfl
              · simp only [p1, p2, p3, p4, e3]; simp
                refine sw10 (by omega) b0 b5 d0 d3 d1 d2 b1 b2 b4 hW (fun j hj => (g7 j hj).2.2) hs hf2 hst ?_
                rw [show (0 : Int32) = nI 0 from rfl]
                refine su10 hW (fun j hj => (g7 j hj).2.2) (by omega) hst ?_
                rw [pb_i2l (by omega), pb_i2l (by omega)]
                exact sh10 (pb_lb (by omega)) l3 (by omega) rfl
          · exact ⟨-9223372036854775808, hR, by simp [p1, p2, p3, p4], by simp [p1, p2, p3, p4]⟩
        · exact ⟨-9223372036854775808, hR, by simp [p1, p2, p4], by simp [p1, p2, p4]⟩
      · exact ⟨-9223372036854775808, hR, by simp [p1, p2], by simp [p1, p2]⟩
    · exact ⟨-9223372036854775808, hR, by simp [p1], by simp [p1]⟩
  · simp only [kA_no hn h2 hx, kn10_no hn h3 hx]
    exact ⟨-9223372036854775808, hR, by simp, by simp⟩
def stf (g : Nat → Bool) : Nat → Int32
  | 0 => 0
  | n + 1 => if g (n + 1) = true then stf g n ||| ((1 : Int32) <<< (nI n &&& 31)) else stf g n
theorem sk9 {kt : kw_T} {iv : fw_F} {ar : fw_R} {i k p t w s : Nat} {x1 : Int32} {Q : Int32 → Prop} (ek : kt.2.1 i = k) (hk : k < 3) (e : kt.2.2.1 i 1 = nI p) (e2 : kt.2.2.1 i 2 = nI t) (hc : ∀ a, a < 24 * p → kt.2.2.2 i a = nI (cm p w a)) (hp : 1 ≤ p) (hp9 : p ≤ 9) (ht : t ≤ 24) (hs : s ≤ 23) (h : Q (stf (fun f => decide (stk k (cm p w (rd p t s f)))) 31)) : ∃ ku, wpX9_sticks_L31 kt x1 (nI s) i iv ar Q (fun w11 _ => Q w11) ku 0 1 := by
  refine pk_loop (σ := Int32) (fun n j z => wpX9_sticks_L31 kt x1 (nI s) i iv ar Q (fun w11 _ => Q w11) n z (nI (j + 1))) (fun j z => z = stf (fun f => decide (stk k (cm p w (rd p t s f)))) j) 31 0 0 (by omega) rfl ?_ ?_
  · rintro n _ rfl
    exact ⟨fun _ => h, fun c => absurd (nI_lt (a := 31) (b := 32) (by omega) (by omega)) c⟩
  · rintro n j _ hj rfl ih
    refine ⟨fun c => absurd c (nI_nlt (a := 31) (b := j + 1) (by omega) (by omega)), fun _ => ?_⟩
    rw [ho9 ek hk e e2 hc hp hp9 ht hs (show j + 1 ≤ 40 by omega)]
    have ih2 := ih _ rfl
    simp only [stf] at ih2
    refine ⟨fun g => ⟨fun z => absurd z (by decide), fun _ => ?_⟩, fun g => ⟨fun _ => ?_, fun z => absurd rfl z⟩⟩
    · rintro _ rfl _ rfl
      rw [nI_1, nI_pred]
      rw [if_pos (decide_eq_true g)] at ih2
      exact ih2
    · rintro _ rfl
      rw [nI_1]
      rw [if_neg (fun z => g (of_decide_eq_true z))] at ih2
      exact ih2
theorem sk10 {jv : fw_F} {br : fw_R} {i k b p t s : Nat} {Q : Int32 → Prop} (hi : i < 6) (hk : k < 3) (hb : b ≤ 5) (e1 : br 6 i = nI k) (e2 : br 9 i = nI b) (e3 : br 7 i = nI p) (e4 : br 8 i = nI t) (hp : 1 ≤ p) (hp9 : p ≤ 9) (ht : t ≤ 24) (hs : s ≤ 23) (h : Q (stf (fun f => decide (stk k (cm p (wd k b) (rd p t s f)))) 31)) : ∃ ku, wpX10_sticks_L25 (nI i) (nI s) jv br Q (fun w11 _ => Q w11) ku 0 1 := by
  refine pk_loop (σ := Int32) (fun n j z => wpX10_sticks_L25 (nI i) (nI s) jv br Q (fun w11 _ => Q w11) n z (nI (j + 1))) (fun j z => z = stf (fun f => decide (stk k (cm p (wd k b) (rd p t s f)))) j) 31 0 0 (by omega) rfl ?_ ?_
  · rintro n _ rfl
    exact ⟨fun _ => h, fun c => absurd (nI_le (a := 32) (b := 32) (by omega) (by omega)) c⟩
  · rintro n j _ hj rfl ih
    refine ⟨fun c => absurd c (nI_ge (a := j + 1) (b := 32) (by omega) (by omega)), fun _ => ?_⟩
    rw [is10 hi hk hb e1 e2 e3 e4 hp hp9 ht hs (show j + 1 ≤ 40 by omega)]
    have ih2 := ih _ rfl
    simp only [stf] at ih2
    refine ⟨fun g => ⟨fun z => absurd z (by decide), fun _ => ?_⟩, fun g => ⟨fun _ => ?_, fun z => absurd rfl z⟩⟩
    · rintro _ rfl _ rfl
      rw [nI_1, nI_pred]
      rw [if_pos (decide_eq_true g)] at ih2
      exact ih2
    · rintro _ rfl _ rfl
      rw [nI_1, show ∀ x : Int32, x ||| 0 = x from fun x => by simp]
      rw [if_neg (fun z => g (of_decide_eq_true z))] at ih2
      exact ih2
theorem op_sticks : lw_o4 Rl := by
  intro kt iv ar jv br hR a1 a2
  obtain ⟨⟨n, kd, pc, tn, bd, hn, h1, h2, h3, hk⟩, -⟩ := id hR
  unfold pu_sticks wpX9_sticks wpX10_sticks
  by_cases hx : ∃ i, i < n ∧ a1 = nI i
  · obtain ⟨i, hi, rfl⟩ := hx
    obtain ⟨⟨b0, b1, b2, b3, b4, b5⟩, ⟨c0, c1, c2, c3, c4, c5, c6⟩, d0, d1, d2, d3⟩ := hk i hi
    simp only [kA_yes hn h2 h1 hi, kn10_yes hn h3 hi, ev9_within, ev10_isStart]
    by_cases p1 : 0 ≤ a2 ∧ a2 ≤ 23
    · obtain ⟨s, -, hs, rfl⟩ := pb_rng 0 23 rfl rfl (by decide) (by decide) p1
      refine ⟨stf (fun f => decide (stk (kd i) (cm (pc i) (wd (kd i) (bd i)) (rd (pc i) (tn i) s f)))) 31, hR, ?_, ?_⟩
      · refine ⟨fun _ => ⟨fun _ => sk9 c0 b0 c2 c3 c6 b1 b2 b4 hs rfl, fun z => absurd z (by decide)⟩, fun z => absurd p1 z⟩
      · refine ⟨fun _ => ⟨fun _ => ⟨fun _ => sk10 (by omega) b0 b5 d0 d3 d1 d2 b1 b2 b4 hs rfl, fun z => absurd z (by decide)⟩, fun z => absurd p1 z⟩, fun z => absurd z (by decide)⟩
    · exact ⟨-2, hR, by simp [p1], by simp [p1]⟩
  · simp only [kA_no hn h2 hx, kn10_no hn h3 hx]
    exact ⟨-1, hR, by simp, by simp⟩
/-! ===== the best way to throw ===== -/
/-- one more way tried: what is the most so far, from which feet, how let go -/
def bs1 (g : Nat → Nat → Int32) (f : Nat) : Nat → Int32 × Int32 × Int32 → Int32 × Int32 × Int32
  | 0, u => u
  | n + 1, u => if g f n ≤ (bs1 g f n u).1 then bs1 g f n u else (g f n, nI f, nI n)
def bs2 (g : Nat → Nat → Int32) : Nat → Int32 × Int32 × Int32
  | 0 => (-1, 0, 0)
  | n + 1 => bs1 g (n + 1) 24 (bs2 g n)
theorem be9 {kt : kw_T} {iv : fw_F} {ar : fw_R} {i : Nat} {x1 x2 x3 : Int32} {Q : Int32 → Prop} {K : Int32 → Int32 → Int32 → Int32 → Prop} {g : Nat → Nat → Int32} (hg : ∀ f s, f ≤ 40 → s ≤ 23 → ∀ Q' : Int32 → Prop, Q' (g f s) → wpX9_stickWeight kt iv ar i (nI s) (nI f) x2 Q') (h : K (bs2 g 40).1 (bs2 g 40).2.1 (bs2 g 40).2.2 (nI 41)) : ∃ ku, wpX9_best_L58 kt x1 x2 x3 i iv ar Q K ku (-1) 0 0 1 := by
  refine pk_loop (σ := Int32 × Int32 × Int32) (fun n j u => wpX9_best_L58 kt x1 x2 x3 i iv ar Q K n u.1 u.2.1 u.2.2 (nI (j + 1))) (fun j u => u = bs2 g j) 40 0 (-1, 0, 0) (by omega) rfl ?_ ?_
  · intro n u hu
    rw [hu]
    exact ⟨fun _ => h, fun c => absurd (nI_lt (a := 40) (b := 41) (by omega) (by omega)) c⟩
  · rintro n j _ hj rfl ih
    refine ⟨fun c => absurd c (nI_nlt (a := 40) (b := j + 1) (by omega) (by omega)), fun _ => ?_⟩
    refine pk_loop (σ := Int32 × Int32 × Int32) (fun m s u => wpX9_best_L68 kt x1 x2 x3 (nI (j + 1)) i iv ar Q _ m u.1 u.2.1 u.2.2 (nI s)) (fun s u => u = bs1 g (j + 1) s (bs2 g j)) 24 0 (bs2 g j) (by omega) rfl ?_ ?_
    · intro m u hu
      rw [hu]
      refine ⟨fun _ => ?_, fun c => absurd (nI_lt (a := 23) (b := 24) (by omega) (by omega)) c⟩
      rintro _ rfl
      rw [nI_1]
      exact ih _ rfl
    · rintro m s _ hs rfl ih2
      refine ⟨fun c => absurd c (nI_nlt (a := 23) (b := s) (by omega) (by omega)), fun _ => hg (j + 1) s (by omega) (by omega) _ ?_⟩
      have ih3 := ih2 _ rfl
      simp only [bs1] at ih3
      refine ⟨fun c => ?_, fun c => ?_⟩
      · rintro _ rfl
        rw [nI_1 s]
        rw [if_pos c] at ih3
        exact ih3
      · rintro _ rfl
        rw [nI_1 s]
        rw [if_neg c] at ih3
        exact ih3
theorem be10 {jv : fw_F} {br : fw_R} {x1 x2 x3 : Int32} {Q : Int32 → Prop} {K : Int32 → Int32 → Int32 → Int32 → Prop} {g : Nat → Nat → Int32} (hg : ∀ f s, f ≤ 40 → s ≤ 23 → ∀ Q' : Int32 → Prop, Q' (g f s) → wpX10_stuckBy jv br x1 (nI s) (nI f) x2 Q') (h : K (bs2 g 40).1 (bs2 g 40).2.1 (bs2 g 40).2.2 (nI 41)) : ∃ ku, wpX10_best_L51 x1 x2 x3 jv br Q K ku (-1) 0 0 1 := by
  refine pk_loop (σ := Int32 × Int32 × Int32) (fun n j u => wpX10_best_L51 x1 x2 x3 jv br Q K n u.1 u.2.1 u.2.2 (nI (j + 1))) (fun j u => u = bs2 g j) 40 0 (-1, 0, 0) (by omega) rfl ?_ ?_
  · intro n u hu
    rw [hu]
    exact ⟨fun _ => h, fun c => absurd (nI_lt (a := 40) (b := 41) (by omega) (by omega)) c⟩
  · rintro n j _ hj rfl ih
    refine ⟨fun c => absurd c (nI_nlt (a := 40) (b := j + 1) (by omega) (by omega)), fun _ => ?_⟩
    refine pk_loop (σ := Int32 × Int32 × Int32) (fun m s u => wpX10_best_L61 x1 x2 x3 (nI (j + 1)) jv br Q _ m u.1 u.2.1 u.2.2 (nI s)) (fun s u => u = bs1 g (j + 1) s (bs2 g j)) 24 0 (bs2 g j) (by omega) rfl ?_ ?_
    · intro m u hu
      rw [hu]
      refine ⟨fun _ => ?_, fun c => absurd (nI_le (a := 24) (b := 24) (by omega) (by omega)) c⟩
      rintro _ rfl
      rw [nI_1]
      exact ih _ rfl
    · rintro m s _ hs rfl ih2
      refine ⟨fun c => absurd c (nI_ge (a := s) (b := 24) (by omega) (by omega)), fun _ => hg (j + 1) s (by omega) (by omega) _ ?_⟩
      have ih3 := ih2 _ rfl
      simp only [bs1] at ih3
      refine ⟨fun c => ?_, fun c => ?_⟩
      · rintro _ rfl
        rw [nI_1 s]
        rw [if_pos c] at ih3
        exact ih3
      · rintro _ rfl
        rw [nI_1 s]
        rw [if_neg c] at ih3
        exact ih3
theorem op_best : lw_o9 Rl := by
  intro kt iv ar jv br hR a1 a2 a3
  obtain ⟨⟨n, kd, pc, tn, bd, hn, h1, h2, h3, hk⟩, ⟨to, T, W, g1, g2, g3, g4, g5, g6, g7, g8⟩, -⟩ := id hR
  unfold pu_best wpX9_best wpX10_best
  by_cases hx : ∃ i, i < n ∧ a1 = nI i
  · obtain ⟨i, hi, rfl⟩ := hx
    obtain ⟨⟨b0, b1, b2, b3, b4, b5⟩, ⟨c0, c1, c2, c3, c4, c5, c6⟩, d0, d1, d2, d3⟩ := hk i hi
    simp only [kA_yes hn h2 h1 hi, kn10_yes hn h3 hi, ev9_within, ev10_within, ev9_isStage, ev10_isStage, g2, g3]
    by_cases p1 : 0 ≤ a2 ∧ a2 ≤ 9
    · by_cases p2 : 0 ≤ a3 ∧ a3 ≤ 1
      · by_cases p5 : to = 0
        · exact ⟨-3, hR, by simp [p1, p2, p5, show nI 0 = 0 from rfl], by simp [p1, p2, p5, show nI 0 = 0 from rfl]⟩
        · obtain ⟨st, -, hst, rfl⟩ := pb_rng 0 9 rfl rfl (by decide) (by decide) p1
          have e3 : nI to ≠ 0 := fun z => p5 ((to_cases g1).mp z)
          have hW := fun j hj => (g7 j hj).1
          generalize hB : bs2 (fun f s => nI (swt (kd i) (pc i) (tn i) (wd (kd i) (bd i)) W st s f)) 40 = B
          have nz : ¬ (1 : Int32) = 0 := by decide
          refine ⟨if a3 = 0 then B.2.1 else B.2.2, hR, ?_, ?_⟩
          · refine ⟨fun _ => ⟨fun z => absurd z nz, fun _ => ⟨fun _ => ⟨fun _ => ⟨fun _ => ?_, fun z => absurd z e3⟩, fun z => absurd z nz⟩, fun z => absurd p2 z⟩⟩, fun z => absurd p1 z⟩
            refine be9 (g := fun f s => nI (swt (kd i) (pc i) (tn i) (wd (kd i) (bd i)) W st s f)) (fun f s hf hs Q' hq => sw9 c0 b0 c2 c3 c6 b1 b2 b4 hW (fun j hj => (g7 j hj).2.1) hs hf hst hq) ?_
            rw [hB]
            exact ⟨fun z => (if_neg z).symm, fun z => (if_pos z).symm⟩
          · refine ⟨fun _ => ⟨fun _ => ⟨fun z => absurd z nz, fun _ => ⟨fun _ => ⟨fun _ => ⟨fun _ => ?_, fun z => absurd z e3⟩, fun z => absurd z nz⟩, fun z => absurd p2 z⟩⟩, fun z => absurd p1 z⟩, fun z => absurd z nz⟩
            refine be10 (g := fun f s => nI (swt (kd i) (pc i) (tn i) (wd (kd i) (bd i)) W st s f)) (fun f s hf hs Q' hq => sw10 (by omega) b0 b5 d0 d3 d1 d2 b1 b2 b4 hW (fun j hj => (g7 j hj).2.2) hs hf hst hq) ?_
            rw [hB]
            exact ⟨fun z => (if_neg z).symm, fun z => (if_pos z).symm⟩
      · exact ⟨-2, hR, by simp [p1, p2], by simp [p1, p2]⟩
    · exact ⟨-2, hR, by simp [p1], by simp [p1]⟩
  · simp only [kA_no hn h2 hx, kn10_no hn h3 hx]
    exact ⟨-1, hR, by simp, by simp⟩
