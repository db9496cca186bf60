/-! ===== the cell nearest her ===== -/
theorem pb_d1 {k : Nat} (hk : k < 100) : ((1 : Int32) < nI k - 1 ↔ 3 ≤ k) ∧ ((2 : Int32) ≤ nI k - 1 ↔ 3 ≤ k) ∧ (nI k - 1 = 0 ↔ k = 1) ∧ (nI k - 1 + 1 = nI (k + 1) - 1) ∧ (nI k - 1 = nI (k + 1) - 2) := by
  refine ⟨?_, ?_, ?_, ?_, ?_⟩
  · rw [Int32.lt_iff_toInt_lt, show (1 : Int32) = nI 1 from rfl, pk_sub_toInt (by omega) (by omega), nI_toInt (by omega)]
    omega
  · rw [Int32.le_iff_toInt_le, show (1 : Int32) = nI 1 from rfl, show (2 : Int32) = nI 2 from rfl, pk_sub_toInt (by omega) (by omega), nI_toInt (by omega)]
    omega
  · rw [← Int32.toInt_inj, show (1 : Int32) = nI 1 from rfl, show (0 : Int32) = nI 0 from rfl, pk_sub_toInt (by omega) (by omega), nI_toInt (by omega)]
    omega
  · rw [← nI_1]; grind
  · rw [← nI_1]; grind
def hbt (h w : Nat) (L : Nat → Nat) (c k j : Nat) : Nat := if ¬ (k = 2 ∧ j = 2) ∧ inr h w c k j ∧ hit 12 (L (cix w c k j)) = true then 1 else 0
def hbr (h w : Nat) (L : Nat → Nat) (c k : Nat) : Nat := sm5 (fun j => hbt h w L c k (j + 1)) 3
def hab (h w : Nat) (L : Nat → Nat) (c : Nat) : Nat := sm5 (fun k => hbr h w L c (k + 1)) 3
theorem hab2 {h w : Nat} {L : Nat → Nat} {c : Nat} : sm5 (fun d => hbr h w L c (3 - d)) 3 = hab h w L c := by
  unfold hab
  change 0 + hbr h w L c 3 + hbr h w L c 2 + hbr h w L c 1 = 0 + hbr h w L c 1 + hbr h w L c 2 + hbr h w L c 3
  omega
theorem sm5_s {g : Nat → Nat} {n : Nat} : sm5 g (n + 1) = sm5 g n + g n := rfl
theorem hi9 {kt : kw_T} {iv : fw_F} {ar : fw_R} {h w c d acc : Nat} {L : Nat → Nat} {Q : Int32 → Prop} {x1 : Int32} {K : Int32 → Int32 → Prop} (hh : h ≤ 6) (hw : w ≤ 6) (e1 : iv 4 = nI h) (e2 : iv 5 = nI w) (hL : ∀ c, c < h * w → L c < 4 ∧ ar 5 c = nI (L c)) (hc : c < h * w) (hd : d < 3) (hK : K (nI (acc + hbr h w L c (3 - d))) (nI 3 - 1)) : ∃ ku, wpX0_hersAbout_L27 kt x1 (nI d - 1) (nI (c % w)) (nI (c / w)) iv ar Q K ku (nI acc) (-1) := by
  refine pk_loop (σ := Int32) (fun n j z => wpX0_hersAbout_L27 kt x1 (nI d - 1) (nI (c % w)) (nI (c / w)) iv ar Q K n z (nI j - 1)) (fun j z => z = nI (acc + sm5 (fun j => hbt h w L c (3 - d) (j + 1)) j)) 3 0 (nI acc) (by omega) rfl ?_ ?_
  · rintro n _ rfl
    exact ⟨fun _ => hK, fun y => absurd ((pb_d1 (k := 3) (by omega)).1.mpr (by omega)) y⟩
  · rintro n j _ hj rfl ih
    have ih2 := ih _ rfl
    rw [sm5_s] at ih2
    unfold wpX0_hersAbout_L27
    refine ⟨fun y => absurd ((pb_d1 (k := j) (by omega)).1.mp y) (by omega), fun _ => ?_⟩
    have r1 : nI (c / w) + (nI d - 1) = nI (c / w) - (nI (3 - d) - 2) := by
      rw [← pk_sub (show d ≤ 3 by omega), show nI 3 = 3 from rfl]; grind
    have r2 : nI (c % w) + (nI j - 1) = nI (c % w) + (nI (j + 1) - 2) := by
      rw [← nI_1]; grind
    have n1 := (pb_d1 (k := j) (by omega)).2.2.2.1
    have go : ¬ (d = 1 ∧ j = 1) → wpX0_isOf kt iv ar 12 (nI (c / w) + (nI d - 1)) (nI (c % w) + (nI j - 1)) 0 (fun (r7 : Int32) => (r7 = 0 → (∀ y9 : Int32, y9 = nI j - 1 + 1 → (wpX0_hersAbout_L27 kt x1 (nI d - 1) (nI (c % w)) (nI (c / w)) iv ar Q K n (nI (acc + sm5 (fun j => hbt h w L c (3 - d) (j + 1)) j)) y9))) ∧ (¬ r7 = 0 → (∀ y10 : Int32, y10 = nI (acc + sm5 (fun j => hbt h w L c (3 - d) (j + 1)) j) + 1 → (∀ y11 : Int32, y11 = nI j - 1 + 1 → (wpX0_hersAbout_L27 kt x1 (nI d - 1) (nI (c % w)) (nI (c / w)) iv ar Q K n y10 y11))))) := fun z => by
      rw [r1, r2]
      have z2 : ¬ (3 - d = 2 ∧ j + 1 = 2) := by omega
      refine io9 (s := 12) (q := 0) (S := L) hh hw e1 e2 (fun c hc => (hL c hc).2) (fun c hc => (hL c hc).1) (fun r c _ _ => rfl) hc (by omega) (by omega) (Or.inl rfl) (by omega) (by omega) (fun i1 i2 => ?_) (fun i1 => ?_)
      · have e : hbt h w L c (3 - d) (j + 1) = 1 := by unfold hbt; rw [if_pos ⟨z2, i1, i2⟩]
        rw [e] at ih2
        refine ⟨fun y => absurd y (by decide), fun _ => ?_⟩
        rintro _ rfl _ rfl
        rw [n1, nI_1, Nat.add_assoc]
        exact ih2
      · have e : hbt h w L c (3 - d) (j + 1) = 0 := by unfold hbt; rw [if_neg (fun u => i1 u.2)]
        rw [e] at ih2
        refine ⟨fun _ => ?_, fun y => absurd rfl y⟩
        rintro _ rfl
        rw [n1]
        exact ih2
    have q1 := (pb_d1 (k := d) (by omega)).2.2.1
    have q2 := (pb_d1 (k := j) (by omega)).2.2.1
    refine ⟨fun y => go (fun u => y (q1.mpr u.1)), fun y => ⟨fun y2 => go (fun u => y2 (q2.mpr u.2)), fun y2 => ?_⟩⟩
    rintro _ rfl
    have e : hbt h w L c (3 - d) (j + 1) = 0 := by
      have := q1.mp y
      have := q2.mp y2
      unfold hbt; rw [if_neg (fun u => u.1 (by omega))]
    rw [e] at ih2
    rw [n1]
    exact ih2
theorem ha9 {kt : kw_T} {iv : fw_F} {ar : fw_R} {h w c : Nat} {L : Nat → Nat} {Q : Int32 → Prop} (hh : h ≤ 6) (hw : w ≤ 6) (e1 : iv 4 = nI h) (e2 : iv 5 = nI w) (hL : ∀ c, c < h * w → L c < 4 ∧ ar 5 c = nI (L c)) (hc : c < h * w) (hQ : Q (nI (hab h w L c))) : wpX0_hersAbout kt iv ar (nI c) Q := by
  unfold wpX0_hersAbout
  obtain ⟨d1, d2, d3, d4, d5⟩ := cdiv hc
  have h36 : h * w ≤ 36 := Nat.mul_le_mul hh hw
  refine (rw9 hw d1 (by omega) e2).1.mpr ?_
  refine (rw9 hw d1 (by omega) e2).2.mpr ?_
  refine pk_loop (σ := Int32) (fun n d z => wpX0_hersAbout_L18 kt (nI c) (nI (c % w)) (nI (c / w)) iv ar Q (fun w24 _ => Q w24) n z (nI d - 1)) (fun d z => z = nI (sm5 (fun d => hbr h w L c (3 - d)) d)) 3 0 0 (by omega) rfl ?_ ?_
  · rintro n _ rfl
    refine ⟨fun _ => ?_, fun y => absurd ((pb_d1 (k := 3) (by omega)).1.mpr (by omega)) y⟩
    rw [hab2]; exact hQ
  · rintro n d _ hd rfl ih
    refine ⟨fun y => absurd ((pb_d1 (k := d) (by omega)).1.mp y) (by omega), fun _ => ?_⟩
    refine hi9 hh hw e1 e2 hL hc hd ?_
    rintro _ rfl
    rw [(pb_d1 (k := d) (by omega)).2.2.2.1]
    exact ih _ rfl
theorem cix_c {h w c k j : Nat} (hc : c < h * w) (z : inr h w c k j) : cix w c k j = c ↔ k = 2 ∧ j = 2 := by
  obtain ⟨d1, d2, d3, d4, d5⟩ := cdiv hc
  obtain ⟨⟨z1, z2⟩, z3, z4⟩ := z
  unfold cix
  constructor
  · intro e
    have a1 : ((c / w + 2 - k) * w + (c % w + j - 2)) / w = c / w := by rw [e]
    have a2 : ((c / w + 2 - k) * w + (c % w + j - 2)) % w = c % w := by rw [e]
    rw [Nat.mul_comm, Nat.mul_add_div d1, Nat.div_eq_of_lt z4] at a1
    rw [Nat.mul_comm, Nat.mul_add_mod, Nat.mod_eq_of_lt z4] at a2
    omega
  · rintro ⟨rfl, rfl⟩
    exact d5
theorem cb10b {jv : fw_F} {br : fw_R} {h w c u j : Nat} {Q : Int32 → Prop} (hh : h ≤ 6) (hw : w ≤ 6) (e1 : jv 16 = nI h) (e2 : jv 17 = nI w) (hc : c < h * w) (hu : u < 3) (hj : j < 3) (h1 : inr h w c (u + 1) (j + 1) → Q (nI (cix w c (u + 1) (j + 1)))) (h0 : ¬ inr h w c (u + 1) (j + 1) → Q (-9)) : wpX10_cellBy jv br (nI c) (nI u - 1) (nI j - 1) Q := by
  rw [(pb_d1 (k := u) (by omega)).2.2.2.2, (pb_d1 (k := j) (by omega)).2.2.2.2]
  exact cb10 hh hw e1 e2 hc (by omega) (by omega) h1 h0
theorem hi10 {jv : fw_F} {br : fw_R} {h w c u acc : Nat} {L : Nat → Nat} {Q : Int32 → Prop} {K : Int32 → Int32 → Prop} (hh : h ≤ 6) (hw : w ≤ 6) (e1 : jv 16 = nI h) (e2 : jv 17 = nI w) (hL : ∀ c, c < h * w → L c < 4 ∧ br 18 c = nI (L c)) (hc : c < h * w) (hu : u < 3) (hK : K (nI (acc + hbr h w L c (u + 1))) (nI 3 - 1)) : ∃ ku, wpX10_hersAbout_L12 (nI c) (nI u - 1) jv br Q K ku (nI acc) (-1) := by
  have h36 : h * w ≤ 36 := Nat.mul_le_mul hh hw
  refine pk_loop (σ := Int32) (fun n j z => wpX10_hersAbout_L12 (nI c) (nI u - 1) jv br Q K n z (nI j - 1)) (fun j z => z = nI (acc + sm5 (fun j => hbt h w L c (u + 1) (j + 1)) j)) 3 0 (nI acc) (by omega) rfl ?_ ?_
  · rintro n _ rfl
    exact ⟨fun _ => hK, fun y => absurd ((pb_d1 (k := 3) (by omega)).2.1.mpr (by omega)) y⟩
  · rintro n j _ hj rfl ih
    have ih2 := ih _ rfl
    rw [sm5_s] at ih2
    unfold wpX10_hersAbout_L12
    refine ⟨fun y => absurd ((pb_d1 (k := j) (by omega)).2.1.mp y) (by omega), fun _ => ?_⟩
    have n1 := (pb_d1 (k := j) (by omega)).2.2.2.1
    have no : hbt h w L c (u + 1) (j + 1) = 0 → ∀ y6 : Int32, y6 = nI (acc + sm5 (fun j => hbt h w L c (u + 1) (j + 1)) j) + 0 → ∀ y7 : Int32, y7 = nI j - 1 + 1 → wpX10_hersAbout_L12 (nI c) (nI u - 1) jv br Q K n y6 y7 := fun e => by
      rw [e] at ih2
      rintro _ rfl _ rfl
      rw [n1, show (0 : Int32) = nI 0 from rfl, nI_add]
      exact ih2
    refine cb10b hh hw e1 e2 hc hu hj (fun z => ?_) (fun z => ?_)
    · have lt := cix_lt z
      have ec : (nI (cix w c (u + 1) (j + 1)) = nI c) ↔ (u + 1 = 2 ∧ j + 1 = 2) := by
        rw [nI_eq (by omega) (by omega)]; exact cix_c hc z
      refine ⟨fun y => absurd y (nI_ne9 (by omega)), fun _ => ⟨fun y => no ?_, fun y => ⟨pb_vin (by omega) (by decide), ?_⟩⟩⟩
      · unfold hbt; rw [if_neg (fun v => v.1 (ec.mp y))]
      · rw [pb_cl (by omega), (hL _ lt).2]
        have l4 := (hL _ lt).1
        have eh : (nI (L (cix w c (u + 1) (j + 1))) ≤ 1) ↔ ¬ hit 12 (L (cix w c (u + 1) (j + 1))) = true := by
          rw [show (1 : Int32) = nI 1 from rfl, nI_leI (by omega) (by omega)]
          generalize L (cix w c (u + 1) (j + 1)) = l at l4 ⊢
          rcases (show l = 0 ∨ l = 1 ∨ l = 2 ∨ l = 3 by omega) with rfl | rfl | rfl | rfl <;> decide
        rw [eh]
        refine ⟨fun q => no ?_, fun q => ?_⟩
        · unfold hbt; rw [if_neg (fun v => q v.2.2)]
        · have e : hbt h w L c (u + 1) (j + 1) = 1 := by
            unfold hbt; rw [if_pos ⟨fun v => y (ec.mpr v), z, Classical.not_not.mp q⟩]
          rw [e] at ih2
          rintro _ rfl _ rfl
          rw [n1, nI_1, Nat.add_assoc]
          exact ih2
    · refine ⟨fun _ => no ?_, fun y => absurd rfl y⟩
      unfold hbt; rw [if_neg (fun v => z v.2.1)]
theorem ha10 {jv : fw_F} {br : fw_R} {h w c : Nat} {L : Nat → Nat} {Q : Int32 → Prop} (hh : h ≤ 6) (hw : w ≤ 6) (e1 : jv 16 = nI h) (e2 : jv 17 = nI w) (hL : ∀ c, c < h * w → L c < 4 ∧ br 18 c = nI (L c)) (hc : c < h * w) (hQ : Q (nI (hab h w L c))) : wpX10_hersAbout jv br (nI c) Q := by
  unfold wpX10_hersAbout
  refine pk_loop (σ := Int32) (fun n d z => wpX10_hersAbout_L4 (nI c) jv br Q (fun w19 _ => Q w19) n z (nI d - 1)) (fun d z => z = nI (sm5 (fun d => hbr h w L c (d + 1)) d)) 3 0 0 (by omega) rfl ?_ ?_
  · rintro n _ rfl
    exact ⟨fun _ => hQ, fun y => absurd ((pb_d1 (k := 3) (by omega)).2.1.mpr (by omega)) y⟩
  · rintro n d _ hd rfl ih
    refine ⟨fun y => absurd ((pb_d1 (k := d) (by omega)).2.1.mp y) (by omega), fun _ => ?_⟩
    refine hi10 hh hw e1 e2 hL hc hd ?_
    rintro _ rfl
    rw [(pb_d1 (k := d) (by omega)).2.2.2.1]
    exact ih _ rfl
def nea (al : Nat → Bool) (ab : Nat → Nat) : Nat → Int32 × Int32
  | 0 => (-9, -1)
  | n + 1 => if al n = true ∧ ¬ nI (ab n) ≤ (nea al ab n).2 then (nI n, nI (ab n)) else nea al ab n
theorem op_nearest : lw_o15 Rl := by
  intro kt iv ar jv br hR a1 a2
  obtain ⟨-, ⟨to, T, W, g1, g2, g3, g4, g5, g6, g7, g8⟩, ⟨h, w, L, u1, u2, u3, u4, u5, u6, u7, u8⟩, -⟩ := id hR
  unfold pu_nearest wpX9_nearest wpX10_nearest
  have h36 : h * w ≤ 36 := Nat.mul_le_mul u1 u2
  simp only [rr9 u1 u2 u3 u4 u5 g1 g2, wr10 u1 u6 g1 g3]
  by_cases a : 0 ≤ a1 ∧ a1 ≤ 1000
  · by_cases b : 0 ≤ a2 ∧ a2 ≤ 9
    · by_cases c : to = 1 ∧ 1 ≤ h
      · simp only [if_pos a, if_pos b, if_pos c]
        obtain ⟨m, -, hm, rfl⟩ := pb_rng 0 1000 rfl rfl (by decide) (by decide) a
        obtain ⟨st, -, hst, rfl⟩ := pb_rng 0 9 rfl rfl (by decide) (by decide) b
        have hW := fun j hj => (g7 j hj).1
        have l3 := (alw_b (st := st) hW (g8 c.1)).2
        refine ⟨(nea (alo h w L W st m) (hab h w L) (h * w)).1, fun jv1 br1 => Rl kt iv ar jv1 br1, fun _ _ z => z, ⟨fun _ => ?_, fun z => absurd trivial z⟩, ⟨fun _ => ?_, fun z => absurd trivial z⟩⟩
        · refine pk_loop (σ := Int32 × Int32) (fun n j z => wpX9_nearest_L23 kt (nI m) (nI st) iv ar (fun r2 => r2 = (nea (alo h w L W st m) (hab h w L) (h * w)).1) (fun w12 _ _ => w12 = (nea (alo h w L W st m) (hab h w L) (h * w)).1) n z.1 z.2 (nI j)) (fun j z => z = nea (alo h w L W st m) (hab h w L) j) (h * w) 0 (-9, -1) (by omega) rfl ?_ ?_
          · intro n s hs
            unfold wpX9_nearest_L23 wpX0_count
            rw [u4, u5, pk_mul, hs]
            exact ⟨fun _ => rfl, fun y => absurd (nI_le (Nat.le_refl _) (by omega)) y⟩
          · intro n j s hj hs ih
            have ih2 := ih _ rfl
            simp only [nea] at ih2
            unfold wpX9_nearest_L23 wpX0_count
            rw [u4, u5, pk_mul]
            refine ⟨fun y => absurd y (nI_ge (by omega) (by omega)), fun _ => ?_⟩
            refine ha9 u1 u2 u4 u5 (fun c hc => ⟨(u8 c hc).1, (u8 c hc).2.1⟩) hj ⟨fun y => ?_, fun y => ?_⟩
            · rintro _ rfl
              rw [nI_1]
              rw [if_neg (fun v => v.2 (by rw [← hs]; exact y)), ← hs] at ih2
              exact ih2
            · refine ia9 u1 u2 u4 u5 (fun c hc => ⟨(u8 c hc).1, (u8 c hc).2.1⟩) (by omega) hW (fun j hj => (g7 j hj).2.1) hst hm l3 (fun g => ⟨fun z => absurd z (by decide), fun _ => ?_⟩) (fun g => ⟨fun _ => ?_, fun z => absurd rfl z⟩)
              · rintro _ rfl
                rw [nI_1]
                rw [if_pos ⟨g, by rw [← hs]; exact y⟩] at ih2
                exact ih2
              · rintro _ rfl
                rw [nI_1]
                rw [if_neg (fun v => g v.1), ← hs] at ih2
                exact ih2
        · refine ls10 u1 u2 u6 u7 (fun c hc => (u8 c hc).2.2) (fun g hg => ?_)
          refine pk_loop (σ := Int32 × Int32) (fun n j z => wpX10_nearest_L27 (nI m) (nI st) jv (va_up br 22 g) (fun r2 jv2 br2 => r2 = (nea (alo h w L W st m) (hab h w L) (h * w)).1 ∧ Rl kt iv ar jv2 br2) (fun w12 _ _ => w12 = (nea (alo h w L W st m) (hab h w L) (h * w)).1 ∧ Rl kt iv ar jv (va_up br 22 g)) n z.1 z.2 (nI j)) (fun j z => z = nea (alo h w L W st m) (hab h w L) j) (h * w) 0 (-9, -1) (by omega) rfl ?_ ?_
          · intro n s hs
            unfold wpX10_nearest_L27
            rw [u6, u7, pk_mul, hs]
            exact ⟨fun _ => ⟨rfl, Rl_seen hR g⟩, fun y => absurd (nI_le (Nat.le_refl _) (by omega)) y⟩
          · intro n j s hj hs ih
            have ih2 := ih _ rfl
            simp only [nea] at ih2
            unfold wpX10_nearest_L27
            rw [u6, u7, pk_mul]
            refine ⟨fun y => absurd y (nI_ge (by omega) (by omega)), fun _ => ?_⟩
            refine ia10 u1 u2 u6 u7 (fun c hc => (u8 c hc).2.2) (fun c hc => ⟨hg c hc, (u8 c hc).1⟩) (by omega) hW (fun j hj => (g7 j hj).2.2) hst hm l3 (fun g => ⟨fun z => absurd z (by decide), fun _ => ?_⟩) (fun g => ⟨fun _ => ?_, fun z => absurd rfl z⟩)
            · refine ha10 u1 u2 u6 u7 (fun c hc => ⟨(u8 c hc).1, (u8 c hc).2.2⟩) hj ⟨fun y => ?_, fun y => ?_⟩
              · rintro _ rfl
                rw [nI_1]
                rw [if_neg (fun v => v.2 (by rw [← hs]; exact y)), ← hs] at ih2
                exact ih2
              · refine ha10 u1 u2 u6 u7 (fun c hc => ⟨(u8 c hc).1, (u8 c hc).2.2⟩) hj ?_
                rintro _ rfl
                rw [nI_1]
                rw [if_pos ⟨g, by rw [← hs]; exact y⟩] at ih2
                exact ih2
            · rintro _ rfl
              rw [nI_1]
              rw [if_neg (fun v => g v.1), ← hs] at ih2
              exact ih2
      · exact ⟨-3, fun jv1 br1 => Rl kt iv ar jv1 br1, fun _ _ z => z, by simp [a, b, c], by simp [a, b, c, hR]⟩
    · exact ⟨-2, fun jv1 br1 => Rl kt iv ar jv1 br1, fun _ _ z => z, by simp [a, b], by simp [a, b, hR]⟩
  · exact ⟨-2, fun jv1 br1 => Rl kt iv ar jv1 br1, fun _ _ z => z, by simp [a], by simp [a, hR]⟩
