/-! ===== a board's text ===== -/
def isl (v : Int32) : Prop := v = 119 ∨ v = 107 ∨ v = 120 ∨ v = 121
def lt (v : Int32) : Nat := if v = 119 then 0 else if v = 107 then 1 else if v = 120 then 2 else 3
theorem lt_lt {v : Int32} : lt v < 4 := by
  unfold lt
  split
  · decide
  · split
    · decide
    · split <;> decide
theorem lo9 {v : Int32} {Q : Int32 → Prop} (h1 : isl v → Q (nI (lt v))) (h0 : ¬ isl v → Q (-1)) : wpX0_letterOf v Q := by
  unfold wpX0_letterOf
  unfold isl lt at *
  refine ⟨fun z => ?_, fun z => ?_, fun z => ?_, fun z => ?_, fun z1 z2 z3 z4 => ?_⟩
  · subst z; exact h1 (Or.inr (Or.inl rfl))
  · subst z; exact h1 (Or.inl rfl)
  · subst z; exact h1 (Or.inr (Or.inr (Or.inl rfl)))
  · subst z; exact h1 (Or.inr (Or.inr (Or.inr rfl)))
  · exact h0 (fun u => by rcases u with u | u | u | u <;> contradiction)
theorem lo10l {v : Int32} {Q : Int32 → Prop} (h1 : isl v → Q (nI (lt v))) (h0 : ¬ isl v → Q (-9)) : wpX10_letterOf v Q := by
  unfold wpX10_letterOf
  unfold isl lt at *
  refine ⟨fun z => ?_, fun z => ?_, fun z => ?_, fun z => ?_, fun z1 z2 z3 z4 => ?_⟩
  · subst z; exact h1 (Or.inr (Or.inl rfl))
  · subst z; exact h1 (Or.inl rfl)
  · subst z; exact h1 (Or.inr (Or.inr (Or.inl rfl)))
  · subst z; exact h1 (Or.inr (Or.inr (Or.inr rfl)))
  · exact h0 (fun u => by rcases u with u | u | u | u <;> contradiction)
theorem isl_59 {v : Int32} (h : isl v) : ¬ v = 59 := by
  rcases h with rfl | rfl | rfl | rfl <;> decide
def d16 (v : Int32) : Prop := 49 ≤ v ∧ v ≤ 54
theorem d16_of {v : Int32} : d16 v ↔ dig v ∧ 1 ≤ dg v ∧ dg v ≤ 6 := by
  constructor
  · intro h
    obtain ⟨j, j1, j2, rfl⟩ := pb_rng 49 54 rfl rfl (by decide) (by decide) h
    have dd : dig (nI j) := pb_in (a := 48) (c := 57) rfl rfl (by decide) (by omega) (by omega)
    obtain ⟨x, x1, x2, x3, x4⟩ := dig_of dd
    rw [nI_eq (by omega) (by omega)] at x1
    exact ⟨dd, by omega, by omega⟩
  · rintro ⟨dd, h1, h2⟩
    obtain ⟨x, x1, x2, x3, x4⟩ := dig_of dd
    rw [x1]
    exact pb_in (a := 49) (c := 54) rfl rfl (by decide) (by omega) (by omega)
/-- a board's text goes on at a place -/
def gpb (V : Nat → Int32) (p : Nat) : Prop :=
  if p = 0 then V 0 = 98 else if p < 3 then d16 (V p) else (p - 3) / (dg (V 2) + 1) < dg (V 1) ∧ (if (p - 3) % (dg (V 2) + 1) = 0 then V p = 59 else isl (V p))
/-- where a row begins in the text -/
def pP (w row : Nat) : Nat := 3 + row * (w + 1)
theorem pP_s {w row : Nat} : pP w (row + 1) = pP w row + w + 1 := by unfold pP; rw [Nat.succ_mul]; omega
theorem pP_0 {w : Nat} : pP w 0 = 3 := by unfold pP; omega
theorem pP_mono {w a : Nat} : ∀ {b : Nat}, a ≤ b → pP w a ≤ pP w b := by
  intro b h
  unfold pP
  have := Nat.mul_le_mul_right (w + 1) h
  omega
theorem pP_dm {w row k : Nat} (hk : k ≤ w) : (pP w row + k - 3) / (w + 1) = row ∧ (pP w row + k - 3) % (w + 1) = k := by
  have e : pP w row + k - 3 = (w + 1) * row + k := by unfold pP; rw [Nat.mul_comm]; omega
  rw [e, Nat.mul_add_div (by omega), Nat.div_eq_of_lt (by omega), Nat.mul_add_mod, Nat.mod_eq_of_lt (by omega)]
  exact ⟨rfl, rfl⟩
theorem gpb_r {V : Nat → Int32} {row k : Nat} (hk : k ≤ dg (V 2)) : gpb V (pP (dg (V 2)) row + k) ↔ row < dg (V 1) ∧ (if k = 0 then V (pP (dg (V 2)) row + k) = 59 else isl (V (pP (dg (V 2)) row + k))) := by
  have h3 : 3 ≤ pP (dg (V 2)) row + k := by unfold pP; omega
  have d := pP_dm (row := row) hk
  unfold gpb
  rw [if_neg (by omega), if_neg (by omega), d.1, d.2]
theorem gob9 {kt : kw_T} {iv : fw_F} {ar : fw_R} {V : Nat → Int32} {p : Nat} {Q : Int32 → Prop} (hp : p < 80) (hV : ∀ t, t ≤ p → ar 25 t = V t) (hprev : ∀ q, q < p → gpb V q) (h1 : gpb V p → Q 1) (h0 : ¬ gpb V p → Q 0) : wpX0_goesOn kt iv ar (nI p) Q := by
  unfold wpX0_goesOn
  refine ⟨fun _ => ⟨pb_vin hp (by decide), ?_⟩, fun y => absurd (nI_lt (b := 80) (by omega) (by omega)) y⟩
  rw [pb_cl (by omega), hV p (Nat.le_refl _)]
  rintro _ rfl
  have a0 : (nI p = 0) ↔ p = 0 := nI_eq (b := 0) (by omega) (by omega)
  have a3 : ((3 : Int32) ≤ nI p) ↔ 3 ≤ p := nI_leI (a := 3) (by omega) (by omega)
  rw [a0, a3]
  unfold gpb at h1 h0
  refine ⟨fun n0 => ⟨fun n3 => ⟨pb_vin (n := 2) (by omega) (by decide), ?_⟩, fun n3 => ?_⟩, fun n0 => ?_⟩
  · rw [if_neg n0, if_neg (by omega)] at h1 h0
    have g1 : d16 (V 1) := by
      have := hprev 1 (by omega)
      unfold gpb at this
      rw [if_neg (by omega), if_pos (by omega)] at this
      exact this
    have g2 : d16 (V 2) := by
      have := hprev 2 (by omega)
      unfold gpb at this
      rw [if_neg (by omega), if_pos (by omega)] at this
      exact this
    rw [d16_of] at g1 g2
    have e2 : ar 25 (2 : Int32).toNatClampNeg = V 2 := hV 2 (by omega)
    have e1 : ar 25 (1 : Int32).toNatClampNeg = V 1 := hV 1 (by omega)
    rw [e1, e2, (dg_eq g1.1).1, (dg_eq g2.1).1, nI_1]
    rintro _ rfl
    have nz : ¬ nI (dg (V 2) + 1) = 0 := nI_ne0 (by omega) (by omega)
    have e3 : nI p - 3 = nI (p - 3) := by rw [show (3 : Int32) = nI 3 from rfl, pk_sub n3]
    rw [e3, pk_rem (show p - 3 < 2 ^ 31 by omega) (show 0 < dg (V 2) + 1 by omega) (by omega), pk_div (show p - 3 < 2 ^ 31 by omega) (show 0 < dg (V 2) + 1 by omega) (by omega)]
    have dl : (p - 3) / (dg (V 2) + 1) ≤ p - 3 := Nat.div_le_self _ _
    have ml : (p - 3) % (dg (V 2) + 1) ≤ p - 3 := Nat.mod_le _ _
    refine ⟨fun _ => ⟨nz, ?_⟩, fun y => absurd (nI_le (a := 2) (by omega) (by omega)) y⟩
    rintro _ rfl
    refine ⟨nz, ?_⟩
    rintro _ rfl
    have m0 : (nI ((p - 3) % (dg (V 2) + 1)) = 0) ↔ (p - 3) % (dg (V 2) + 1) = 0 := nI_eq (b := 0) (by omega) (by omega)
    rw [m0, nI_ltI (by omega) (by omega)]
    refine ⟨pb_vin (n := 1) (by omega) (by decide), fun yr => ⟨fun ym => ?_, fun ym => ?_⟩, fun yr => h0 (fun u => yr u.1)⟩
    · rw [if_neg ym] at h1 h0
      refine lo9 (fun z => ⟨fun y => absurd y ?_, fun _ => h1 ⟨yr, z⟩⟩) (fun z => ⟨fun _ => h0 (fun u => z u.2), fun y => absurd rfl y⟩)
      have := lt_lt (v := V p)
      intro y
      have e := congrArg Int32.toInt y
      rw [nI_toInt (by omega)] at e
      have e' : (-1 : Int32).toInt = -1 := rfl
      omega
    · rw [if_pos ym] at h1 h0
      exact ⟨fun z => h0 (fun u => z u.2), fun z => h1 ⟨yr, z⟩⟩
  · rw [if_neg n0, if_pos (by omega)] at h1 h0
    rw [ev9_within]
    exact ⟨fun z => ⟨Or.inr rfl, h1 z⟩, fun z => ⟨Or.inl rfl, h0 z⟩⟩
  · subst n0
    rw [if_pos rfl] at h1 h0
    exact ⟨h0, h1⟩
/-- where a board's text of n codes stops going on -/
def stb (V : Nat → Int32) (n s : Nat) : Prop := s ≤ n ∧ (∀ q, q < s → gpb V q) ∧ (s = n ∨ ¬ gpb V s)
theorem stb_ex (V : Nat → Int32) (n : Nat) : ∃ s, stb V n s := by
  obtain ⟨s, h1, h2⟩ := pk_least (fun s => s = n ∨ ¬ gpb V s) ⟨n, Or.inl rfl⟩
  refine ⟨s, ?_, fun q hq => Classical.not_not.mp (fun y => h2 q hq (Or.inr y)), h1⟩
  rcases Nat.lt_or_ge n s with z | z
  · exact absurd (Or.inl rfl) (h2 n z)
  · exact z
theorem stb_d {V : Nat → Int32} {n s : Nat} (h : stb V n s) (h3 : 3 ≤ s) : (dig (V 1) ∧ 1 ≤ dg (V 1) ∧ dg (V 1) ≤ 6) ∧ (dig (V 2) ∧ 1 ≤ dg (V 2) ∧ dg (V 2) ≤ 6) ∧ s ≤ pP (dg (V 2)) (dg (V 1)) := by
  refine ⟨?_, ?_, ?_⟩
  · have := h.2.1 1 (by omega)
    unfold gpb at this
    rw [if_neg (by omega), if_pos (by omega)] at this
    exact d16_of.mp this
  · have := h.2.1 2 (by omega)
    unfold gpb at this
    rw [if_neg (by omega), if_pos (by omega)] at this
    exact d16_of.mp this
  · rcases Nat.lt_or_ge (pP (dg (V 2)) (dg (V 1))) s with z | z
    · have := (gpb_r (V := V) (row := dg (V 1)) (k := 0) (by omega)).mp (h.2.1 _ z)
      omega
    · exact z
def okb (V : Nat → Int32) (n s : Nat) : Prop := s = n ∧ 3 ≤ n ∧ n = pP (dg (V 2)) (dg (V 1))
theorem fb9 {kt : kw_T} {iv : fw_F} {ar : fw_R} {V : Nat → Int32} {n s : Nat} {Q : Int32 → Prop} (hn : n ≤ 80) (hV : ∀ t, t < n → ar 25 t = V t) (hs : stb V n s) (h1 : okb V n s → Q (-9)) (h0 : ¬ okb V n s → Q (nI s)) : wpX0_firstFault kt iv ar (nI n) Q := by
  unfold wpX0_firstFault
  have hs' := hs
  obtain ⟨s1, s2, s3⟩ := hs
  refine pk_loop (σ := Unit) (fun f p _ => wpX0_firstFault_L2 kt (nI n) iv ar Q _ f (nI p)) (fun _ _ => True) s 0 () (by omega) trivial ?_ ?_
  · intro f _ _
    refine ⟨fun y => ?_, fun y => ?_⟩
    · rw [nI_leI (by omega) (by omega)] at y
      have e : s = n := by omega
      have a3 : ((3 : Int32) ≤ nI n) ↔ 3 ≤ n := nI_leI (a := 3) (by omega) (by omega)
      rw [a3]
      refine ⟨fun z => ⟨pb_vin (n := 1) (by omega) (by decide), pb_vin (n := 2) (by omega) (by decide), ?_⟩, fun z => ?_⟩
      · obtain ⟨g1, g2, g3⟩ := stb_d hs' (by omega)
        have e2 : ar 25 (2 : Int32).toNatClampNeg = V 2 := hV 2 (by omega)
        have e1 : ar 25 (1 : Int32).toNatClampNeg = V 1 := hV 1 (by omega)
        have m49 : dg (V 1) * (dg (V 2) + 1) ≤ 6 * 7 := Nat.mul_le_mul g1.2.2 (by omega)
        rw [e1, e2, (dg_eq g1.1).1, (dg_eq g2.1).1, nI_1, pk_mul, show (3 : Int32) = nI 3 from rfl, nI_add, nI_eq (by omega) (by omega)]
        refine ⟨fun u => ?_, fun u => ?_⟩
        · rw [← e]; exact h0 (fun x => u x.2.2)
        · exact h1 ⟨e, z, u⟩
      · rw [← e]; exact h0 (fun x => z x.2.1)
    · rw [nI_leI (by omega) (by omega)] at y
      refine gob9 (V := V) (by omega) (fun t ht => hV t (by omega)) s2 (fun g => ?_) (fun g => ⟨fun z => absurd rfl z, fun _ => h0 (fun x => by have := x.1; omega)⟩)
      rcases s3 with e | e
      · omega
      · exact absurd g e
  · intro f p _ hp _ ih
    refine ⟨fun y => absurd y (nI_ge (by omega) (by omega)), fun _ => ?_⟩
    refine gob9 (V := V) (by omega) (fun t ht => hV t (by omega)) (fun q hq => s2 q (by omega)) (fun _ => ⟨fun _ => ?_, fun z => absurd z (by decide)⟩) (fun g => absurd (s2 p hp) g)
    rintro _ rfl
    rw [nI_1]; exact ih () trivial
/-- where in the text a cell's letter stands -/
def cps (w j : Nat) : Nat := pP w (j / w) + 1 + j % w
theorem cps_r {w row k : Nat} (hk : k < w) : cps w (row * w + k) = pP w row + 1 + k := by
  unfold cps
  rw [Nat.mul_comm, Nat.mul_add_div (by omega), Nat.div_eq_of_lt hk, Nat.mul_add_mod, Nat.mod_eq_of_lt hk]; rfl
theorem rdb9 {kt : kw_T} {iv : fw_F} {ar : fw_R} {V : Nat → Int32} {n s : Nat} {Q : fw_F → fw_R → Prop} (hn : n ≤ 80) (hV : ∀ t, t < n → ar 25 t = V t) (hs : stb V n s) (ho : okb V n s) (hQ : ∀ g : Nat → Int32, (∀ j, j < dg (V 1) * dg (V 2) → g j = nI (lt (V (cps (dg (V 2)) j)))) → Q (va_up (va_up iv 4 (nI (dg (V 1)))) 5 (nI (dg (V 2)))) (va_up ar 5 g)) : wpX0_read kt iv ar (nI n) Q := by
  unfold wpX0_read
  obtain ⟨o1, o2, o3⟩ := ho
  obtain ⟨g1, g2, g3⟩ := stb_d hs (by omega)
  obtain ⟨s1, s2, s3⟩ := hs
  have e2 : ar 25 (2 : Int32).toNatClampNeg = V 2 := hV 2 (by omega)
  have e1 : ar 25 (1 : Int32).toNatClampNeg = V 1 := hV 1 (by omega)
  rw [e1, e2, (dg_eq g1.1).1, (dg_eq g2.1).1]
  have hh := g1.2
  have hw := g2.2
  generalize hhe : dg (V 1) = h at *
  generalize hwe : dg (V 2) = w at *
  have gr : ∀ row k, k ≤ w → pP w row + k < n → row < h ∧ (if k = 0 then V (pP w row + k) = 59 else isl (V (pP w row + k))) := fun row k hk hl => by
    have := gpb_r (V := V) (row := row) (k := k) (by rw [hwe]; exact hk)
    rw [hwe, hhe] at this
    exact this.mp (s2 _ (by omega))
  refine ⟨fun y => absurd y ?_, fun _ => ⟨fun _ => ⟨pb_vin (n := 1) (by omega) (by decide), ?_⟩, fun y => absurd (nI_le (b := 80) (by omega) (by omega)) y⟩⟩
  · rw [show (3 : Int32) = nI 3 from rfl, nI_ltI (by omega) (by omega)]; omega
  · rintro _ rfl
    refine ⟨pb_vin (n := 2) (by omega) (by decide), ?_⟩
    rintro _ rfl
    refine pk_loop (σ := Int32 × fw_R) (fun m p u => wpX0_read_L37 kt (nI n) Q (fun _ _ iv21 ar22 => Q iv21 ar22) m u.1 (nI p) (va_up (va_up iv 4 (nI h)) 5 (nI w)) u.2) (fun p u => ∃ (row k c : Nat) (g : Nat → Int32), p = pP w row + k ∧ k ≤ w ∧ row ≤ h ∧ c = row * w + (k - 1) ∧ u.1 = nI c ∧ u.2 = va_up ar 5 g ∧ ∀ j, j < c → g j = nI (lt (V (cps w j)))) n 3 (0, ar) (by omega) ⟨0, 0, 0, ar 5, by rw [pP_0], by omega, by omega, by omega, rfl, (va_upS _ _).symm, fun j hj => absurd hj (by omega)⟩ ?_ ?_
    · rintro m ⟨_, _⟩ ⟨row, k, c, g, q1, q2, q3, q4, rfl, rfl, q5⟩
      refine ⟨fun _ => hQ g (fun j hj => q5 j ?_), fun y => absurd (nI_le (Nat.le_refl _) (by omega)) y⟩
      have er : row = h := by
        rcases Nat.lt_or_ge row h with z | z
        · have m1 := pP_mono (w := w) (a := row + 1) (b := h) (by omega)
          rw [pP_s] at m1
          omega
        · omega
      subst er
      have : k = 0 := by omega
      omega
    · rintro m p ⟨_, _⟩ hp ⟨row, k, c, g, q1, q2, q3, q4, rfl, rfl, q5⟩ ih
      subst q1
      obtain ⟨r1, r2⟩ := gr row k q2 hp
      have cm : row * w + w ≤ h * w := by
        have := Nat.mul_le_mul_right w (show row + 1 ≤ h by omega)
        rw [Nat.succ_mul] at this
        exact this
      have h36 : h * w ≤ 36 := Nat.mul_le_mul hh.2 hw.2
      dsimp only
      refine ⟨fun y => absurd y (nI_ge hp (by omega)), fun _ => ⟨pb_vin (by omega) (by decide), ?_⟩⟩
      have e25 : va_up ar 5 g 25 (nI (pP w row + k)).toNatClampNeg = V (pP w row + k) := by
        rw [pb_cl (by omega)]; exact hV _ hp
      rw [e25]
      by_cases k0 : k = 0
      · rw [if_pos k0] at r2
        refine ⟨fun _ => ?_, fun y => absurd r2 y⟩
        rintro _ rfl
        rw [nI_1]
        refine ih (nI c, va_up ar 5 g) ⟨row, k + 1, c, g, by omega, by omega, q3, by omega, rfl, rfl, q5⟩
      · rw [if_neg k0] at r2
        refine ⟨fun y => absurd y (isl_59 r2), fun _ => ⟨fun y => absurd y (nI_ge (b := 36) (by omega) (by omega)), fun _ => ?_⟩⟩
        rintro _ rfl
        refine ⟨pb_vin (by omega) (by decide), ?_⟩
        refine lo9 (fun _ => ⟨pb_vin (by omega) (by decide), ?_⟩) (fun z => absurd r2 z)
        rintro _ rfl _ rfl
        rw [nI_1, nI_1, pb_cl (by omega), va_up2, pb_up, if_pos rfl]
        have q6 : ∀ j, j < c + 1 → upd g c (nI (lt (V (pP w row + k)))) j = nI (lt (V (cps w j))) := fun j hj => by
          rw [pb_upd]
          by_cases z : j = c
          · rw [if_pos z, z, q4, cps_r (by omega), show pP w row + 1 + (k - 1) = pP w row + k by omega]
          · rw [if_neg z]; exact q5 j (by omega)
        by_cases kw : k = w
        · refine ih (nI (c + 1), va_up ar 5 (upd g c (nI (lt (V (pP w row + k)))))) ⟨row + 1, 0, c + 1, _, by rw [pP_s]; omega, by omega, by omega, by rw [Nat.succ_mul]; omega, rfl, rfl, q6⟩
        · refine ih (nI (c + 1), va_up ar 5 (upd g c (nI (lt (V (pP w row + k)))))) ⟨row, k + 1, c + 1, _, by omega, by omega, q3, by omega, rfl, rfl, q6⟩
