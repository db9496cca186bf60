/-! ===== texts ===== -/
def dig (v : Int32) : Prop := 48 ≤ v ∧ v ≤ 57
def dg (v : Int32) : Nat := (v - 48).toNatClampNeg
theorem dig_of {v : Int32} (h : dig v) : ∃ j, v = nI (48 + j) ∧ j ≤ 9 ∧ dg v = j ∧ v - 48 = nI j := by
  obtain ⟨j, h1, h2, rfl⟩ := pb_rng 48 57 rfl rfl (by decide) (by decide) h
  have e : nI j - 48 = nI (j - 48) := by rw [show (48 : Int32) = nI 48 from rfl, pk_sub h1]
  refine ⟨j - 48, by rw [show 48 + (j - 48) = j by omega], by omega, ?_, e⟩
  unfold dg
  rw [e, pb_cl (by omega)]
theorem dg_eq {v : Int32} (h : dig v) : v - 48 = nI (dg v) ∧ dg v ≤ 9 ∧ (v = 48 ↔ dg v = 0) := by
  obtain ⟨j, h1, h2, h3, h4⟩ := dig_of h
  refine ⟨by rw [h3]; exact h4, by omega, ?_⟩
  have e : (nI (48 + j) = 48) ↔ 48 + j = 48 := nI_eq (b := 48) (by omega) (by omega)
  rw [h3, h1, e]
  omega
theorem cd10 {v : fw_F} {r : fw_R} {f n p : Nat} {V : Nat → Int32} {code : Int32} {Q : Int32 → Prop} (hf : f + n ≤ 320) (hV : ∀ t, t < n → r 4 (f + t) = V t) (hp : v 13 = nI (f + p)) (hpn : p ≤ n) (h1 : p < n → V p = code → Q 1) (h0 : ¬ (p < n ∧ V p = code) → Q 0) : wpX10_isCode v r code (nI (f + n)) Q := by
  unfold wpX10_isCode
  rw [hp, nI_leI (by omega) (by omega)]
  refine ⟨fun y => h0 (fun u => by omega), fun y => ⟨pb_vin (by omega) (by decide), ?_⟩⟩
  rw [pb_cl (by omega), hV p (by omega)]
  exact ⟨fun z => h0 (fun u => z u.2), fun z => h1 (by omega) z⟩
theorem dt10 {v : fw_F} {r : fw_R} {f n p : Nat} {V : Nat → Int32} {Q : Int32 → Prop} (hf : f + n ≤ 320) (hV : ∀ t, t < n → r 4 (f + t) = V t) (hpn : p ≤ n) (h1 : p < n → dig (V p) → Q (nI (dg (V p)))) (h0 : ¬ (p < n ∧ dig (V p)) → Q (-9)) : wpX10_digitAt v r (nI (f + p)) (nI (f + n)) Q := by
  unfold wpX10_digitAt
  rw [nI_leI (by omega) (by omega)]
  refine ⟨fun y => h0 (fun u => by omega), fun y => ⟨pb_vin (by omega) (by decide), ?_⟩⟩
  rw [pb_cl (by omega), hV p (by omega), ev10_within]
  refine ⟨fun z => ⟨fun y => absurd y (by decide), fun _ => ⟨pb_vin (by omega) (by decide), ?_⟩⟩, fun z => ⟨fun _ => h0 (fun u => z u.2), fun y => absurd rfl y⟩⟩
  rw [(dg_eq z).1]
  exact h1 (by omega) z
/-- a hand's text goes on at a place -/
def gph (V : Nat → Int32) (p : Nat) : Prop :=
  if 23 ≤ p then False else if p % 7 = 0 then V p = fw_LI (p / 7) else if p % 7 = 6 then V p = 59 else if p / 7 = 3 then dig (V p) ∧ 1 ≤ dg (V p) else dig (V p) ∧ (p % 7 = 5 → ¬ (dg (V (p - 4)) + dg (V (p - 3)) + dg (V (p - 2)) + dg (V (p - 1)) + dg (V p) = 0))
theorem gph_d {V : Nat → Int32} {p : Nat} (hp : p < 21) (h1 : 1 ≤ p % 7) (h5 : p % 7 ≤ 5) (h : gph V p) : dig (V p) := by
  unfold gph at h
  rw [if_neg (by omega), if_neg (by omega), if_neg (by omega), if_neg (by omega)] at h
  exact h.1
theorem az9 {kt : kw_T} {iv : fw_F} {ar : fw_R} {V : Nat → Int32} {p : Nat} {Q : Int32 → Prop} (h4 : 4 ≤ p) (hp : p < 80) (hV : ∀ t, t < p → ar 25 t = V t) (h1 : (∀ j, p - 4 ≤ j → j < p → V j = 48) → Q 1) (h0 : ¬ (∀ j, p - 4 ≤ j → j < p → V j = 48) → Q 0) : wpX1_areZeros kt iv ar (nI p - 4) (nI p) Q := by
  unfold wpX1_areZeros
  have e : nI p - 4 = nI (p - 4) := by rw [show (4 : Int32) = nI 4 from rfl, pk_sub h4]
  have e2 : (if (0 : Int32) < nI (p - 4) then nI (p - 4) else 0) = nI (p - 4) := by
    by_cases z : p - 4 = 0
    · rw [z, if_neg (by decide)]; rfl
    · rw [if_pos (show (0 : Int32) < nI (p - 4) from nI_lt (a := 0) (by omega) (by omega))]
  rw [e, e2]
  rintro _ rfl
  have key : ∀ m t, t + m = p → p - 4 ≤ t → (∀ j, p - 4 ≤ j → j < t → V j = 48) → ∃ ku, wpX1_areZeros_L6 kt (nI (p - 4)) (nI p) iv ar Q (fun _ => Q 1) ku (nI t) := by
    intro m
    induction m with
    | zero =>
      intro t ht ht2 hx
      have et : t = p := by omega
      subst et
      exact ⟨1, fun _ => h1 hx, fun y => absurd (nI_le (Nat.le_refl _) (by omega)) y⟩
    | succ m ih =>
      intro t ht ht2 hx
      by_cases z : V t = 48
      · obtain ⟨ku, hku⟩ := ih (t + 1) (by omega) (by omega) (fun j j1 j2 => by
          by_cases y : j = t
          · subst y; exact z
          · exact hx j j1 (by omega))
        refine ⟨ku + 1, fun y => absurd y (nI_ge (by omega) (by omega)), fun _ => ⟨fun y => absurd y (nI_ge (b := 80) (by omega) (by omega)), fun _ => ⟨pb_vin (by omega) (by decide), ?_⟩⟩⟩
        rw [pb_cl (by omega), hV t (by omega)]
        refine ⟨fun _ => ?_, fun y => absurd z y⟩
        rintro _ rfl
        rw [nI_1]; exact hku
      · refine ⟨1, fun y => absurd y (nI_ge (by omega) (by omega)), fun _ => ⟨fun y => absurd y (nI_ge (b := 80) (by omega) (by omega)), fun _ => ⟨pb_vin (by omega) (by decide), ?_⟩⟩⟩
        rw [pb_cl (by omega), hV t (by omega)]
        exact ⟨fun y => absurd y z, fun _ => h0 (fun u => z (u t ht2 (by omega)))⟩
  exact key 4 (p - 4) (by omega) (by omega) (fun j a b => absurd a (by omega))
theorem go9 {kt : kw_T} {iv : fw_F} {ar : fw_R} {V : Nat → Int32} {p : Nat} {Q : Int32 → Prop} (hp : p < 80) (hV : ∀ t, t ≤ p → ar 25 t = V t) (hprev : ∀ q, q < p → gph V q) (h1 : gph V p → Q 1) (h0 : ¬ gph V p → Q 0) : wpX1_goesOn kt iv ar (nI p) Q := by
  unfold wpX1_goesOn
  rw [show (23 : Int32) = nI 23 from rfl, nI_leI (by omega) (by omega)]
  by_cases z23 : 23 ≤ p
  · exact ⟨fun _ => h0 (fun u => by unfold gph at u; rw [if_pos z23] at u; exact u), fun y => absurd z23 y⟩
  · refine ⟨fun y => absurd y z23, fun _ => ⟨fun _ => ⟨pb_vin hp (by decide), ?_⟩, fun y => absurd (nI_lt (b := 80) (by omega) (by omega)) y⟩⟩
    rw [pb_cl (by omega), hV p (Nat.le_refl _), show (7 : Int32) = nI 7 from rfl, pk_rem (by omega) (by omega) (by omega), pk_div (by omega) (by omega) (by omega)]
    rintro _ rfl _ rfl _ rfl
    have m7 : p % 7 < 7 := Nat.mod_lt _ (by omega)
    have a0 : (nI (p % 7) = 0) ↔ p % 7 = 0 := nI_eq (b := 0) (by omega) (by omega)
    have a6 : (nI (p % 7) = 6) ↔ p % 7 = 6 := nI_eq (b := 6) (by omega) (by omega)
    have a3 : (nI (p / 7) = 3) ↔ p / 7 = 3 := nI_eq (b := 3) (by omega) (by omega)
    have a5 : (nI (p % 7) < 5) ↔ p % 7 < 5 := nI_ltI (b := 5) (by omega) (by omega)
    rw [a0, a6, a3, a5, pb_cl (by omega)]
    unfold gph at h1 h0
    rw [if_neg z23] at h1 h0
    refine ⟨fun n0 => ⟨fun n6 => ⟨fun n3 => ?_, fun n3 => ?_⟩, fun n6 => ?_⟩, fun n0 => ⟨pb_vin (by omega) (by decide), ?_⟩⟩
    · rw [if_neg n0, if_neg n6, if_neg n3] at h1 h0
      rw [ev9_within]
      refine ⟨fun d => ⟨fun _ => ⟨fun y => h1 ⟨d, fun z => by omega⟩, fun y => ?_⟩, fun y => absurd y (by decide)⟩, fun d => ⟨fun y => absurd rfl y, fun _ => h0 (fun u => d u.1)⟩⟩
      have e5 : p % 7 = 5 := by omega
      have d4 : dig (V (p - 4)) := gph_d (by omega) (by omega) (by omega) (hprev _ (by omega))
      have d3 : dig (V (p - 3)) := gph_d (by omega) (by omega) (by omega) (hprev _ (by omega))
      have d2 : dig (V (p - 2)) := gph_d (by omega) (by omega) (by omega) (hprev _ (by omega))
      have d1 : dig (V (p - 1)) := gph_d (by omega) (by omega) (by omega) (hprev _ (by omega))
      have q0 := (dg_eq (v := V p) d).2.2
      have q4 := (dg_eq d4).2.2
      have q3 := (dg_eq d3).2.2
      have q2 := (dg_eq d2).2.2
      have q1 := (dg_eq d1).2.2
      refine ⟨fun y48 => h1 ⟨d, fun _ z => y48 (q0.mpr (by omega))⟩, fun y48 => ?_⟩
      refine az9 (V := V) (by omega) (by omega) (fun t ht => hV t (by omega)) (fun az => ⟨fun _ => h0 (fun u => u.2 e5 ?_), fun y => absurd y (by decide)⟩) (fun az => ⟨fun y => absurd rfl y, fun _ => h1 ⟨d, fun _ z => az (fun j j1 j2 => ?_)⟩⟩)
      · have z4 := q4.mp (az (p - 4) (by omega) (by omega))
        have z3 := q3.mp (az (p - 3) (by omega) (by omega))
        have z2 := q2.mp (az (p - 2) (by omega) (by omega))
        have z1 := q1.mp (az (p - 1) (by omega) (by omega))
        have z0 := q0.mp y48
        omega
      · rcases (show j = p - 4 ∨ j = p - 3 ∨ j = p - 2 ∨ j = p - 1 by omega) with e | e | e | e <;> rw [e]
        · exact q4.mpr (by omega)
        · exact q3.mpr (by omega)
        · exact q2.mpr (by omega)
        · exact q1.mpr (by omega)
    · rw [if_neg n0, if_neg n6, if_pos n3] at h1 h0
      rw [ev9_within]
      refine ⟨fun d => ⟨Or.inr rfl, h1 ?_⟩, fun d => ⟨Or.inl rfl, h0 (fun u => d ?_)⟩⟩
      · obtain ⟨j, j1, j2, j3⟩ := pb_rng 49 57 rfl rfl (by decide) (by decide) d
        have dd : dig (V p) := by rw [j3]; exact pb_in (a := 48) (c := 57) rfl rfl (by decide) (by omega) (by omega)
        refine ⟨dd, ?_⟩
        have := (dg_eq dd).2.2
        have e : (nI j = 48) ↔ j = 48 := nI_eq (b := 48) (by omega) (by omega)
        rw [j3, e] at this
        rw [j3]
        omega
      · obtain ⟨j, j1, j2, j3, j4⟩ := dig_of u.1
        rw [j1]
        exact pb_in (a := 49) (c := 57) rfl rfl (by decide) (by omega) (by omega)
    · rw [if_neg n0, if_pos n6] at h1 h0
      exact ⟨h0, h1⟩
    · rw [if_pos n0] at h1 h0
      exact ⟨h0, h1⟩
/-- where a hand's text of n codes stops going on -/
def sth (V : Nat → Int32) (n s : Nat) : Prop := s ≤ n ∧ (∀ q, q < s → gph V q) ∧ (s = n ∨ ¬ gph V s)
theorem sth_ex (V : Nat → Int32) (n : Nat) : ∃ s, sth V n s := by
  obtain ⟨s, h1, h2⟩ := pk_least (fun s => s = n ∨ ¬ gph V s) ⟨n, Or.inl rfl⟩
  refine ⟨s, ?_, fun q hq => Classical.not_not.mp (fun y => h2 q hq (Or.inr y)), h1⟩
  rcases Nat.lt_or_ge n s with z | z
  · exact absurd (Or.inl rfl) (h2 n z)
  · exact z
theorem sth_23 {V : Nat → Int32} {n s : Nat} (h : sth V n s) : s ≤ 23 := by
  rcases Nat.lt_or_ge 23 s with z | z
  · have := h.2.1 23 z
    unfold gph at this
    rw [if_pos (Nat.le_refl _)] at this
    exact absurd this id
  · exact z
theorem ff9 {kt : kw_T} {iv : fw_F} {ar : fw_R} {V : Nat → Int32} {n s : Nat} {Q : Int32 → Prop} (hn : n ≤ 80) (hV : ∀ t, t < n → ar 25 t = V t) (hs : sth V n s) (hQ : Q (if s = n ∧ (n = 20 ∨ n = 23) then -9 else nI s)) : wpX1_firstFault kt iv ar (nI n) Q := by
  unfold wpX1_firstFault
  obtain ⟨s1, s2, s3⟩ := hs
  refine pk_loop (σ := Unit) (fun f p _ => wpX1_firstFault_L2 kt (nI n) iv ar Q _ f (nI p)) (fun _ _ => True) s 0 () (by omega) trivial ?_ ?_
  · intro f _ _
    refine ⟨fun y => ?_, fun y => ?_⟩
    · rw [nI_leI (by omega) (by omega)] at y
      have e : s = n := by omega
      have a20 : (nI n = 20) ↔ n = 20 := nI_eq (b := 20) (by omega) (by omega)
      have a23 : (nI n = 23) ↔ n = 23 := nI_eq (b := 23) (by omega) (by omega)
      rw [a20, a23]
      refine ⟨fun z => ?_, fun z => ⟨fun z2 => ?_, fun z2 => ?_⟩⟩
      · rw [if_pos ⟨e, Or.inl z⟩] at hQ; exact hQ
      · rw [if_neg (fun u => by omega), e] at hQ; exact hQ
      · rw [if_pos ⟨e, Or.inr z2⟩] at hQ; exact hQ
    · rw [nI_leI (by omega) (by omega)] at y
      refine go9 (V := V) (by omega) (fun t ht => hV t (by omega)) s2 (fun g => ?_) (fun g => ⟨fun z => absurd rfl z, fun _ => ?_⟩)
      · rcases s3 with e | e
        · omega
        · exact absurd g e
      · rw [if_neg (fun u => by omega)] at hQ; exact hQ
  · intro f p _ hp _ ih
    refine ⟨fun y => absurd y (nI_ge (by omega) (by omega)), fun _ => ?_⟩
    refine go9 (V := V) (by omega) (fun t ht => hV t (by omega)) (fun q hq => s2 q (by omega)) (fun _ => ⟨fun _ => ?_, fun z => absurd z (by decide)⟩) (fun g => absurd (s2 p hp) g)
    rintro _ rfl
    rw [nI_1]; exact ih () trivial
