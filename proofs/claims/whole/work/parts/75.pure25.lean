/-! ===== how the reference reads a hand ===== -/
/-- what stays as the reference reads: all but the place, the tires read and the row read -/
def rdh (jv : fw_F) (br : fw_R) (v : fw_F) (r : fw_R) : Prop := (∀ k, k ≠ 13 → k ≠ 14 → v k = jv k) ∧ ∀ k, k ≠ 15 → r k = br k
theorem rdh_13 {jv : fw_F} {br : fw_R} {v : fw_F} {r : fw_R} (h : rdh jv br v r) (x : Int32) : rdh jv br (va_up v 13 x) r := ⟨fun k h1 h2 => by rw [pb_up, if_neg h1]; exact h.1 k h1 h2, h.2⟩
theorem rdh_14 {jv : fw_F} {br : fw_R} {v : fw_F} {r : fw_R} (h : rdh jv br v r) (x : Int32) : rdh jv br (va_up v 14 x) r := ⟨fun k h1 h2 => by rw [pb_up, if_neg h2]; exact h.1 k h1 h2, h.2⟩
theorem rdh_15 {jv : fw_F} {br : fw_R} {v : fw_F} {r : fw_R} (h : rdh jv br v r) (x : Nat → Int32) : rdh jv br v (va_up r 15 x) := ⟨h.1, fun k h1 => by rw [pb_up, if_neg h1]; exact h.2 k h1⟩
/-- the rows that are read already -/
def rdw (V : Nat → Int32) (r : fw_R) (m : Nat) : Prop := ∀ j, j < m → r 15 j = nI (dg (V (7 * (j / 5) + 1 + j % 5)))
theorem sm5_0 {g : Nat → Nat} : sm5 g 5 = g 0 + g 1 + g 2 + g 3 + g 4 := by
  simp only [sm5]; omega
theorem rr10 {jv : fw_F} {br : fw_R} {v : fw_F} {r : fw_R} {V : Nat → Int32} {f n s row : Nat} {Q : Int32 → fw_F → fw_R → Prop} (hf : f + n ≤ 320) (hn : n ≤ 80) (hV : ∀ t, t < n → br 4 (f + t) = V t) (hs : sth V n s) (hr : row < 3) (hp : 7 * row + 1 ≤ s) (h1 : rdh jv br v r) (h13 : v 13 = nI (f + (7 * row + 1))) (hw : rdw V r (5 * row)) (hQ0 : s < 7 * row + 6 → ∀ v' r', rdh jv br v' r' → v' 13 = nI (f + s) → Q 0 v' r') (hQ1 : 7 * row + 6 ≤ s → ∀ v' r', rdh jv br v' r' → v' 13 = nI (f + (7 * row + 6)) → rdw V r' (5 * row + 5) → Q 1 v' r') : wpX10_readRow v r (nI row) (nI (f + n)) Q := by
  unfold wpX10_readRow
  obtain ⟨s1, s2, s3⟩ := hs
  have hd : ∀ k, k < 5 → 7 * row + 1 + k < s → dig (V (7 * row + 1 + k)) := fun k hk hl => gph_d (by omega) (by omega) (by omega) (s2 _ hl)
  refine pk_loop (σ := Int32 × fw_F × fw_R) (fun m k u => wpX10_readRow_L5 (nI row) (nI (f + n)) Q (fun _ _ iv18 ar19 => Q 1 iv18 ar19) m u.1 (nI k) u.2.1 u.2.2) (fun k u => u.1 = nI (sm5 (fun j => dg (V (7 * row + 1 + j))) k) ∧ rdh jv br u.2.1 u.2.2 ∧ u.2.1 13 = nI (f + (7 * row + 1 + k)) ∧ rdw V u.2.2 (5 * row + k)) (min 5 (s - (7 * row + 1))) 0 (0, v, r) (by omega) ⟨rfl, h1, h13, hw⟩ ?_ ?_
  · rintro m ⟨_, v, r⟩ ⟨rfl, g1, g2, g3⟩
    dsimp only at g1 g2 g3 ⊢
    by_cases z : 7 * row + 6 ≤ s
    · have em : min 5 (s - (7 * row + 1)) = 5 := by omega
      rw [em] at g2 g3 ⊢
      exact ⟨fun _ => hQ1 z v r g1 g2 g3, fun y => absurd (nI_le (a := 5) (b := 5) (by omega) (by omega)) y⟩
    · have em : min 5 (s - (7 * row + 1)) = s - (7 * row + 1) := by omega
      rw [em] at g2 g3 ⊢
      have ep : 7 * row + 1 + (s - (7 * row + 1)) = s := by omega
      rw [ep] at g2
      have hl : s - (7 * row + 1) < 5 := by omega
      generalize hk : s - (7 * row + 1) = k at g3 hl ep ⊢
      have r4 : ∀ t, t < n → r 4 (f + t) = V t := fun t ht => by rw [g1.2 4 (by decide)]; exact hV t ht
      have a4 : (nI k = 4) ↔ k = 4 := nI_eq (b := 4) (by omega) (by omega)
      refine ⟨fun y => absurd y (nI_ge (b := 5) (by omega) (by omega)), fun _ => ?_⟩
      rw [g2, a4]
      refine dt10 (V := V) hf r4 s1 (fun q1 q2 => ⟨fun y => absurd y (nI_ne9 (by have := (dg_eq q2).2.1; omega)), fun _ => ⟨fun y4 => ?_, fun y4 => ⟨fun y => ?_, fun y => hQ0 (by omega) v r g1 g2⟩⟩⟩) (fun _ => ⟨fun _ => hQ0 (by omega) v r g1 g2, fun y => absurd rfl y⟩)
      · exfalso
        rcases s3 with e | e
        · omega
        · refine e ?_
          unfold gph
          rw [if_neg (by omega), if_neg (by omega), if_neg (by omega), if_neg (by omega)]
          exact ⟨q2, fun y => by omega⟩
      · exfalso
        rcases s3 with e | e
        · omega
        · refine e ?_
          subst y4
          unfold gph
          rw [if_neg (by omega), if_neg (by omega), if_neg (by omega), if_neg (by omega)]
          refine ⟨q2, fun _ yy => y ?_⟩
          have e5 : sm5 (fun j => dg (V (7 * row + 1 + j))) 4 + dg (V s) = 0 := by
            have es : s = 7 * row + 5 := by omega
            subst es
            simp only [sm5]
            have x0 : 7 * row + 5 - 4 = 7 * row + 1 + 0 := by omega
            have x1 : 7 * row + 5 - 3 = 7 * row + 1 + 1 := by omega
            have x2 : 7 * row + 5 - 2 = 7 * row + 1 + 2 := by omega
            have x3 : 7 * row + 5 - 1 = 7 * row + 1 + 3 := by omega
            rw [x0, x1, x2, x3] at yy
            omega
          rw [nI_add, e5]; rfl
  · rintro m k ⟨_, v, r⟩ hk ⟨rfl, g1, g2, g3⟩ ih
    dsimp only at g1 g2 g3 ⊢
    have r4 : ∀ t, t < n → r 4 (f + t) = V t := fun t ht => by rw [g1.2 4 (by decide)]; exact hV t ht
    have a4 : (nI k = 4) ↔ k = 4 := nI_eq (b := 4) (by omega) (by omega)
    have dd := hd k (by omega) (by omega)
    have d9 := (dg_eq dd).2.1
    have ei : (5 : Int32) * nI row + nI k = nI (5 * row + k) := by rw [show (5 : Int32) = nI 5 from rfl, pk_mul, nI_add]
    refine ⟨fun y => absurd y (nI_ge (b := 5) (by omega) (by omega)), fun _ => ?_⟩
    rw [g2, a4, ei]
    have nx : ∀ y7 : Int32, y7 = nI (sm5 (fun j => dg (V (7 * row + 1 + j))) k) + nI (dg (V (7 * row + 1 + k))) → ∀ ar6 : fw_R, ar6 = va_up r 15 (upd (r 15) (nI (5 * row + k)).toNatClampNeg (nI (dg (V (7 * row + 1 + k))))) → ∀ iv8 : fw_F, iv8 = va_up v 13 (nI (f + (7 * row + 1 + k)) + 1) → ∀ y9 : Int32, y9 = nI k + 1 → wpX10_readRow_L5 (nI row) (nI (f + n)) Q (fun _ _ iv18 ar19 => Q 1 iv18 ar19) m y7 y9 iv8 ar6 := by
      rintro _ rfl _ rfl _ rfl _ rfl
      rw [nI_1, nI_1, nI_add, pb_cl (by omega)]
      refine ih (nI (sm5 (fun j => dg (V (7 * row + 1 + j))) k + dg (V (7 * row + 1 + k))), va_up v 13 (nI (f + (7 * row + 1 + k) + 1)), va_up r 15 (upd (r 15) (5 * row + k) (nI (dg (V (7 * row + 1 + k)))))) ⟨rfl, rdh_15 (rdh_13 g1 _) _, ?_, fun j hj => ?_⟩
      · dsimp only
        rw [pb_up, if_pos rfl]; rfl
      · dsimp only
        rw [pb_up, if_pos rfl, pb_upd]
        by_cases z : j = 5 * row + k
        · rw [if_pos z]
          have x1 : j / 5 = row := by omega
          have x2 : j % 5 = k := by omega
          rw [x1, x2]
        · rw [if_neg z]; exact g3 j (by omega)
    refine dt10 (V := V) hf r4 (by omega) (fun q1 q2 => ⟨fun y => absurd y (nI_ne9 (by omega)), fun _ => ⟨fun y4 => ⟨pb_vin (by omega) (by decide), ?_⟩, fun y4 => ⟨fun y => ⟨pb_vin (by omega) (by decide), ?_⟩, fun y => ?_⟩⟩⟩) (fun u => absurd ⟨by omega, dd⟩ u)
    · intro ar6 e6 y7 e7 iv8 e8 y9 e9
      exact nx y7 e7 ar6 e6 iv8 e8 y9 e9
    · intro ar6 e6 y7 e7 iv8 e8 y9 e9
      exact nx y7 e7 ar6 e6 iv8 e8 y9 e9
    · exfalso
      subst y4
      have gg := s2 (7 * row + 1 + 4) (by omega)
      unfold gph at gg
      rw [if_neg (by omega), if_neg (by omega), if_neg (by omega), if_neg (by omega)] at gg
      refine gg.2 (by omega) ?_
      have l0 := (dg_eq (hd 0 (by omega) (by omega))).2.1
      have l1 := (dg_eq (hd 1 (by omega) (by omega))).2.1
      have l2 := (dg_eq (hd 2 (by omega) (by omega))).2.1
      have l3 := (dg_eq (hd 3 (by omega) (by omega))).2.1
      have es : sm5 (fun j => dg (V (7 * row + 1 + j))) 4 = dg (V (7 * row + 1 + 0)) + dg (V (7 * row + 1 + 1)) + dg (V (7 * row + 1 + 2)) + dg (V (7 * row + 1 + 3)) := by
        simp only [sm5]; omega
      have ez : sm5 (fun j => dg (V (7 * row + 1 + j))) 4 + dg (V (7 * row + 1 + 4)) = 0 := by
        rw [nI_add] at y
        exact (nI_eq (b := 0) (by omega) (by omega)).mp y
      have x0 : 7 * row + 1 + 4 - 4 = 7 * row + 1 + 0 := by omega
      have x1 : 7 * row + 1 + 4 - 3 = 7 * row + 1 + 1 := by omega
      have x2 : 7 * row + 1 + 4 - 2 = 7 * row + 1 + 2 := by omega
      have x3 : 7 * row + 1 + 4 - 1 = 7 * row + 1 + 3 := by omega
      rw [x0, x1, x2, x3]
      omega
