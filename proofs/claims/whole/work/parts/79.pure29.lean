/-! ===== how the reference reads a board ===== -/
def rdb (jv : fw_F) (br : fw_R) (v : fw_F) (r : fw_R) : Prop := (∀ k, k ≠ 13 → k ≠ 19 → k ≠ 20 → v k = jv k) ∧ ∀ k, k ≠ 21 → r k = br k
theorem rdb_13 {jv : fw_F} {br : fw_R} {v : fw_F} {r : fw_R} (h : rdb jv br v r) (x : Int32) : rdb jv br (va_up v 13 x) r := ⟨fun k h1 h2 h3 => by rw [pb_up, if_neg h1]; exact h.1 k h1 h2 h3, h.2⟩
theorem rdb_19 {jv : fw_F} {br : fw_R} {v : fw_F} {r : fw_R} (h : rdb jv br v r) (x : Int32) : rdb jv br (va_up v 19 x) r := ⟨fun k h1 h2 h3 => by rw [pb_up, if_neg h2]; exact h.1 k h1 h2 h3, h.2⟩
theorem rdb_20 {jv : fw_F} {br : fw_R} {v : fw_F} {r : fw_R} (h : rdb jv br v r) (x : Int32) : rdb jv br (va_up v 20 x) r := ⟨fun k h1 h2 h3 => by rw [pb_up, if_neg h3]; exact h.1 k h1 h2 h3, h.2⟩
theorem rdb_21 {jv : fw_F} {br : fw_R} {v : fw_F} {r : fw_R} (h : rdb jv br v r) (x : Nat → Int32) : rdb jv br v (va_up r 21 x) := ⟨h.1, fun k h1 => by rw [pb_up, if_neg h1]; exact h.2 k h1⟩
def rbw (w : Nat) (V : Nat → Int32) (r : fw_R) (m : Nat) : Prop := ∀ j, j < m → r 21 j = nI (lt (V (cps w j)))
/-- the state at a place within the rows -/
def rst (jv : fw_F) (br : fw_R) (V : Nat → Int32) (f h w p m : Nat) (v : fw_F) (r : fw_R) : Prop := rdb jv br v r ∧ v 13 = nI (f + p) ∧ v 19 = nI h ∧ v 20 = nI w ∧ rbw w V r m
theorem sb10 {v : fw_F} {r : fw_R} {f n p s : Nat} {V : Nat → Int32} {code : Int32} {Q : Int32 → Prop} (hf : f + n ≤ 320) (hV : ∀ t, t < n → r 4 (f + t) = V t) (hs : stb V n s) (hp : v 13 = nI (f + p)) (hps : p ≤ s) (hg : p < n → (gpb V p ↔ V p = code)) (h1 : p < s → Q 1) (h0 : p = s → Q 0) : wpX10_isCode v r code (nI (f + n)) Q := by
  obtain ⟨s1, s2, s3⟩ := hs
  refine cd10 (V := V) hf hV hp (by omega) (fun q1 q2 => ?_) (fun u => ?_)
  · rcases Nat.lt_or_ge p s with z | z
    · exact h1 z
    · have e : p = s := by omega
      subst e
      rcases s3 with y | y
      · omega
      · exact absurd ((hg q1).mpr q2) y
  · rcases Nat.lt_or_ge p s with z | z
    · exact absurd ⟨by omega, (hg (by omega)).mp (s2 p z)⟩ u
    · exact h0 (by omega)
theorem brl {jv : fw_F} {br : fw_R} {v : fw_F} {r : fw_R} {V : Nat → Int32} {f n s row h w : Nat} {Q : Int32 → fw_F → fw_R → Prop} {K : Int32 → fw_F → fw_R → Prop} (hf : f + n ≤ 320) (hn : n ≤ 80) (hV : ∀ t, t < n → br 4 (f + t) = V t) (hs : stb V n s) (hh : dg (V 1) = h) (hw : dg (V 2) = w) (h6 : h ≤ 6) (w6 : w ≤ 6) (hr : row < h) (hp : pP w row + 1 ≤ s) (h1 : rst jv br V f h w (pP w row + 1) (row * w) v r) (hQ0 : s < pP w (row + 1) → ∀ v' r', rdb jv br v' r' → v' 13 = nI (f + s) → Q 0 v' r') (hK : pP w (row + 1) ≤ s → ∀ v' r', rst jv br V f h w (pP w (row + 1)) ((row + 1) * w) v' r' → K (nI w) v' r') : ∃ ku, wpX10_readBoard_L132 (nI (f + n)) (nI row) Q K ku 0 v r := by
  obtain ⟨s1, s2, s3⟩ := hs
  have gr : ∀ k, k ≤ w → (gpb V (pP w row + k) ↔ row < h ∧ (if k = 0 then V (pP w row + k) = 59 else isl (V (pP w row + k)))) := fun k hk => by
    have := gpb_r (V := V) (row := row) (k := k) (by rw [hw]; exact hk)
    rw [hw, hh] at this
    exact this
  have ps := pP_s (w := w) (row := row)
  have cm : row * w + w ≤ h * w := by
    have := Nat.mul_le_mul_right w (show row + 1 ≤ h by omega)
    rw [Nat.succ_mul] at this
    exact this
  have h36 : h * w ≤ 36 := Nat.mul_le_mul h6 w6
  refine pk_loop (σ := fw_F × fw_R) (fun m k u => wpX10_readBoard_L132 (nI (f + n)) (nI row) Q K m (nI k) u.1 u.2) (fun k u => rst jv br V f h w (pP w row + 1 + k) (row * w + k) u.1 u.2) (min w (s - (pP w row + 1))) 0 (v, r) (by omega) h1 ?_ ?_
  · rintro m ⟨v, r⟩ ⟨g1, g2, g3, g4, g5⟩
    dsimp only at g1 g2 g3 g4 g5 ⊢
    unfold wpX10_readBoard_L132
    rw [g4]
    by_cases z : pP w (row + 1) ≤ s
    · have em : min w (s - (pP w row + 1)) = w := by omega
      rw [em] at g2 g5 ⊢
      refine ⟨fun _ => hK z v r ⟨g1, by rw [g2, ps]; congr 1; omega, g3, g4, by rw [Nat.succ_mul]; exact g5⟩, fun y => absurd (nI_le (Nat.le_refl _) (by omega)) y⟩
    · have em : min w (s - (pP w row + 1)) = s - (pP w row + 1) := by omega
      rw [em] at g2 g5 ⊢
      have ep : pP w row + 1 + (s - (pP w row + 1)) = s := by omega
      rw [ep] at g2
      refine ⟨fun y => absurd y (nI_ge (by omega) (by omega)), fun _ => ?_⟩
      rw [g2, nI_leI (by omega) (by omega)]
      refine ⟨fun y => hQ0 (by omega) v r g1 g2, fun y => ⟨pb_vin (by omega) (by decide), ?_⟩⟩
      rw [pb_cl (by omega), g1.2 4 (by decide), hV s (by omega)]
      refine lo10l (fun q => ?_) (fun q => ⟨fun y => absurd rfl y, fun _ => hQ0 (by omega) v r g1 g2⟩)
      exfalso
      rcases s3 with e | e
      · omega
      · have := (gr (s - pP w row) (by omega)).mpr ⟨hr, by rw [if_neg (by omega), show pP w row + (s - pP w row) = s by omega]; exact q⟩
        rw [show pP w row + (s - pP w row) = s by omega] at this
        exact e this
  · rintro m k ⟨v, r⟩ hk ⟨g1, g2, g3, g4, g5⟩ ih
    dsimp only at g1 g2 g3 g4 g5 ⊢
    have gk := (gr (1 + k) (by omega)).mp (s2 _ (by omega))
    rw [if_neg (by omega), ← Nat.add_assoc] at gk
    have ei : nI w * nI row + nI k = nI (row * w + k) := by rw [pk_mul, nI_add, Nat.mul_comm]
    unfold wpX10_readBoard_L132
    rw [g4, g2, ei, nI_leI (by omega) (by omega), nI_leI (by omega) (by omega)]
    refine ⟨fun y => absurd y (by omega), fun _ => ⟨fun y => absurd y (by omega), fun _ => ⟨pb_vin (by omega) (by decide), ?_⟩⟩⟩
    rw [pb_cl (by omega), g1.2 4 (by decide), hV _ (by omega)]
    have l4 := lt_lt (v := V (pP w row + 1 + k))
    refine lo10l (fun q => ⟨fun _ => ⟨pb_vin (by omega) (by decide), ?_⟩, fun y => absurd y (nI_ne9 (by omega))⟩) (fun q => absurd gk.2 q)
    rintro _ rfl _ rfl _ rfl
    rw [nI_1, nI_1, pb_cl (by omega)]
    refine ih (va_up v 13 (nI (f + (pP w row + 1 + k) + 1)), va_up r 21 (upd (r 21) (row * w + k) (nI (lt (V (pP w row + 1 + k)))))) ⟨rdb_21 (rdb_13 g1 _) _, ?_, ?_, ?_, fun j hj => ?_⟩
    · dsimp only
      rw [pb_up, if_pos rfl]; rfl
    · dsimp only
      rw [pb_up, if_neg (by decide)]; exact g3
    · dsimp only
      rw [pb_up, if_neg (by decide)]; exact g4
    · dsimp only
      rw [pb_up, if_pos rfl, pb_upd]
      by_cases z : j = row * w + k
      · rw [if_pos z, z, cps_r (by omega)]
      · rw [if_neg z]; exact g5 j (by omega)
theorem brr {jv : fw_F} {br : fw_R} {V : Nat → Int32} {f n s h w : Nat} {Q : Int32 → fw_F → fw_R → Prop} {K : Int32 → fw_F → fw_R → Prop} (hf : f + n ≤ 320) (hn : n ≤ 80) (hV : ∀ t, t < n → br 4 (f + t) = V t) (hs : stb V n s) (hh : dg (V 1) = h) (hw : dg (V 2) = w) (h6 : h ≤ 6) (w6 : w ≤ 6) (hQ0 : s < pP w h → ∀ v' r', rdb jv br v' r' → v' 13 = nI (f + s) → Q 0 v' r') (hK : pP w h ≤ s → ∀ v' r', rst jv br V f h w (pP w h) (h * w) v' r' → K (nI h) v' r') : ∀ m row, row + m = h → pP w row ≤ s → ∃ ku, ∀ v r, rst jv br V f h w (pP w row) (row * w) v r → wpX10_readBoard_L100 (nI (f + n)) Q K ku (nI row) v r := by
  intro m
  induction m with
  | zero =>
    intro row hr hp
    have e : row = h := by omega
    subst e
    refine ⟨1, fun v r st => ⟨fun _ => hK hp v r st, fun y => absurd ?_ y⟩⟩
    rw [st.2.2.1]
    exact nI_le (Nat.le_refl _) (by omega)
  | succ m ih =>
    intro row hr hp
    have ps := pP_s (w := w) (row := row)
    have mo := pP_mono (w := w) (a := row + 1) (b := h) (by omega)
    have gr : gpb V (pP w row) ↔ V (pP w row) = 59 := by
      have := gpb_r (V := V) (row := row) (k := 0) (by omega)
      rw [hw, hh, if_pos rfl] at this
      rw [Nat.add_zero] at this
      rw [this]
      exact ⟨fun u => u.2, fun u => ⟨by omega, u⟩⟩
    have hx : ∃ ku, pP w (row + 1) ≤ s → ∀ v r, rst jv br V f h w (pP w (row + 1)) ((row + 1) * w) v r → wpX10_readBoard_L100 (nI (f + n)) Q K ku (nI (row + 1)) v r := by
      by_cases z : pP w (row + 1) ≤ s
      · obtain ⟨ku, hku⟩ := ih (row + 1) (by omega) z
        exact ⟨ku, fun _ => hku⟩
      · exact ⟨0, fun y => absurd y z⟩
    obtain ⟨ku, hku⟩ := hx
    refine ⟨ku + 1, fun v r st => ⟨fun y => absurd y ?_, fun _ => ?_⟩⟩
    · rw [st.2.2.1]
      exact nI_ge (by omega) (by omega)
    · have st' := st
      obtain ⟨g1, g2, g3, g4, g5⟩ := st
      have r4 : ∀ t, t < n → r 4 (f + t) = V t := fun t ht => by rw [g1.2 4 (by decide)]; exact hV t ht
      refine sb10 (V := V) hf r4 hs g2 hp (fun _ => gr) (fun z => ⟨fun _ => ?_, fun y => absurd y (by decide)⟩) (fun z => ⟨fun y => absurd rfl y, fun _ => hQ0 (by omega) v r g1 (by rw [g2, z])⟩)
      rintro _ rfl
      rw [g2, nI_1 (f + pP w row)]
      refine brl (h := h) (w := w) hf hn hV hs hh hw h6 w6 (by omega) (by omega) ⟨rdb_13 g1 _, ?_, ?_, ?_, g5⟩ (fun z => hQ0 (by omega)) (fun z v' r' st2 => ?_)
      · rw [pb_up, if_pos rfl]; rfl
      · rw [pb_up, if_neg (by decide)]; exact g3
      · rw [pb_up, if_neg (by decide)]; exact g4
      · rintro _ rfl
        rw [nI_1]
        exact hku z v' r' st2
theorem rb10 {jv : fw_F} {br : fw_R} {v : fw_F} {V : Nat → Int32} {f n s : Nat} {Q : Int32 → fw_F → fw_R → Prop} (hf : f + n ≤ 320) (hn : n ≤ 80) (hV : ∀ t, t < n → br 4 (f + t) = V t) (hs : stb V n s) (h1 : rdb jv br v br) (h13 : v 13 = nI f) (hQ0 : ¬ okb V n s → ∀ v' r', rdb jv br v' r' → v' 13 = nI (f + s) → Q 0 v' r') (hQ1 : okb V n s → ∀ v' r', rst jv br V f (dg (V 1)) (dg (V 2)) (pP (dg (V 2)) (dg (V 1))) (dg (V 1) * dg (V 2)) v' r' → Q 1 v' r') : wpX10_readBoard v br (nI (f + n)) Q := by
  unfold wpX10_readBoard
  have hs' := hs
  obtain ⟨s1, s2, s3⟩ := hs
  have no : s < 3 → ¬ okb V n s := fun z u => by have := u.1; have := u.2.1; omega
  have g0 : gpb V 0 ↔ V 0 = 98 := by unfold gpb; rw [if_pos rfl]
  have gd : ∀ p, p = 1 ∨ p = 2 → (gpb V p ↔ dig (V p) ∧ 1 ≤ dg (V p) ∧ dg (V p) ≤ 6) := fun p hp => by
    unfold gpb
    rw [if_neg (by omega), if_pos (by omega)]
    exact d16_of
  have stop : ∀ p, p = 1 ∨ p = 2 → p ≤ s → (¬ (p < n ∧ dig (V p)) ∨ ¬ (1 ≤ dg (V p) ∧ dg (V p) ≤ 6)) → s = p := fun p hp hps u => by
    rcases Nat.lt_or_ge p s with z | z
    · have := (gd p hp).mp (s2 p z)
      rcases u with u | u
      · exact absurd ⟨by omega, this.1⟩ u
      · exact absurd this.2 u
    · omega
  have goes : ∀ p, p = 1 ∨ p = 2 → p ≤ s → p < n → dig (V p) → 1 ≤ dg (V p) → dg (V p) ≤ 6 → p < s := fun p hp hps u1 u2 u3 u4 => by
    rcases Nat.lt_or_ge p s with z | z
    · exact z
    · have e : p = s := by omega
      subst e
      rcases s3 with y | y
      · omega
      · exact absurd ((gd p hp).mpr ⟨u2, u3, u4⟩) y
  refine sb10 (V := V) (p := 0) hf hV hs' h13 (by omega) (fun _ => g0) (fun z => ⟨fun _ => ?_, fun y => absurd y (by decide)⟩) (fun z => ⟨fun y => absurd rfl y, fun _ => hQ0 (no (by omega)) v br h1 (by rw [h13, ← z]; rfl)⟩)
  rintro _ rfl
  have k13 : va_up v 13 (v 13 + 1) 13 = nI (f + 1) := by rw [pb_up, if_pos rfl, h13, nI_1]
  rw [k13]
  generalize hM : va_up v 13 (v 13 + 1) = M at k13
  have hMr : rdb jv br M br := by rw [← hM]; exact rdb_13 h1 _
  have w1 : ∀ x : Int32, va_up M 19 x 19 = x := fun x => by rw [pb_up, if_pos rfl]
  have w2 : ∀ x : Int32, va_up M 19 x 13 = nI (f + 1) := fun x => by rw [pb_up, if_neg (by decide)]; exact k13
  refine dt10 (V := V) hf hV (by omega) (fun q1 q2 => ?_) (fun u => ?_)
  · rintro _ rfl
    have d9 := (dg_eq q2).2.1
    rw [w1, ev10_within, w2, nI_1]
    refine ⟨fun y => ⟨fun _ => ?_, fun y => absurd y (by decide)⟩, fun y => ⟨fun y => absurd rfl y, fun _ => hQ0 (no ?_) _ _ (rdb_19 hMr _) ?_⟩⟩
    · have y1 : 1 ≤ dg (V 1) ∧ dg (V 1) ≤ 6 := by
        rw [show (1 : Int32) = nI 1 from rfl, show (6 : Int32) = nI 6 from rfl, nI_leI (by omega) (by omega), nI_leI (by omega) (by omega)] at y
        exact y
      have p2 := goes 1 (Or.inl rfl) (by omega) q1 q2 y1.1 y1.2
      rintro _ rfl
      have k213 : va_up (va_up M 19 (nI (dg (V 1)))) 13 (nI (f + 1 + 1)) 13 = nI (f + 2) := by rw [pb_up, if_pos rfl]
      have k219 : va_up (va_up M 19 (nI (dg (V 1)))) 13 (nI (f + 1 + 1)) 19 = nI (dg (V 1)) := by rw [pb_up, if_neg (by decide)]; exact w1 _
      rw [k213]
      generalize hN : va_up (va_up M 19 (nI (dg (V 1)))) 13 (nI (f + 1 + 1)) = N at k213 k219
      have hNr : rdb jv br N br := by rw [← hN]; exact rdb_13 (rdb_19 hMr _) _
      have x1 : ∀ x : Int32, va_up N 20 x 20 = x := fun x => by rw [pb_up, if_pos rfl]
      have x2 : ∀ x : Int32, va_up N 20 x 13 = nI (f + 2) := fun x => by rw [pb_up, if_neg (by decide)]; exact k213
      refine dt10 (V := V) hf hV (by omega) (fun q3 q4 => ?_) (fun u => ?_)
      · rintro _ rfl
        have d92 := (dg_eq q4).2.1
        rw [x1, ev10_within, x2, nI_1]
        refine ⟨fun y2 => ⟨fun _ => ?_, fun y => absurd y (by decide)⟩, fun y2 => ⟨fun y => absurd rfl y, fun _ => hQ0 (no ?_) _ _ (rdb_20 hNr _) ?_⟩⟩
        · have y3 : 1 ≤ dg (V 2) ∧ dg (V 2) ≤ 6 := by
            rw [show (1 : Int32) = nI 1 from rfl, show (6 : Int32) = nI 6 from rfl, nI_leI (by omega) (by omega), nI_leI (by omega) (by omega)] at y2
            exact y2
          have p3 := goes 2 (Or.inr rfl) (by omega) q3 q4 y3.1 y3.2
          rintro _ rfl
          obtain ⟨-, -, se⟩ := stb_d hs' (by omega)
          have fK : pP (dg (V 2)) (dg (V 1)) ≤ s → ∀ v' r', rst jv br V f (dg (V 1)) (dg (V 2)) (pP (dg (V 2)) (dg (V 1))) (dg (V 1) * dg (V 2)) v' r' → (¬ (v' 13) = nI (f + n) → (Q 0 v' r')) ∧ ((v' 13) = nI (f + n) → (Q 1 v' r')) := fun z v' r' st => by
            have es : s = pP (dg (V 2)) (dg (V 1)) := by omega
            refine ⟨fun y => ?_, fun y => ?_⟩
            · refine hQ0 (fun u => y ?_) v' r' st.1 (by rw [st.2.1, es])
              rw [st.2.1, u.2.2]
            · rw [st.2.1, nI_eq (by omega) (by omega)] at y
              exact hQ1 ⟨by omega, by omega, by omega⟩ v' r' st
          obtain ⟨ku, hku⟩ := brr (jv := jv) (br := br) (f := f) (Q := Q) (K := fun _ (iv33 : fw_F) (ar34 : fw_R) => (¬ (iv33 13) = nI (f + n) → (Q 0 iv33 ar34)) ∧ ((iv33 13) = nI (f + n) → (Q 1 iv33 ar34))) hf hn hV hs' rfl rfl y1.2 y3.2 (fun z => hQ0 (fun u => by have := u.1; have := u.2.2; omega)) fK (dg (V 1)) 0 (by omega) (by rw [pP_0]; omega)
          refine ⟨ku, hku _ br ⟨rdb_13 (rdb_20 hNr _) _, ?_, ?_, ?_, fun j hj => absurd hj (by omega)⟩⟩
          · rw [pb_up, if_pos rfl, pP_0]
          · rw [pb_up, if_neg (by decide), pb_up, if_neg (by decide)]; exact k219
          · rw [pb_up, if_neg (by decide)]; exact x1 _
        · rw [show (1 : Int32) = nI 1 from rfl, show (6 : Int32) = nI 6 from rfl, nI_leI (by omega) (by omega), nI_leI (by omega) (by omega)] at y2
          have := stop 2 (Or.inr rfl) (by omega) (Or.inr y2)
          omega
        · rw [show (1 : Int32) = nI 1 from rfl, show (6 : Int32) = nI 6 from rfl, nI_leI (by omega) (by omega), nI_leI (by omega) (by omega)] at y2
          rw [x2, stop 2 (Or.inr rfl) (by omega) (Or.inr y2)]
      · rintro _ rfl
        rw [x1, ev10_within]
        have e := stop 2 (Or.inr rfl) (by omega) (Or.inl u)
        exact ⟨fun y => absurd y (by decide), fun _ => ⟨fun y => absurd rfl y, fun _ => hQ0 (no (by omega)) _ _ (rdb_20 hNr _) (by rw [x2, e])⟩⟩
    · rw [show (1 : Int32) = nI 1 from rfl, show (6 : Int32) = nI 6 from rfl, nI_leI (by omega) (by omega), nI_leI (by omega) (by omega)] at y
      have := stop 1 (Or.inl rfl) (by omega) (Or.inr y)
      omega
    · rw [show (1 : Int32) = nI 1 from rfl, show (6 : Int32) = nI 6 from rfl, nI_leI (by omega) (by omega), nI_leI (by omega) (by omega)] at y
      rw [w2, stop 1 (Or.inl rfl) (by omega) (Or.inr y)]
  · rintro _ rfl
    rw [w1, ev10_within]
    have e := stop 1 (Or.inl rfl) (by omega) (Or.inl u)
    exact ⟨fun y => absurd y (by decide), fun _ => ⟨fun y => absurd rfl y, fun _ => hQ0 (no (by omega)) _ _ (rdb_19 hMr _) (by rw [w2, e])⟩⟩
