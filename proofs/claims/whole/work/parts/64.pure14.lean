/-! ===== the wheel ===== -/
theorem tt10 {jv : fw_F} {br : fw_R} {w c q : Nat} {L : Nat → Nat} {Q : Int32 → Prop} (hw : w ≤ 6) (e2 : jv 17 = nI w) (hL : ∀ c, c < w * w → br 18 c = nI (L c)) (hc : c < w * w) (hq3 : q ≤ 3) (hQ : Q (nI (L (rotc w w q (c / w) (c % w))))) : wpX10_turnedTo jv br (nI c) (nI q) Q := by
  unfold wpX10_turnedTo
  obtain ⟨d1, d2, d3, d4, d5⟩ := cdiv hc
  have h36 : w * w ≤ 36 := Nat.mul_le_mul hw hw
  have c2 : ¬ nI w = 0 := nI_ne0 (by omega) (by omega)
  rw [e2, pk_rem (show c < 2 ^ 31 by omega) (by omega) (by omega), pk_div (show c < 2 ^ 31 by omega) (by omega) (by omega)]
  refine ⟨c2, ?_⟩
  rintro _ rfl
  refine ⟨c2, ?_⟩
  rintro _ rfl
  refine pk_loop (σ := Int32 × Int32) (fun n j u => wpX10_turnedTo_L18 (nI c) (nI q) jv br Q _ n u.1 u.2 (nI j)) (fun j u => u = (nI (rot w j (c / w, c % w)).1, nI (rot w j (c / w, c % w)).2)) q 0 (nI (c / w), nI (c % w)) (by omega) rfl ?_ ?_
  · intro n u hu
    rw [hu]
    refine ⟨fun _ => ?_, fun z => absurd (nI_le (Nat.le_refl q) (by omega)) z⟩
    have hk := rot_lt d3 d4 q
    have hlt := cell_lt hk.1 hk.2
    dsimp only
    rw [pk_mul, nI_add, Nat.mul_comm]
    refine ⟨pb_vin (by omega) (by decide), ?_⟩
    rw [pb_cl (by omega), hL _ hlt]
    exact hQ
  · intro n j u hj hu ih
    rw [hu]
    refine ⟨fun z => absurd z (nI_ge hj (by omega)), fun _ => ?_⟩
    rintro _ rfl _ rfl
    have hk := rot_lt d3 d4 j
    have e3 : nI w - 1 - nI (rot w j (c / w, c % w)).2 = nI (w - 1 - (rot w j (c / w, c % w)).2) := by
      rw [show (1 : Int32) = nI 1 from rfl, pk_sub (by omega), pk_sub (by omega)]
    rw [e2]
    dsimp only
    rw [e3, nI_1]
    exact ih (nI (w - 1 - (rot w j (c / w, c % w)).2), nI (rot w j (c / w, c % w)).1) rfl
theorem sq9 {kt : kw_T} {iv : fw_F} {ar : fw_R} {h w : Nat} {Q : Int32 → Prop} (hh : h ≤ 6) (hw : w ≤ 6) (e1 : iv 4 = nI h) (e2 : iv 5 = nI w) : wpX0_isSquare kt iv ar Q ↔ (h = w → Q 1) ∧ (¬ h = w → Q 0) := by
  unfold wpX0_isSquare
  rw [e1, e2, nI_eq (by omega) (by omega)]
  exact And.comm
theorem wh10 {jv : fw_F} {br : fw_R} {h w : Nat} {Q : Int32 → Prop} (hh : h ≤ 6) (hw : w ≤ 6) (h1 : 1 ≤ h) (e1 : jv 16 = nI h) (e2 : jv 17 = nI w) : wpX10_isWheel jv br Q ↔ (h = w → Q 1) ∧ (¬ h = w → Q 0) := by
  unfold wpX10_isWheel
  have z : ¬ nI h ≤ 0 := nI_ge (b := h) (a := 0) (by omega) (by omega)
  rw [e1, e2, nI_eq (by omega) (by omega)]
  constructor
  · intro a; exact ⟨(a.2 z).2, (a.2 z).1⟩
  · intro a; exact ⟨fun y => absurd y z, fun _ => ⟨a.2, a.1⟩⟩
theorem pb_q4 {t q : Nat} (ht : t < 2 ^ 31) (h0 : 0 < q) (hq : q < 2 ^ 31) : nI t / nI q - nI t / nI q / 4 * 4 = nI (t / q % 4) := by
  have : t / q ≤ t := Nat.div_le_self t q
  rw [pk_div ht h0 hq, show (4 : Int32) = nI 4 from rfl, pk_rem (by omega) (by omega) (by omega)]
theorem op_turned : lw_o17 Rl := by
  intro kt iv ar jv br hR a1 a2 a3
  obtain ⟨-, -, ⟨h, w, L, u1, u2, u3, u4, u5, u6, u7, u8⟩, -⟩ := id hR
  unfold pu_turned wpX9_turned wpX10_turned
  by_cases hx : ∃ c, c < h * w ∧ a1 = nI c
  · obtain ⟨c, hc, rfl⟩ := hx
    have h36 : h * w ≤ 36 := Nat.mul_le_mul u1 u2
    have cd := cdiv hc
    simp only [ce9_yes u1 u2 u4 u5 hc, ce10_yes u1 u2 u6 u7 hc, ev9_within, ev10_within, ev10_isTicks, sq9 u1 u2 u4 u5, wh10 u1 u2 cd.2.1 u6 u7]
    by_cases p1 : 1 ≤ a2 ∧ a2 ≤ 60
    · by_cases p2 : 0 ≤ a3 ∧ a3 ≤ 99999
      · by_cases p3 : h = w
        · obtain ⟨q, hq1, hq2, rfl⟩ := pb_rng 1 60 rfl rfl (by decide) (by decide) p1
          obtain ⟨t, -, ht, rfl⟩ := pb_rng 0 99999 rfl rfl (by decide) (by decide) p2
          have qz : ¬ nI q = 0 := nI_ne0 (by omega) (by omega)
          have q3 : t / q % 4 ≤ 3 := by omega
          refine ⟨nI (L (rotc h w (t / q % 4) (c / w) (c % w))), hR, ?_, ?_⟩
          · simp only [p1, p2, p3]; simp only [and_self, not_true_eq_false, false_implies, true_implies, not_false_eq_true, and_true, true_and, show ((1 : Int32) = 0) = False from by simp, qz, pb_q4 (t := t) (q := q) (by omega) (by omega) (by omega)]
            subst p3
            exact lc9 u1 u2 u4 u5 (fun c hc => (u8 c hc).2.1) hc (Or.inr rfl) q3 rfl
          · simp only [p1, p2, p3]; simp only [and_self, not_true_eq_false, false_implies, true_implies, not_false_eq_true, and_true, true_and, show ((1 : Int32) = 0) = False from by simp, qz, pb_q4 (t := t) (q := q) (by omega) (by omega) (by omega)]
            subst p3
            exact tt10 u1 u7 (fun c hc => (u8 c hc).2.2) hc q3 rfl
        · exact ⟨-3, hR, by simp [p1, p2, p3], by simp [p1, p2, p3]⟩
      · exact ⟨-2, hR, by simp [p1, p2], by simp [p1, p2]⟩
    · exact ⟨-2, hR, by simp [p1], by simp [p1]⟩
  · simp only [ce9_no u1 u2 u4 u5 hx, ce10_no u1 u2 u6 u7 hx]
    exact ⟨-1, hR, by simp, by simp⟩
def sn (w q : Nat) (L : Nat → Nat) (c : Nat) : Nat := L (rotc w w q (c / w) (c % w))
theorem sn_s {w q r c : Nat} {L : Nat → Nat} (hc : c < w) : sn w q L (r * w + c) = L (rotc w w q r c) := by
  unfold sn
  have e1 : (r * w + c) / w = r := by
    rw [Nat.mul_comm, Nat.mul_add_div (by omega), Nat.div_eq_of_lt hc]; rfl
  have e2 : (r * w + c) % w = c := by
    rw [Nat.mul_comm, Nat.mul_add_mod, Nat.mod_eq_of_lt hc]
  rw [e1, e2]
theorem sn_lt {w q c : Nat} {L : Nat → Nat} (hL : ∀ c, c < w * w → L c < 4) (hc : c < w * w) : sn w q L c < 4 := by
  obtain ⟨d1, d2, d3, d4, d5⟩ := cdiv hc
  exact hL _ (rotc_lt d3 d4 (Or.inr rfl))
def hmf (w m c : Nat) (L W : Nat → Nat) (q : Nat) (b : Bool) : Bool := decide (wto w w (if b = true then 12 else 4) (sn w q L) W 0 c * 1000 ≤ m * alw W 0)
def bI (b : Bool) : Int32 := if b = true then 1 else 0
theorem na9 {b : Bool} : vp_nar .boolean (bI b) = bI b := by cases b <;> decide
theorem sh9h {kt : kw_T} {iv : fw_F} {ar : fw_R} {w c m : Nat} {L W : Nat → Nat} {Q : fw_F → fw_R → Prop} (hw : w ≤ 6) (e1 : iv 4 = nI w) (e2 : iv 5 = nI w) (hL : ∀ c, c < w * w → L c < 4 ∧ ar 5 c = nI (L c)) (hc : c < w * w) (hW : ∀ j, j < 15 → W j ≤ 9) (ha : ∀ j, j < 15 → ar 3 j = nI (W j)) (hm : m ≤ 1000) (hb : alw W 0 ≤ 2025) (hQ : ∀ g : Nat → Int32, (∀ q, q < 4 → g (2 * q) = bI (hmf w m c L W q false) ∧ g (2 * q + 1) = bI (hmf w m c L W q true)) → Q iv (va_up ar 26 g)) : wpX9_seekHarmless kt iv ar (nI c) (nI m) Q := by
  unfold wpX9_seekHarmless
  refine pk_loop (σ := fw_R) (fun n i s => wpX9_seekHarmless_L2 kt (nI c) (nI m) Q (fun _ iv12 ar13 => Q iv12 ar13) n (nI i) iv s) (fun i s => ∃ g : Nat → Int32, s = va_up ar 26 g ∧ ∀ q, q < i → g (2 * q) = bI (hmf w m c L W q false) ∧ g (2 * q + 1) = bI (hmf w m c L W q true)) 4 0 ar (by omega) ⟨ar 26, by funext j; unfold va_up; split <;> simp_all, fun q hq => absurd hq (by omega)⟩ ?_ ?_
  · rintro n _ ⟨g, rfl, hg⟩
    exact ⟨fun _ => hQ g hg, fun y => absurd (nI_le (a := 4) (b := 4) (by omega) (by omega)) y⟩
  · rintro n q _ hq ⟨g, rfl, hg⟩ ih
    unfold wpX9_seekHarmless_L2
    refine ⟨fun y => absurd y (nI_ge (b := 4) hq (by omega)), fun _ => ?_⟩
    have go : ∀ (b : Bool) (g : Nat → Int32) (Q' : Int32 → Prop), Q' (bI (hmf w m c L W q b)) → wpX9_weightTo kt iv (va_up ar 26 g) (if b = true then 12 else 4) (nI c) 0 (nI q) (fun r2 => wpX9_isAtMost kt iv (va_up ar 26 g) (nI m) r2 0 Q') := fun b g Q' hQ' => by
      have eb : (if b = true then (12 : Int32) else 4) = nI (if b = true then 12 else 4) := by cases b <;> rfl
      rw [eb]
      refine wt9 (st := 0) (L := L) (S := sn w q L) hw hw e1 e2 (fun c hc => (hL c hc).2) (fun c hc => (hL c hc).1) (fun r c _ hc => sn_s hc) hc (Or.inr rfl) (by omega) (by cases b <;> decide) hW ha (by omega) ?_
      refine im9 (st := 0) hW ha (by omega) hm (wto_le hW) hb (fun y => ?_) (fun y => ?_)
      · have : hmf w m c L W q b = true := decide_eq_true y
        rw [this] at hQ'; exact hQ'
      · have : hmf w m c L W q b = false := decide_eq_false y
        rw [this] at hQ'; exact hQ'
    refine go false g _ ?_
    have q1 : (2 : Int32) * nI q = nI (2 * q) := pk_mul 2 q
    have q2 : (2 : Int32) * nI q + 1 = nI (2 * q + 1) := by rw [q1, nI_1]
    rw [q2, q1]
    refine ⟨pb_vin (by omega) (by decide), ?_⟩
    rintro _ rfl
    rw [pb_cl (by omega)]
    have e7 : va_up (va_up ar 26 g) 26 (upd ((va_up ar 26 g) 26) (2 * q) (vp_nar .boolean (bI (hmf w m c L W q false)))) = va_up ar 26 (upd g (2 * q) (bI (hmf w m c L W q false))) := by
      rw [va_up2]
      have e8 : (va_up ar 26 g) 26 = g := by rw [pb_up, if_pos rfl]
      rw [e8, na9]
    rw [e7]
    refine go true _ _ ?_
    refine ⟨pb_vin (by omega) (by decide), ?_⟩
    rintro _ rfl _ rfl
    rw [pb_cl (by omega), nI_1]
    refine ih _ ⟨upd (upd g (2 * q) (bI (hmf w m c L W q false))) (2 * q + 1) (bI (hmf w m c L W q true)), ?_, fun j hj => ?_⟩
    · rw [va_up2]
      have e8 : (va_up ar 26 (upd g (2 * q) (bI (hmf w m c L W q false)))) 26 = upd g (2 * q) (bI (hmf w m c L W q false)) := by rw [pb_up, if_pos rfl]
      rw [e8, na9]
    · simp only [pb_upd]
      by_cases z : j = q
      · subst z
        rw [if_neg (by omega), if_pos rfl, if_pos rfl]
        exact ⟨rfl, rfl⟩
      · rw [if_neg (by omega), if_neg (by omega), if_neg (by omega), if_neg (by omega)]
        exact hg j (by omega)
def fnd (g : Nat → Bool) : Nat → Nat → Int32
  | 0, _ => -9
  | n + 1, a => if g a = true then nI a else fnd g n (a + 1)
theorem bI_0 {b : Bool} : (bI b = 0) ↔ ¬ b = true := by cases b <;> decide
theorem wl9 {kt : kw_T} {x1 x2 x3 x7 : Int32} {q p k a fl w m c : Nat} {L W : Nat → Nat} {iv : fw_F} {ar : fw_R} {g : Nat → Int32} {Q : Int32 → fw_F → fw_R → Prop} (hq1 : 1 ≤ q) (hq : q ≤ 60) (hp1 : 1 ≤ p) (hp : p ≤ 60) (hk : k ≤ 60) (ha : a ≤ 9999) (hfl : fl ≤ 100) (h26 : ar 26 = g) (hg : ∀ q, q < 4 → g (2 * q) = bI (hmf w m c L W q false) ∧ g (2 * q + 1) = bI (hmf w m c L W q true)) : ∀ n t, t + n = a + 1001 → Q (fnd (fun t => hmf w m c L W ((t + fl) / q % 4) (decide ((t + fl) % p < k))) n t) iv ar → ∃ ku, wpX9_when_L140 kt x1 x2 x3 (nI q) (nI p) (nI k) x7 (nI a) (nI fl) iv ar Q (fun _ => Q (-9) iv ar) ku (nI t)
  | 0, t, e, hQ => ⟨1, by
      refine ⟨fun _ => hQ, fun y => absurd ?_ y⟩
      rw [show (1000 : Int32) = nI 1000 from rfl, nI_add]
      exact nI_lt (by omega) (by omega)⟩
  | n + 1, t, e, hQ => by
    have ih := wl9 (kt := kt) (x1 := x1) (x2 := x2) (x3 := x3) (x7 := x7) (iv := iv) (Q := Q) hq1 hq hp1 hp hk ha hfl h26 hg n (t + 1) (by omega)
    unfold fnd at hQ
    have q3 : (t + fl) / q % 4 < 4 := Nat.mod_lt _ (by omega)
    have qz : ¬ nI q = 0 := nI_ne0 (by omega) (by omega)
    have pz : ¬ nI p = 0 := nI_ne0 (by omega) (by omega)
    have ml : (t + fl) % p < p := Nat.mod_lt _ (by omega)
    have hx : ∃ ku, (hmf w m c L W ((t + fl) / q % 4) (decide ((t + fl) % p < k)) = true ∧ Q (nI t) iv ar) ∨ (¬ hmf w m c L W ((t + fl) / q % 4) (decide ((t + fl) % p < k)) = true ∧ wpX9_when_L140 kt x1 x2 x3 (nI q) (nI p) (nI k) x7 (nI a) (nI fl) iv ar Q (fun _ => Q (-9) iv ar) ku (nI (t + 1))) := by
      by_cases z : hmf w m c L W ((t + fl) / q % 4) (decide ((t + fl) % p < k)) = true
      · rw [if_pos z] at hQ
        exact ⟨0, Or.inl ⟨z, hQ⟩⟩
      · rw [if_neg z] at hQ
        obtain ⟨ku, hku⟩ := ih hQ
        exact ⟨ku, Or.inr ⟨z, hku⟩⟩
    obtain ⟨ku, hku⟩ := hx
    refine ⟨ku + 1, ?_⟩
    unfold wpX9_when_L140
    rw [show (1000 : Int32) = nI 1000 from rfl, nI_add]
    refine ⟨fun y => absurd y (nI_nlt (by omega) (by omega)), fun _ => ?_⟩
    rintro _ rfl
    rw [nI_add, pb_q4 (by omega) (by omega) (by omega), pk_rem (show t + fl < 2 ^ 31 by omega) (by omega) (by omega), show (2 : Int32) = nI 2 from rfl, pk_mul, show (0 : Int32) = nI 0 from rfl, nI_add, nI_1, nI_1, nI_leI (by omega) (by omega), pb_cl (by omega), pb_cl (by omega), h26, Nat.add_zero, Nat.mul_comm, (hg _ q3).1, (hg _ q3).2, show nI 0 = 0 from rfl, bI_0, bI_0]
    refine ⟨pz, fun y => ⟨qz, pb_vin (by omega) (by decide), ?_⟩, fun y => ⟨qz, pb_vin (by omega) (by decide), ?_⟩⟩
    · rw [show decide ((t + fl) % p < k) = false from decide_eq_false (by omega)] at hku
      refine ⟨fun z => ?_, fun z => ?_⟩
      · rintro _ rfl
        rcases hku with v | v
        · exact absurd v.1 z
        · exact v.2
      · rcases hku with v | v
        · exact v.2
        · exact absurd v.1 z
    · rw [show decide ((t + fl) % p < k) = true from decide_eq_true (by omega)] at hku
      refine ⟨fun z => ?_, fun z => ?_⟩
      · rintro _ rfl
        rcases hku with v | v
        · exact absurd v.1 z
        · exact v.2
      · rcases hku with v | v
        · exact v.2
        · exact absurd v.1 z
theorem lt10 {x1 x2 x3 x5 x6 x7 x8 z10 y23 : Int32} {q t w : Nat} {L : Nat → Nat} {jv : fw_F} {br : fw_R} {g0 : Nat → Int32} {Q : Int32 → fw_F → fw_R → Prop} {K : Int32 → fw_F → fw_R → Prop} (hq1 : 1 ≤ q) (hq : q ≤ 60) (ht : t < 2 ^ 30) (hw : w ≤ 6) (e1 : jv 16 = nI w) (e2 : jv 17 = nI w) (hL : ∀ c, c < w * w → br 18 c = nI (L c)) (hK : ∀ g : Nat → Int32, (∀ c, c < w * w → g c = nI (sn w (t / q % 4) L c)) → K (nI (w * w)) jv (va_up br 22 g)) : ∃ ku, wpX10_when_L140 x1 x2 x3 (nI q) x5 x6 x7 x8 (nI t) z10 y23 Q K ku 0 jv (va_up br 22 g0) := by
  have h36 : w * w ≤ 36 := Nat.mul_le_mul hw hw
  have qz : ¬ nI q = 0 := nI_ne0 (by omega) (by omega)
  refine pk_loop (σ := fw_R) (fun n i s => wpX10_when_L140 x1 x2 x3 (nI q) x5 x6 x7 x8 (nI t) z10 y23 Q K n (nI i) jv s) (fun i s => ∃ g : Nat → Int32, s = va_up br 22 g ∧ ∀ c, c < i → g c = nI (sn w (t / q % 4) L c)) (w * w) 0 (va_up br 22 g0) (by omega) ⟨g0, rfl, fun c hc => absurd hc (by omega)⟩ ?_ ?_
  · rintro n _ ⟨g, rfl, hg⟩
    refine ⟨fun _ => hK g hg, fun y => absurd ?_ y⟩
    rw [e1, e2, pk_mul]
    exact nI_le (Nat.le_refl _) (by omega)
  · rintro n i _ hi ⟨g, rfl, hg⟩ ih
    unfold wpX10_when_L140
    rw [pb_q4 (by omega) (by omega) (by omega)]
    refine ⟨fun y => absurd y ?_, fun _ => ⟨qz, ?_⟩⟩
    · rw [e1, e2, pk_mul]
      exact nI_ge hi (by omega)
    · refine tt10 (L := L) hw e2 (fun c hc => hL c hc) hi (by omega) ⟨pb_vin (by omega) (by decide), ?_⟩
      rintro _ rfl _ rfl
      rw [nI_1]
      refine ih _ ⟨upd g i (nI (sn w (t / q % 4) L i)), ?_, fun c hc => ?_⟩
      · rw [pb_cl (by omega), va_up2, pb_up, if_pos rfl]
        rfl
      · rw [pb_upd]
        by_cases z : c = i
        · rw [if_pos z, z]
        · rw [if_neg z]; exact hg c (by omega)
theorem wl10 {x1 x2 : Int32} {q p k a fl w m c : Nat} {L W : Nat → Nat} {jv : fw_F} {br : fw_R} {Q : Int32 → fw_F → fw_R → Prop} (hq1 : 1 ≤ q) (hq : q ≤ 60) (hp1 : 1 ≤ p) (hp : p ≤ 60) (hk : k ≤ 60) (ha : a ≤ 9999) (hfl : fl ≤ 100) (hw : w ≤ 6) (e1 : jv 16 = nI w) (e2 : jv 17 = nI w) (hL : ∀ c, c < w * w → L c < 4 ∧ br 18 c = nI (L c)) (hc : c < w * w) (hW : ∀ j, j < 15 → W j ≤ 9) (hs : ∀ j, j < 15 → br 12 j = nI (W j)) (hm : m ≤ 1000) (hb : alw W 0 ≤ 2025) : ∀ n t, t + n = a + 1001 → (∀ g, Q (fnd (fun t => hmf w m c L W ((t + fl) / q % 4) (decide ((t + fl) % p < k))) n t) jv (va_up br 22 g)) → ∃ ku, ∀ g0 : Nat → Int32, wpX10_when_L119 x1 x2 (nI c) (nI q) (nI p) (nI k) (nI m) (nI a) (nI fl) Q (fun _ jv2 br2 => Q (-9) jv2 br2) ku (nI t) jv (va_up br 22 g0)
  | 0, t, e, hQ => ⟨1, fun g0 => by
      refine ⟨fun _ => hQ g0, fun y => absurd ?_ y⟩
      rw [show (1000 : Int32) = nI 1000 from rfl, nI_add]
      exact nI_lt (by omega) (by omega)⟩
  | n + 1, t, e, hQ => by
    have ih := wl10 (x1 := x1) (x2 := x2) (jv := jv) (br := br) (Q := Q) hq1 hq hp1 hp hk ha hfl hw e1 e2 hL hc hW hs hm hb n (t + 1)
    have pz : ¬ nI p = 0 := nI_ne0 (by omega) (by omega)
    have ml : (t + fl) % p < p := Nat.mod_lt _ (by omega)
    have q3 : (t + fl) / q % 4 < 4 := Nat.mod_lt _ (by omega)
    unfold fnd at hQ
    have hlow : ∀ (fu : Nat) (b : Bool) (g : Nat → Int32), b = decide ((t + fl) % p < k) → (∀ c, c < w * w → g c = nI (sn w ((t + fl) / q % 4) L c)) → (¬ hmf w m c L W ((t + fl) / q % 4) (decide ((t + fl) % p < k)) = true → wpX10_when_L119 x1 x2 (nI c) (nI q) (nI p) (nI k) (nI m) (nI a) (nI fl) Q (fun _ jv2 br2 => Q (-9) jv2 br2) fu (nI (t + 1)) jv (va_up br 22 g)) → wpX10_isLow jv (va_up br 22 g) (nI c) 0 (bI b) (nI m) (fun (r37 : Int32) => (r37 = 0 → (∀ y39 : Int32, y39 = nI t + 1 → (wpX10_when_L119 x1 x2 (nI c) (nI q) (nI p) (nI k) (nI m) (nI a) (nI fl) Q (fun _ jv2 br2 => Q (-9) jv2 br2) fu y39 jv (va_up br 22 g)))) ∧ (¬ r37 = 0 → (Q (nI t) jv (va_up br 22 g)))) := fun fu b g eb hg hn => by
      have es : sset (bI b) 0 = (if b = true then 12 else 4) := by cases b <;> decide
      refine lo10 (st := 0) (S := sn w ((t + fl) / q % 4) L) hw hw e1 e2 (fun c hc => ⟨hg c hc, sn_lt (fun c hc => (hL c hc).1) hc⟩) hc hW hs (by omega) hm hb (fun y => ⟨fun z => absurd z (by decide), fun _ => ?_⟩) (fun y => ⟨fun _ => ?_, fun z => absurd rfl z⟩)
      · rw [es] at y
        have z : hmf w m c L W ((t + fl) / q % 4) (decide ((t + fl) % p < k)) = true := by
          rw [← eb]; exact decide_eq_true y
        have := hQ g
        rw [if_pos z] at this
        exact this
      · rintro _ rfl
        rw [nI_1]
        rw [es] at y
        refine hn (fun z => y ?_)
        rw [← eb] at z
        exact of_decide_eq_true z
    have hx : ∃ fu, ∀ g : Nat → Int32, (∀ c, c < w * w → g c = nI (sn w ((t + fl) / q % 4) L c)) → (¬ hmf w m c L W ((t + fl) / q % 4) (decide ((t + fl) % p < k)) = true → wpX10_when_L119 x1 x2 (nI c) (nI q) (nI p) (nI k) (nI m) (nI a) (nI fl) Q (fun _ jv2 br2 => Q (-9) jv2 br2) fu (nI (t + 1)) jv (va_up br 22 g)) := by
      by_cases z : hmf w m c L W ((t + fl) / q % 4) (decide ((t + fl) % p < k)) = true
      · exact ⟨0, fun g _ y => absurd z y⟩
      · simp only [if_neg z] at hQ
        obtain ⟨fu, hfu⟩ := ih (by omega) hQ
        exact ⟨fu, fun g _ _ => hfu g⟩
    obtain ⟨fu, hfu⟩ := hx
    refine ⟨fu + 1, fun g0 => ?_⟩
    unfold wpX10_when_L119
    rw [show (1000 : Int32) = nI 1000 from rfl, nI_add]
    refine ⟨fun y => absurd y (nI_nlt (by omega) (by omega)), fun _ => ?_⟩
    rintro _ rfl
    rw [nI_add]
    refine lt10 (L := L) hq1 hq (by omega) hw e1 e2 (fun c hc => (hL c hc).2) (fun g hg => ?_)
    rw [pk_rem (show t + fl < 2 ^ 31 by omega) (by omega) (by omega), nI_leI (by omega) (by omega)]
    refine ⟨pz, fun y => ?_, fun y => ?_⟩
    · exact hlow fu false g (decide_eq_false (by omega)).symm hg (hfu g hg)
    · exact hlow fu true g (decide_eq_true (by omega)).symm hg (hfu g hg)
theorem op_when : lw_o18 Rl := by
  intro kt iv ar jv br hR a1 a2 a3 a4 a5 a6 a7 a8
  obtain ⟨⟨n, kd, pc, tn, bd, hn, h1, h2, h3, hk⟩, ⟨to, T, W, g1, g2, g3, g4, g5, g6, g7, g8⟩, ⟨h, w, L, u1, u2, u3, u4, u5, u6, u7, u8⟩, -⟩ := id hR
  unfold pu_when wpX9_when wpX10_when
  by_cases hx : ∃ i, i < n ∧ a1 = nI i
  · obtain ⟨i, hi, rfl⟩ := hx
    obtain ⟨⟨b0, b1, b2, b3, b4, b5⟩, ⟨c0, c1, c2, c3, c4, c5, c6⟩, d0, d1, d2, d3⟩ := hk i hi
    simp only [kA_yes hn h2 h1 hi, kn10_yes hn h3 hi]
    by_cases hy : ∃ c, c < h * w ∧ a3 = nI c
    · obtain ⟨c, hc, rfl⟩ := hy
      have h36 : h * w ≤ 36 := Nat.mul_le_mul u1 u2
      have cd := cdiv hc
      simp only [ce9_yes u1 u2 u4 u5 hc, ce10_yes u1 u2 u6 u7 hc, ev9_within, ev10_within, ev10_isFeet, ev10_isTicks, sq9 u1 u2 u4 u5, wh10 u1 u2 cd.2.1 u6 u7, g2, g3]
      by_cases p1 : 1 ≤ a2 ∧ a2 ≤ 40
      · by_cases p2 : 1 ≤ a4 ∧ a4 ≤ 60
        · by_cases p3 : 1 ≤ a5 ∧ a5 ≤ 60
          · by_cases p4 : 0 ≤ a6 ∧ a6 ≤ a5
            · by_cases p5 : 0 ≤ a7 ∧ a7 ≤ 1000
              · by_cases p6 : 0 ≤ a8 ∧ a8 ≤ 9999
                · by_cases p7 : to = 0
                  · exact ⟨-3, fun jv1 br1 => jv1 = jv ∧ br1 = br, fun iv1 ar1 => iv1 = iv ∧ ar1 = ar, fun iv1 ar1 z jv1 br1 z2 => by rw [z.1, z.2, z2.1, z2.2]; exact hR, by simp [p1, p2, p3, p4, p5, p6, p7, show nI 0 = 0 from rfl], by simp [p1, p2, p3, p4, p5, p6, p7, show nI 0 = 0 from rfl]⟩
                  · by_cases p8 : h = w
                    · obtain ⟨f, hf1, hf2, rfl⟩ := pb_rng 1 40 rfl rfl (by decide) (by decide) p1
                      obtain ⟨q, hq1, hq2, rfl⟩ := pb_rng 1 60 rfl rfl (by decide) (by decide) p2
                      obtain ⟨p, hp1, hp2, rfl⟩ := pb_rng 1 60 rfl rfl (by decide) (by decide) p3
                      obtain ⟨k, -, hk2, rfl⟩ := pb_rng 0 p rfl rfl (by decide) (by omega) p4
                      obtain ⟨m, -, hm, rfl⟩ := pb_rng 0 1000 rfl rfl (by decide) (by decide) p5
                      obtain ⟨a, -, ha, rfl⟩ := pb_rng 0 9999 rfl rfl (by decide) (by decide) p6
                      have e3 : nI to ≠ 0 := fun z => p7 ((to_cases g1).mp z)
                      have hW := fun j hj => (g7 j hj).1
                      have l3 := (alw_b (st := 0) hW (g8 (by omega))).2
                      subst p8
                      have pz : ¬ nI (pc i) = 0 := nI_ne0 (by omega) (by omega)
                      have fe : (nI f + nI (pc i) - 1) / nI (pc i) = nI ((f + pc i - 1) / pc i) := by
                        rw [nI_add, show (1 : Int32) = nI 1 from rfl, pk_sub (by omega), pk_div (by omega) (by omega) (by omega)]
                      have fl : (f + pc i - 1) / pc i ≤ 100 := by
                        have : (f + pc i - 1) / pc i ≤ f + pc i - 1 := Nat.div_le_self _ _
                        omega
                      refine ⟨fnd (fun t => hmf h m c L W ((t + (f + pc i - 1) / pc i) / q % 4) (decide ((t + (f + pc i - 1) / pc i) % p < k))) 1001 a, fun jv1 br1 => ∃ g, jv1 = jv ∧ br1 = va_up br 22 g, fun iv1 ar1 => ∃ g, iv1 = iv ∧ ar1 = va_up ar 26 g, ?_, ?_, ?_⟩
                      · rintro _ _ ⟨g, rfl, rfl⟩ _ _ ⟨g', rfl, rfl⟩
                        refine Rl_ag hR ⟨fun _ _ _ => rfl, fun k h1 h2 h3 h4 h5 h6 h7 h8 => ?_⟩ ⟨fun _ _ _ _ _ _ => rfl, fun k h1 h2 h3 h4 h5 h6 h7 h8 h9 => ?_⟩
                        · rw [pb_up, if_neg h8]
                        · rw [pb_up, if_neg h3]
                      · simp only [p1, p2, p3, p4, p5, p6, e3]; simp only [and_self, not_true_eq_false, false_implies, true_implies, not_false_eq_true, and_true, true_and, show ((1 : Int32) = 0) = False from by simp, ne_eq]
                        refine sh9h u1 u4 u5 (fun c hc => ⟨(u8 c hc).1, (u8 c hc).2.1⟩) hc hW (fun j hj => (g7 j hj).2.1) hm l3 (fun g hg => ?_)
                        unfold wpX3_flightOf
                        rw [c2, fe]
                        refine ⟨pz, ?_⟩
                        refine wl9 hq1 hq2 hp1 hp2 (by omega) ha fl rfl ?_ 1001 a rfl ⟨rfl, g, rfl, rfl⟩
                        rw [pb_up, if_pos rfl]
                        exact hg
                      · simp only [p1, p2, p3, p4, p5, p6, e3]; simp only [and_self, not_true_eq_false, false_implies, true_implies, not_false_eq_true, and_true, true_and, show ((1 : Int32) = 0) = False from by simp, ne_eq]
                        rw [pb_cl (by omega), d1, fe]
                        refine ⟨pb_vin (by omega) (by decide), pb_vin (by omega) (by decide), pz, ?_⟩
                        rintro _ rfl
                        obtain ⟨ku, hku⟩ := wl10 (x1 := nI i) (x2 := nI f) (jv := jv) (br := br) (L := L) (W := W) (Q := fun r2 jv2 br2 => r2 = fnd (fun t => hmf h m c L W ((t + (f + pc i - 1) / pc i) / q % 4) (decide ((t + (f + pc i - 1) / pc i) % p < k))) 1001 a ∧ ∃ g, jv2 = jv ∧ br2 = va_up br 22 g) hq1 hq2 hp1 hp2 (show k ≤ 60 by omega) ha fl u1 u6 u7 (fun c hc => ⟨(u8 c hc).1, (u8 c hc).2.2⟩) hc hW (fun j hj => (g7 j hj).2.2) hm l3 1001 a rfl (fun g => ⟨rfl, g, rfl, rfl⟩)
                        refine ⟨ku, ?_⟩
                        have e9 : va_up br 22 (br 22) = br := by funext j; unfold va_up; split <;> simp_all
                        have := hku (br 22)
                        rw [e9] at this
                        exact this
                    · exact ⟨-3, fun jv1 br1 => jv1 = jv ∧ br1 = br, fun iv1 ar1 => iv1 = iv ∧ ar1 = ar, fun iv1 ar1 z jv1 br1 z2 => by rw [z.1, z.2, z2.1, z2.2]; exact hR, by simp [p1, p2, p3, p4, p5, p6, p8], by simp [p1, p2, p3, p4, p5, p6, p8]⟩
                · exact ⟨-2, fun jv1 br1 => jv1 = jv ∧ br1 = br, fun iv1 ar1 => iv1 = iv ∧ ar1 = ar, fun iv1 ar1 z jv1 br1 z2 => by rw [z.1, z.2, z2.1, z2.2]; exact hR, by simp [p1, p2, p3, p4, p5, p6], by simp [p1, p2, p3, p4, p5, p6]⟩
              · exact ⟨-2, fun jv1 br1 => jv1 = jv ∧ br1 = br, fun iv1 ar1 => iv1 = iv ∧ ar1 = ar, fun iv1 ar1 z jv1 br1 z2 => by rw [z.1, z.2, z2.1, z2.2]; exact hR, by simp [p1, p2, p3, p4, p5], by simp [p1, p2, p3, p4, p5]⟩
            · exact ⟨-2, fun jv1 br1 => jv1 = jv ∧ br1 = br, fun iv1 ar1 => iv1 = iv ∧ ar1 = ar, fun iv1 ar1 z jv1 br1 z2 => by rw [z.1, z.2, z2.1, z2.2]; exact hR, by simp [p1, p2, p3, p4], by simp [p1, p2, p3, p4]⟩
          · exact ⟨-2, fun jv1 br1 => jv1 = jv ∧ br1 = br, fun iv1 ar1 => iv1 = iv ∧ ar1 = ar, fun iv1 ar1 z jv1 br1 z2 => by rw [z.1, z.2, z2.1, z2.2]; exact hR, by simp [p1, p2, p3], by simp [p1, p2, p3]⟩
        · exact ⟨-2, fun jv1 br1 => jv1 = jv ∧ br1 = br, fun iv1 ar1 => iv1 = iv ∧ ar1 = ar, fun iv1 ar1 z jv1 br1 z2 => by rw [z.1, z.2, z2.1, z2.2]; exact hR, by simp [p1, p2], by simp [p1, p2]⟩
      · exact ⟨-2, fun jv1 br1 => jv1 = jv ∧ br1 = br, fun iv1 ar1 => iv1 = iv ∧ ar1 = ar, fun iv1 ar1 z jv1 br1 z2 => by rw [z.1, z.2, z2.1, z2.2]; exact hR, by simp [p1], by simp [p1]⟩
    · simp only [ce9_no u1 u2 u4 u5 hy, ce10_no u1 u2 u6 u7 hy]
      exact ⟨-1, fun jv1 br1 => jv1 = jv ∧ br1 = br, fun iv1 ar1 => iv1 = iv ∧ ar1 = ar, fun iv1 ar1 z jv1 br1 z2 => by rw [z.1, z.2, z2.1, z2.2]; exact hR, by simp, by simp⟩
  · simp only [kA_no hn h2 hx, kn10_no hn h3 hx]
    exact ⟨-1, fun jv1 br1 => jv1 = jv ∧ br1 = br, fun iv1 ar1 => iv1 = iv ∧ ar1 = ar, fun iv1 ar1 z jv1 br1 z2 => by rw [z.1, z.2, z2.1, z2.2]; exact hR, by simp, by simp⟩
