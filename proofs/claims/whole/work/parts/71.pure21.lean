/-! ===== what marks say ===== -/
def ftb (P : Nat → Bool) : Nat → Bool
  | 0 => true
  | q + 1 => ftb P q && P q
theorem ftb_iff {P : Nat → Bool} : ∀ {m : Nat}, ftb P m = true ↔ ∀ q, q < m → P q = true
  | 0 => ⟨fun _ q h => absurd h (by omega), fun _ => rfl⟩
  | m + 1 => by
    unfold ftb
    rw [Bool.and_eq_true, ftb_iff]
    constructor
    · intro h q hq
      by_cases z : q = m
      · subst z; exact h.2
      · exact h.1 q (by omega)
    · intro h
      exact ⟨fun q hq => h q (by omega), h m (by omega)⟩
theorem bsm_mono {P : Nat → Bool} {a : Nat} : ∀ {b : Nat}, a ≤ b → bsm P a ≤ bsm P b
  | 0, h => by
    have e : a = 0 := by omega
    subst e; exact Nat.le_refl _
  | b + 1, h => by
    by_cases z : a = b + 1
    · subst z; exact Nat.le_refl _
    · have := bsm_mono (P := P) (a := a) (b := b) (by omega)
      have e : bsm P (b + 1) = bsm P b + (if P b = true then 1 else 0) := rfl
      rw [e]
      omega
theorem bsm_s {P : Nat → Bool} {n : Nat} : bsm P (n + 1) = bsm P n + (if P n = true then 1 else 0) := rfl
theorem bsm_lt {P : Nat → Bool} {x g : Nat} (h : x < g) (hp : P x = true) : bsm P x < bsm P g := by
  have := bsm_mono (P := P) (a := x + 1) (b := g) (by omega)
  rw [bsm_s, if_pos hp] at this
  omega
theorem bsm_no {P : Nat → Bool} {g : Nat} : ∀ {x : Nat}, g ≤ x → (∀ y, g ≤ y → y < x → ¬ P y = true) → bsm P x = bsm P g
  | 0, h, _ => by
    have e : g = 0 := by omega
    subst e; rfl
  | x + 1, h, hn => by
    by_cases z : g = x + 1
    · subst z; rfl
    · rw [bsm_s, if_neg (hn x (by omega) (by omega)), bsm_no (x := x) (by omega) (fun y h1 h2 => hn y h1 (by omega))]; rfl
theorem bsm_nx {P : Nat → Bool} {N : Nat} : ∀ (r g : Nat), g + r = N → bsm P g < bsm P N → ∃ x, g ≤ x ∧ x < N ∧ P x = true ∧ ∀ y, g ≤ y → y < x → ¬ P y = true
  | 0, g, h, hl => by
    have e : g = N := by omega
    subst e; omega
  | r + 1, g, h, hl => by
    by_cases z : P g = true
    · exact ⟨g, Nat.le_refl _, by omega, z, fun y h1 h2 => absurd h1 (by omega)⟩
    · have e : bsm P (g + 1) = bsm P g := by rw [bsm_s, if_neg z]; rfl
      obtain ⟨x, h1, h2, h3, h4⟩ := bsm_nx (P := P) (N := N) r (g + 1) (by omega) (by omega)
      refine ⟨x, by omega, h2, h3, fun y h5 h6 => ?_⟩
      by_cases z2 : y = g
      · subst z2; exact z
      · exact h4 y (by omega) h6
/-- how it comes at f feet, thrown the way g -/
def wy (p w g f : Nat) : Nat := cm p w (rd p (g % 24 + 1) (g / 24) f)
def fit (p w m : Nat) (F C : Nat → Nat) (g : Nat) : Bool := ftb (fun q => decide (wy p w g (F q) = C q)) m
theorem is9 {kt : kw_T} {iv : fw_F} {ar : fw_R} {i p w m g : Nat} {F C : Nat → Nat} {Q : Int32 → Prop} (e : kt.2.2.1 i 1 = nI p) (ha : ∀ a, a < 24 * p → kt.2.2.2 i a = nI (cm p w a)) (hp : 1 ≤ p) (hp9 : p ≤ 9) (hg : g < 576) (hm : m ≤ 10) (e7 : iv 7 = nI m) (hF : ∀ q, q < m → (F q ≤ 40 ∧ C q < 4) ∧ ar 11 q = nI (F q) ∧ ar 12 q = nI (C q)) (h1 : fit p w m F C g = true → Q 1) (h0 : ¬ fit p w m F C g = true → Q 0) : wpX4_isSo kt iv ar i (nI (g / 24)) (nI (g % 24 + 1)) Q := by
  unfold wpX4_isSo
  have key : ∀ r q, q + r = m → (∀ x, x < q → decide (wy p w g (F x) = C x) = true) → ∃ ku, wpX4_isSo_L3 kt i (nI (g / 24)) (nI (g % 24 + 1)) iv ar Q (fun _ => Q 1) ku (nI q) := by
    intro r
    induction r with
    | zero =>
      intro q hq hx
      have eq : q = m := by omega
      subst eq
      refine ⟨1, fun _ => h1 (ftb_iff.mpr hx), fun y => absurd ?_ y⟩
      rw [e7]
      exact nI_le (Nat.le_refl _) (by omega)
    | succ r ih =>
      intro q hq hx
      obtain ⟨⟨f1, f2⟩, f3, f4⟩ := hF q (by omega)
      have ml : g % 24 < 24 := Nat.mod_lt _ (by omega)
      have cl := cm_lt (p := p) (w := w) (a := rd p (g % 24 + 1) (g / 24) (F q))
      by_cases z : wy p w g (F q) = C q
      · obtain ⟨ku, hku⟩ := ih (q + 1) (by omega) (fun x hx2 => by
          by_cases y : x = q
          · subst y; exact decide_eq_true z
          · exact hx x (by omega))
        refine ⟨ku + 1, fun y => absurd y (by rw [e7]; exact nI_ge (by omega) (by omega)), fun _ => ⟨pb_vin (by omega) (by decide), ?_⟩⟩
        rw [pb_cl (by omega), f3, f4]
        refine (ca9 e ha hp hp9 (by omega) (by omega) f1).mpr ⟨pb_vin (by omega) (by decide), fun _ => ?_, fun y => absurd (congrArg nI z) y⟩
        rintro _ rfl
        rw [nI_1]; exact hku
      · refine ⟨1, fun y => absurd y (by rw [e7]; exact nI_ge (by omega) (by omega)), fun _ => ⟨pb_vin (by omega) (by decide), ?_⟩⟩
        rw [pb_cl (by omega), f3, f4]
        refine (ca9 e ha hp hp9 (by omega) (by omega) f1).mpr ⟨pb_vin (by omega) (by decide), fun y => absurd ((nI_eq (by omega) (by omega)).mp y) z, fun _ => h0 (fun u => z ?_)⟩
        exact of_decide_eq_true (ftb_iff.mp u q (by omega))
  exact key m 0 (by omega) (fun x hx => absurd hx (by omega))
theorem cy10 {jv : fw_F} {br : fw_R} {i k b p g f : Nat} {Q : Int32 → Prop} (hi : i < 6) (hk : k < 3) (hb : b ≤ 5) (e1 : br 6 i = nI k) (e2 : br 9 i = nI b) (e3 : br 7 i = nI p) (hp : 1 ≤ p) (hp9 : p ≤ 9) (hg : g < 576) (hf : f ≤ 40) (hQ : Q (nI (wy p (wd k b) g f))) : wpX10_cameBy jv br (nI i) (nI g) (nI f) Q := by
  unfold wpX10_cameBy
  have ml : g % 24 < 24 := Nat.mod_lt _ (by omega)
  rw [show (24 : Int32) = nI 24 from rfl, pk_rem (by omega) (by omega) (by omega), pk_div (by omega) (by omega) (by omega), nI_1, pb_cl (by omega), e3]
  refine ⟨pb_vin (by omega) (by decide), ?_⟩
  refine (ro10 hp hp9 (by omega) (by omega) hf).mpr ?_
  refine (wi10 hi hk e1 e2).mpr ⟨pb_vin (by omega) (by decide), ?_⟩
  exact (cm10 hp9 (wd_le hb) (rd_lt hp)).mpr hQ
theorem li10 {jv : fw_F} {br : fw_R} {i k b p m g : Nat} {z2 : Int32} {F C : Nat → Nat} {Q : Int32 → fw_F → fw_R → Prop} {K : Int32 → Int32 → Prop} (hi : i < 6) (hk : k < 3) (hb : b ≤ 5) (e1 : br 6 i = nI k) (e2 : br 9 i = nI b) (e3 : br 7 i = nI p) (hp : 1 ≤ p) (hp9 : p ≤ 9) (hg : g < 576) (hm : m ≤ 10) (e7 : jv 28 = nI m) (hF : ∀ q, q < m → (F q ≤ 40 ∧ C q < 4) ∧ br 29 q = nI (F q) ∧ br 30 q = nI (C q)) (hK : ∀ z, K (bI (fit p (wd k b) m F C g)) z) : ∃ ku, wpX10_layFitting_L17 (nI i) (nI g) z2 jv br Q K ku 1 0 := by
  have key : ∀ r q, q + r = m → (∀ x, x < q → decide (wy p (wd k b) g (F x) = C x) = true) → ∃ ku, wpX10_layFitting_L17 (nI i) (nI g) z2 jv br Q K ku 1 (nI q) := by
    intro r
    induction r with
    | zero =>
      intro q hq hx
      have eq : q = m := by omega
      subst eq
      have h1 : fit p (wd k b) q F C g = true := ftb_iff.mpr hx
      rw [h1] at hK
      refine ⟨1, fun _ => hK _, fun y => absurd ?_ y⟩
      rw [e7]
      exact nI_le (Nat.le_refl _) (by omega)
    | succ r ih =>
      intro q hq hx
      obtain ⟨⟨f1, f2⟩, f3, f4⟩ := hF q (by omega)
      have cl := cm_lt (p := p) (w := wd k b) (a := rd p (g % 24 + 1) (g / 24) (F q))
      have wl : wy p (wd k b) g (F q) < 4 := cl
      by_cases z : wy p (wd k b) g (F q) = C q
      · obtain ⟨ku, hku⟩ := ih (q + 1) (by omega) (fun x hx2 => by
          by_cases y : x = q
          · subst y; exact decide_eq_true z
          · exact hx x (by omega))
        refine ⟨ku + 1, fun y => absurd y (by rw [e7]; exact nI_ge (by omega) (by omega)), fun _ => ⟨fun y => absurd y (by decide), fun _ => ⟨pb_vin (by omega) (by decide), ?_⟩⟩⟩
        rw [pb_cl (by omega), f3, f4]
        refine cy10 hi hk hb e1 e2 e3 hp hp9 hg f1 ⟨pb_vin (by omega) (by decide), fun y => absurd (congrArg nI z) y, fun _ => ?_⟩
        rintro _ rfl
        rw [nI_1]; exact hku
      · have h0 : fit p (wd k b) m F C g = false := by
          cases hh : fit p (wd k b) m F C g with
          | false => rfl
          | true => exact absurd (of_decide_eq_true (ftb_iff.mp hh q (by omega))) z
        rw [h0] at hK
        refine ⟨2, fun y => absurd y (by rw [e7]; exact nI_ge (by omega) (by omega)), fun _ => ⟨fun y => absurd y (by decide), fun _ => ⟨pb_vin (by omega) (by decide), ?_⟩⟩⟩
        rw [pb_cl (by omega), f3, f4]
        refine cy10 hi hk hb e1 e2 e3 hp hp9 hg f1 ⟨pb_vin (by omega) (by decide), fun _ => ?_, fun y => absurd ((nI_eq (by omega) (by omega)).mp y) z⟩
        rintro _ rfl
        exact ⟨fun _ => hK _, fun _ => ⟨fun _ => hK _, fun y => absurd rfl y⟩⟩
  exact key m 0 (by omega) (fun x hx => absurd hx (by omega))
theorem lf10 {jv : fw_F} {br : fw_R} {i k b p m : Nat} {F C : Nat → Nat} {Q : Int32 → fw_F → fw_R → Prop} (hi : i < 6) (hk : k < 3) (hb : b ≤ 5) (e1 : br 6 i = nI k) (e2 : br 9 i = nI b) (e3 : br 7 i = nI p) (hp : 1 ≤ p) (hp9 : p ≤ 9) (hm : m ≤ 10) (e7 : jv 28 = nI m) (hF : ∀ q, q < m → (F q ≤ 40 ∧ C q < 4) ∧ br 29 q = nI (F q) ∧ br 30 q = nI (C q)) (hQ : ∀ G : Nat → Int32, (∀ x, x < 576 → G x = bI (fit p (wd k b) m F C x)) → Q (nI (bsm (fit p (wd k b) m F C) 576)) jv (va_up br 31 G)) : wpX10_layFitting jv br (nI i) Q := by
  unfold wpX10_layFitting
  refine pk_loop (σ := Int32 × fw_R) (fun n g s => wpX10_layFitting_L4 (nI i) Q (fun w19 _ iv21 ar22 => Q w19 iv21 ar22) n s.1 (nI g) jv s.2) (fun g s => s.1 = nI (bsm (fit p (wd k b) m F C) g) ∧ ∃ G : Nat → Int32, s.2 = va_up br 31 G ∧ ∀ x, x < g → G x = bI (fit p (wd k b) m F C x)) 576 0 (0, br) (by omega) ⟨rfl, br 31, (va_upS _ _).symm, fun x h => absurd h (by omega)⟩ ?_ ?_
  · rintro n ⟨_, _⟩ ⟨rfl, G, rfl, hG⟩
    exact ⟨fun _ => hQ G hG, fun y => absurd (nI_le (a := 576) (b := 576) (by omega) (by omega)) y⟩
  · rintro n g ⟨_, _⟩ hg ⟨rfl, G, rfl, hG⟩ ih
    have bl := bsm_le (g := fit p (wd k b) m F C) g
    have bs := bsm_s (P := fit p (wd k b) m F C) (n := g)
    refine ⟨fun y => absurd y (nI_ge (b := 576) hg (by omega)), fun _ => ?_⟩
    dsimp only
    refine li10 (F := F) (C := C) hi hk hb e1 e2 e3 hp hp9 hg hm e7 hF (fun z => ⟨pb_vin (by omega) (by decide), ?_⟩)
    rintro _ rfl
    rw [pb_cl (by omega), na9, va_up2, pb_up, if_pos rfl]
    have hG' : ∀ x, x < g + 1 → upd G g (bI (fit p (wd k b) m F C g)) x = bI (fit p (wd k b) m F C x) := fun x hx => by
      rw [pb_upd]
      by_cases z : x = g
      · rw [if_pos z, z]
      · rw [if_neg z]; exact hG x (by omega)
    refine ⟨fun y => ?_, fun y => ?_⟩
    · rw [bI_0] at y
      rintro _ rfl _ rfl
      rw [nI_1, show (0 : Int32) = nI 0 from rfl, nI_add]
      rw [if_neg y] at bs
      exact ih (_, _) ⟨congrArg nI bs.symm, _, rfl, hG'⟩
    · rw [bI_0] at y
      rintro _ rfl _ rfl
      rw [nI_1, nI_1]
      rw [if_pos (Classical.not_not.mp y)] at bs
      exact ih (_, _) ⟨congrArg nI bs.symm, _, rfl, hG'⟩
/-- the list that the class lays: the ways that fit, below g -/
def lyd (p w m : Nat) (F C : Nat → Nat) (g : Nat) (iv : fw_F) (ar : fw_R) : Prop := iv 8 = nI (bsm (fit p w m F C) g) ∧ ∀ x, x < g → fit p w m F C x = true → ar 13 (bsm (fit p w m F C) x) = nI (x / 24) ∧ ar 14 (bsm (fit p w m F C) x) = nI (x % 24 + 1)
theorem ag9_m {iv : fw_F} {ar : fw_R} {iv1 : fw_F} {ar1 : fw_R} (h : ag9 iv ar iv1 ar1) : iv1 7 = iv 7 ∧ ar1 11 = ar 11 ∧ ar1 12 = ar 12 := ⟨h.1 7 (by decide) (by decide), h.2 11 (by decide) (by decide) (by decide) (by decide) (by decide) (by decide) (by decide) (by decide), h.2 12 (by decide) (by decide) (by decide) (by decide) (by decide) (by decide) (by decide) (by decide)⟩
theorem st9t {kt : kw_T} {iv : fw_F} {ar : fw_R} {i p w m : Nat} {F C : Nat → Nat} {Q : fw_F → fw_R → Prop} (e : kt.2.2.1 i 1 = nI p) (ha : ∀ a, a < 24 * p → kt.2.2.2 i a = nI (cm p w a)) (hp : 1 ≤ p) (hp9 : p ≤ 9) (hm : m ≤ 10) (e7 : iv 7 = nI m) (hF : ∀ q, q < m → (F q ≤ 40 ∧ C q < 4) ∧ ar 11 q = nI (F q) ∧ ar 12 q = nI (C q)) (hQ : ∀ iv1 ar1, ag9 iv ar iv1 ar1 → lyd p w m F C 576 iv1 ar1 → Q iv1 ar1) : wpX4_seekThrown kt iv ar i Q := by
  unfold wpX4_seekThrown
  rintro _ rfl
  refine pk_loop (σ := fw_F × fw_R) (fun n s u => wpX4_seekThrown_L7 kt i Q (fun _ iv20 ar21 => Q iv20 ar21) n (nI s) u.1 u.2) (fun s u => ag9 iv ar u.1 u.2 ∧ lyd p w m F C (24 * s) u.1 u.2) 24 0 (va_up iv 8 0, ar) (by omega) ⟨⟨fun k h1 h2 => by dsimp only; rw [pb_up, if_neg h2], fun _ _ _ _ _ _ _ _ _ => rfl⟩, ⟨rfl, fun x h => absurd h (by omega)⟩⟩ ?_ ?_
  · rintro n ⟨v, s⟩ ⟨h1, h2⟩
    exact ⟨fun _ => hQ v s h1 h2, fun y => absurd (nI_lt (a := 23) (b := 24) (by omega) (by omega)) y⟩
  · rintro n s ⟨v, r⟩ hs ⟨h1, h2⟩ ih
    refine ⟨fun y => absurd y (nI_nlt (a := 23) (by omega) (by omega)), fun _ => ?_⟩
    dsimp only
    refine pk_loop (σ := fw_F × fw_R) (fun n t u => wpX4_seekThrown_L15 kt i (nI s) Q _ n (nI (t + 1)) u.1 u.2) (fun t u => ag9 iv ar u.1 u.2 ∧ lyd p w m F C (24 * s + t) u.1 u.2) 24 0 (v, r) (by omega) ⟨h1, h2⟩ ?_ ?_
    · rintro n2 ⟨v, r⟩ ⟨h1, h2⟩
      refine ⟨fun _ => ?_, fun y => absurd (nI_lt (a := 24) (b := 25) (by omega) (by omega)) y⟩
      rintro _ rfl
      rw [nI_1]
      exact ih (v, r) ⟨h1, h2⟩
    · rintro n2 t ⟨v, r⟩ ht ⟨h1, h2⟩ ih2
      dsimp only at h1 h2 ⊢
      obtain ⟨h3, h4⟩ := h2
      have bl := bsm_le (g := fit p w m F C) (24 * s + t)
      have bs := bsm_s (P := fit p w m F C) (n := 24 * s + t)
      obtain ⟨m1, m2, m3⟩ := ag9_m h1
      have eg1 : (24 * s + t) / 24 = s := by omega
      have eg2 : (24 * s + t) % 24 = t := by omega
      refine ⟨fun y => absurd y (nI_nlt (a := 24) (by omega) (by omega)), fun _ => ?_⟩
      rw [h3]
      refine ⟨fun y => absurd y (nI_ge (b := 576) (by omega) (by omega)), fun _ => ?_⟩
      have so := is9 (kt := kt) (iv := v) (ar := r) (i := i) (g := 24 * s + t) (m := m) (F := F) (C := C) (Q := fun (r6 : Int32) => (r6 = 0 → (∀ y8 : Int32, y8 = nI (t + 1) + 1 → (wpX4_seekThrown_L15 kt i (nI s) Q (fun _ iv16 ar17 => ∀ y18 : Int32, y18 = nI s + 1 → wpX4_seekThrown_L7 kt i Q (fun _ iv20 ar21 => Q iv20 ar21) n y18 iv16 ar17) n2 y8 v r))) ∧ (¬ r6 = 0 → (vp_in (nI (bsm (fit p w m F C) (24 * s + t))) 576 ∧ (∀ ar10 : fw_R, ar10 = va_up r 13 (upd (r 13) (nI (bsm (fit p w m F C) (24 * s + t))).toNatClampNeg (nI s)) → (vp_in (nI (bsm (fit p w m F C) (24 * s + t))) 576 ∧ (∀ ar12 : fw_R, ar12 = va_up ar10 14 (upd (ar10 14) (nI (bsm (fit p w m F C) (24 * s + t))).toNatClampNeg (nI (t + 1))) → (∀ iv13 : fw_F, iv13 = va_up v 8 (nI (bsm (fit p w m F C) (24 * s + t)) + 1) → (∀ y14 : Int32, y14 = nI (t + 1) + 1 → (wpX4_seekThrown_L15 kt i (nI s) Q (fun _ iv16 ar17 => ∀ y18 : Int32, y18 = nI s + 1 → wpX4_seekThrown_L7 kt i Q (fun _ iv20 ar21 => Q iv20 ar21) n y18 iv16 ar17) n2 y14 iv13 ar12))))))))) e ha hp hp9 (by omega) hm (by rw [m1]; exact e7) (by rw [m2, m3]; exact hF) (fun y => ?_) (fun y => ?_)
      · rw [eg1, eg2] at so
        exact so
      · refine ⟨fun z => absurd z (by decide), fun _ => ⟨pb_vin (by omega) (by decide), ?_⟩⟩
        rintro _ rfl
        refine ⟨pb_vin (by omega) (by decide), ?_⟩
        rintro _ rfl _ rfl _ rfl
        rw [nI_1 (t + 1), nI_1 (bsm (fit p w m F C) (24 * s + t)), pb_cl (by omega)]
        rw [if_pos y] at bs
        refine ih2 (va_up v 8 (nI ((bsm (fit p w m F C) (24 * s + t)) + 1)), va_up (va_up r 13 (upd (r 13) (bsm (fit p w m F C) (24 * s + t)) (nI s))) 14 (upd (va_up r 13 (upd (r 13) (bsm (fit p w m F C) (24 * s + t)) (nI s)) 14) (bsm (fit p w m F C) (24 * s + t)) (nI (t + 1)))) ⟨⟨fun k q1 q2 => ?_, fun k q1 q2 q3 q4 q5 q6 q7 q8 => ?_⟩, ⟨?_, fun x hx hf => ?_⟩⟩
        · dsimp only
          rw [pb_up, if_neg q2]; exact h1.1 k q1 q2
        · dsimp only
          rw [pb_up, if_neg q5, pb_up, if_neg q4]; exact h1.2 k q1 q2 q3 q4 q5 q6 q7 q8
        · dsimp only
          rw [pb_up, if_pos rfl, ← bs]; rfl
        · dsimp only
          rw [pb_up, if_neg (by decide), pb_up, if_pos rfl, pb_up, if_pos rfl, pb_up, if_neg (by decide), pb_upd, pb_upd]
          by_cases z : x = 24 * s + t
          · subst z
            rw [if_pos rfl, if_pos rfl, eg1, eg2]
            exact ⟨rfl, rfl⟩
          · have lt := bsm_lt (P := fit p w m F C) (x := x) (g := 24 * s + t) (by omega) hf
            rw [if_neg (by omega), if_neg (by omega)]
            exact h4 x (by omega) hf
      · refine ⟨fun _ => ?_, fun z => absurd rfl z⟩
        rintro _ rfl
        rw [nI_1 (t + 1)]
        rw [if_neg y] at bs
        refine ih2 (v, r) ⟨h1, ⟨?_, fun x hx hf => ?_⟩⟩
        · dsimp only
          rw [h3, ← Nat.add_assoc, bs]; rfl
        · refine h4 x ?_ hf
          have : x ≠ 24 * s + t := fun z => y (by rw [← z]; exact hf)
          omega
