/-! ===== orders, the reference's side ===== -/
theorem oi10 {jv : fw_F} {br : fw_R} {x2 x : Int32} {f j : Nat} {Q : fw_F → fw_R → Prop} {K : Int32 → fw_F → fw_R → Prop} (hj : j < 6) (hf : f + j < 320) (hx : br 4 (f + j) = x) : ∀ a r, a ≤ j → (∀ a' r', a' ≤ j → upd r' a' x = ins x a r → K (nI a') jv (va_up br 24 r')) → ∃ ku, wpX10_layOrdered_L10 (nI f) x2 (nI j) Q K ku (nI a) jv (va_up br 24 r) := by
  intro a
  induction a with
  | zero =>
    intro r ha hK
    refine ⟨0 + 1, ?_⟩
    unfold wpX10_layOrdered_L10
    exact ⟨fun _ => hK 0 r (by omega) rfl, fun y => absurd (show nI 0 ≤ (0 : Int32) by decide) y⟩
  | succ a ih =>
    intro r ha hK
    have e4 : va_up br 24 r 4 (f + j) = x := by rw [pb_up, if_neg (by decide)]; exact hx
    have e24 : va_up br 24 r 24 = r := by rw [pb_up, if_pos rfl]
    by_cases y : r a ≤ x
    · refine ⟨0 + 1, ?_⟩
      unfold wpX10_layOrdered_L10
      rw [nI_pred, nI_add, pb_cl (by omega), pb_cl (by omega), e4, e24]
      exact ⟨fun z => absurd z (nI_nle (by omega) (by omega)), fun _ => ⟨pb_vin (by omega) (by decide), pb_vin (by omega) (by decide), fun _ => hK (a + 1) r ha (by unfold ins; rw [if_pos y]), fun z => absurd y z⟩⟩
    · obtain ⟨ku, hk⟩ := ih (upd r (a + 1) (r a)) (by omega) (fun a' r' h1 h2 => hK a' r' h1 (by rw [h2, ins_n y]))
      refine ⟨ku + 1, ?_⟩
      unfold wpX10_layOrdered_L10
      rw [nI_pred, nI_add, pb_cl (by omega), pb_cl (by omega), e4, e24, pk_m1]
      refine ⟨fun z => absurd z (nI_nle (by omega) (by omega)), fun _ => ⟨pb_vin (by omega) (by decide), pb_vin (by omega) (by decide), fun z => absurd z y, fun _ => ⟨pb_vin (by omega) (by decide), pb_vin (by omega) (by decide), ?_⟩⟩⟩
      rintro _ rfl _ rfl
      rw [va_up2, pb_cl (by omega)]
      exact hk
theorem lo10o {jv : fw_F} {br : fw_R} {n f : Nat} {V : Nat → Int32} {Q : fw_F → fw_R → Prop} (hn : n ≤ 6) (hf : f + n ≤ 320) (hV : ∀ t, t < n → br 4 (f + t) = V t) (hQ : Q jv (va_up br 24 (srt V (br 24) n))) : wpX10_layOrdered jv br (nI f) (nI n) Q := by
  unfold wpX10_layOrdered
  refine pk_loop (σ := fw_R) (fun fu j s => wpX10_layOrdered_L2 (nI f) (nI n) Q (fun (_ : Int32) (iv18 : fw_F) (ar19 : fw_R) => Q iv18 ar19) fu (nI j) jv s) (fun j s => s = va_up br 24 (srt V (br 24) j)) n 0 br (by omega) (va_upS _ _).symm ?_ ?_
  · rintro fu _ rfl
    unfold wpX10_layOrdered_L2
    exact ⟨fun _ => hQ, fun y => absurd (nI_le (Nat.le_refl _) (by omega)) y⟩
  · rintro fu j _ hj rfl ih
    unfold wpX10_layOrdered_L2
    refine ⟨fun y => absurd y (nI_ge hj (by omega)), fun _ => ?_⟩
    rw [nI_add]
    refine oi10 (x := V j) (by omega) (by omega) (hV j hj) j _ (Nat.le_refl _) (fun a' r' h1 h2 => ⟨pb_vin (by omega) (by decide), pb_vin (by omega) (by decide), ?_⟩)
    rintro _ rfl _ rfl
    rw [nI_1]
    refine ih _ ?_
    rw [va_up2, pb_cl (by omega), pb_cl (by omega), show va_up br 24 r' 24 = r' from by rw [pb_up, if_pos rfl], show va_up br 24 r' 4 (f + j) = V j from by rw [pb_up, if_neg (by decide)]; exact hV j hj, h2]
    rfl
theorem wo10o {jv : fw_F} {br : fw_R} {n h w f : Nat} {V : Nat → Int32} {Q : Int32 → Prop} (hn : n ≤ 6) (hf : f + n ≤ 320) (hh : h ≤ 6) (hw : w ≤ 6) (e1 : jv 16 = nI h) (e2 : jv 17 = nI w) (hV : ∀ t, t < n → br 4 (f + t) = V t) (h1 : ¬ (∀ t, t < n → kno h w (V t)) → Q (-1)) (h2 : (∀ t, t < n → kno h w (V t)) → ¬ (∀ t, t < n → ∀ s, s < t → ¬ V s = V t) → Q (-2)) (h0 : (∀ t, t < n → kno h w (V t)) → (∀ t, t < n → ∀ s, s < t → ¬ V s = V t) → Q 0) : wpX10_whyOrder jv br (nI f) (nI n) Q := by
  unfold wpX10_whyOrder
  refine pk_loop (σ := Unit) (fun fu j _ => wpX10_whyOrder_L2 (nI f) (nI n) jv br Q _ fu (nI j)) (fun j _ => ∀ t, t < j → kno h w (V t)) n 0 () (by omega) (fun t ht => absurd ht (by omega)) ?_ ?_
  · intro fu _ hk
    unfold wpX10_whyOrder_L2
    refine ⟨fun _ => ?_, fun y => absurd (nI_le (Nat.le_refl _) (by omega)) y⟩
    refine pk_loop (σ := Unit) (fun fu j _ => wpX10_whyOrder_L32 (nI f) (nI n) jv br Q (fun (_ : Int32) => Q 0) fu (nI j)) (fun j _ => ∀ t, t < j → ∀ s, s < t → ¬ V s = V t) n 0 () (by omega) (fun t ht => absurd ht (by omega)) ?_ ?_
    · intro fu _ hd
      unfold wpX10_whyOrder_L32
      exact ⟨fun _ => h0 hk hd, fun y => absurd (nI_le (Nat.le_refl _) (by omega)) y⟩
    · intro fu j _ hj hd ih
      unfold wpX10_whyOrder_L32
      refine ⟨fun y => absurd y (nI_ge hj (by omega)), fun _ => ?_⟩
      refine pk_loop (σ := Unit) (fun fu2 i _ => wpX10_whyOrder_L40 (nI f) (nI n) (nI j) jv br Q _ fu2 (nI i)) (fun i _ => ∀ s, s < i → ¬ V s = V j) j 0 () (by omega) (fun s hs => absurd hs (by omega)) ?_ ?_
      · intro fu2 _ hd2
        unfold wpX10_whyOrder_L40
        refine ⟨fun _ => ?_, fun y => absurd (nI_le (Nat.le_refl _) (by omega)) y⟩
        rintro _ rfl
        rw [nI_1]
        refine ih () (fun t ht s hs => ?_)
        rcases Nat.lt_or_ge t j with z | z
        · exact hd t z s hs
        · have : t = j := by omega
          subst this
          exact hd2 s hs
      · intro fu2 i _ hi hd2 ih2
        unfold wpX10_whyOrder_L40
        rw [nI_add, nI_add, pb_cl (by omega), pb_cl (by omega), hV i (by omega), hV j hj, nI_1 i]
        refine ⟨fun y => absurd y (nI_ge hi (by omega)), fun _ => ⟨pb_vin (by omega) (by decide), pb_vin (by omega) (by decide), fun z => ?_, fun z => h2 hk (fun y => y j hj i hi z.symm)⟩⟩
        rintro _ rfl
        refine ih2 () (fun s hs => ?_)
        rcases Nat.lt_or_ge s i with y | y
        · exact hd2 s y
        · have : s = i := by omega
          subst this
          exact fun y => z y.symm
  · intro fu j _ hj hk ih
    unfold wpX10_whyOrder_L2
    rw [nI_add, pb_cl (by omega), hV j hj, nI_1]
    refine ⟨fun y => absurd y (nI_ge hj (by omega)), fun _ => ⟨pb_vin (by omega) (by decide), ?_⟩⟩
    by_cases z : kno h w (V j)
    · obtain ⟨c, hc, ec⟩ := z
      rw [ec, ce10_yes hh hw e1 e2 hc]
      refine ⟨fun _ => ?_, fun y => absurd y (by decide)⟩
      rintro _ rfl
      refine ih () (fun t ht => ?_)
      rcases Nat.lt_or_ge t j with y | y
      · exact hk t y
      · have : t = j := by omega
        subst this
        exact ⟨c, hc, ec⟩
    · rw [ce10_no hh hw e1 e2 z]
      exact ⟨fun y => absurd rfl y, fun _ => h1 (fun y => z (y j hj))⟩
theorem ly10o {jv : fw_F} {br : fw_R} {n h w T first : Nat} {L W sc : Nat → Nat} {Q : fw_F → fw_R → Prop} (hn : n ≤ 6) (hf : first ≤ 9999) (hT : T ≤ 9) (eT : jv 11 = nI T) (hh : h ≤ 6) (hw : w ≤ 6) (e1 : jv 16 = nI h) (e2 : jv 17 = nI w) (hL : ∀ c, c < h * w → L c < 4 ∧ br 18 c = nI (L c)) (hW : ∀ j, j < 15 → W j ≤ 9) (ha : ∀ j, j < 15 → br 12 j = nI (W j)) (hb : ∀ st, 1 ≤ alw W st ∧ alw W st ≤ 2025) (h24 : ∀ j, j < n → sc j < h * w ∧ br 24 j = nI (sc j)) (hQ : ∀ g0 g : Nat → Int32, (∀ j q, j < n → q < n → g (6 * j + q) = nI (ocs h w L W T first sc j q)) → Q jv (va_up (va_up br 22 g0) 23 g)) : wpX10_layCosts jv br (nI n) (nI first) Q := by
  unfold wpX10_layCosts
  refine ls10 hh hw e1 e2 (fun c hc => (hL c hc).2) (fun g0 hg0 => ?_)
  have hQ2 := hQ g0
  have b12 : ∀ j, j < 15 → va_up br 22 g0 12 j = nI (W j) := fun j hj => by rw [pb_up, if_neg (by decide)]; exact ha j hj
  have b22 : ∀ c, c < h * w → va_up br 22 g0 22 c = nI (L c) ∧ L c < 4 := fun c hc => ⟨by rw [pb_up, if_pos rfl]; exact hg0 c hc, (hL c hc).1⟩
  have b24 : ∀ j, j < n → sc j < h * w ∧ va_up br 22 g0 24 j = nI (sc j) := fun j hj => ⟨(h24 j hj).1, by rw [pb_up, if_neg (by decide)]; exact (h24 j hj).2⟩
  generalize va_up br 22 g0 = r0 at hQ2 b12 b22 b24 ⊢
  refine pk_loop (σ := fw_R) (fun fu j s => wpX10_layCosts_L6 (nI n) (nI first) Q (fun (_ : Int32) (iv18 : fw_F) (ar19 : fw_R) => Q iv18 ar19) fu (nI j) jv s) (fun j s => ∃ g : Nat → Int32, s = va_up r0 23 g ∧ ∀ i q, i < j → q < n → g (6 * i + q) = nI (ocs h w L W T first sc i q)) n 0 r0 (by omega) ⟨r0 23, (va_upS _ _).symm, fun i q hi => absurd hi (by omega)⟩ ?_ ?_
  · rintro fu _ ⟨g, rfl, hg⟩
    unfold wpX10_layCosts_L6
    exact ⟨fun _ => hQ2 g hg, fun y => absurd (nI_le (Nat.le_refl _) (by omega)) y⟩
  · rintro fu j _ hj ⟨g, rfl, hg⟩ ih
    unfold wpX10_layCosts_L6
    refine ⟨fun y => absurd y (nI_ge hj (by omega)), fun _ => ?_⟩
    refine pk_loop (σ := fw_R) (fun fu2 q s => wpX10_layCosts_L14 (nI n) (nI first) (nI j) Q _ fu2 (nI q) jv s) (fun q s => ∃ g : Nat → Int32, s = va_up r0 23 g ∧ (∀ i q, i < j → q < n → g (6 * i + q) = nI (ocs h w L W T first sc i q)) ∧ ∀ x, x < q → g (6 * j + x) = nI (ocs h w L W T first sc j x)) n 0 _ (by omega) ⟨g, rfl, hg, fun x hx => absurd hx (by omega)⟩ ?_ ?_
    · rintro fu2 _ ⟨g, rfl, hg, hg2⟩
      unfold wpX10_layCosts_L14
      refine ⟨fun _ => ?_, fun y => absurd (nI_le (Nat.le_refl _) (by omega)) y⟩
      rintro _ rfl
      rw [nI_1]
      refine ih _ ⟨g, rfl, fun i q hi hq => ?_⟩
      rcases Nat.lt_or_ge i j with z | z
      · exact hg i q z hq
      · have : i = j := by omega
        subst this
        exact hg2 q hq
    · rintro fu2 q _ hq ⟨g, rfl, hg, hg2⟩ ih2
      unfold wpX10_layCosts_L14
      have e24 : va_up r0 23 g 24 j = nI (sc j) := by rw [pb_up, if_neg (by decide)]; exact (b24 j hj).2
      have c12 : ∀ j, j < 15 → va_up r0 23 g 12 j = nI (W j) := fun j hj => by rw [pb_up, if_neg (by decide)]; exact b12 j hj
      have c22 : ∀ c, c < h * w → va_up r0 23 g 22 c = nI (L c) ∧ L c < 4 := fun c hc => by rw [pb_up, if_neg (by decide)]; exact b22 c hc
      refine ⟨fun y => absurd y (nI_ge hq (by omega)), fun _ => ?_⟩
      rw [nI_add]
      refine (st10 hT eT (by omega)).mpr ⟨pb_vin (by omega) (by decide), ?_⟩
      rw [pb_cl (by omega), e24]
      have l0 := hb (sg T (first + q))
      have l1 := wto_le (h := h) (w := w) (s := 12) (S := L) (st := sg T (first + q)) (c := sc j) hW
      refine ct10 (S := L) (W := W) hh hw e1 e2 c22 (b24 j hj).1 hW c12 sg_le ?_
      rw [show sset 1 0 = 12 from rfl]
      refine aw10 hW c12 sg_le ?_
      change ¬ (nI (alw W (sg T (first + q)))).toInt64 = 0 ∧ _
      have e6 : (6 : Int32) * nI j + nI q = nI (6 * j + q) := by rw [show (6 : Int32) = nI 6 from rfl, pk_mul, nI_add]
      refine ⟨fun y => ?_, ?_⟩
      · rw [pb_i2l (by omega)] at y
        exact absurd ((pb_lz (by omega)).mp y) (by omega)
      · rw [e6]
        refine ⟨pb_vin (by omega) (by decide), ?_⟩
        have ev : ((1000000 : Int64) * (nI (wto h w 12 L W (sg T (first + q)) (sc j))).toInt64 / (nI (sm5 (fun k => wt W 1 k (sg T (first + q))) 5 * sm5 (fun k => wt W 2 k (sg T (first + q))) 5)).toInt64).toInt32 = nI (ocs h w L W T first sc j q) := by
          change ((1000000 : Int64) * (nI (wto h w 12 L W (sg T (first + q)) (sc j))).toInt64 / (nI (alw W (sg T (first + q)))).toInt64).toInt32 = _
          rw [pb_i2l (by omega), pb_i2l (by omega), show (1000000 : Int64) = lN 1000000 from rfl, lN_mul, pk_lDiv (by omega) (by omega) (by omega), lN_i]
          rfl
        rw [ev]
        rintro _ rfl _ rfl
        rw [nI_1 q, pb_cl (by omega), va_up2, show va_up r0 23 g 23 = g from by rw [pb_up, if_pos rfl]]
        refine ih2 _ ⟨_, rfl, fun i x hi hx => ?_, fun x hx => ?_⟩
        · rw [pb_upd, if_neg (by omega)]; exact hg i x hi hx
        · rw [pb_upd]
          by_cases z : x = q
          · subst z
            rw [if_pos rfl]
          · rw [if_neg (by omega)]; exact hg2 x (by omega)
-- all orders, one after the other
def SA (ar : fw_R) (t o : Nat → Int32) : fw_R := va_up (va_up ar 25 t) 26 o
theorem SA_25 {ar : fw_R} {t o : Nat → Int32} : SA ar t o 25 = t := by unfold SA; rw [pb_up, if_neg (by decide), pb_up, if_pos rfl]
theorem SA_26 {ar : fw_R} {t o : Nat → Int32} : SA ar t o 26 = o := by unfold SA; rw [pb_up, if_pos rfl]
theorem SA_x {ar : fw_R} {t o : Nat → Int32} {k : Nat} (h1 : k ≠ 25) (h2 : k ≠ 26) : SA ar t o k = ar k := by unfold SA; rw [pb_up, if_neg h2, pb_up, if_neg h1]
theorem SA_t {ar : fw_R} {t t' o : Nat → Int32} : va_up (SA ar t o) 25 t' = SA ar t' o := by
  funext k
  unfold SA
  simp only [pb_up]
  by_cases h1 : k = 25
  · subst h1; simp
  · by_cases h2 : k = 26
    · subst h2; simp
    · simp [h1, h2]
theorem SA_o {ar : fw_R} {t o o' : Nat → Int32} : va_up (SA ar t o) 26 o' = SA ar t o' := by unfold SA; rw [va_up2]
theorem upd2 {f : Nat → Int32} {p : Nat} {a b : Int32} : upd (upd f p a) p b = upd f p b := by
  funext k
  simp only [pb_upd]
  split <;> rfl
def SI (iv : fw_F) (b : Int32) : fw_F := va_up iv 27 b
theorem SI_27 {iv : fw_F} {b : Int32} : SI iv b 27 = b := by unfold SI; rw [pb_up, if_pos rfl]
theorem SI_b {iv : fw_F} {b b' : Int32} : va_up (SI iv b) 27 b' = SI iv b' := by unfold SI; rw [va_up2]
theorem it10 {jv : fw_F} {br : fw_R} {p v : Nat} {u : Nat → Nat} {Q : Int32 → Prop} (hp : p ≤ 6) (hv : v < 2 ^ 31) (hu : ∀ q, q < p → u q < 6 ∧ br 25 q = nI (u q)) (h1 : (∃ q, q < p ∧ u q = v) → Q 1) (h0 : ¬ (∃ q, q < p ∧ u q = v) → Q 0) : wpX10_isTried jv br (nI v) (nI p) Q := by
  unfold wpX10_isTried
  refine pk_loop (σ := Unit) (fun n q _ => wpX10_isTried_L2 (nI v) (nI p) jv br Q (fun _ => Q 0) n (nI q)) (fun q _ => ∀ x, x < q → ¬ u x = v) p 0 () (by omega) (fun x hx => absurd hx (by omega)) ?_ ?_
  · intro n _ hI
    unfold wpX10_isTried_L2
    exact ⟨fun _ => h0 (fun ⟨q, a, b⟩ => hI q a b), fun y => absurd (nI_le (Nat.le_refl _) (by omega)) y⟩
  · intro n q _ hq hI ih
    obtain ⟨a, b⟩ := hu q hq
    unfold wpX10_isTried_L2
    rw [pb_cl (by omega), b, nI_1]
    refine ⟨fun y => absurd y (nI_ge hq (by omega)), fun _ => ⟨pb_vin (by omega) (by decide), fun z => ?_, fun z => h1 ⟨q, hq, (nI_eq (by omega) hv).mp z⟩⟩⟩
    rintro _ rfl
    refine ih () (fun x hx y => ?_)
    rcases Nat.lt_or_ge x q with g | g
    · exact hI x g y
    · have : x = q := by omega
      subst this
      exact z ((nI_eq (by omega) hv).mpr y)
theorem fl28 {n p : Nat} {u : Nat → Nat} {t o : Nat → Int32} {iv : fw_F} {ar : fw_R} {Q : fw_F → fw_R → Prop} {K : fw_F → fw_R → Prop} (hn : n ≤ 6) (hp : p < n) (hu : ∀ q, q < p → u q < n ∧ t q = nI (u q)) : ∀ d v, v + d ≤ n → (∀ x, v ≤ x → x < v + d → ∃ q, q < p ∧ u q = x) → (v + d < n → ¬ ∃ q, q < p ∧ u q = v + d) → K iv (SA ar (upd t p (nI (v + d))) o) → ∃ ku, wpX10_findOrder_L28 (nI n) (nI p) Q K ku iv (SA ar (upd t p (nI v)) o) := by
  intro d
  induction d with
  | zero =>
    intro v h1 h2 h3 hK
    refine ⟨0 + 1, ?_⟩
    unfold wpX10_findOrder_L28
    rw [pb_cl (by omega), SA_25, pk_us, nI_leI (by omega) (by omega)]
    refine ⟨pb_vin (by omega) (by decide), fun _ => hK, fun y => ⟨pb_vin (by omega) (by decide), ?_⟩⟩
    refine it10 (u := u) (by omega) (by omega) (fun q hq => ⟨by have := (hu q hq).1; omega, by rw [SA_25, pk_un (by omega)]; exact (hu q hq).2⟩) (fun z => absurd z (h3 (by omega))) (fun _ => ⟨fun _ => hK, fun y => absurd rfl y⟩)
  | succ d ih =>
    intro v h1 h2 h3 hK
    obtain ⟨ku, hk⟩ := ih (v + 1) (by omega) (fun x g1 g2 => h2 x (by omega) (by omega)) (fun g => by rw [show v + 1 + d = v + (d + 1) by omega]; exact h3 (by omega)) (by rw [show v + 1 + d = v + (d + 1) by omega]; exact hK)
    refine ⟨ku + 1, ?_⟩
    unfold wpX10_findOrder_L28
    rw [pb_cl (by omega), SA_25, pk_us, nI_leI (by omega) (by omega)]
    refine ⟨pb_vin (by omega) (by decide), fun y => absurd y (by omega), fun y => ⟨pb_vin (by omega) (by decide), ?_⟩⟩
    refine it10 (u := u) (by omega) (by omega) (fun q hq => ⟨by have := (hu q hq).1; omega, by rw [SA_25, pk_un (by omega)]; exact (hu q hq).2⟩) (fun _ => ⟨fun y => absurd y (by decide), fun _ => ⟨pb_vin (by omega) (by decide), pb_vin (by omega) (by decide), ?_⟩⟩) (fun z => absurd (h2 v (by omega) (by omega)) z)
    rintro _ rfl
    rw [SA_t, upd2, nI_1]
    exact hk
theorem st14 {n p v d fu : Nat} {u : Nat → Nat} {t o : Nat → Int32} {b : Int32} {iv : fw_F} {ar : fw_R} {Q : fw_F → fw_R → Prop} {K : Int32 → fw_F → fw_R → Prop} (hn : n ≤ 6) (hp : p < n) (hu : ∀ q, q < p → u q < n ∧ t q = nI (u q)) (ht : t p + 1 = nI v) (h1 : v + d ≤ n) (h2 : ∀ x, v ≤ x → x < v + d → ∃ q, q < p ∧ u q = x) (h3 : v + d < n → ¬ ∃ q, q < p ∧ u q = v + d)
    (hA : v + d = n → wpX10_findOrder_L14 (nI n) Q K fu (nI p + (-1)) (SI iv b) (SA ar (upd t p (nI (v + d))) o))
    (hB : v + d < n → p + 1 < n → wpX10_findOrder_L14 (nI n) Q K fu (nI (p + 1)) (SI iv b) (SA ar (upd (upd t p (nI (v + d))) (p + 1) (-1)) o))
    (hC : v + d < n → p + 1 = n → wpX10_offer (SI iv b) (SA ar (upd t p (nI (v + d))) o) (nI n) (fun iv2 ar2 => wpX10_findOrder_L14 (nI n) Q K fu (nI p) iv2 ar2)) : wpX10_findOrder_L14 (nI n) Q K (fu + 1) (nI p) (SI iv b) (SA ar t o) := by
  have e1 : nI n - 1 = nI (n - 1) := pk_sub (b := 1) (by omega)
  unfold wpX10_findOrder_L14
  rw [pb_cl (by omega), SA_25, ht, SA_t, nI_1, e1]
  refine ⟨fun y => absurd y (nI_pos (by omega)), fun _ => ⟨pb_vin (by omega) (by decide), pb_vin (by omega) (by decide), ?_⟩⟩
  rintro _ rfl
  refine fl28 (u := u) hn hp hu d v h1 h2 h3 ⟨pb_vin (by omega) (by decide), ?_⟩
  rw [SA_25, pk_us, nI_ltI (by omega) (by omega), nI_leI (by omega) (by omega)]
  refine ⟨fun y => ⟨fun z => hC y (by omega), fun z => ?_⟩, fun y => ?_⟩
  · rintro _ rfl
    refine ⟨pb_vin (by omega) (by decide), ?_⟩
    rintro _ rfl
    rw [SA_t, pb_cl (by omega)]
    exact hB y (by omega)
  · rintro _ rfl
    exact hA (by omega)
-- one order held against the best
def rep (n : Nat) (s : Nat → Int32) : Option (Nat × (Nat → Nat)) → Int32 → (Nat → Int32) → Prop
  | none, b, _ => b = -1
  | some y, b, o => b = nI y.1 ∧ y.1 < 2 ^ 31 ∧ ∀ j, j < n → o j = s (y.2 j)
theorem of56 {n : Nat} {u : Nat → Nat} {s t o : Nat → Int32} {iv : fw_F} {ar : fw_R} {Q : fw_F → fw_R → Prop} (hn : n ≤ 6) (hu : ∀ q, q < n → u q < n ∧ t q = nI (u q)) (h24 : ∀ j, j < n → ar 24 j = s j) (hQ : Q iv (SA ar t (fun j => if j < n then s (u j) else o j))) : ∃ ku, wpX10_offer_L56 (nI n) Q (fun (_ : Int32) (iv17 : fw_F) (ar18 : fw_R) => Q iv17 ar18) ku 0 iv (SA ar t o) := by
  refine pk_loop (σ := fw_R) (fun fu i r => wpX10_offer_L56 (nI n) Q (fun (_ : Int32) (iv17 : fw_F) (ar18 : fw_R) => Q iv17 ar18) fu (nI i) iv r) (fun i r => ∃ g : Nat → Int32, r = SA ar t g ∧ ∀ j, g j = if j < i then s (u j) else o j) n 0 _ (by omega) ⟨o, rfl, fun j => by rw [if_neg (by omega)]⟩ ?_ ?_
  · rintro fu _ ⟨g, rfl, hg⟩
    unfold wpX10_offer_L56
    refine ⟨fun _ => ?_, fun y => absurd (nI_le (Nat.le_refl _) (by omega)) y⟩
    rw [show g = (fun j => if j < n then s (u j) else o j) from funext hg]
    exact hQ
  · rintro fu i _ hi ⟨g, rfl, hg⟩ ih
    obtain ⟨a1, a2⟩ := hu i hi
    unfold wpX10_offer_L56
    rw [pb_cl (by omega), SA_25, SA_26, SA_x (k := 24) (by decide) (by decide), a2, pb_cl (by omega), nI_1, h24 _ a1]
    refine ⟨fun y => absurd y (nI_ge hi (by omega)), fun _ => ⟨pb_vin (by omega) (by decide), pb_vin (by omega) (by decide), pb_vin (by omega) (by decide), ?_⟩⟩
    rintro _ rfl _ rfl
    rw [SA_o]
    refine ih _ ⟨_, rfl, fun j => ?_⟩
    rw [pb_upd, hg j]
    by_cases z : j = i
    · subst z
      rw [if_pos rfl, if_pos (by omega)]
    · rw [if_neg z]
      by_cases y : j < i
      · rw [if_pos y, if_pos (by omega)]
      · rw [if_neg y, if_neg (by omega)]
theorem of10 {n : Nat} {C : Nat → Nat → Nat} {u w : Nat → Nat} {s t o : Nat → Int32} {b : Int32} {iv : fw_F} {ar : fw_R} {B : Option (Nat × (Nat → Nat))} (hn : n ≤ 6) (hC : ∀ j q, C j q ≤ 1000000) (hu : ∀ q, q < n → u q < n ∧ t q = nI (u q)) (hw : ∀ q, q < n → w q = u q) (h23 : ∀ j q, j < n → q < n → ar 23 (6 * j + q) = nI (C j q)) (h24 : ∀ j, j < n → ar 24 j = s j) (hB : rep n s B b o) : ∃ b' o', rep n s (cmb (psm C u n, w) B) b' o' ∧ ∀ Q : fw_F → fw_R → Prop, Q (SI iv b') (SA ar t o') → wpX10_offer (SI iv b) (SA ar t o) (nI n) Q := by
  have l1 := psm_le (u := u) hC n
  have l2 : psm C u n < 2 ^ 31 := by omega
  have sums : ∀ (Q : fw_F → fw_R → Prop) (K : Int32 → Int32 → Prop), (∀ z, K (nI (psm C u n)) z) → ∃ ku, wpX10_offer_L4 (nI n) (SI iv b) (SA ar t o) Q K ku 0 0 := fun Q K hK => by
    refine pk_loop (σ := Int32) (fun fu q z => wpX10_offer_L4 (nI n) (SI iv b) (SA ar t o) Q K fu z (nI q)) (fun q z => z = nI (psm C u q)) n 0 0 (by omega) rfl ?_ ?_
    · rintro fu _ rfl
      unfold wpX10_offer_L4
      exact ⟨fun _ => hK _, fun y => absurd (nI_le (Nat.le_refl _) (by omega)) y⟩
    · rintro fu q _ hq rfl ih
      have ih2 := ih _ rfl
      obtain ⟨a1, a2⟩ := hu q hq
      unfold wpX10_offer_L4
      have e6 : (6 : Int32) * nI (u q) + nI q = nI (6 * u q + q) := by rw [show (6 : Int32) = nI 6 from rfl, pk_mul, nI_add]
      rw [pb_cl (show q < 2 ^ 31 by omega), SA_25, a2, e6, pb_cl (by omega), SA_x (k := 23) (by decide) (by decide), h23 _ _ a1 hq, nI_add, nI_1]
      refine ⟨fun y => absurd y (nI_ge hq (by omega)), fun _ => ⟨pb_vin (by omega) (by decide), pb_vin (by omega) (by decide), ?_⟩⟩
      rintro _ rfl _ rfl
      exact ih2
  have hnew : rep n s (some (psm C u n, w)) (nI (psm C u n)) (fun j => if j < n then s (u j) else o j) := ⟨rfl, l2, fun j hj => by
    change (if j < n then s (u j) else o j) = s (w j)
    rw [if_pos hj, hw j hj]⟩
  cases B with
  | none =>
    refine ⟨nI (psm C u n), fun j => if j < n then s (u j) else o j, hnew, fun Q hQ => ?_⟩
    have hb : b = -1 := hB
    unfold wpX10_offer
    refine sums _ _ (fun z => ?_)
    rw [SI_27, hb]
    refine ⟨fun _ => ?_, fun y => absurd (show (-1 : Int32) < 0 by decide) y⟩
    rintro _ rfl
    rw [SI_b]
    exact of56 hn hu h24 hQ
  | some y =>
    obtain ⟨hb, hy, ho⟩ := hB
    by_cases z : psm C u n < y.1
    · refine ⟨nI (psm C u n), fun j => if j < n then s (u j) else o j, ?_, fun Q hQ => ?_⟩
      · change rep n s (if psm C u n < y.1 then some (psm C u n, w) else some y) _ _
        rw [if_pos z]
        exact hnew
      · unfold wpX10_offer
        refine sums _ _ (fun z2 => ?_)
        rw [SI_27, hb, nI_leI hy l2]
        refine ⟨fun y2 => absurd y2 (nI_pos hy), fun _ => ⟨fun y2 => absurd y2 (by omega), fun _ => ?_⟩⟩
        rintro _ rfl
        rw [← hb, SI_b]
        exact of56 hn hu h24 hQ
    · refine ⟨b, o, ?_, fun Q hQ => ?_⟩
      · change rep n s (if psm C u n < y.1 then some (psm C u n, w) else some y) _ _
        rw [if_neg z]
        exact ⟨hb, hy, ho⟩
      · unfold wpX10_offer
        refine sums _ _ (fun z2 => ?_)
        rw [SI_27, hb, nI_leI hy l2]
        refine ⟨fun y2 => absurd y2 (nI_pos hy), fun _ => ⟨fun _ => by rw [← hb]; exact hQ, fun y2 => absurd (show y.1 ≤ psm C u n by omega) y2⟩⟩
-- from one place in the search to another
def rch (n : Nat) (Q : fw_F → fw_R → Prop) (K : Int32 → fw_F → fw_R → Prop) (iv : fw_F) (ar : fw_R) (p : Int32) (b : Int32) (t o : Nat → Int32) (p' : Int32) (b' : Int32) (t' o' : Nat → Int32) : Prop := ∃ k, ∀ fu, wpX10_findOrder_L14 (nI n) Q K fu p' (SI iv b') (SA ar t' o') → wpX10_findOrder_L14 (nI n) Q K (fu + k) p (SI iv b) (SA ar t o)
theorem rch_t {n : Nat} {Q : fw_F → fw_R → Prop} {K : Int32 → fw_F → fw_R → Prop} {iv : fw_F} {ar : fw_R} {p b p' b' p2 b2 : Int32} {t o t' o' t2 o2 : Nat → Int32} (h1 : rch n Q K iv ar p b t o p' b' t' o') (h2 : rch n Q K iv ar p' b' t' o' p2 b2 t2 o2) : rch n Q K iv ar p b t o p2 b2 t2 o2 := by
  obtain ⟨k1, h1⟩ := h1
  obtain ⟨k2, h2⟩ := h2
  exact ⟨k2 + k1, fun fu h => by rw [← Nat.add_assoc]; exact h1 _ (h2 _ h)⟩
theorem ftl {P : Nat → Prop} {n : Nat} : ∀ e v, v + e = n → ∃ d, v + d ≤ n ∧ (∀ x, v ≤ x → x < v + d → P x) ∧ (v + d < n → ¬ P (v + d)) := by
  intro e
  induction e with
  | zero => exact fun v h => ⟨0, by omega, fun x h1 h2 => absurd h2 (by omega), fun h2 => absurd h2 (by omega)⟩
  | succ e ih =>
    intro v h
    by_cases z : P v
    · obtain ⟨d, h1, h2, h3⟩ := ih (v + 1) (by omega)
      refine ⟨d + 1, by omega, fun x g1 g2 => ?_, fun g => ?_⟩
      · rcases Nat.lt_or_ge v x with y | y
        · exact h2 x (by omega) (by omega)
        · have : x = v := by omega
          subst this
          exact z
      · rw [show v + (d + 1) = v + 1 + d by omega]
        exact h3 (by omega)
    · exact ⟨0, by omega, fun x h1 h2 => absurd h2 (by omega), fun _ => z⟩
