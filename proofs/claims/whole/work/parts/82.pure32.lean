/-! ===== orders, the class's side ===== -/
theorem cb9 {kt : kw_T} {iv : fw_F} {ar : fw_R} {n m j : Nat} {C : Nat → Nat → Nat} {Q : Int32 → Prop} (hn : n ≤ 6) (hm : m < 2 ^ n) (hne : opc m < n) (hj : j < n) (hh : ¬ hit m j = true) (h8 : ∀ j q, j < n → q < n → ar 8 (6 * j + q) = nI (C j q)) (h9 : ∀ z, m < z → z < 2 ^ n → ar 9 z = nI (Rm n C z)) (hQ : Q (nI (cbm n C m j))) : wpX5_costBy kt iv ar (nI m) (nI j) Q := by
  have h64 := p2_le hn
  have g := og_gt m (by omega) j (by omega) hh
  have gl := og_lt n (by omega) m hm j hj
  unfold wpX5_costBy
  refine bc9 (by omega) ?_
  have e1 : (6 : Int32) * nI j + nI (opc m) = nI (6 * j + opc m) := by rw [show (6 : Int32) = nI 6 from rfl, pk_mul, nI_add]
  rw [e1, og_I m (by omega) j (by omega)]
  refine ⟨pb_vin (by omega) (by decide), pb_vin (by omega) (by decide), ?_⟩
  rw [pb_cl (by omega), pb_cl (by omega), h8 j _ hj hne, h9 _ g.1 gl, nI_add]
  exact hQ
def enc : Option Nat → Int32
  | none => -1
  | some i => nI i
theorem no9 {kt : kw_T} {iv : fw_F} {ar : fw_R} {n m : Nat} {C : Nat → Nat → Nat} {Q : Int32 → Prop} (hn : n ≤ 6) (h6 : iv 6 = nI n) (hm : m < 2 ^ n) (hne : opc m < n) (hC : ∀ j q, C j q ≤ 1000000) (h8 : ∀ j q, j < n → q < n → ar 8 (6 * j + q) = nI (C j q)) (h9 : ∀ z, m < z → z < 2 ^ n → ar 9 z = nI (Rm n C z)) (hQ : Q (nI (nxm n C m))) : wpX5_nextOf kt iv ar (nI m) Q := by
  have h64 := p2_le hn
  have s := Rm_s (C := C) hn hm hne
  have bd : ∀ i, cbm n C m i < 2 ^ 31 := fun i => by
    have a := hC i (opc m)
    have b := Rm_le hC hn (og m i)
    unfold cbm
    omega
  unfold wpX5_nextOf
  refine pk_loop (σ := Int32) (fun fu j z => wpX5_nextOf_L4 kt (nI m) iv ar Q (fun (w11 : Int32) (_ : Int32) => Q (if 0 < w11 then w11 else 0)) fu z (nI j)) (fun j z => z = enc (lea m (cbm n C m) j)) n 0 (-1) (by omega) rfl ?_ ?_
  · rintro fu _ rfl
    unfold wpX5_nextOf_L4
    rw [h6, s.1]
    refine ⟨fun _ => ?_, fun y => absurd (nI_le (Nat.le_refl _) (by omega)) y⟩
    change Q (if 0 < nI (nxm n C m) then nI (nxm n C m) else 0)
    have e : (if 0 < nI (nxm n C m) then nI (nxm n C m) else 0) = nI (nxm n C m) := by
      by_cases z : nxm n C m = 0
      · rw [z]; rfl
      · rw [if_pos (show (0 : Int32) < nI (nxm n C m) from nI_lt (a := 0) (by omega) (by omega))]
    rw [e]
    exact hQ
  · rintro fu j _ hj rfl ih
    have ih2 := ih _ rfl
    change wpX5_nextOf_L4 kt (nI m) iv ar Q _ fu (enc (if hit m j = true then lea m (cbm n C m) j else leb (cbm n C m) j (lea m (cbm n C m) j))) (nI (j + 1)) at ih2
    unfold wpX5_nextOf_L4
    rw [h6, nI_1]
    refine ⟨fun y => absurd y (nI_ge hj (by omega)), fun _ => ⟨fun y => ?_, fun y => ?_⟩⟩
    · rw [og_b m (by omega) j (by omega)] at y
      rw [if_neg y] at ih2
      cases e : lea m (cbm n C m) j with
      | none =>
        rw [e] at ih2
        refine ⟨fun _ => ?_, fun y2 => absurd (show (-1 : Int32) < 0 by decide) y2⟩
        rintro _ rfl
        exact ih2
      | some i =>
        rw [e] at ih2
        have ok := lea_ok e
        change wpX5_nextOf_L4 kt (nI m) iv ar Q _ fu (enc (if cbm n C m j < cbm n C m i then some j else some i)) (nI (j + 1)) at ih2
        change (nI i < 0 → _) ∧ (¬ nI i < 0 → wpX5_costBy kt iv ar (nI m) (nI j) (fun (r5 : Int32) => wpX5_costBy kt iv ar (nI m) (nI i) _))
        refine ⟨fun y2 => absurd y2 (nI_pos (by omega)), fun _ => ?_⟩
        refine cb9 hn hm hne hj y h8 h9 ?_
        refine cb9 hn hm hne (by omega) ok.2 h8 h9 ?_
        rw [nI_leI (bd i) (bd j)]
        refine ⟨fun z => ?_, fun z => ?_⟩
        · rintro _ rfl
          rw [if_neg (by omega)] at ih2
          exact ih2
        · rintro _ rfl
          rw [if_pos (by omega)] at ih2
          exact ih2
    · rw [og_b m (by omega) j (by omega), Classical.not_not] at y
      rw [if_pos y] at ih2
      rintro _ rfl
      exact ih2
theorem wr9 {kt : kw_T} {iv : fw_F} {ar : fw_R} {n : Nat} {C : Nat → Nat → Nat} {Q : fw_F → fw_R → Prop} (hn : n ≤ 6) (h6 : iv 6 = nI n) (hC : ∀ j q, C j q ≤ 1000000) (h8 : ∀ j q, j < n → q < n → ar 8 (6 * j + q) = nI (C j q)) (hQ : ∀ g : Nat → Int32, (∀ z, z < 2 ^ n → g z = nI (Rm n C z)) → Q iv (va_up ar 9 g)) : wpX5_weighRests kt iv ar Q := by
  have h64 := p2_le hn
  have hp := Nat.two_pow_pos n
  unfold wpX5_weighRests
  rw [h6, p2_I n (by omega)]
  rintro _ rfl
  refine ⟨pb_vin (by omega) (by decide), ?_⟩
  rintro _ rfl _ rfl
  rw [pb_cl (by omega)]
  refine ⟨_, pk_loopD (σ := fw_R) (fun fu i s => wpX5_weighRests_L20 kt Q (fun (_ : Int32) (iv12 : fw_F) (ar13 : fw_R) => Q iv12 ar13) fu (nI i - 1) iv s) (fun i s => i ≤ 2 ^ n - 1 ∧ ∃ g : Nat → Int32, s = va_up ar 9 g ∧ ∀ z, i ≤ z → z < 2 ^ n → g z = nI (Rm n C z)) ?_ ?_ (2 ^ n - 1) _ ⟨Nat.le_refl _, upd (ar 9) (2 ^ n - 1) 0, rfl, fun z h1 h2 => ?_⟩⟩
  · rintro fu _ ⟨-, g, rfl, hg⟩
    unfold wpX5_weighRests_L20
    refine ⟨fun _ => hQ g (fun z hz => hg z (by omega) hz), fun y => absurd (show nI 0 - 1 < (0 : Int32) by decide) y⟩
  · rintro fu i _ ⟨hi, g, rfl, hg⟩ ih
    unfold wpX5_weighRests_L20
    rw [nI_pred]
    have hf := opc_f n (by omega) i (by omega)
    have hne : opc i < n := by
      rcases Nat.lt_or_ge (opc i) n with z | z
      · exact z
      · exact absurd (hf.2.1.mp (by omega)) (by omega)
    have s := Rm_s (C := C) hn (show i < 2 ^ n by omega) hne
    have k8 : ∀ j q, j < n → q < n → va_up ar 9 g 8 (6 * j + q) = nI (C j q) := fun j q h1 h2 => by
      rw [pb_up, if_neg (by decide)]; exact h8 j q h1 h2
    have k9 : ∀ z, i < z → z < 2 ^ n → va_up ar 9 g 9 z = nI (Rm n C z) := fun z h1 h2 => by
      rw [pb_up, if_pos rfl]; exact hg z h1 h2
    refine ⟨fun y => absurd y (nI_pos (by omega)), fun _ => ?_⟩
    refine no9 (C := C) hn h6 (by omega) hne hC k8 k9 ?_
    refine cb9 (C := C) hn (by omega) hne s.2.1 s.2.2.1 k8 k9 ⟨pb_vin (by omega) (by decide), ?_⟩
    rintro _ rfl _ rfl
    rw [pb_cl (by omega), va_up2, show nI i + (-1) = nI i - 1 from by grind]
    refine ih _ ⟨by omega, _, rfl, fun z h1 h2 => ?_⟩
    rw [pb_upd]
    by_cases e : z = i
    · rw [if_pos e, e, s.2.2.2]
    · rw [if_neg e, pb_up, if_pos rfl]; exact hg z (by omega) h2
  · have e : z = 2 ^ n - 1 := by omega
    have hf := opc_f n (by omega) z (by omega)
    rw [pb_upd, if_pos e, Rm_0 (hf.2.1.mpr e)]
    rfl
theorem ct9 {kt : kw_T} {iv : fw_F} {ar : fw_R} {n q : Nat} {C : Nat → Nat → Nat} {Q : Int32 → Prop} (hn : n ≤ 6) (hq : q < n) (h6 : iv 6 = nI n) (hC : ∀ j q, C j q ≤ 1000000) (h8 : ∀ j q, j < n → q < n → ar 8 (6 * j + q) = nI (C j q)) (h9 : ∀ z, z < 2 ^ n → ar 9 z = nI (Rm n C z)) : ∀ r nt m x, nt + r = q → m < 2 ^ n → opc m = nt → Q (ar 7 (nxm n C (gmf n C r m))) → ∃ ku, wpX5_cellThrown_L7 kt (nI q) iv ar Q (fun (w6 : Int32) (w7 : Int32) (w8 : Int32) => vp_in w7 6 ∧ (Q ((ar 7) w7.toNatClampNeg))) ku (nI m) x (nI nt) := by
  have h64 := p2_le hn
  intro r
  induction r with
  | zero =>
    intro nt m x e1 hm hp hQ
    have s := Rm_s (C := C) hn hm (by omega)
    refine ⟨0 + 1 + 1, ?_⟩
    unfold wpX5_cellThrown_L7
    rw [h6]
    refine ⟨fun y => absurd y (nI_nlt (by omega) (by omega)), fun _ => ⟨fun y => absurd y (nI_ge (by omega) (by omega)), fun _ => ?_⟩⟩
    refine no9 (C := C) hn h6 hm (by omega) hC h8 (fun z _ h => h9 z h) ?_
    rintro _ rfl _ rfl
    unfold wpX5_cellThrown_L7
    rw [nI_1]
    have K : vp_in (nI (nxm n C m)) 6 ∧ Q (ar 7 (nI (nxm n C m)).toNatClampNeg) := ⟨pb_vin (by omega) (by decide), by rw [pb_cl (by omega)]; exact hQ⟩
    exact ⟨fun _ => K, fun y => absurd (nI_lt (by omega) (by omega)) y⟩
  | succ r ih =>
    intro nt m x e1 hm hp hQ
    have s := Rm_s (C := C) hn hm (by omega)
    have g := og_gt m (by omega) _ (show nxm n C m < 6 by omega) s.2.2.1
    obtain ⟨ku, hk⟩ := ih (nt + 1) (og m (nxm n C m)) (nI (nxm n C m)) (by omega) (og_lt n (by omega) m hm _ s.2.1) (by omega) hQ
    refine ⟨ku + 1, ?_⟩
    unfold wpX5_cellThrown_L7
    rw [h6]
    refine ⟨fun y => absurd y (nI_nlt (by omega) (by omega)), fun _ => ⟨fun y => absurd y (nI_ge (by omega) (by omega)), fun _ => ?_⟩⟩
    refine no9 (C := C) hn h6 hm (by omega) hC h8 (fun z _ h => h9 z h) ?_
    rintro _ rfl _ rfl
    rw [nI_1, og_I m (by omega) _ (by omega)]
    exact hk
-- laid in order
theorem bg_e : ∀ n, n < 7 → (if (0 : Int32) < (if (80 : Int32) < (if (6 : Int32) < nI n then 6 else nI n) then 80 else (if (6 : Int32) < nI n then 6 else nI n)) then (if (80 : Int32) < (if (6 : Int32) < nI n then 6 else nI n) then 80 else (if (6 : Int32) < nI n then 6 else nI n)) else 0) = nI n := by decide +kernel
theorem ins_n {x : Int32} {a : Nat} {r : Nat → Int32} (y : ¬ r a ≤ x) : ins x (a + 1) r = ins x a (upd r (a + 1) (r a)) := if_neg y
theorem bi9 {kt : kw_T} {iv : fw_F} {ar : fw_R} {x2 x : Int32} {j : Nat} {Q : fw_F → fw_R → Prop} {K : Int32 → fw_F → fw_R → Prop} (hj : j < 6) (hx : ar 25 j = x) : ∀ a r, a ≤ j → (∀ a' r', a' ≤ j → upd r' a' x = ins x a r → K (nI a') iv (va_up ar 7 r')) → ∃ ku, wpX5_begin_L32 kt x2 (nI j) Q K ku (nI a) iv (va_up ar 7 r) := by
  intro a
  induction a with
  | zero =>
    intro r ha hK
    refine ⟨0 + 1, ?_⟩
    unfold wpX5_begin_L32
    exact ⟨fun _ => hK 0 r (by omega) rfl, fun y => absurd (show nI 0 ≤ (0 : Int32) by decide) y⟩
  | succ a ih =>
    intro r ha hK
    have e25 : va_up ar 7 r 25 j = x := by rw [pb_up, if_neg (by decide)]; exact hx
    have e7 : va_up ar 7 r 7 = r := by rw [pb_up, if_pos rfl]
    by_cases y : r a ≤ x
    · refine ⟨0 + 1, ?_⟩
      unfold wpX5_begin_L32
      rw [nI_pred, pb_cl (by omega), pb_cl (by omega), e25, e7]
      exact ⟨fun z => absurd z (nI_nle (by omega) (by omega)), fun _ => ⟨pb_vin (by omega) (by decide), pb_vin (by omega) (by decide), fun _ => hK (a + 1) r ha (by unfold ins; rw [if_pos y]), fun z => absurd y z⟩⟩
    · obtain ⟨ku, hk⟩ := ih (upd r (a + 1) (r a)) (by omega) (fun a' r' h1 h2 => hK a' r' h1 (by rw [h2, ins_n y]))
      refine ⟨ku + 1, ?_⟩
      unfold wpX5_begin_L32
      rw [nI_pred, pb_cl (by omega), pb_cl (by omega), e25, e7, pk_m1]
      refine ⟨fun z => absurd z (nI_nle (by omega) (by omega)), fun _ => ⟨pb_vin (by omega) (by decide), pb_vin (by omega) (by decide), fun z => absurd z y, fun _ => ⟨pb_vin (by omega) (by decide), pb_vin (by omega) (by decide), ?_⟩⟩⟩
      rintro _ rfl _ rfl
      rw [va_up2, pb_cl (by omega)]
      exact hk
theorem bg9 {kt : kw_T} {iv : fw_F} {ar : fw_R} {n : Nat} {V : Nat → Int32} {Q : fw_F → fw_R → Prop} (hn : n ≤ 6) (hV : ∀ t, t < n → ar 25 t = V t) (hQ : Q (va_up iv 6 (nI n)) (va_up ar 7 (srt V (ar 7) n))) : wpX5_begin kt iv ar (nI n) Q := by
  unfold wpX5_begin
  rw [bg_e n (by omega)]
  rintro _ rfl
  have h6 : va_up iv 6 (nI n) 6 = nI n := by rw [pb_up, if_pos rfl]
  generalize va_up iv 6 (nI n) = v at h6 hQ ⊢
  refine pk_loop (σ := fw_R) (fun fu j s => wpX5_begin_L21 kt (nI n) Q (fun (_ : Int32) (iv19 : fw_F) (ar20 : fw_R) => Q iv19 ar20) fu (nI j) v s) (fun j s => s = va_up ar 7 (srt V (ar 7) j)) n 0 ar (by omega) (va_upS _ _).symm ?_ ?_
  · rintro fu _ rfl
    unfold wpX5_begin_L21
    rw [h6]
    exact ⟨fun _ => hQ, fun y => absurd (nI_le (Nat.le_refl _) (by omega)) y⟩
  · rintro fu j _ hj rfl ih
    unfold wpX5_begin_L21
    rw [h6]
    refine ⟨fun y => absurd y (nI_ge hj (by omega)), fun _ => ?_⟩
    refine bi9 (x := V j) (by omega) (hV j hj) j _ (Nat.le_refl _) (fun a' r' h1 h2 => ⟨pb_vin (by omega) (by decide), pb_vin (by omega) (by decide), ?_⟩)
    rintro _ rfl _ rfl
    rw [nI_1]
    refine ih _ ?_
    rw [va_up2, pb_cl (by omega), pb_cl (by omega), show va_up ar 7 r' 7 = r' from by rw [pb_up, if_pos rfl], show va_up ar 7 r' 25 j = V j from by rw [pb_up, if_neg (by decide)]; exact hV j hj, h2]
    rfl
-- the cells named: all known, none twice
def kno (h w : Nat) (x : Int32) : Prop := ∃ c, c < h * w ∧ x = nI c
theorem rc9 {kt : kw_T} {iv : fw_F} {ar : fw_R} {n h w : Nat} {V : Nat → Int32} {Q : Int32 → Prop} (hn : n ≤ 6) (hh : h ≤ 6) (hw : w ≤ 6) (e1 : iv 4 = nI h) (e2 : iv 5 = nI w) (hV : ∀ t, t < n → ar 25 t = V t) (h1 : ¬ (∀ t, t < n → kno h w (V t)) → Q (-1)) (h2 : (∀ t, t < n → kno h w (V t)) → ¬ (∀ t, t < n → ∀ s, s < t → ¬ V s = V t) → Q (-2)) (h0 : (∀ t, t < n → kno h w (V t)) → (∀ t, t < n → ∀ s, s < t → ¬ V s = V t) → Q 0) : wpX9_refusesCells kt iv ar (nI n) Q := by
  unfold wpX9_refusesCells
  refine pk_loop (σ := Unit) (fun fu j _ => wpX9_refusesCells_L2 kt (nI n) iv ar Q _ fu (nI j)) (fun j _ => ∀ t, t < j → kno h w (V t)) n 0 () (by omega) (fun t ht => absurd ht (by omega)) ?_ ?_
  · intro fu _ hk
    unfold wpX9_refusesCells_L2
    refine ⟨fun _ => ?_, fun y => absurd (nI_le (Nat.le_refl _) (by omega)) y⟩
    refine pk_loop (σ := Unit) (fun fu j _ => wpX9_refusesCells_L33 kt (nI n) iv ar Q (fun (_ : Int32) => Q 0) fu (nI j)) (fun j _ => ∀ t, t < j → ∀ s, s < t → ¬ V s = V t) n 0 () (by omega) (fun t ht => absurd ht (by omega)) ?_ ?_
    · intro fu _ hd
      unfold wpX9_refusesCells_L33
      exact ⟨fun _ => h0 hk hd, fun y => absurd (nI_le (Nat.le_refl _) (by omega)) y⟩
    · intro fu j _ hj hd ih
      unfold wpX9_refusesCells_L33
      refine ⟨fun y => absurd y (nI_ge hj (by omega)), fun _ => ?_⟩
      refine pk_loop (σ := Unit) (fun fu2 i _ => wpX9_refusesCells_L40 kt (nI n) (nI j) iv ar Q _ fu2 (nI i)) (fun i _ => ∀ s, s < i → ¬ V s = V j) j 0 () (by omega) (fun s hs => absurd hs (by omega)) ?_ ?_
      · intro fu2 _ hd2
        unfold wpX9_refusesCells_L40
        refine ⟨fun _ => ?_, fun y => absurd (nI_le (Nat.le_refl _) (by omega)) y⟩
        rintro _ rfl
        rw [nI_1]
        refine ih () (fun t ht s hs => ?_)
        rcases Nat.lt_or_ge t j with z | z
        · exact hd t z s hs
        · have : t = j := by omega
          subst this
          exact hd2 s hs
      · intro fu2 i _ hi hd2 ih2
        unfold wpX9_refusesCells_L40
        rw [pb_cl (by omega), pb_cl (by omega), hV i (by omega), hV j hj, nI_1 i]
        refine ⟨fun y => absurd y (nI_ge hi (by omega)), fun _ => ⟨pb_vin (by omega) (by decide), pb_vin (by omega) (by decide), fun z => ?_, fun z => h2 hk (fun y => y j hj i hi z)⟩⟩
        rintro _ rfl
        refine ih2 () (fun s hs => ?_)
        rcases Nat.lt_or_ge s i with y | y
        · exact hd2 s y
        · have : s = i := by omega
          subst this
          exact z
  · intro fu j _ hj hk ih
    unfold wpX9_refusesCells_L2
    rw [pb_cl (by omega), hV j hj, nI_1]
    refine ⟨fun y => absurd y (nI_ge hj (by omega)), fun _ => ⟨pb_vin (by omega) (by decide), ?_⟩⟩
    by_cases z : kno h w (V j)
    · obtain ⟨c, hc, ec⟩ := z
      rw [ec, ce9_yes hh hw e1 e2 hc]
      refine ⟨fun _ => ?_, fun y => absurd y (by decide)⟩
      rintro _ rfl
      refine ih () (fun t ht => ?_)
      rcases Nat.lt_or_ge t j with y | y
      · exact hk t y
      · have : t = j := by omega
        subst this
        exact ⟨c, hc, ec⟩
    · rw [ce9_no hh hw e1 e2 z]
      exact ⟨fun y => absurd rfl y, fun _ => h1 (fun y => z (y j hj))⟩
-- what each would cost at each place
def ocs (h w : Nat) (L W : Nat → Nat) (T first : Nat) (sc : Nat → Nat) (j q : Nat) : Nat := 1000000 * wto h w 12 L W (sg T (first + q)) (sc j) / alw W (sg T (first + q))
theorem wto_al {h w s : Nat} {S W : Nat → Nat} {st c : Nat} : wto h w s S W st c ≤ alw W st := by
  have e : alw W st = sm5 (fun k => sm5 (fun j => wt W 2 j st) 5 * wt W 1 k st) 5 := by
    unfold alw
    rw [show (fun k => sm5 (fun j => wt W 2 j st) 5 * wt W 1 k st) = (fun k => wt W 1 k st * sm5 (fun j => wt W 2 j st) 5) from funext (fun k => Nat.mul_comm _ _), sm5_mul]
  rw [e]
  unfold wto
  refine sm5_le2 (fun k _ => Nat.mul_le_mul_right _ (sm5_le2 (fun j _ => ?_)))
  split
  · exact Nat.le_refl _
  · exact Nat.zero_le _
theorem ocs_le {h w : Nat} {L W : Nat → Nat} {T first : Nat} {sc : Nat → Nat} : ∀ j q, ocs h w L W T first sc j q ≤ 1000000 := fun j q => by
  unfold ocs
  exact Nat.div_le_of_le_mul (by rw [Nat.mul_comm (alw W _)]; exact Nat.mul_le_mul_left _ wto_al)
theorem mi9 {kt : kw_T} {iv : fw_F} {ar : fw_R} {h w c st : Nat} {L W : Nat → Nat} {Q : Int32 → Prop} (hh : h ≤ 6) (hw : w ≤ 6) (e1 : iv 4 = nI h) (e2 : iv 5 = nI w) (hL : ∀ c, c < h * w → L c < 4 ∧ ar 5 c = nI (L c)) (hc : c < h * w) (hW : ∀ j, j < 15 → W j ≤ 9) (ha : ∀ j, j < 15 → ar 3 j = nI (W j)) (hst : st ≤ 9) (hb : 1 ≤ alw W st ∧ alw W st ≤ 2025) (hQ : Q (nI (1000000 * wto h w 12 L W st c / alw W st))) : wpX9_millionths kt iv ar (nI c) (nI st) Q := by
  unfold wpX9_millionths
  have l1 := wto_le (h := h) (w := w) (s := 12) (S := L) (st := st) (c := c) hW
  refine aw9 hW ha hst ?_
  change (0 < nI (alw W st) → _) ∧ (¬ 0 < nI (alw W st) → _)
  refine ⟨fun _ => ?_, fun y => absurd (nI_lt (a := 0) (by omega) (by omega)) y⟩
  refine wt9 (L := L) (S := L) (W := W) (s := 12) (q := 0) hh hw e1 e2 (fun c hc => (hL c hc).2) (fun c hc => (hL c hc).1) (fun r c _ _ => rfl) hc (Or.inl rfl) (by omega) (by omega) hW ha hst ?_
  change ¬ (nI (alw W st)).toInt64 = 0 ∧ Q (((nI (wto h w 12 L W st c)).toInt64 * 1000000 / (nI (alw W st)).toInt64).toInt32)
  rw [pb_i2l (by omega), pb_i2l (by omega), show (1000000 : Int64) = lN 1000000 from rfl, lN_mul, pk_lDiv (by omega) (by omega) (by omega), lN_i, Nat.mul_comm (wto h w 12 L W st c)]
  exact ⟨fun y => absurd ((pb_lz (by omega)).mp y) (by omega), hQ⟩
theorem lc9o {kt : kw_T} {iv : fw_F} {ar : fw_R} {n h w T first : Nat} {L W sc : Nat → Nat} {x2 x3 x4 x6 : Int32} {Q : Int32 → fw_F → fw_R → Prop} {K : Int32 → fw_F → fw_R → Prop} (hn : n ≤ 6) (hf : first ≤ 9999) (hT : T ≤ 9) (eT : iv 3 = nI T) (hh : h ≤ 6) (hw : w ≤ 6) (e1 : iv 4 = nI h) (e2 : iv 5 = nI w) (hL : ∀ c, c < h * w → L c < 4 ∧ ar 5 c = nI (L c)) (hW : ∀ j, j < 15 → W j ≤ 9) (ha : ∀ j, j < 15 → ar 3 j = nI (W j)) (hb : ∀ st, 1 ≤ alw W st ∧ alw W st ≤ 2025) (h7 : ∀ j, j < n → sc j < h * w ∧ ar 7 j = nI (sc j)) (hK : ∀ g : Nat → Int32, (∀ j q, j < n → q < n → g (6 * j + q) = nI (ocs h w L W T first sc j q)) → K (nI n) iv (va_up ar 8 g)) : ∃ ku, wpX9_order_L136 kt (nI first) x2 x3 x4 (nI n) x6 Q K ku 0 iv ar := by
  refine pk_loop (σ := fw_R) (fun fu j s => wpX9_order_L136 kt (nI first) x2 x3 x4 (nI n) x6 Q K fu (nI j) iv s) (fun j s => ∃ g : Nat → Int32, s = va_up ar 8 g ∧ ∀ i q, i < j → q < n → g (6 * i + q) = nI (ocs h w L W T first sc i q)) n 0 ar (by omega) ⟨ar 8, (va_upS _ _).symm, fun i q hi => absurd hi (by omega)⟩ ?_ ?_
  · rintro fu _ ⟨g, rfl, hg⟩
    unfold wpX9_order_L136
    exact ⟨fun _ => hK g hg, fun y => absurd (nI_le (Nat.le_refl _) (by omega)) y⟩
  · rintro fu j _ hj ⟨g, rfl, hg⟩ ih
    unfold wpX9_order_L136
    refine ⟨fun y => absurd y (nI_ge hj (by omega)), fun _ => ?_⟩
    refine pk_loop (σ := fw_R) (fun fu2 q s => wpX9_order_L146 kt (nI first) x2 x3 x4 (nI n) x6 (nI j) Q _ fu2 (nI q) iv s) (fun q s => ∃ g : Nat → Int32, s = va_up ar 8 g ∧ (∀ i q, i < j → q < n → g (6 * i + q) = nI (ocs h w L W T first sc i q)) ∧ ∀ x, x < q → g (6 * j + x) = nI (ocs h w L W T first sc j x)) n 0 _ (by omega) ⟨g, rfl, hg, fun x hx => absurd hx (by omega)⟩ ?_ ?_
    · rintro fu2 _ ⟨g, rfl, hg, hg2⟩
      unfold wpX9_order_L146
      refine ⟨fun _ => ?_, fun y => absurd (nI_le (Nat.le_refl _) (by omega)) y⟩
      rintro _ rfl
      rw [nI_1]
      refine ih _ ⟨g, rfl, fun i q hi hq => ?_⟩
      rcases Nat.lt_or_ge i j with z | z
      · exact hg i q z hq
      · have : i = j := by omega
        subst this
        exact hg2 q hq
    · rintro fu2 q _ hq ⟨g, rfl, hg, hg2⟩ ih2
      unfold wpX9_order_L146 wpX5_sortedCell wpX5_setCost
      refine ⟨fun y => absurd y (nI_ge hq (by omega)), fun _ => ⟨pb_vin (by omega) (by decide), ?_⟩⟩
      have e7 : va_up ar 8 g 7 j = nI (sc j) := by rw [pb_up, if_neg (by decide)]; exact (h7 j hj).2
      rw [pb_cl (by omega), e7, nI_add]
      refine (st9 hT eT (by omega)).mpr ?_
      refine mi9 (L := L) (W := W) hh hw e1 e2 (fun c hc => ⟨(hL c hc).1, by rw [pb_up, if_neg (by decide)]; exact (hL c hc).2⟩) (h7 j hj).1 hW (fun x hx => by rw [pb_up, if_neg (by decide)]; exact ha x hx) sg_le (hb _) ?_
      have e6 : (6 : Int32) * nI j + nI q = nI (6 * j + q) := by rw [show (6 : Int32) = nI 6 from rfl, pk_mul, nI_add]
      rw [e6]
      refine ⟨pb_vin (by omega) (by decide), ?_⟩
      rintro _ rfl _ rfl
      rw [nI_1 q, pb_cl (by omega), va_up2, show va_up ar 8 g 8 = g from by rw [pb_up, if_pos rfl]]
      refine ih2 _ ⟨_, rfl, fun i x hi hx => ?_, fun x hx => ?_⟩
      · rw [pb_upd, if_neg (by omega)]; exact hg i x hi hx
      · rw [pb_upd]
        by_cases z : x = q
        · subst z
          rw [if_pos rfl]
          rfl
        · rw [if_neg (by omega)]; exact hg2 x (by omega)
