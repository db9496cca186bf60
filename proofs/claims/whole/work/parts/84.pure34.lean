/-! ===== orders: the search through all, level by level ===== -/
theorem unu_p {u : Nat → Nat} {p x : Nat} : unu u p x p = x := by unfold unu; rw [if_pos rfl]
theorem unu_q {u : Nat → Nat} {p x q : Nat} (h : q ≠ p) : unu u p x q = u q := by unfold unu; rw [if_neg h]
theorem hit_0 : ∀ v, v < 6 → ¬ hit 0 v = true := by decide
theorem lvi {n : Nat} {C : Nat → Nat → Nat} {s : Nat → Int32} {iv : fw_F} {ar : fw_R} {Q : fw_F → fw_R → Prop} {K : Int32 → fw_F → fw_R → Prop} {p m : Nat} {u : Nat → Nat} {B : Option (Nat × (Nat → Nat))} (hn : n ≤ 6) (hp : p < n) (hu : ∀ q, q < p → u q < n) (hh : ∀ v, v < n → (hit m v = true ↔ ∃ q, q < p ∧ u q = v))
    (hsub : ∀ v d t o b B1, v + d < n → (∀ q, q < p → u q < n ∧ t q = nI (u q)) → t p + 1 = nI v → (∀ x, v ≤ x → x < v + d → ∃ q, q < p ∧ u q = x) → (¬ ∃ q, q < p ∧ u q = v + d) → rep n s B1 b o → ∃ b' o' t', rep n s (cmb (psm C u p + cbm n C m (v + d), pth n C (unu u p (v + d)) (p + 1) (og m (v + d))) B1) b' o' ∧ (∀ q, q < p → t' q = t q) ∧ t' p = nI (v + d) ∧ rch n Q K iv ar (nI p) b t o (nI p) b' t' o') :
    ∀ e v t o b, v + e = n → (∀ q, q < p → t q = nI (u q)) → t p + 1 = nI v → rep n s (bov n C u p m B (lea m (cbm n C m) v)) b o → ∃ b' o' t', rep n s (bov n C u p m B (lea m (cbm n C m) n)) b' o' ∧ (∀ q, q < p → t' q = t q) ∧ rch n Q K iv ar (nI p) b t o (nI p + (-1)) b' t' o' := by
  intro e
  induction e using Nat.strongRecOn with
  | ind e ih =>
    intro v t o b he ht htp hB
    obtain ⟨d, g1, g2, g3⟩ := ftl (P := fun x => ∃ q, q < p ∧ u q = x) e v he
    have sk : lea m (cbm n C m) (v + d) = lea m (cbm n C m) v := lea_skip (fun x h1 h2 => (hh x (by omega)).mpr (g2 x h1 h2))
    have hut : ∀ q, q < p → u q < n ∧ t q = nI (u q) := fun q hq => ⟨hu q hq, ht q hq⟩
    by_cases z : v + d = n
    · refine ⟨b, o, upd t p (nI (v + d)), ?_, fun q hq => pk_un (by omega), 1, fun fu hf => ?_⟩
      · rw [z] at sk
        rw [sk]
        exact hB
      · exact st14 hn hp hut htp g1 g2 g3 (fun _ => hf) (fun y => absurd y (by omega)) (fun y => absurd y (by omega))
    · have zl : v + d < n := by omega
      obtain ⟨b1, o1, t1, r1, r2, r3, r4⟩ := hsub v d t o b _ zl hut htp g2 (g3 zl) hB
      rw [← sk, ← bov_s (fun y => g3 zl ((hh _ zl).mp y))] at r1
      obtain ⟨b2, o2, t2, w1, w2, w3⟩ := ih (n - (v + d + 1)) (by omega) (v + d + 1) t1 o1 b1 (by omega) (fun q hq => by rw [r2 q hq]; exact ht q hq) (by rw [r3, nI_1]) r1
      exact ⟨b2, o2, t2, w1, fun q hq => by rw [w2 q hq, r2 q hq], rch_t r4 w3⟩
theorem lvl {n : Nat} {C : Nat → Nat → Nat} {s : Nat → Int32} {iv : fw_F} {ar : fw_R} {Q : fw_F → fw_R → Prop} {K : Int32 → fw_F → fw_R → Prop} (hn : n ≤ 6) (hC : ∀ j q, C j q ≤ 1000000) (h23 : ∀ j q, j < n → q < n → ar 23 (6 * j + q) = nI (C j q)) (h24 : ∀ j, j < n → ar 24 j = s j) :
    ∀ d p, p + d + 1 = n → ∀ u m t o b B, m < 2 ^ n → opc m = p → (∀ q, q < p → u q < n ∧ t q = nI (u q)) → (∀ v, v < n → (hit m v = true ↔ ∃ q, q < p ∧ u q = v)) → t p = -1 → rep n s B b o → ∃ b' o' t', rep n s (cmb (psm C u p + Rm n C m, pth n C u p m) B) b' o' ∧ (∀ q, q < p → t' q = t q) ∧ rch n Q K iv ar (nI p) b t o (nI p + (-1)) b' t' o' := by
  have h64 := p2_le hn
  intro d
  induction d with
  | zero =>
    intro p hpn u m t o b B hm hpc hu hh htp hB
    rw [← bov_n hn hm (by omega)]
    refine lvi hn (by omega) (fun q hq => (hu q hq).1) hh ?_ n 0 t o b (by omega) (fun q hq => (hu q hq).2) (by rw [htp]; decide) hB
    intro v d t o b B1 hv hut htv g2 g3 hB1
    have nh : ¬ hit m (v + d) = true := fun y => g3 ((hh _ hv).mp y)
    have og1 := og_gt m (by omega) (v + d) (by omega) nh
    have hu1 : ∀ q, q < n → unu u p (v + d) q < n ∧ upd t p (nI (v + d)) q = nI (unu u p (v + d) q) := fun q hq => by
      by_cases z : q = p
      · subst z
        rw [unu_p, pk_us]
        exact ⟨hv, rfl⟩
      · rw [unu_q z, pk_un z]
        exact hut q (by omega)
    obtain ⟨b', o', r1, r2⟩ := of10 (iv := iv) (ar := ar) (C := C) (u := unu u p (v + d)) (w := pth n C (unu u p (v + d)) (p + 1) (og m (v + d))) (t := upd t p (nI (v + d))) hn hC hu1 (fun q hq => by unfold pth; rw [if_pos (by omega)]) h23 h24 hB1
    refine ⟨b', o', upd t p (nI (v + d)), ?_, fun q hq => pk_un (by omega), pk_us, 1, fun fu hf => ?_⟩
    · have e1 : psm C u p + cbm n C m (v + d) = psm C (unu u p (v + d)) n := by
        have e2 : psm C (unu u p (v + d)) n = psm C u p + C (v + d) p := by
          rw [show n = p + 1 by omega]
          exact psm_u
        rw [e2]
        unfold cbm
        rw [Rm_0 (by omega), hpc, Nat.add_zero]
      rw [e1]
      exact r1
    · exact st14 hn (by omega) hut htv (by omega) g2 (fun _ => g3) (fun y => absurd y (by omega)) (fun _ y => absurd y (by omega)) (fun _ _ => r2 _ hf)
  | succ d ihd =>
    intro p hpn u m t o b B hm hpc hu hh htp hB
    rw [← bov_n hn hm (by omega)]
    refine lvi hn (by omega) (fun q hq => (hu q hq).1) hh ?_ n 0 t o b (by omega) (fun q hq => (hu q hq).2) (by rw [htp]; decide) hB
    intro v d2 t o b B1 hv hut htv g2 g3 hB1
    have nh : ¬ hit m (v + d2) = true := fun y => g3 ((hh _ hv).mp y)
    have og1 := og_gt m (by omega) (v + d2) (by omega) nh
    have ogl := og_lt n (by omega) m hm (v + d2) hv
    have hu1 : ∀ q, q < p + 1 → unu u p (v + d2) q < n ∧ upd (upd t p (nI (v + d2))) (p + 1) (-1) q = nI (unu u p (v + d2) q) := fun q hq => by
      rw [pk_un (show q ≠ p + 1 by omega)]
      by_cases z : q = p
      · subst z
        rw [unu_p, pk_us]
        exact ⟨hv, rfl⟩
      · rw [unu_q z, pk_un z]
        exact hut q (by omega)
    have hh1 : ∀ x, x < n → (hit (og m (v + d2)) x = true ↔ ∃ q, q < p + 1 ∧ unu u p (v + d2) q = x) := fun x hx => by
      rw [og_hit m (by omega) (v + d2) (by omega) x (by omega), hh x hx]
      constructor
      · rintro (⟨q, y1, y2⟩ | y)
        · exact ⟨q, by omega, by rw [unu_q (by omega)]; exact y2⟩
        · exact ⟨p, by omega, by rw [unu_p]; exact y.symm⟩
      · rintro ⟨q, y1, y2⟩
        by_cases z : q = p
        · subst z
          rw [unu_p] at y2
          exact Or.inr y2.symm
        · rw [unu_q z] at y2
          exact Or.inl ⟨q, by omega, y2⟩
    obtain ⟨b', o', t', r1, r2, r3⟩ := ihd (p + 1) (by omega) (unu u p (v + d2)) (og m (v + d2)) (upd (upd t p (nI (v + d2))) (p + 1) (-1)) o b B1 ogl (by omega) hu1 hh1 pk_us hB1
    rw [pk_m1] at r3
    refine ⟨b', o', t', ?_, fun q hq => ?_, ?_, rch_t ⟨1, fun fu hf => ?_⟩ r3⟩
    · have e1 : psm C u p + cbm n C m (v + d2) = psm C (unu u p (v + d2)) (p + 1) + Rm n C (og m (v + d2)) := by
        rw [psm_u]
        unfold cbm
        rw [hpc, Nat.add_assoc]
      rw [e1]
      exact r1
    · rw [r2 q (by omega), pk_un (by omega), pk_un (by omega)]
    · rw [r2 p (by omega), pk_un (by omega), pk_us]
    · exact st14 hn (by omega) hut htv (by omega) g2 (fun _ => g3) (fun y => absurd y (by omega)) (fun _ _ => hf) (fun _ y => absurd y (by omega))
theorem fo10 {n : Nat} {C : Nat → Nat → Nat} {s : Nat → Int32} {jv : fw_F} {br : fw_R} {Q : fw_F → fw_R → Prop} (hn : n ≤ 6) (hn1 : 1 ≤ n) (hC : ∀ j q, C j q ≤ 1000000) (h23 : ∀ j q, j < n → q < n → br 23 (6 * j + q) = nI (C j q)) (h24 : ∀ j, j < n → br 24 j = s j) (hQ : ∀ t o : Nat → Int32, (∀ j, j < n → o j = s (nxm n C (gmf n C j 0))) → Q (va_up jv 27 (nI (Rm n C 0))) (SA br t o)) : wpX10_findOrder jv br (nI n) Q := by
  unfold wpX10_findOrder
  rintro _ rfl
  refine ⟨pb_vin (n := 0) (by decide) (by decide), ?_⟩
  rintro _ rfl
  have e0 : va_up br 25 (upd (br 25) (0 : Int32).toNatClampNeg (-1)) = SA br (upd (br 25) 0 (-1)) (br 26) := by
    funext k
    unfold SA
    rw [show (0 : Int32).toNatClampNeg = 0 from rfl]
    simp only [pb_up]
    by_cases z : k = 26
    · subst z; simp
    · simp [z]
  rw [e0]
  obtain ⟨b', o', t', r1, -, k, hk⟩ := lvl (Q := Q) (K := fun (_ : Int32) (iv28 : fw_F) (ar29 : fw_R) => Q iv28 ar29) (iv := jv) (ar := br) (s := s) hn hC h23 h24 (n - 1) 0 (by omega) (fun _ => 0) 0 (upd (br 25) 0 (-1)) (br 26) (-1) none (Nat.two_pow_pos n) (by decide) (fun q hq => absurd hq (by omega)) (fun v hv => ⟨fun z => absurd z (hit_0 v (by omega)), fun ⟨q, hq, _⟩ => absurd hq (by omega)⟩) pk_us rfl
  refine ⟨1 + k, hk 1 ?_⟩
  obtain ⟨q1, q2, q3⟩ := r1
  have q1' : b' = nI (Rm n C 0) := by
    rw [q1]
    change nI (0 + Rm n C 0) = _
    rw [Nat.zero_add]
  unfold wpX10_findOrder_L14
  refine ⟨fun _ => ?_, fun y => absurd (show nI 0 + (-1) < (0 : Int32) by decide) y⟩
  rw [q1']
  exact hQ t' o' (fun j hj => by
    rw [q3 j hj]
    change s (if j < 0 then 0 else nxm n C (gmf n C (j - 0) 0)) = _
    rw [if_neg (by omega), Nat.sub_zero])
-- the whole of it, on both sides
def ors (n : Nat) (C : Nat → Nat → Nat) (sc : Nat → Nat) (x : Int32) : Int32 := if 0 ≤ x then nI (sc (nxm n C (gmf n C x.toNatClampNeg 0))) else nI (Rm n C 0)
def scv (V : Nat → Int32) (n j : Nat) : Nat := (srt V (fun _ => 0) n j).toNatClampNeg
theorem scv_ok {V r : Nat → Int32} {n h w j : Nat} (hh : h ≤ 6) (hw : w ≤ 6) (hk : ∀ t, t < n → kno h w (V t)) (hj : j < n) : scv V n j < h * w ∧ srt V r n j = nI (scv V n j) := by
  have h36 : h * w ≤ 36 := Nat.mul_le_mul hh hw
  obtain ⟨c, hc, e⟩ := srt_P (P := kno h w) (r := fun _ => 0) hk j hj
  have e2 : scv V n j = c := by
    unfold scv
    rw [e, pb_cl (by omega)]
  rw [e2]
  refine ⟨hc, ?_⟩
  rw [srt_cg (r' := fun _ => 0) j hj, e]
theorem or9 {kt : kw_T} {iv : fw_F} {ar : fw_R} {n h w T first : Nat} {L W : Nat → Nat} {V : Nat → Int32} {x2 x3 x4 x6 : Int32} {Q : Int32 → fw_F → fw_R → Prop} (hn : n ≤ 6) (hn1 : 1 ≤ n) (hf : first ≤ 9999) (hT : T ≤ 9) (eT : iv 3 = nI T) (hh : h ≤ 6) (hw : w ≤ 6) (e1 : iv 4 = nI h) (e2 : iv 5 = nI w) (hL : ∀ c, c < h * w → L c < 4 ∧ ar 5 c = nI (L c)) (hW : ∀ j, j < 15 → W j ≤ 9) (ha : ∀ j, j < 15 → ar 3 j = nI (W j)) (hb : ∀ st, 1 ≤ alw W st ∧ alw W st ≤ 2025) (hV : ∀ t, t < n → ar 25 t = V t) (hk : ∀ t, t < n → kno h w (V t)) (hx : x6 < nI n)
    (hQ : ∀ iv1 ar1, ag9 iv ar iv1 ar1 → Q (ors n (ocs h w L W T first (scv V n)) (scv V n) x6) iv1 ar1) :
    wpX5_begin kt iv ar (nI n) (fun (iv18 : fw_F) (ar19 : fw_R) => ∃ ku : Nat, wpX9_order_L136 kt (nI first) x2 x3 x4 (nI n) x6 Q (fun (_ : Int32) (iv33 : fw_F) (ar34 : fw_R) => wpX5_weighRests kt iv33 ar34 (fun (iv35 : fw_F) (ar36 : fw_R) => (0 ≤ x6 → (wpX5_cellThrown kt iv35 ar36 x6 (fun (r38 : Int32) => Q r38 iv35 ar36))) ∧ (¬ 0 ≤ x6 → (wpX5_leastSum kt iv35 ar36 (fun (r39 : Int32) => Q r39 iv35 ar36))))) ku 0 iv18 ar19) := by
  have hC := ocs_le (h := h) (w := w) (L := L) (W := W) (T := T) (first := first) (sc := scv V n)
  have h64 := p2_le hn
  refine bg9 hn hV ?_
  have v6 : ∀ k, k ≠ 6 → va_up iv 6 (nI n) k = iv k := fun k hk => by rw [pb_up, if_neg hk]
  have a7 : ∀ k, k ≠ 7 → va_up ar 7 (srt V (ar 7) n) k = ar k := fun k hk => by rw [pb_up, if_neg hk]
  refine lc9o (L := L) (W := W) (sc := scv V n) (T := T) (h := h) (w := w) hn hf hT (by rw [v6 3 (by decide)]; exact eT) hh hw (by rw [v6 4 (by decide)]; exact e1) (by rw [v6 5 (by decide)]; exact e2) (fun c hc => by rw [a7 5 (by decide)]; exact hL c hc) hW (fun j hj => by rw [a7 3 (by decide)]; exact ha j hj) hb (fun j hj => by
    rw [pb_up, if_pos rfl]
    exact scv_ok hh hw hk hj) (fun g hg => ?_)
  have k6 : va_up iv 6 (nI n) 6 = nI n := by rw [pb_up, if_pos rfl]
  have k8 : ∀ j q, j < n → q < n → va_up (va_up ar 7 (srt V (ar 7) n)) 8 g 8 (6 * j + q) = nI (ocs h w L W T first (scv V n) j q) := fun j q h1 h2 => by
    rw [pb_up, if_pos rfl]; exact hg j q h1 h2
  refine wr9 (C := ocs h w L W T first (scv V n)) hn k6 hC k8 (fun g9 hg9 => ?_)
  have ag : ag9 iv ar (va_up iv 6 (nI n)) (va_up (va_up (va_up ar 7 (srt V (ar 7) n)) 8 g) 9 g9) := ⟨fun k h1 _ => v6 k h1, fun k h1 h2 h3 _ _ _ _ _ => by rw [pb_up, if_neg h3, pb_up, if_neg h2]; exact a7 k h1⟩
  have hQ2 := hQ _ _ ag
  unfold ors at hQ2
  refine ⟨fun y => ?_, fun y => ?_⟩
  · rw [if_pos y] at hQ2
    obtain ⟨q, hq, rfl⟩ := nI_of (x := x6) (Int32.not_lt.mpr y)
    rw [nI_ltI hq (by omega)] at hx
    rw [pb_cl hq] at hQ2
    unfold wpX5_cellThrown
    refine ct9 (C := ocs h w L W T first (scv V n)) (Q := fun r => Q r (va_up iv 6 (nI n)) (va_up (va_up (va_up ar 7 (srt V (ar 7) n)) 8 g) 9 g9)) hn hx k6 hC (fun j q h1 h2 => by rw [pb_up, if_neg (by decide)]; exact k8 j q h1 h2) (fun z hz => by rw [pb_up, if_pos rfl]; exact hg9 z hz) q 0 0 0 (by omega) (Nat.two_pow_pos n) (by decide) ?_
    rw [pb_up, if_neg (by decide), pb_up, if_neg (by decide), pb_up, if_pos rfl, (scv_ok (r := ar 7) hh hw hk (nxm_lt hn hx)).2]
    exact hQ2
  · rw [if_neg y] at hQ2
    unfold wpX5_leastSum
    refine ⟨pb_vin (n := 0) (by decide) (by decide), ?_⟩
    rw [show (0 : Int32).toNatClampNeg = 0 from rfl, pb_up, if_pos rfl, hg9 0 (Nat.two_pow_pos n)]
    exact hQ2
theorem or10 {jv : fw_F} {br : fw_R} {n h w T first f : Nat} {L W : Nat → Nat} {V : Nat → Int32} {x6 : Int32} {Q : Int32 → fw_F → fw_R → Prop} (hn : n ≤ 6) (hn1 : 1 ≤ n) (hf : first ≤ 9999) (hf2 : f + n ≤ 320) (hT : T ≤ 9) (eT : jv 11 = nI T) (hh : h ≤ 6) (hw : w ≤ 6) (e1 : jv 16 = nI h) (e2 : jv 17 = nI w) (hL : ∀ c, c < h * w → L c < 4 ∧ br 18 c = nI (L c)) (hW : ∀ j, j < 15 → W j ≤ 9) (ha : ∀ j, j < 15 → br 12 j = nI (W j)) (hb : ∀ st, 1 ≤ alw W st ∧ alw W st ≤ 2025) (hV : ∀ t, t < n → br 4 (f + t) = V t) (hk : ∀ t, t < n → kno h w (V t))
    (hQ : ∀ jv1 br1, ag10 jv br jv1 br1 → Q (if nI n ≤ x6 then -9 else ors n (ocs h w L W T first (scv V n)) (scv V n) x6) jv1 br1) :
    wpX10_layOrdered jv br (nI f) (nI n) (fun (iv18 : fw_F) (ar19 : fw_R) => wpX10_layCosts iv18 ar19 (nI n) (nI first) (fun (iv20 : fw_F) (ar21 : fw_R) => wpX10_findOrder iv20 ar21 (nI n) (fun (iv22 : fw_F) (ar23 : fw_R) => (0 ≤ x6 → ((nI n ≤ x6 → (Q (-9) iv22 ar23)) ∧ (¬ nI n ≤ x6 → (vp_in x6 6 ∧ (Q ((ar23 26) x6.toNatClampNeg) iv22 ar23))))) ∧ (¬ 0 ≤ x6 → (Q (iv22 27) iv22 ar23))))) := by
  have hC := ocs_le (h := h) (w := w) (L := L) (W := W) (T := T) (first := first) (sc := scv V n)
  refine lo10o hn hf2 hV ?_
  have a24 : ∀ k, k ≠ 24 → va_up br 24 (srt V (br 24) n) k = br k := fun k hk => by rw [pb_up, if_neg hk]
  have s24 : ∀ j, j < n → scv V n j < h * w ∧ va_up br 24 (srt V (br 24) n) 24 j = nI (scv V n j) := fun j hj => by
    rw [pb_up, if_pos rfl]
    exact scv_ok hh hw hk hj
  generalize va_up br 24 (srt V (br 24) n) = r0 at a24 s24 ⊢
  refine ly10o (L := L) (W := W) (sc := scv V n) (T := T) (h := h) (w := w) hn hf hT eT hh hw e1 e2 (fun c hc => by rw [a24 18 (by decide)]; exact hL c hc) hW (fun j hj => by rw [a24 12 (by decide)]; exact ha j hj) hb s24 (fun g0 g hg => ?_)
  refine fo10 (s := fun j => nI (scv V n j)) (C := ocs h w L W T first (scv V n)) hn hn1 hC (fun j q h1 h2 => by rw [pb_up, if_pos rfl]; exact hg j q h1 h2) (fun j hj => by rw [pb_up, if_neg (by decide), pb_up, if_neg (by decide)]; exact (s24 j hj).2) (fun t o ho => ?_)
  have ag : ag10 jv br (va_up jv 27 (nI (Rm n (ocs h w L W T first (scv V n)) 0))) (SA (va_up (va_up r0 22 g0) 23 g) t o) := ⟨fun k _ _ _ _ h5 => by rw [pb_up, if_neg h5], fun k _ _ h3 h4 h5 h6 h7 _ _ => by rw [SA_x h6 h7, pb_up, if_neg h4, pb_up, if_neg h3]; exact a24 k h5⟩
  have hQ2 := hQ _ _ ag
  unfold ors at hQ2
  refine ⟨fun y => ⟨fun y2 => ?_, fun y2 => ?_⟩, fun y => ?_⟩
  · rw [if_pos y2] at hQ2
    exact hQ2
  · rw [if_neg y2, if_pos y] at hQ2
    obtain ⟨q, hq, rfl⟩ := nI_of (x := x6) (Int32.not_lt.mpr y)
    rw [nI_leI (by omega) hq] at y2
    rw [pb_cl hq] at hQ2 ⊢
    refine ⟨pb_vin (by omega) (by decide), ?_⟩
    rw [SA_26, ho q (by omega)]
    exact hQ2
  · have y2 : ¬ nI n ≤ x6 := fun z => y (Int32.le_trans (nI_pos' (by omega)) z)
    rw [if_neg y2, if_neg y] at hQ2
    rw [pb_up, if_pos rfl]
    exact hQ2
