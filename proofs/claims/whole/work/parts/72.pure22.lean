/-! ===== how it was thrown ===== -/
theorem ag10_31 {jv : fw_F} {br : fw_R} (G : Nat → Int32) : ag10 jv br jv (va_up br 31 G) := ⟨fun _ _ _ _ _ _ => rfl, fun k h1 h2 h3 h4 h5 h6 h7 h8 h9 => by rw [pb_up, if_neg h8]⟩
theorem op_guessed : lw_o21 Rl := by
  intro kt iv ar jv br hR a1 a2
  obtain ⟨⟨n, kd, pc, tn, bd, hn, h1, h2, h3, hk⟩, -, -, ⟨m, F, C, v1, v2, v3, v4⟩, -⟩ := id hR
  unfold pu_guessed wpX9_guessed wpX10_guessed
  by_cases hx : ∃ i, i < n ∧ a1 = nI i
  · obtain ⟨i, hi, rfl⟩ := hx
    obtain ⟨⟨b0, b1, b2, b3, b4, b5⟩, ⟨c0, c1, c2, c3, c4, c5, c6⟩, d0, d1, d2, d3⟩ := hk i hi
    simp only [kA_yes hn h2 h1 hi, kn10_yes hn h3 hi, ev9_within, ev10_within]
    by_cases p1 : 0 ≤ a2 ∧ a2 ≤ 1
    · have bl := bsm_le (g := fit (pc i) (wd (kd i) (bd i)) m F C) 576
      have hF9 : ∀ q, q < m → (F q ≤ 40 ∧ C q < 4) ∧ ar 11 q = nI (F q) ∧ ar 12 q = nI (C q) := fun q hq => ⟨⟨(v4 q hq).1.2.1, (v4 q hq).1.2.2⟩, (v4 q hq).2.1, (v4 q hq).2.2.2.1⟩
      have hF10 : ∀ q, q < m → (F q ≤ 40 ∧ C q < 4) ∧ br 29 q = nI (F q) ∧ br 30 q = nI (C q) := fun q hq => ⟨⟨(v4 q hq).1.2.1, (v4 q hq).1.2.2⟩, (v4 q hq).2.2.1, (v4 q hq).2.2.2.2⟩
      have hrel : ∀ iv1 ar1, ag9 iv ar iv1 ar1 → ∀ jv1 br1, ag10 jv br jv1 br1 → Rl kt iv1 ar1 jv1 br1 := fun iv1 ar1 g9 jv1 br1 g10 => Rl_ag hR g9 g10
      by_cases p2 : a2 = 0
      · refine ⟨nI (bsm (fit (pc i) (wd (kd i) (bd i)) m F C) 576), fun jv1 br1 => ag10 jv br jv1 br1, fun iv1 ar1 => ag9 iv ar iv1 ar1, hrel, ?_, ?_⟩
        · refine ⟨fun _ => ⟨fun _ => ?_, fun y => absurd y (by decide)⟩, fun y => absurd p1 y⟩
          refine st9t (F := F) (C := C) c2 c6 b1 b2 v1 v2 hF9 (fun iv1 ar1 g9 gl => ⟨fun y => absurd p2 y, fun _ => ⟨gl.1, g9⟩⟩)
        · refine ⟨fun _ => ⟨fun _ => ⟨fun _ => ?_, fun y => absurd y (by decide)⟩, fun y => absurd p1 y⟩, fun y => absurd y (by decide)⟩
          refine lf10 (F := F) (C := C) (by omega) b0 b5 d0 d3 d1 b1 b2 v1 v3 hF10 (fun G hG => ⟨fun y => absurd p2 y, fun _ => ⟨rfl, ag10_31 G⟩⟩)
      · by_cases p3 : bsm (fit (pc i) (wd (kd i) (bd i)) m F C) 576 = 0
        · refine ⟨-9, fun jv1 br1 => ag10 jv br jv1 br1, fun iv1 ar1 => ag9 iv ar iv1 ar1, hrel, ?_, ?_⟩
          · refine ⟨fun _ => ⟨fun _ => ?_, fun y => absurd y (by decide)⟩, fun y => absurd p1 y⟩
            refine st9t (F := F) (C := C) c2 c6 b1 b2 v1 v2 hF9 (fun iv1 ar1 g9 gl => ⟨fun _ => ?_, fun y => absurd y p2⟩)
            unfold wpX4_firstThrown
            rw [gl.1, p3]
            exact ⟨fun y => absurd rfl y, fun _ => ⟨rfl, g9⟩⟩
          · refine ⟨fun _ => ⟨fun _ => ⟨fun _ => ?_, fun y => absurd y (by decide)⟩, fun y => absurd p1 y⟩, fun y => absurd y (by decide)⟩
            refine lf10 (F := F) (C := C) (by omega) b0 b5 d0 d3 d1 b1 b2 v1 v3 hF10 (fun G hG => ⟨fun _ => ?_, fun y => absurd y p2⟩)
            refine pk_loop (σ := Unit) (fun f g _ => wpX10_guessed_L37 (nI i) a2 jv (va_up br 31 G) _ _ f (nI g)) (fun _ _ => True) 576 0 () (by omega) trivial ?_ ?_
            · intro f _ _
              exact ⟨fun _ => ⟨rfl, ag10_31 G⟩, fun y => absurd (nI_le (a := 576) (b := 576) (by omega) (by omega)) y⟩
            · intro f g _ hg _ ih
              have nf : ¬ fit (pc i) (wd (kd i) (bd i)) m F C g = true := fun y => by
                have := bsm_lt (P := fit (pc i) (wd (kd i) (bd i)) m F C) hg y
                omega
              refine ⟨fun y => absurd y (nI_ge (b := 576) hg (by omega)), fun _ => ⟨pb_vin (by omega) (by decide), ?_⟩⟩
              rw [pb_cl (by omega), pb_up, if_pos rfl, hG g hg]
              refine ⟨fun _ => ?_, fun y => absurd (bI_0.mpr nf) y⟩
              rintro _ rfl
              rw [nI_1]; exact ih () trivial
        · obtain ⟨x, -, x2, x3, x4⟩ := bsm_nx (P := fit (pc i) (wd (kd i) (bd i)) m F C) (N := 576) 576 0 rfl (Nat.pos_of_ne_zero p3)
          have x5 : bsm (fit (pc i) (wd (kd i) (bd i)) m F C) x = 0 := bsm_no (by omega) x4
          refine ⟨nI (100 * (x / 24) + (x % 24 + 1)), fun jv1 br1 => ag10 jv br jv1 br1, fun iv1 ar1 => ag9 iv ar iv1 ar1, hrel, ?_, ?_⟩
          · refine ⟨fun _ => ⟨fun _ => ?_, fun y => absurd y (by decide)⟩, fun y => absurd p1 y⟩
            refine st9t (F := F) (C := C) c2 c6 b1 b2 v1 v2 hF9 (fun iv1 ar1 g9 gl => ⟨fun _ => ?_, fun y => absurd y p2⟩)
            unfold wpX4_firstThrown
            have q := gl.2 x x2 x3
            rw [x5] at q
            have nz : ¬ nI (bsm (fit (pc i) (wd (kd i) (bd i)) m F C) 576) = 0 := nI_ne0 (by omega) (by omega)
            rw [gl.1]
            refine ⟨fun _ => ⟨pb_vin (n := 0) (by omega) (by decide), pb_vin (n := 0) (by omega) (by decide), ?_, g9⟩, fun y => absurd y nz⟩
            rw [show (0 : Int32).toNatClampNeg = 0 from rfl, q.1, q.2, show (100 : Int32) = nI 100 from rfl, pk_mul, nI_add]
          · refine ⟨fun _ => ⟨fun _ => ⟨fun _ => ?_, fun y => absurd y (by decide)⟩, fun y => absurd p1 y⟩, fun y => absurd y (by decide)⟩
            refine lf10 (F := F) (C := C) (by omega) b0 b5 d0 d3 d1 b1 b2 v1 v3 hF10 (fun G hG => ⟨fun _ => ?_, fun y => absurd y p2⟩)
            refine pk_loop (σ := Unit) (fun f g _ => wpX10_guessed_L37 (nI i) a2 jv (va_up br 31 G) _ _ f (nI g)) (fun _ _ => True) x 0 () (by omega) trivial ?_ ?_
            · intro f _ _
              refine ⟨fun y => absurd y (nI_ge (b := 576) x2 (by omega)), fun _ => ⟨pb_vin (by omega) (by decide), ?_⟩⟩
              rw [pb_cl (by omega), pb_up, if_pos rfl, hG x x2]
              refine ⟨fun y => absurd x3 (bI_0.mp y), fun _ => ⟨?_, ag10_31 G⟩⟩
              rw [show (24 : Int32) = nI 24 from rfl, pk_rem (by omega) (by omega) (by omega), pk_div (by omega) (by omega) (by omega), show (100 : Int32) = nI 100 from rfl, pk_mul, nI_add, nI_1, Nat.add_assoc]
            · intro f g _ hg _ ih
              have nf := x4 g (by omega) hg
              refine ⟨fun y => absurd y (nI_ge (b := 576) (by omega) (by omega)), fun _ => ⟨pb_vin (by omega) (by decide), ?_⟩⟩
              rw [pb_cl (by omega), pb_up, if_pos rfl, hG g (by omega)]
              refine ⟨fun _ => ?_, fun y => absurd (bI_0.mpr nf) y⟩
              rintro _ rfl
              rw [nI_1]; exact ih () trivial
    · exact ⟨-2, fun jv1 br1 => jv1 = jv ∧ br1 = br, fun iv1 ar1 => iv1 = iv ∧ ar1 = ar, by rintro _ _ ⟨rfl, rfl⟩ _ _ ⟨rfl, rfl⟩; exact hR, by simp [p1], by simp [p1]⟩
  · simp only [kA_no hn h2 hx, kn10_no hn h3 hx]
    exact ⟨-1, fun jv1 br1 => jv1 = jv ∧ br1 = br, fun iv1 ar1 => iv1 = iv ∧ ar1 = ar, by rintro _ _ ⟨rfl, rfl⟩ _ _ ⟨rfl, rfl⟩; exact hR, by simp, by simp⟩
/-- of the ways below g that fit: how many come so at f feet -/
def cwy (p w m : Nat) (F C : Nat → Nat) (f c g : Nat) : Nat := bsm (fun x => fit p w m F C x && decide (wy p w x f = c)) g
def mx4 (a : Nat → Nat) : Nat := max (max (a 0) (a 1)) (max (a 2) (a 3))
theorem cwy_s {p w m : Nat} {F C : Nat → Nat} {f c g : Nat} : cwy p w m F C f c (g + 1) = cwy p w m F C f c g + (if fit p w m F C g = true ∧ wy p w g f = c then 1 else 0) := by
  unfold cwy
  rw [bsm_s]
  congr 1
  by_cases z : fit p w m F C g = true ∧ wy p w g f = c
  · rw [if_pos z, if_pos]
    rw [z.1, decide_eq_true z.2]; rfl
  · rw [if_neg z, if_neg]
    intro y
    rw [Bool.and_eq_true] at y
    exact z ⟨y.1, of_decide_eq_true y.2⟩
theorem cwy_le {p w m : Nat} {F C : Nat → Nat} {f c g : Nat} : cwy p w m F C f c g ≤ g := bsm_le g
theorem cwy_no {p w m : Nat} {F C : Nat → Nat} {f c g x : Nat} (h : g ≤ x) (hn : ∀ y, g ≤ y → y < x → ¬ fit p w m F C y = true) : cwy p w m F C f c x = cwy p w m F C f c g := bsm_no h (fun y h1 h2 z => hn y h1 h2 (by rw [Bool.and_eq_true] at z; exact z.1))
theorem pb_max {a b : Nat} (ha : a < 2 ^ 31) (hb : b < 2 ^ 31) : (if nI a < nI b then nI b else nI a) = nI (max a b) := by
  by_cases z : a < b
  · rw [if_pos (nI_lt z hb), Nat.max_eq_right (by omega)]
  · rw [if_neg (nI_nlt (by omega) ha), Nat.max_eq_left (by omega)]
theorem lw9 {kt : kw_T} {iv : fw_F} {ar : fw_R} {i p w m f : Nat} {F C : Nat → Nat} {Q : Int32 → fw_F → fw_R → Prop} (e : kt.2.2.1 i 1 = nI p) (ha : ∀ a, a < 24 * p → kt.2.2.2 i a = nI (cm p w a)) (hp : 1 ≤ p) (hp9 : p ≤ 9) (hf : f ≤ 40) (hl : lyd p w m F C 576 iv ar) (hQ : ∀ G : Nat → Int32, Q (nI (mx4 (fun c => cwy p w m F C f c 576))) iv (va_up ar 15 G)) : wpX4_leftAtWorst kt iv ar i (nI f) Q := by
  unfold wpX4_leftAtWorst
  have bl := bsm_le (g := fit p w m F C) 576
  refine pk_loop (σ := fw_R) (fun n h s => wpX4_leftAtWorst_L2 kt i (nI f) Q _ n (nI h) iv s) (fun h s => ∃ G : Nat → Int32, s = va_up ar 15 G ∧ ∀ c, c < h → G c = nI 0) 4 0 ar (by omega) ⟨ar 15, (va_upS _ _).symm, fun c hc => absurd hc (by omega)⟩ ?_ ?_
  · rintro n _ ⟨G, rfl, hG⟩
    refine ⟨fun _ => ?_, fun y => absurd (nI_lt (a := 3) (b := 4) (by omega) (by omega)) y⟩
    refine pk_loop (σ := fw_R) (fun n h s => wpX4_leftAtWorst_L22 kt i (nI f) Q _ n (nI h) iv s) (fun h s => ∃ G : Nat → Int32, ∃ g, s = va_up ar 15 G ∧ g ≤ 576 ∧ bsm (fit p w m F C) g = h ∧ ∀ c, c < 4 → G c = nI (cwy p w m F C f c g)) (bsm (fit p w m F C) 576) 0 (va_up ar 15 G) (by omega) ⟨G, 0, rfl, by omega, rfl, hG⟩ ?_ ?_
    · rintro n2 _ ⟨G, g, rfl, hg, hb, hG⟩
      refine ⟨fun _ => ⟨pb_vin (n := 0) (by omega) (by decide), pb_vin (n := 1) (by omega) (by decide), pb_vin (n := 2) (by omega) (by decide), pb_vin (n := 3) (by omega) (by decide), ?_⟩, fun y => absurd ?_ y⟩
      · have ec : ∀ c, c < 4 → G c = nI (cwy p w m F C f c 576) := fun c hc => by
          rw [hG c hc, cwy_no hg]
          intro y h1 h2 h3
          have := bsm_lt (P := fit p w m F C) (x := y) (g := 576) h2 h3
          have := bsm_mono (P := fit p w m F C) h1
          omega
        have l0 := cwy_le (p := p) (w := w) (m := m) (F := F) (C := C) (f := f) (c := 0) (g := 576)
        have l1 := cwy_le (p := p) (w := w) (m := m) (F := F) (C := C) (f := f) (c := 1) (g := 576)
        have l2 := cwy_le (p := p) (w := w) (m := m) (F := F) (C := C) (f := f) (c := 2) (g := 576)
        have l3 := cwy_le (p := p) (w := w) (m := m) (F := F) (C := C) (f := f) (c := 3) (g := 576)
        rw [pb_up, if_pos rfl, show (0 : Int32).toNatClampNeg = 0 from rfl, show (1 : Int32).toNatClampNeg = 1 from rfl, show (2 : Int32).toNatClampNeg = 2 from rfl, show (3 : Int32).toNatClampNeg = 3 from rfl, ec 0 (by omega), ec 1 (by omega), ec 2 (by omega), ec 3 (by omega), pb_max (by omega) (by omega), pb_max (by omega) (by omega), pb_max (by omega) (by omega)]
        exact hQ G
      · rw [hl.1]
        exact nI_le (Nat.le_refl _) (by omega)
    · rintro n2 h _ hh ⟨G, g, rfl, hg, hb, hG⟩ ih
      obtain ⟨x, x1, x2, x3, x4⟩ := bsm_nx (P := fit p w m F C) (N := 576) (576 - g) g (by omega) (by rw [hb]; exact hh)
      have x5 : bsm (fit p w m F C) x = h := by rw [bsm_no x1 x4]; exact hb
      have q := hl.2 x x2 x3
      rw [x5] at q
      have wl : wy p w x f < 4 := cm_lt
      have ml : x % 24 < 24 := Nat.mod_lt _ (by omega)
      refine ⟨fun y => absurd y (by rw [hl.1]; exact nI_ge hh (by omega)), fun _ => ⟨pb_vin (by omega) (by decide), pb_vin (by omega) (by decide), ?_⟩⟩
      rw [pb_cl (by omega)]
      have s13 : va_up ar 15 G 13 h = nI (x / 24) := q.1
      have s14 : va_up ar 15 G 14 h = nI (x % 24 + 1) := q.2
      rw [s13, s14]
      refine (ca9 e ha hp hp9 (by omega) (by omega) hf).mpr ?_
      change vp_in (nI (wy p w x f)) 4 ∧ _
      refine ⟨pb_vin wl (by decide), pb_vin wl (by decide), ?_⟩
      rintro _ rfl _ rfl
      rw [nI_1]
      change wpX4_leftAtWorst_L22 kt i (nI f) Q _ n2 (nI (h + 1)) iv (va_up (va_up ar 15 G) 15 (upd (va_up ar 15 G 15) (nI (wy p w x f)).toNatClampNeg (va_up ar 15 G 15 (nI (wy p w x f)).toNatClampNeg + 1)))
      rw [pb_cl (show wy p w x f < 2 ^ 31 by omega), va_up2, pb_up, if_pos rfl, hG _ wl, nI_1]
      refine ih _ ⟨upd G (wy p w x f) (nI (cwy p w m F C f (wy p w x f) g + 1)), x + 1, rfl, by omega, ?_, fun c hc => ?_⟩
      · rw [bsm_s, if_pos x3, x5]
      · rw [pb_upd, cwy_s, cwy_no x1 x4]
        by_cases z : c = wy p w x f
        · rw [if_pos z, if_pos ⟨x3, z.symm⟩, z]
        · rw [if_neg z, if_neg (fun u => z u.2.symm)]
          exact hG c hc
  · rintro n h _ hh ⟨G, rfl, hG⟩ ih
    refine ⟨fun y => absurd y (nI_nlt (a := 3) (by omega) (by omega)), fun _ => ⟨pb_vin (by omega) (by decide), ?_⟩⟩
    rintro _ rfl _ rfl
    rw [nI_1]
    refine ih _ ⟨upd G h 0, ?_, fun c hc => ?_⟩
    · rw [pb_cl (by omega), va_up2, pb_up, if_pos rfl]
    · rw [pb_upd]
      by_cases z : c = h
      · rw [if_pos z]; rfl
      · rw [if_neg z]; exact hG c (by omega)
theorem wo10 {jv : fw_F} {br : fw_R} {i k b p m f : Nat} {F C : Nat → Nat} {Q : Int32 → fw_F → fw_R → Prop} (hi : i < 6) (hk : k < 3) (hb : b ≤ 5) (e1 : br 6 i = nI k) (e2 : br 9 i = nI b) (e3 : br 7 i = nI p) (hp : 1 ≤ p) (hp9 : p ≤ 9) (hf : f ≤ 40) (h31 : ∀ x, x < 576 → br 31 x = bI (fit p (wd k b) m F C x)) (hQ : ∀ G : Nat → Int32, Q (nI (mx4 (fun c => cwy p (wd k b) m F C f c 576))) jv (va_up br 32 G)) : wpX10_worst jv br (nI i) (nI f) Q := by
  unfold wpX10_worst
  refine pk_loop (σ := fw_R) (fun n h s => wpX10_worst_L2 (nI i) (nI f) Q _ n (nI h) jv s) (fun h s => ∃ G : Nat → Int32, s = va_up br 32 G ∧ ∀ c, c < h → G c = nI 0) 4 0 br (by omega) ⟨br 32, (va_upS _ _).symm, fun c hc => absurd hc (by omega)⟩ ?_ ?_
  · rintro n _ ⟨G, rfl, hG⟩
    refine ⟨fun _ => ?_, fun y => absurd (nI_le (a := 4) (b := 4) (by omega) (by omega)) y⟩
    refine pk_loop (σ := Int32 × fw_R) (fun n g s => wpX10_worst_L25 (nI i) (nI f) Q _ n s.1 (nI g) jv s.2) (fun g s => s.1 = nI (mx4 (fun c => cwy p (wd k b) m F C f c g)) ∧ ∃ G : Nat → Int32, s.2 = va_up br 32 G ∧ ∀ c, c < 4 → G c = nI (cwy p (wd k b) m F C f c g)) 576 0 (0, va_up br 32 G) (by omega) ⟨rfl, G, rfl, hG⟩ ?_ ?_
    · rintro n2 ⟨_, _⟩ ⟨rfl, G, rfl, hG⟩
      exact ⟨fun _ => hQ G, fun y => absurd (nI_le (a := 576) (b := 576) (by omega) (by omega)) y⟩
    · rintro n2 g ⟨_, _⟩ hg ⟨rfl, G, rfl, hG⟩ ih
      dsimp only
      refine ⟨fun y => absurd y (nI_ge (b := 576) hg (by omega)), fun _ => ⟨pb_vin (by omega) (by decide), ?_⟩⟩
      have s31 : va_up br 32 G 31 g = bI (fit p (wd k b) m F C g) := h31 g hg
      rw [pb_cl (by omega), s31, bI_0]
      have wl : wy p (wd k b) g f < 4 := cm_lt
      have cl : ∀ c, cwy p (wd k b) m F C f c g ≤ g := fun c => cwy_le
      refine ⟨fun y => ?_, fun y => ?_⟩
      · have es : ∀ c, cwy p (wd k b) m F C f c (g + 1) = cwy p (wd k b) m F C f c g := fun c => by
          rw [cwy_s, if_neg (fun u => y u.1)]; rfl
        rintro _ rfl
        rw [nI_1]
        refine ih (nI (mx4 (fun c => cwy p (wd k b) m F C f c g)), va_up br 32 G) ⟨?_, G, rfl, fun c hc => by rw [es]; exact hG c hc⟩
        simp only [es]
      · have y' := Classical.not_not.mp y
        refine cy10 hi hk hb e1 e2 e3 hp hp9 hg hf ⟨pb_vin wl (by decide), pb_vin wl (by decide), ?_⟩
        rintro _ rfl
        have eg : va_up (va_up br 32 G) 32 (upd (va_up br 32 G 32) (nI (wy p (wd k b) g f)).toNatClampNeg (va_up br 32 G 32 (nI (wy p (wd k b) g f)).toNatClampNeg + 1)) = va_up br 32 (upd G (wy p (wd k b) g f) (nI (cwy p (wd k b) m F C f (wy p (wd k b) g f) g + 1))) := by
          rw [pb_cl (show wy p (wd k b) g f < 2 ^ 31 by omega), va_up2, pb_up, if_pos rfl, hG _ wl, nI_1]
        rw [eg, pb_cl (show wy p (wd k b) g f < 2 ^ 31 by omega)]
        have eg2 : va_up br 32 (upd G (wy p (wd k b) g f) (nI (cwy p (wd k b) m F C f (wy p (wd k b) g f) g + 1))) 32 (wy p (wd k b) g f) = nI (cwy p (wd k b) m F C f (wy p (wd k b) g f) g + 1) := by
          rw [pb_up, if_pos rfl, pb_upd, if_pos rfl]
        rw [eg2]
        have hG' : ∀ c, c < 4 → upd G (wy p (wd k b) g f) (nI (cwy p (wd k b) m F C f (wy p (wd k b) g f) g + 1)) c = nI (cwy p (wd k b) m F C f c (g + 1)) := fun c hc => by
          rw [pb_upd, cwy_s]
          by_cases z : c = wy p (wd k b) g f
          · rw [if_pos z, if_pos ⟨y', z.symm⟩, z]
          · rw [if_neg z, if_neg (fun u => z u.2.symm)]
            exact hG c hc
        have em : mx4 (fun c => cwy p (wd k b) m F C f c (g + 1)) = max (mx4 (fun c => cwy p (wd k b) m F C f c g)) (cwy p (wd k b) m F C f (wy p (wd k b) g f) g + 1) := by
          unfold mx4
          simp only [cwy_s, y', true_and]
          rcases (show wy p (wd k b) g f = 0 ∨ wy p (wd k b) g f = 1 ∨ wy p (wd k b) g f = 2 ∨ wy p (wd k b) g f = 3 by omega) with z | z | z | z <;> rw [z] <;> simp <;> omega
        have ml : mx4 (fun c => cwy p (wd k b) m F C f c g) ≤ g := by
          unfold mx4
          dsimp only
          have c0 := cl 0
          have c1 := cl 1
          have c2 := cl 2
          have c3 := cl 3
          omega
        have cw := cl (wy p (wd k b) g f)
        refine ⟨pb_vin wl (by decide), fun y2 => ?_, fun y2 => ⟨pb_vin wl (by decide), ?_⟩⟩
        · rw [nI_leI (by omega) (by omega)] at y2
          rintro _ rfl
          rw [nI_1]
          refine ih (nI (mx4 (fun c => cwy p (wd k b) m F C f c g)), va_up br 32 (upd G (wy p (wd k b) g f) (nI (cwy p (wd k b) m F C f (wy p (wd k b) g f) g + 1)))) ⟨?_, _, rfl, hG'⟩
          rw [em, Nat.max_eq_left y2]
        · rw [nI_leI (by omega) (by omega)] at y2
          rintro _ rfl _ rfl
          rw [nI_1]
          refine ih (nI (cwy p (wd k b) m F C f (wy p (wd k b) g f) g + 1), va_up br 32 (upd G (wy p (wd k b) g f) (nI (cwy p (wd k b) m F C f (wy p (wd k b) g f) g + 1)))) ⟨?_, _, rfl, hG'⟩
          rw [em, Nat.max_eq_right (by omega)]
  · rintro n h _ hh ⟨G, rfl, hG⟩ ih
    refine ⟨fun y => absurd y (nI_ge (b := 4) hh (by omega)), fun _ => ⟨pb_vin (by omega) (by decide), ?_⟩⟩
    rintro _ rfl _ rfl
    rw [nI_1]
    refine ih _ ⟨upd G h 0, ?_, fun c hc => ?_⟩
    · rw [pb_cl (by omega), va_up2, pb_up, if_pos rfl]
    · rw [pb_upd]
      by_cases z : c = h
      · rw [if_pos z]; rfl
      · rw [if_neg z]; exact hG c (by omega)
