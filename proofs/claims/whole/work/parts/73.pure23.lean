/-! ===== which feet would tell more ===== -/
def tst (W : Nat → Nat) : Nat → Nat × Nat
  | 0 => (0, 577)
  | n + 1 => if (tst W n).2 ≤ W (n + 1) then tst W n else (n + 1, W (n + 1))
theorem tst_le {W : Nat → Nat} (h : ∀ f, W f ≤ 576) : ∀ n, (tst W n).1 ≤ n ∧ (tst W n).2 ≤ 577
  | 0 => ⟨Nat.le_refl _, Nat.le_refl _⟩
  | n + 1 => by
    have := tst_le h n
    have := h (n + 1)
    unfold tst
    split
    · omega
    · dsimp only; omega
theorem tst_1 {W : Nat → Nat} (h : ∀ f, W f ≤ 576) : tst W 1 = (1, W 1) := by
  have := h 1
  unfold tst
  rw [if_neg]
  unfold tst
  dsimp only
  change ¬ 577 ≤ W 1
  omega
theorem mx4_le {p w m : Nat} {F C : Nat → Nat} {f : Nat} : mx4 (fun c => cwy p w m F C f c 576) ≤ 576 := by
  unfold mx4
  dsimp only
  have c0 := cwy_le (p := p) (w := w) (m := m) (F := F) (C := C) (f := f) (c := 0) (g := 576)
  have c1 := cwy_le (p := p) (w := w) (m := m) (F := F) (C := C) (f := f) (c := 1) (g := 576)
  have c2 := cwy_le (p := p) (w := w) (m := m) (F := F) (C := C) (f := f) (c := 2) (g := 576)
  have c3 := cwy_le (p := p) (w := w) (m := m) (F := F) (C := C) (f := f) (c := 3) (g := 576)
  omega
theorem op_tells : lw_o22 Rl := by
  intro kt iv ar jv br hR a1 a2
  obtain ⟨⟨n, kd, pc, tn, bd, hn, h1, h2, h3, hk⟩, -, -, ⟨m, F, C, v1, v2, v3, v4⟩, -⟩ := id hR
  unfold pu_tells wpX9_tells wpX10_tells
  by_cases hx : ∃ i, i < n ∧ a1 = nI i
  · obtain ⟨i, hi, rfl⟩ := hx
    obtain ⟨⟨b0, b1, b2, b3, b4, b5⟩, ⟨c0, c1, c2, c3, c4, c5, c6⟩, d0, d1, d2, d3⟩ := hk i hi
    simp only [kA_yes hn h2 h1 hi, kn10_yes hn h3 hi, ev9_within, ev10_within]
    by_cases p1 : 0 ≤ a2 ∧ a2 ≤ 1
    · have bl := bsm_le (g := fit (pc i) (wd (kd i) (bd i)) m F C) 576
      have hF9 : ∀ q, q < m → (F q ≤ 40 ∧ C q < 4) ∧ ar 11 q = nI (F q) ∧ ar 12 q = nI (C q) := fun q hq => ⟨⟨(v4 q hq).1.2.1, (v4 q hq).1.2.2⟩, (v4 q hq).2.1, (v4 q hq).2.2.2.1⟩
      have hF10 : ∀ q, q < m → (F q ≤ 40 ∧ C q < 4) ∧ br 29 q = nI (F q) ∧ br 30 q = nI (C q) := fun q hq => ⟨⟨(v4 q hq).1.2.1, (v4 q hq).1.2.2⟩, (v4 q hq).2.2.1, (v4 q hq).2.2.2.2⟩
      have hrel : ∀ iv1 ar1, ag9 iv ar iv1 ar1 → ∀ jv1 br1, ag10 jv br jv1 br1 → Rl kt iv1 ar1 jv1 br1 := fun iv1 ar1 g9 jv1 br1 g10 => Rl_ag hR g9 g10
      by_cases p3 : bsm (fit (pc i) (wd (kd i) (bd i)) m F C) 576 = 0
      · refine ⟨-9, fun jv1 br1 => ag10 jv br jv1 br1, fun iv1 ar1 => ag9 iv ar iv1 ar1, hrel, ?_, ?_⟩
        · refine ⟨fun _ => ⟨fun _ => ?_, fun y => absurd y (by decide)⟩, fun y => absurd p1 y⟩
          refine st9t (F := F) (C := C) c2 c6 b1 b2 v1 v2 hF9 (fun iv1 ar1 g9 gl => ?_)
          rw [gl.1, p3]
          exact ⟨fun y => absurd rfl y, fun _ => ⟨rfl, g9⟩⟩
        · refine ⟨fun _ => ⟨fun _ => ⟨fun _ => ?_, fun y => absurd y (by decide)⟩, fun y => absurd p1 y⟩, fun y => absurd y (by decide)⟩
          refine lf10 (F := F) (C := C) (by omega) b0 b5 d0 d3 d1 b1 b2 v1 v3 hF10 (fun G hG => ?_)
          rw [p3]
          exact ⟨fun y => absurd rfl y, fun _ => ⟨rfl, ag10_31 G⟩⟩
      · have nz : ¬ nI (bsm (fit (pc i) (wd (kd i) (bd i)) m F C) 576) = 0 := nI_ne0 (by omega) (by omega)
        have hWl : ∀ f, mx4 (fun c => cwy (pc i) (wd (kd i) (bd i)) m F C f c 576) ≤ 576 := fun f => mx4_le
        generalize hW : (fun f => mx4 (fun c => cwy (pc i) (wd (kd i) (bd i)) m F C f c 576)) = W
        have eW : ∀ f, mx4 (fun c => cwy (pc i) (wd (kd i) (bd i)) m F C f c 576) = W f := fun f => by rw [← hW]
        have lW : ∀ f, W f ≤ 576 := fun f => by rw [← eW]; exact hWl f
        have tl := tst_le lW
        refine ⟨if a2 = 0 then nI (tst W 40).1 else nI (tst W 40).2, fun jv1 br1 => ag10 jv br jv1 br1, fun iv1 ar1 => ag9 iv ar iv1 ar1, hrel, ?_, ?_⟩
        · refine ⟨fun _ => ⟨fun _ => ?_, fun y => absurd y (by decide)⟩, fun y => absurd p1 y⟩
          refine st9t (F := F) (C := C) c2 c6 b1 b2 v1 v2 hF9 (fun iv1 ar1 g9 gl => ?_)
          rw [gl.1]
          refine ⟨fun _ => ?_, fun y => absurd y nz⟩
          have g9' : ∀ G, ag9 iv ar iv1 (va_up ar1 15 G) := fun G => ⟨g9.1, fun k q1 q2 q3 q4 q5 q6 q7 q8 => by rw [pb_up, if_neg q6]; exact g9.2 k q1 q2 q3 q4 q5 q6 q7 q8⟩
          refine pk_loop (σ := Int32 × Int32 × fw_R) (fun f j s => wpX9_tells_L56 kt (nI i) a2 i _ _ f s.1 s.2.1 (nI (j + 1)) iv1 s.2.2) (fun j s => s.1 = nI (tst W j).1 ∧ s.2.1 = nI (tst W j).2 ∧ ∃ G, s.2.2 = va_up ar1 15 G) 40 0 (0, 577, ar1) (by omega) ⟨rfl, rfl, ar1 15, (va_upS _ _).symm⟩ ?_ ?_
          · rintro f ⟨_, _, _⟩ ⟨rfl, rfl, G, rfl⟩
            refine ⟨fun _ => ⟨fun y => ?_, fun y => ?_⟩, fun y => absurd (nI_lt (a := 40) (b := 41) (by omega) (by omega)) y⟩
            · rw [if_neg y]; exact ⟨rfl, g9' G⟩
            · rw [if_pos y]; exact ⟨rfl, g9' G⟩
          · rintro f j ⟨_, _, _⟩ hj ⟨rfl, rfl, G, rfl⟩ ih
            have tj := tl j
            have wj := lW (j + 1)
            refine ⟨fun y => absurd y (nI_nlt (a := 40) (by omega) (by omega)), fun _ => ?_⟩
            refine lw9 (F := F) (C := C) (m := m) c2 c6 b1 b2 (by omega) gl (fun G' => ?_)
            rw [eW, va_up2, nI_leI (show (tst W j).2 < 2 ^ 31 by omega) (by omega)]
            refine ⟨fun y => ?_, fun y => ?_⟩
            · rintro _ rfl
              rw [nI_1]
              refine ih (nI (tst W j).1, nI (tst W j).2, va_up ar1 15 G') ⟨?_, ?_, G', rfl⟩
              · simp only [tst, if_pos y]
              · simp only [tst, if_pos y]
            · rintro _ rfl
              rw [nI_1]
              refine ih (nI (j + 1), nI (W (j + 1)), va_up ar1 15 G') ⟨?_, ?_, G', rfl⟩
              · simp only [tst, if_neg y]
              · simp only [tst, if_neg y]
        · refine ⟨fun _ => ⟨fun _ => ⟨fun _ => ?_, fun y => absurd y (by decide)⟩, fun y => absurd p1 y⟩, fun y => absurd y (by decide)⟩
          refine lf10 (F := F) (C := C) (by omega) b0 b5 d0 d3 d1 b1 b2 v1 v3 hF10 (fun G0 hG0 => ?_)
          refine ⟨fun _ => ?_, fun y => absurd y nz⟩
          have g10' : ∀ G, ag10 jv br jv (va_up (va_up br 31 G0) 32 G) := fun G => ⟨fun _ _ _ _ _ _ => rfl, fun k q1 q2 q3 q4 q5 q6 q7 q8 q9 => by rw [pb_up, if_neg q9, pb_up, if_neg q8]⟩
          refine wo10 (f := 1) (F := F) (C := C) (m := m) (by omega) b0 b5 d0 d3 d1 b1 b2 (by omega) hG0 (fun G1 => ?_)
          rw [eW]
          refine pk_loop (σ := Int32 × Int32 × fw_R) (fun f j s => wpX10_tells_L46 (nI i) a2 _ _ f s.1 s.2.1 (nI (j + 1)) jv s.2.2) (fun j s => s.1 = nI (tst W j).1 ∧ s.2.1 = nI (tst W j).2 ∧ ∃ G, s.2.2 = va_up (va_up br 31 G0) 32 G) 40 1 (1, nI (W 1), va_up (va_up br 31 G0) 32 G1) (by omega) ⟨by rw [tst_1 lW]; rfl, by rw [tst_1 lW], G1, rfl⟩ ?_ ?_
          · rintro f ⟨_, _, _⟩ ⟨rfl, rfl, G, rfl⟩
            refine ⟨fun _ => ⟨fun y => ?_, fun y => ?_⟩, fun y => absurd (nI_lt (a := 40) (b := 41) (by omega) (by omega)) y⟩
            · rw [if_neg y]; exact ⟨rfl, g10' G⟩
            · rw [if_pos y]; exact ⟨rfl, g10' G⟩
          · rintro f j ⟨_, _, _⟩ hj ⟨rfl, rfl, G, rfl⟩ ih
            have tj := tl j
            have wj := lW (j + 1)
            refine ⟨fun y => absurd y (nI_nlt (a := 40) (by omega) (by omega)), fun _ => ?_⟩
            refine wo10 (F := F) (C := C) (m := m) (by omega) b0 b5 d0 d3 d1 b1 b2 (by omega) hG0 (fun G' => ?_)
            rw [eW, va_up2, nI_leI (show (tst W j).2 < 2 ^ 31 by omega) (by omega)]
            refine ⟨fun y => ?_, fun y => ?_⟩
            · rintro _ rfl
              rw [nI_1]
              refine ih (nI (tst W j).1, nI (tst W j).2, va_up (va_up br 31 G0) 32 G') ⟨?_, ?_, G', rfl⟩
              · simp only [tst, if_pos y]
              · simp only [tst, if_pos y]
            · rintro _ rfl
              rw [nI_1]
              refine ih (nI (j + 1), nI (W (j + 1)), va_up (va_up br 31 G0) 32 G') ⟨?_, ?_, G', rfl⟩
              · simp only [tst, if_neg y]
              · simp only [tst, if_neg y]
    · exact ⟨-2, fun jv1 br1 => jv1 = jv ∧ br1 = br, fun iv1 ar1 => iv1 = iv ∧ ar1 = ar, by rintro _ _ ⟨rfl, rfl⟩ _ _ ⟨rfl, rfl⟩; exact hR, by simp [p1], by simp [p1]⟩
  · simp only [kA_no hn h2 hx, kn10_no hn h3 hx]
    exact ⟨-1, fun jv1 br1 => jv1 = jv ∧ br1 = br, fun iv1 ar1 => iv1 = iv ∧ ar1 = ar, by rintro _ _ ⟨rfl, rfl⟩ _ _ ⟨rfl, rfl⟩; exact hR, by simp, by simp⟩
